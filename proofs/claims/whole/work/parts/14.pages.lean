/-! Pure: the pages in use; taking a key away never needs more of them. -/
def xd_vs (K : List xk_E) : Nat := (K.map (fun e => xv_vp e.2)).sum
def xd_pg (K : List xk_E) : Nat := 1 + (2 ^ xd_gm K 64 + 15) / 16 + xd_sp K 64 + xd_vs K
theorem xd_vs_take {K : List xk_E} {i : Nat} {e : xk_E} (he : K[i]? = some e) : xd_vs (K.take (i + 1)) = xd_vs (K.take i) + xv_vp e.2 := by
  rw [xk_take he]
  simp [xd_vs]
def xt_S (f : Nat → Nat) : Nat → Nat
  | 0 => 0
  | n + 1 => xt_S f n + f n
theorem xt_S_congr {f g : Nat → Nat} : ∀ n, (∀ j, j < n → f j = g j) → xt_S f n = xt_S g n := by
  intro n
  induction n with
  | zero => intro _; rfl
  | succ n ih =>
    intro h
    simp only [xt_S]
    rw [ih (fun j hj => h j (by omega)), h n (by omega)]
theorem xt_S_add (f g : Nat → Nat) : ∀ n, xt_S (fun j => f j + g j) n = xt_S f n + xt_S g n := by
  intro n
  induction n with
  | zero => rfl
  | succ n ih => simp only [xt_S, ih]; omega
theorem xt_S_zero {f : Nat → Nat} : ∀ n, (∀ j, j < n → f j = 0) → xt_S f n = 0 := by
  intro n
  induction n with
  | zero => intro _; rfl
  | succ n ih =>
    intro h
    simp only [xt_S]
    rw [ih (fun j hj => h j (by omega)), h n (by omega)]
theorem xt_S_one {f : Nat → Nat} {p : Nat} : ∀ n, p < n → (∀ j, j < n → j ≠ p → f j = 0) → xt_S f n = f p := by
  intro n
  induction n with
  | zero => intro h; omega
  | succ n ih =>
    intro hp h
    simp only [xt_S]
    by_cases z : p = n
    · subst z
      rw [xt_S_zero p (fun j hj => h j (by omega) (by omega))]
      omega
    · rw [ih (by omega) (fun j hj hne => h j (by omega) hne), h n (by omega) (fun q => z q.symm)]
      rfl
/-- the pages of the buckets below a class -/
def xt_F (K : List xk_E) : Nat → Nat → Nat → Nat
  | 0, d, p => xd_bp (xd_cn K d p)
  | n + 1, d, p => if xd_gd K d p then xd_bp (xd_cn K d p) else xt_F K n (d + 1) p + xt_F K n (d + 1) (p + 2 ^ d)
def xt_g (K : List xk_E) (h : Nat) : Nat := if xd_pl K h then xd_bp (xd_cn K (xd_dp K h) h) else 0
theorem xt_sp (K : List xk_E) : ∀ n, xd_sp K n = xt_S (xt_g K) n := by
  intro n
  induction n with
  | zero => rfl
  | succ n ih =>
    simp only [xd_sp, xt_S, xt_g, ih]
    split <;> rfl
theorem xt_half (x d p : Nat) (hp : p < 2 ^ d) : x % 2 ^ d = p ↔ (x % 2 ^ (d + 1) = p ∨ x % 2 ^ (d + 1) = p + 2 ^ d) := by
  have h1 : x % 2 ^ (d + 1) = x % 2 ^ d + 2 ^ d * (x / 2 ^ d % 2) := by rw [Nat.pow_succ, Nat.mod_mul]
  have h2 : x % 2 ^ d < 2 ^ d := Nat.mod_lt _ (Nat.two_pow_pos d)
  rcases Nat.mod_two_eq_zero_or_one (x / 2 ^ d) with h3 | h3
  · rw [h3] at h1; omega
  · rw [h3] at h1; omega
/-- a class with no good one above it: its buckets' pages -/
theorem xt_tree (K : List xk_E) : ∀ n d p, d + n = 6 → p < 2 ^ d → (∀ j, j < d → xd_gd K j (p % 2 ^ j) = false) → xt_S (fun h => if h % 2 ^ d = p then xt_g K h else 0) 64 = xt_F K n d p := by
  intro n
  induction n with
  | zero =>
    intro d p hd hp hb
    have e : d = 6 := by omega
    subst e
    have e1 : (2 : Nat) ^ 6 = 64 := rfl
    rw [e1] at hp
    have hdp : xd_dp K p = 6 := by
      refine (xd_dp_uniq (xd_gd_6 K _) (Or.inr (hb 5 (by omega)))).symm
    rw [xt_S_one (p := p) 64 hp]
    · have e2 : p % 2 ^ 6 = p := by rw [e1]; omega
      simp only [e2, if_true, xt_g, xd_pl, hdp, xt_F]
      rw [if_pos (by simpa using hp)]
    · intro j hj hne
      have e2 : j % 2 ^ 6 = j := by rw [e1]; omega
      simp only [e2, hne, if_false]
  | succ n ih =>
    intro d p hd hp hb
    simp only [xt_F]
    by_cases g : xd_gd K d p = true
    · rw [if_pos g]
      have key : ∀ h, h % 2 ^ d = p → xd_dp K h = d := by
        intro h hh
        refine (xd_dp_uniq (by rw [hh]; exact g) ?_).symm
        by_cases z : d = 0
        · exact Or.inl z
        · refine Or.inr ?_
          have := hb (d - 1) (by omega)
          rw [← hh, Nat.mod_mod_of_dvd _ (Nat.pow_dvd_pow 2 (Nat.sub_le d 1))] at this
          exact this
      have h64 : p < 64 := Nat.lt_of_lt_of_le hp (by have : (2 : Nat) ^ d ≤ 2 ^ 6 := Nat.pow_le_pow_right (by decide) (by omega); exact this)
      rw [xt_S_one (p := p) 64 h64]
      · have hm := Nat.mod_eq_of_lt hp
        have hk := key p hm
        simp only [hm, if_true, xt_g, xd_pl, hk]
        rw [if_pos (by simpa using hp)]
      · intro j hj hne
        by_cases z : j % 2 ^ d = p
        · have hk := key j z
          simp only [z, if_true, xt_g, xd_pl, hk]
          rw [if_neg]
          simp only [decide_eq_true_eq]
          intro w
          rw [Nat.mod_eq_of_lt w] at z
          exact hne z
        · simp only [z, if_false]
    · rw [if_neg g]
      have gf : xd_gd K d p = false := by simpa using g
      have hm := Nat.mod_eq_of_lt hp
      have hpow : (2 : Nat) ^ (d + 1) = 2 ^ d + 2 ^ d := by rw [Nat.pow_succ]; omega
      have b1 : ∀ j, j < d + 1 → xd_gd K j (p % 2 ^ j) = false := by
        intro j hj
        by_cases z : j = d
        · subst z; rw [hm]; exact gf
        · exact hb j (by omega)
      have b2 : ∀ j, j < d + 1 → xd_gd K j ((p + 2 ^ d) % 2 ^ j) = false := by
        intro j hj
        have hd2 : 2 ^ j ∣ 2 ^ d := Nat.pow_dvd_pow 2 (by omega)
        have : (p + 2 ^ d) % 2 ^ j = p % 2 ^ j := by
          rw [Nat.add_mod, Nat.mod_eq_zero_of_dvd hd2, Nat.add_zero, Nat.mod_mod]
        rw [this]
        exact b1 j hj
      rw [← ih (d + 1) p (by omega) (by omega) b1, ← ih (d + 1) (p + 2 ^ d) (by omega) (by omega) b2, ← xt_S_add]
      refine xt_S_congr 64 (fun h _ => ?_)
      have hh := xt_half h d p hp
      have hpos := Nat.two_pow_pos d
      by_cases z1 : h % 2 ^ (d + 1) = p
      · have z2 : ¬ h % 2 ^ (d + 1) = p + 2 ^ d := by omega
        have z3 : h % 2 ^ d = p := hh.mpr (Or.inl z1)
        simp only [z1, z3, if_true]
        rw [if_neg (by omega)]
        omega
      · by_cases z2 : h % 2 ^ (d + 1) = p + 2 ^ d
        · have z3 : h % 2 ^ d = p := hh.mpr (Or.inr z2)
          simp only [z2, z3, if_true]
          rw [if_neg (by omega)]
          omega
        · have z3 : ¬ h % 2 ^ d = p := fun q => by rcases hh.mp q with q | q; exact z1 q; exact z2 q
          simp only [z1, z2, z3, if_false]
theorem xt_sp_F (K : List xk_E) : xd_sp K 64 = xt_F K 6 0 0 := by
  rw [xt_sp, ← xt_tree K 6 0 0 rfl (by decide) (fun j hj => by omega)]
  refine xt_S_congr 64 (fun h _ => ?_)
  have : h % 2 ^ 0 = 0 := by rw [Nat.pow_zero]; omega
  simp only [this, if_true]
theorem xt_cn_half (K : List xk_E) (d p : Nat) (hp : p < 2 ^ d) : xd_cn K d p = xd_cn K (d + 1) p + xd_cn K (d + 1) (p + 2 ^ d) := by
  have hpos := Nat.two_pow_pos d
  induction K with
  | nil => rfl
  | cons a t ih =>
    simp only [xd_cn] at ih
    simp only [xd_cn, List.countP_cons, ih, xd_in, beq_iff_eq]
    have hh := xt_half (xk_h a.1) d p hp
    by_cases z1 : xk_h a.1 % 2 ^ (d + 1) = p
    · have z3 : xk_h a.1 % 2 ^ d = p := hh.mpr (Or.inl z1)
      simp only [z1, z3, if_true]
      rw [if_neg (by omega)]
      omega
    · by_cases z2 : xk_h a.1 % 2 ^ (d + 1) = p + 2 ^ d
      · have z3 : xk_h a.1 % 2 ^ d = p := hh.mpr (Or.inr z2)
        simp only [z2, z3, if_true]
        rw [if_neg (by omega)]
        omega
      · have z3 : ¬ xk_h a.1 % 2 ^ d = p := fun q => by rcases hh.mp q with q | q; exact z1 q; exact z2 q
        simp only [z1, z2, z3, if_false]
        omega
theorem xt_F_ge (K : List xk_E) : ∀ n d p, p < 2 ^ d → xd_bp (xd_cn K d p) ≤ xt_F K n d p := by
  intro n
  induction n with
  | zero => intro d p _; exact Nat.le_refl _
  | succ n ih =>
    intro d p hp
    simp only [xt_F]
    split
    · exact Nat.le_refl _
    · have hpow : (2 : Nat) ^ (d + 1) = 2 ^ d + 2 ^ d := by rw [Nat.pow_succ]; omega
      have h1 := ih (d + 1) p (by omega)
      have h2 := ih (d + 1) (p + 2 ^ d) (by omega)
      rw [xt_cn_half K d p hp]
      refine Nat.le_trans ?_ (Nat.add_le_add h1 h2)
      unfold xd_bp
      omega
theorem xt_cn_rem (K : List xk_E) (k : Int32) (d p : Nat) : xd_cn (xk_rem K k) d p ≤ xd_cn K d p := by
  rw [xd_cn_rem K k d p]
  split <;> omega
theorem xt_gd_rem {K : List xk_E} (k : Int32) {d p : Nat} (g : xd_gd K d p = true) : xd_gd (xk_rem K k) d p = true := by
  simp only [xd_gd, Bool.or_eq_true, decide_eq_true_eq] at *
  rcases g with g | g
  · exact Or.inl (Nat.le_trans (xt_cn_rem K k d p) g)
  · rw [xd_sm_iff] at *
    exact Or.inr fun a ha b hb => g a (xk_rem_mem ha) b (xk_rem_mem hb)
theorem xt_bp_mono {a b : Nat} (h : a ≤ b) : xd_bp a ≤ xd_bp b := by unfold xd_bp; omega
theorem xt_F_rem (K : List xk_E) (k : Int32) : ∀ n d p, p < 2 ^ d → xt_F (xk_rem K k) n d p ≤ xt_F K n d p := by
  intro n
  induction n with
  | zero => intro d p _; exact xt_bp_mono (xt_cn_rem K k d p)
  | succ n ih =>
    intro d p hp
    have hpow : (2 : Nat) ^ (d + 1) = 2 ^ d + 2 ^ d := by rw [Nat.pow_succ]; omega
    by_cases g : xd_gd K d p = true
    · simp only [xt_F, g, xt_gd_rem k g, if_true]
      exact xt_bp_mono (xt_cn_rem K k d p)
    · by_cases g2 : xd_gd (xk_rem K k) d p = true
      · have h0 : xt_F (xk_rem K k) (n + 1) d p = xd_bp (xd_cn (xk_rem K k) d p) := by simp only [xt_F, g2, if_true]
        rw [h0]
        exact Nat.le_trans (xt_bp_mono (xt_cn_rem K k d p)) (xt_F_ge K (n + 1) d p hp)
      · simp only [xt_F]
        rw [if_neg g, if_neg g2]
        exact Nat.add_le_add (ih (d + 1) p (by omega)) (ih (d + 1) (p + 2 ^ d) (by omega))
theorem xt_dp_rem (K : List xk_E) (k : Int32) (h : Nat) : xd_dp (xk_rem K k) h ≤ xd_dp K h := by
  refine Classical.byContradiction fun q => ?_
  have h1 := xd_dp_min (K := xk_rem K k) (h := h) (j := xd_dp K h) (by omega)
  rw [xt_gd_rem k (xd_dp_gd K h)] at h1
  cases h1
theorem xt_gm_rem (K : List xk_E) (k : Int32) : ∀ n, xd_gm (xk_rem K k) n ≤ xd_gm K n := by
  intro n
  induction n with
  | zero => exact Nat.le_refl _
  | succ n ih =>
    have := xt_dp_rem K k n
    simp only [xd_gm]; omega
theorem xt_vs_rem (K : List xk_E) (k : Int32) : xd_vs (xk_rem K k) ≤ xd_vs K := by
  induction K with
  | nil => simp [xk_rem]
  | cons a t ih =>
    simp only [xd_vs] at ih
    simp only [xk_rem, xd_vs]
    split
    · simp only [List.map_cons, List.sum_cons]; omega
    · split
      · simp only [List.map_cons, List.sum_cons]; omega
      · exact Nat.le_refl _
theorem xd_pg_rem (K : List xk_E) (k : Int32) : xd_pg (xk_rem K k) ≤ xd_pg K := by
  have h1 : 2 ^ xd_gm (xk_rem K k) 64 ≤ 2 ^ xd_gm K 64 := Nat.pow_le_pow_right (by decide) (xt_gm_rem K k 64)
  have h2 := xt_F_rem K k 6 0 0 (by decide)
  have h3 := xt_vs_rem K k
  have h4 : (2 ^ xd_gm (xk_rem K k) 64 + 15) / 16 ≤ (2 ^ xd_gm K 64 + 15) / 16 := Nat.div_le_div_right (by omega)
  unfold xd_pg
  rw [xt_sp_F, xt_sp_F]
  omega
theorem xd_sp_le {K : List xk_E} (hK : K.length ≤ 65) : ∀ n, xd_sp K n ≤ n * 17 := by
  intro n
  induction n with
  | zero => exact Nat.le_refl _
  | succ n ih =>
    have := xd_cn_le K (xd_dp K n) n
    simp only [xd_sp]
    split
    · have : xd_bp (xd_cn K (xd_dp K n) n) ≤ 17 := by unfold xd_bp; omega
      omega
    · omega
theorem xd_vs_le (K : List xk_E) : xd_vs K ≤ K.length * 4 := by
  induction K with
  | nil => simp [xd_vs]
  | cons a t ih =>
    have := xv_vp_le a.2
    simp only [xd_vs] at ih
    simp only [xd_vs, List.map_cons, List.sum_cons, List.length_cons]
    omega
theorem xd_pg_le {K : List xk_E} (hK : K.length ≤ 65) : xd_pg K ≤ 2000 := by
  have h1 := xd_sp_le hK 64
  have h2 := xd_vs_le K
  have h3 : 2 ^ xd_gm K 64 ≤ 2 ^ 6 := Nat.pow_le_pow_right (by decide) (xd_gm_le K 64)
  have e1 : (2 : Nat) ^ 6 = 64 := rfl
  unfold xd_pg
  omega
