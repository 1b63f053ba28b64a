/-! Pure: classes of hashes, good ones, depths, places. -/
def xd_in (d p : Nat) (e : xk_E) : Bool := xk_h e.1 % 2 ^ d == p
def xd_cn (K : List xk_E) (d p : Nat) : Nat := K.countP (xd_in d p)
def xd_sm (K : List xk_E) (d p : Nat) : Bool := K.all fun a => K.all fun b => !(xd_in d p a && xd_in d p b) || xk_h a.1 == xk_h b.1
def xd_gd (K : List xk_E) (d p : Nat) : Bool := decide (xd_cn K d p ≤ 4) || xd_sm K d p
def xd_dR (K : List xk_E) (h : Nat) : Nat → Nat → Nat
  | d, 0 => d
  | d, n + 1 => if xd_gd K d (h % 2 ^ d) then d else xd_dR K h (d + 1) n
def xd_dp (K : List xk_E) (h : Nat) : Nat := xd_dR K h 0 6
def xd_pl (K : List xk_E) (p : Nat) : Bool := decide (p < 2 ^ xd_dp K p)
theorem xd_in_iff {d p : Nat} {e : xk_E} : xd_in d p e = true ↔ xk_h e.1 % 2 ^ d = p := by simp [xd_in]
theorem xd_mod {a b i j : Nat} (h : i ≤ j) (e : a % 2 ^ j = b % 2 ^ j) : a % 2 ^ i = b % 2 ^ i := by
  have hd : 2 ^ i ∣ 2 ^ j := Nat.pow_dvd_pow 2 h
  rw [← Nat.mod_mod_of_dvd a hd, ← Nat.mod_mod_of_dvd b hd, e]
theorem xd_in_up {d h : Nat} {e : xk_E} (i : xd_in (d + 1) (h % 2 ^ (d + 1)) e = true) : xd_in d (h % 2 ^ d) e = true := by
  rw [xd_in_iff] at *
  exact xd_mod (Nat.le_succ d) i
theorem xd_sm_iff {K : List xk_E} {d p : Nat} : xd_sm K d p = true ↔ ∀ a ∈ K, ∀ b ∈ K, xd_in d p a = true → xd_in d p b = true → xk_h a.1 = xk_h b.1 := by
  simp only [xd_sm, List.all_eq_true, Bool.or_eq_true, Bool.not_eq_true', beq_iff_eq]
  constructor
  · intro h a ha b hb i j
    rcases h a ha b hb with q | q
    · rw [i, j] at q; cases q
    · exact q
  · intro h a ha b hb
    cases i : xd_in d p a
    · exact Or.inl rfl
    · cases j : xd_in d p b
      · exact Or.inl rfl
      · exact Or.inr (h a ha b hb i j)
theorem xd_gd_mono {K : List xk_E} {d h : Nat} (g : xd_gd K d (h % 2 ^ d) = true) : xd_gd K (d + 1) (h % 2 ^ (d + 1)) = true := by
  simp only [xd_gd, Bool.or_eq_true, decide_eq_true_eq] at *
  rcases g with g | g
  · exact Or.inl (Nat.le_trans (List.countP_mono_left (fun e _ i => xd_in_up i)) g)
  · rw [xd_sm_iff] at *
    exact Or.inr fun a ha b hb i j => g a ha b hb (xd_in_up i) (xd_in_up j)
theorem xd_gd_6 (K : List xk_E) (p : Nat) : xd_gd K 6 p = true := by
  simp only [xd_gd, Bool.or_eq_true]
  refine Or.inr (xd_sm_iff.mpr fun a _ b _ i j => ?_)
  rw [xd_in_iff] at i j
  have h1 := xk_h_lt a.1
  have h2 := xk_h_lt b.1
  have e1 : (2 : Nat) ^ 6 = 64 := rfl
  rw [e1] at i j
  omega
theorem xd_dR_spec (K : List xk_E) (h : Nat) : ∀ n d : Nat, d ≤ xd_dR K h d n ∧ xd_dR K h d n ≤ d + n ∧ (∀ j, d ≤ j → j < xd_dR K h d n → xd_gd K j (h % 2 ^ j) = false) ∧ (xd_dR K h d n < d + n → xd_gd K (xd_dR K h d n) (h % 2 ^ xd_dR K h d n) = true) := by
  intro n
  induction n with
  | zero => intro d; simp only [xd_dR]; exact ⟨Nat.le_refl _, Nat.le_refl _, fun j a b => by omega, fun a => by omega⟩
  | succ n ih =>
    intro d
    simp only [xd_dR]
    by_cases g : xd_gd K d (h % 2 ^ d) = true
    · simp only [g, if_true]
      exact ⟨Nat.le_refl _, by omega, fun j a b => by omega, fun _ => trivial⟩
    · simp only [g]
      obtain ⟨a, b, c, e⟩ := ih (d + 1)
      refine ⟨by simp only [Bool.false_eq_true, if_false]; omega, by simp only [Bool.false_eq_true, if_false]; omega, ?_, ?_⟩
      · simp only [Bool.false_eq_true, if_false]
        intro j h1 h2
        by_cases z : j = d
        · subst z; simpa using g
        · exact c j (by omega) h2
      · simp only [Bool.false_eq_true, if_false]
        intro q
        exact e (by omega)
theorem xd_dp_le (K : List xk_E) (h : Nat) : xd_dp K h ≤ 6 := by
  have := (xd_dR_spec K h 6 0).2.1
  unfold xd_dp; omega
theorem xd_dp_min {K : List xk_E} {h j : Nat} (g : j < xd_dp K h) : xd_gd K j (h % 2 ^ j) = false := (xd_dR_spec K h 6 0).2.2.1 j (Nat.zero_le _) g
theorem xd_dp_gd (K : List xk_E) (h : Nat) : xd_gd K (xd_dp K h) (h % 2 ^ xd_dp K h) = true := by
  have a := (xd_dR_spec K h 6 0).2.2.2
  by_cases q : xd_dp K h < 6
  · exact a (by unfold xd_dp at q; omega)
  · have e : xd_dp K h = 6 := by have := xd_dp_le K h; omega
    rw [e]; exact xd_gd_6 K _
theorem xd_gd_up {K : List xk_E} {h d : Nat} (g : xd_gd K d (h % 2 ^ d) = true) : ∀ n, xd_gd K (d + n) (h % 2 ^ (d + n)) = true := by
  intro n
  induction n with
  | zero => exact g
  | succ n ih => exact xd_gd_mono ih
theorem xd_dp_up {K : List xk_E} {h j : Nat} (g : xd_dp K h ≤ j) : xd_gd K j (h % 2 ^ j) = true := by
  have := xd_gd_up (xd_dp_gd K h) (j - xd_dp K h)
  rwa [show xd_dp K h + (j - xd_dp K h) = j from by omega] at this
theorem xd_dp_uniq {K : List xk_E} {h d : Nat} (g : xd_gd K d (h % 2 ^ d) = true) (b : d = 0 ∨ xd_gd K (d - 1) (h % 2 ^ (d - 1)) = false) : d = xd_dp K h := by
  have n1 : ¬ d < xd_dp K h := fun q => by have := xd_dp_min q; rw [g] at this; cases this
  have n2 : ¬ xd_dp K h < d := fun q => by
    rcases b with b | b
    · omega
    · have := xd_dp_up (K := K) (h := h) (j := d - 1) (by omega)
      rw [b] at this; cases this
  omega
theorem xd_dp_cong {K : List xk_E} {a b : Nat} (e : b % 2 ^ xd_dp K a = a % 2 ^ xd_dp K a) : xd_dp K b = xd_dp K a := by
  refine (xd_dp_uniq (by rw [e]; exact xd_dp_gd K a) ?_).symm
  by_cases z : xd_dp K a = 0
  · exact Or.inl z
  · refine Or.inr ?_
    rw [xd_mod (Nat.sub_le _ 1) e]
    exact xd_dp_min (by omega)
theorem xd_dp_place (K : List xk_E) (h : Nat) : xd_dp K (h % 2 ^ xd_dp K h) = xd_dp K h := xd_dp_cong (Nat.mod_mod _ _)
theorem xd_pl_iff {K : List xk_E} {p : Nat} : xd_pl K p = true ↔ p % 2 ^ xd_dp K p = p := by
  simp only [xd_pl, decide_eq_true_eq]
  constructor
  · exact Nat.mod_eq_of_lt
  · intro h
    have := Nat.mod_lt p (Nat.two_pow_pos (xd_dp K p))
    omega
theorem xd_pl_place (K : List xk_E) (h : Nat) : xd_pl K (h % 2 ^ xd_dp K h) = true := by
  rw [xd_pl_iff, xd_dp_place, Nat.mod_mod]
/-- the depth that the reference's search finds at p -/
theorem xd_ref_iff {K : List xk_E} {p d : Nat} (hd : d ≤ 6) : (p < 2 ^ d ∧ xd_gd K d p = true ∧ (d = 0 ∨ xd_gd K (d - 1) (p % 2 ^ (d - 1)) = false)) ↔ (d = xd_dp K p ∧ xd_pl K p = true) := by
  constructor
  · rintro ⟨h1, h2, h3⟩
    have e : d = xd_dp K p := xd_dp_uniq (by rw [Nat.mod_eq_of_lt h1]; exact h2) h3
    exact ⟨e, by simp only [xd_pl, decide_eq_true_eq]; rw [← e]; exact h1⟩
  · rintro ⟨h1, h2⟩
    simp only [xd_pl, decide_eq_true_eq] at h2
    rw [← h1] at h2
    refine ⟨h2, ?_, ?_⟩
    · have := xd_dp_gd K p
      rw [← h1, Nat.mod_eq_of_lt h2] at this
      exact this
    · by_cases z : d = 0
      · exact Or.inl z
      · exact Or.inr (xd_dp_min (by omega))
/-- the deepest, the pages -/
def xd_gm (K : List xk_E) : Nat → Nat
  | 0 => 0
  | p + 1 => max (xd_gm K p) (xd_dp K p)
theorem xd_gm_ge {K : List xk_E} {p q : Nat} (h : q < p) : xd_dp K q ≤ xd_gm K p := by
  induction p with
  | zero => omega
  | succ p ih =>
    simp only [xd_gm]
    by_cases z : q = p
    · subst z; omega
    · have := ih (by omega); omega
theorem xd_gm_le (K : List xk_E) (p : Nat) : xd_gm K p ≤ 6 := by
  induction p with
  | zero => simp [xd_gm]
  | succ p ih =>
    have := xd_dp_le K p
    simp only [xd_gm]; omega
theorem xd_gm_no {K : List xk_E} {p : Nat} (h : xd_pl K p = false) : xd_gm K (p + 1) = xd_gm K p := by
  have n1 : ¬ p % 2 ^ xd_dp K p = p := fun q => by rw [xd_pl_iff.mpr q] at h; cases h
  have n2 : p % 2 ^ xd_dp K p < p := by have := Nat.mod_le p (2 ^ xd_dp K p); omega
  have := xd_gm_ge (K := K) n2
  rw [xd_dp_place] at this
  simp only [xd_gm]; omega
def xd_bp (n : Nat) : Nat := max 1 ((n + 3) / 4)
def xd_sp (K : List xk_E) : Nat → Nat
  | 0 => 0
  | p + 1 => if xd_pl K p then xd_sp K p + xd_bp (xd_cn K (xd_dp K p) p) else xd_sp K p
theorem xk_take {α : Type} {K : List α} {i : Nat} {e : α} (he : K[i]? = some e) : K.take (i + 1) = K.take i ++ [e] := by
  rw [List.take_add_one, he]; rfl
/-- counting along the list -/
theorem xd_cn_take {K : List xk_E} {d p i : Nat} {e : xk_E} (he : K[i]? = some e) : xd_cn (K.take (i + 1)) d p = if xk_h e.1 % 2 ^ d = p then xd_cn (K.take i) d p + 1 else xd_cn (K.take i) d p := by
  rw [xk_take he]
  simp only [xd_cn, List.countP_append, List.countP_cons, List.countP_nil, xd_in, beq_iff_eq]
  split <;> simp
theorem xd_cn_all (K : List xk_E) (d p : Nat) : xd_cn (K.take K.length) d p = xd_cn K d p := by rw [List.take_length]
theorem xd_cn_le (K : List xk_E) (d p : Nat) : xd_cn K d p ≤ K.length := List.countP_le_length
theorem xd_cn_set (K : List xk_E) (k : Int32) (v : Int64) (d p : Nat) : xd_cn (xk_set K k v) d p = if xk_has K k = false ∧ xk_h k % 2 ^ d = p then xd_cn K d p + 1 else xd_cn K d p := by
  induction K with
  | nil => simp [xk_set, xk_has, xd_cn, xd_in, List.countP_cons]
  | cons a t ih =>
    simp only [xd_cn] at ih
    simp only [xk_set, xk_has, xd_cn]
    by_cases q : a.1 < k
    · simp only [q, if_true, List.countP_cons, ih]
      split <;> omega
    · by_cases r : a.1 = k
      · subst r
        simp [q, List.countP_cons, xd_in]
      · simp only [q, r, if_false, List.countP_cons, xd_in, beq_iff_eq]
        have : (a.1 == k) = false := by simpa using r
        simp only [this, true_and]
        by_cases z1 : xk_h k % 2 ^ d = p <;> by_cases z2 : xk_h a.1 % 2 ^ d = p <;> simp [z1, z2]
theorem xd_cn_rem (K : List xk_E) (k : Int32) (d p : Nat) : xd_cn K d p = if xk_has K k = true ∧ xk_h k % 2 ^ d = p then xd_cn (xk_rem K k) d p + 1 else xd_cn (xk_rem K k) d p := by
  induction K with
  | nil => simp [xk_rem, xk_has, xd_cn]
  | cons a t ih =>
    simp only [xd_cn] at ih
    simp only [xk_rem, xk_has, xd_cn]
    by_cases q : a.1 < k
    · simp only [q, if_true, List.countP_cons, ih]
      split <;> omega
    · by_cases r : a.1 = k
      · subst r
        simp only [q, if_false, if_true, List.countP_cons, xd_in, beq_iff_eq, beq_self_eq_true, true_and]
        split <;> omega
      · have : (a.1 == k) = false := by simpa using r
        simp [q, r, this]
