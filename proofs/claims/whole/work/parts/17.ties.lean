/-! Pure: what the class's arrays hold of a list. -/
def xw_KT (kf : Nat → Int32) (kg : Nat → Int64) (af bf : Nat → Int32) (K : List xk_E) : Prop := K.length ≤ 65 ∧ xk_asc K ∧ xk_tie kf kg K ∧ ∀ d p, d ≤ 6 → p < 2 ^ d → af (2 ^ d + p) = nI (xd_cn K d p) ∧ bf (2 ^ d + p) = nI (xd_hc K d p)
theorem xd_hc_le (K : List xk_E) (d p : Nat) : xd_hc K d p ≤ 64 := by
  have := List.countP_le_length (p := fun h => h % 2 ^ d == p && decide (0 < xd_cn K 6 h)) (l := List.range 64)
  rw [List.length_range] at this
  exact this
theorem xw_pow {d : Nat} (hd : d ≤ 6) : 2 ^ d ≤ 64 := by
  have : (2 : Nat) ^ d ≤ 2 ^ 6 := Nat.pow_le_pow_right (by decide) hd
  exact this
theorem xw_cell {d p : Nat} (hd : d ≤ 6) (hp : p < 2 ^ d) : 2 ^ d + p < 128 := by
  have := xw_pow hd; omega
theorem xw_shl {d : Nat} (hd : d ≤ 6) : nI 1 <<< (nI d &&& 31) = nI (2 ^ d) := by
  have key : ∀ d, d < 7 → nI 1 <<< (nI d &&& 31) = nI (2 ^ d) := by decide +kernel
  exact key d (by omega)
theorem xw_and {a d : Nat} (ha : a < 2 ^ 31) (hd : d ≤ 6) : nI a &&& nI (2 ^ d - 1) = nI (a % 2 ^ d) := by
  have := xw_pow hd
  exact pk_andN (by omega) d (pk_tn (by omega))
def xw_cu (f : Nat → Int32) (h : Nat) (x : Int32) : Nat → Nat → Int32
  | 0 => f
  | d + 1 => upd (xw_cu f h x d) (2 ^ d + h % 2 ^ d) (f (2 ^ d + h % 2 ^ d) + x)
theorem xw_cu_hi (f : Nat → Int32) (h : Nat) (x : Int32) : ∀ (d j : Nat), 2 ^ d ≤ j → xw_cu f h x d j = f j := by
  intro d
  induction d with
  | zero => intro j _; rfl
  | succ d ih =>
    intro j hj
    have h1 : h % 2 ^ d < 2 ^ d := Nat.mod_lt _ (Nat.two_pow_pos d)
    have h2 : (2 : Nat) ^ (d + 1) = 2 ^ d + 2 ^ d := by rw [Nat.pow_succ]; omega
    simp only [xw_cu]
    rw [pk_un (by omega), ih j (by omega)]
theorem xw_cu_at (f : Nat → Int32) (h : Nat) (x : Int32) {d p : Nat} (hp : p < 2 ^ d) : ∀ n, d < n → xw_cu f h x n (2 ^ d + p) = if h % 2 ^ d = p then f (2 ^ d + p) + x else f (2 ^ d + p) := by
  intro n
  induction n with
  | zero => intro hn; omega
  | succ n ih =>
    intro hn
    simp only [xw_cu]
    by_cases z : d = n
    · subst z
      by_cases w : h % 2 ^ d = p
      · rw [if_pos w, w, pk_us]
      · rw [if_neg w, pk_un (by omega), xw_cu_hi f h x d _ (by omega)]
    · have h2 : (2 : Nat) ^ (d + 1) = 2 ^ d + 2 ^ d := by rw [Nat.pow_succ]; omega
      have h3 : (2 : Nat) ^ (d + 1) ≤ 2 ^ n := Nat.pow_le_pow_right (by decide) (by omega)
      rw [pk_un (by omega), ih (by omega)]
theorem xw_mod6 {h : Nat} (hh : h < 64) : h % 2 ^ 6 = h := by
  have e1 : (2 : Nat) ^ 6 = 64 := rfl
  rw [e1]; omega
theorem xw_before {kf : Nat → Int32} {kg : Nat → Int64} {af bf : Nat → Int32} {K : List xk_E} (hT : xw_KT kf kg af bf K) {h : Nat} (hh : h < 64) : af (2 ^ 6 + h % 2 ^ 6) = nI (xd_cn K 6 h) := by
  rw [xw_mod6 hh]
  exact (hT.2.2.2 6 h (Nat.le_refl _) (by have e1 : (2 : Nat) ^ 6 = 64 := rfl; rw [e1]; exact hh)).1
theorem xw_KT_put {kf : Nat → Int32} {kg : Nat → Int64} {af bf : Nat → Int32} {K : List xk_E} (hT : xw_KT kf kg af bf K) {k : Int32} (v : Int64) (hk : xk_has K k = true) : xw_KT kf (vp_updL kg (xk_lo K k) v) af bf (xk_set K k v) := by
  obtain ⟨h1, h2, h3, h4⟩ := hT
  refine ⟨by rw [xk_set_len, if_pos hk]; exact h1, xk_asc_set h2 k v, xk_tie_put h3 v hk, fun d p hd hp => ?_⟩
  have hc : ∀ d p, xd_cn (xk_set K k v) d p = xd_cn K d p := fun d p => by rw [xd_cn_set, if_neg]; rw [hk]; exact fun q => by cases q.1
  have hh : xd_hc (xk_set K k v) d p = xd_hc K d p := by
    unfold xd_hc
    exact xd_count0 64 (fun j _ => by rw [hc])
  rw [hc, hh]
  exact h4 d p hd hp
theorem xw_KT_ins {kf kf' : Nat → Int32} {kg kg' : Nat → Int64} {af bf : Nat → Int32} {K : List xk_E} (hT : xw_KT kf kg af bf K) {k : Int32} {v : Int64} (hk : xk_has K k = false) (hl : K.length < 65) (hf : ∀ j, j < K.length + 1 → kf' j = xk_ins kf (xk_lo K k) k j) (hg : ∀ j, j < K.length + 1 → kg' j = xk_ins kg (xk_lo K k) v j) {fl : Bool} (hfl : fl = decide (xd_cn K 6 (xk_h k) = 0)) :
    xw_KT kf' kg' (xw_cu af (xk_h k) (nI 1) 7) (if fl = true then xw_cu bf (xk_h k) (nI 1) 7 else bf) (xk_set K k v) := by
  obtain ⟨h1, h2, h3, h4⟩ := hT
  refine ⟨by rw [xk_set_len, hk]; exact hl, xk_asc_set h2 k v, xk_tie_ins h3 hk hf hg, fun d p hd hp => ?_⟩
  obtain ⟨a1, a2⟩ := h4 d p hd hp
  rw [xd_cn_set, xd_hc_set K k v d p hk, xw_cu_at af _ _ hp 7 (by omega)]
  constructor
  · by_cases z : xk_h k % 2 ^ d = p
    · rw [if_pos z, if_pos ⟨hk, z⟩, a1, nI_add]
    · rw [if_neg z, if_neg (fun q => z q.2), a1]
  · by_cases w : xd_cn K 6 (xk_h k) = 0
    · have hf1 : fl = true := by rw [hfl, decide_eq_true_eq]; exact w
      rw [if_pos hf1, xw_cu_at bf _ _ hp 7 (by omega)]
      by_cases z : xk_h k % 2 ^ d = p
      · rw [if_pos z, if_pos ⟨z, w⟩, a2, nI_add]
      · rw [if_neg z, if_neg (fun q => z q.1), a2]
    · have hf1 : ¬ fl = true := by rw [hfl, decide_eq_true_eq]; exact w
      rw [if_neg hf1, if_neg (fun q => w q.2), a2]
theorem xw_has_cn {K : List xk_E} {k : Int32} (hk : xk_has K k = true) : 0 < xd_cn K 6 (xk_h k) := by
  rw [xd_cn_rem K k 6 (xk_h k), if_pos ⟨hk, xw_mod6 (xk_h_lt k)⟩]
  omega
theorem xw_dec (n : Nat) (h : 0 < n) : nI n + (-1) = nI (n - 1) := sb_m1 h
theorem xw_KT_del {kf kf' : Nat → Int32} {kg kg' : Nat → Int64} {af bf : Nat → Int32} {K : List xk_E} (hT : xw_KT kf kg af bf K) {k : Int32} (hk : xk_has K k = true) (hf : ∀ j, j + 1 < K.length → kf' j = xk_del kf (xk_lo K k) j) (hg : ∀ j, j + 1 < K.length → kg' j = xk_del kg (xk_lo K k) j) {fl : Bool} (hfl : fl = decide (xd_cn K 6 (xk_h k) = 1)) :
    xw_KT kf' kg' (xw_cu af (xk_h k) (-1) 7) (if fl = true then xw_cu bf (xk_h k) (-1) 7 else bf) (xk_rem K k) := by
  obtain ⟨h1, h2, h3, h4⟩ := hT
  refine ⟨by rw [xk_rem_len, if_pos hk]; omega, xk_asc_rem h2 k, xk_tie_del h3 hk hf hg, fun d p hd hp => ?_⟩
  obtain ⟨a1, a2⟩ := h4 d p hd hp
  have c1 := xd_cn_rem K k d p
  have c2 := xd_hc_rem K k d p hk
  rw [xw_cu_at af _ _ hp 7 (by omega)]
  constructor
  · by_cases z : xk_h k % 2 ^ d = p
    · rw [if_pos ⟨hk, z⟩] at c1
      rw [if_pos z, a1, xw_dec _ (by omega), c1]
      rfl
    · rw [if_neg (fun q => z q.2)] at c1
      rw [if_neg z, a1, c1]
  · by_cases w : xd_cn K 6 (xk_h k) = 1
    · have hf1 : fl = true := by rw [hfl, decide_eq_true_eq]; exact w
      rw [if_pos hf1, xw_cu_at bf _ _ hp 7 (by omega)]
      by_cases z : xk_h k % 2 ^ d = p
      · rw [if_pos ⟨z, w⟩] at c2
        rw [if_pos z, a2, xw_dec _ (by omega), c2]
        rfl
      · rw [if_neg (fun q => z q.1)] at c2
        rw [if_neg z, a2, c2]
    · have hf1 : ¬ fl = true := by rw [hfl, decide_eq_true_eq]; exact w
      rw [if_neg (fun q => w q.2)] at c2
      rw [if_neg hf1, a2, c2]
/-- moving the records from n on to the front -/
def xw_mv {α : Type} (f : Nat → α) (n w : Nat) : Nat → α := fun j => if j < w then f (n + j) else f j
theorem xw_mv_0 {α : Type} (f : Nat → α) (n : Nat) : xw_mv f n 0 = f := by funext j; simp [xw_mv]
theorem xw_mv_at {α : Type} (f : Nat → α) (n w : Nat) : xw_mv f n w (n + w) = f (n + w) := by
  unfold xw_mv
  rw [if_neg (by omega)]
theorem xw_mv_up (f : Nat → Int32) (n w : Nat) : upd (xw_mv f n w) w (f (n + w)) = xw_mv f n (w + 1) := by
  funext j
  by_cases z : j = w
  · subst z; rw [pk_us]; unfold xw_mv; rw [if_pos (by omega)]
  · rw [pk_un z]; unfold xw_mv
    by_cases y : j < w
    · rw [if_pos y, if_pos (by omega)]
    · rw [if_neg y, if_neg (by omega)]
theorem xw_mv_upL (f : Nat → Int64) (n w : Nat) : vp_updL (xw_mv f n w) w (f (n + w)) = xw_mv f n (w + 1) := by
  funext j
  by_cases z : j = w
  · subst z; rw [pk_uLs]; unfold xw_mv; rw [if_pos (by omega)]
  · rw [pk_uLn z]; unfold xw_mv
    by_cases y : j < w
    · rw [if_pos y, if_pos (by omega)]
    · rw [if_neg y, if_neg (by omega)]
/-- the reference's look whether a class is good -/
def xg_J (K : List xk_E) (d p i : Nat) (one : Int32) (same : Bool) : Prop :=
  (xd_cn (K.take i) d p = 0 → one = -1 ∧ same = true) ∧ (0 < xd_cn (K.take i) d p → ∃ a, a ∈ K.take i ∧ xd_in d p a = true ∧ one = nI (xk_h a.1) ∧ same = xd_sm (K.take i) d p)
theorem xg_J_0 (K : List xk_E) (d p : Nat) : xg_J K d p 0 (-1) true := by
  have h0 : xd_cn (K.take 0) d p = 0 := by simp [xd_cn]
  exact ⟨fun _ => ⟨rfl, rfl⟩, fun h => by omega⟩
theorem xg_J_skip {K : List xk_E} {d p i : Nat} {one : Int32} {same : Bool} {e : xk_E} (h : xg_J K d p i one same) (he : K[i]? = some e) (hn : ¬ xk_h e.1 % 2 ^ d = p) : xg_J K d p (i + 1) one same := by
  unfold xg_J at *
  rw [xd_cn_take he, if_neg hn]
  refine ⟨h.1, fun q => ?_⟩
  obtain ⟨a, h1, h2, h3, h4⟩ := h.2 q
  refine ⟨a, ?_, h2, h3, ?_⟩
  · rw [xk_take he]; exact List.mem_append_left _ h1
  · rw [h4, Bool.eq_iff_iff, xd_sm_iff, xd_sm_iff, xk_take he]
    constructor
    · intro g x hx y hy ix iy
      rcases List.mem_append.mp hx with hx | hx
      · rcases List.mem_append.mp hy with hy | hy
        · exact g x hx y hy ix iy
        · rw [List.mem_singleton.mp hy, xd_in_iff] at iy; exact absurd iy hn
      · rw [List.mem_singleton.mp hx, xd_in_iff] at ix; exact absurd ix hn
    · intro g x hx y hy ix iy
      exact g x (List.mem_append_left _ hx) y (List.mem_append_left _ hy) ix iy
theorem xg_J_in {K : List xk_E} {d p i : Nat} {one : Int32} {same same' : Bool} {e : xk_E} (h : xg_J K d p i one same) (he : K[i]? = some e) (hn : xk_h e.1 % 2 ^ d = p) (hs : same' = (same && (decide (one < 0) || decide (one = nI (xk_h e.1))))) : xg_J K d p (i + 1) (nI (xk_h e.1)) same' := by
  have hie : xd_in d p e = true := xd_in_iff.mpr hn
  have hmem : e ∈ K.take (i + 1) := by rw [xk_take he]; simp
  have hlt := xk_h_lt e.1
  refine ⟨fun q => ?_, fun _ => ⟨e, hmem, hie, rfl, ?_⟩⟩
  · rw [xd_cn_take he, if_pos hn] at q; omega
  · rw [hs]
    by_cases z : xd_cn (K.take i) d p = 0
    · obtain ⟨a1, a2⟩ := h.1 z
      rw [a1, a2]
      have e1 : decide ((-1 : Int32) < 0) = true := by decide
      rw [e1, Bool.eq_iff_iff, xd_sm_iff, xk_take he]
      simp only [Bool.true_or, Bool.and_self, true_iff]
      have no : ∀ x ∈ K.take i, ¬ xd_in d p x = true := fun x hx ix => by
        have : 0 < (K.take i).countP (xd_in d p) := List.countP_pos_iff.mpr ⟨x, hx, ix⟩
        unfold xd_cn at z; omega
      intro x hx y hy ix iy
      rcases List.mem_append.mp hx with hx | hx
      · exact absurd ix (no x hx)
      · rcases List.mem_append.mp hy with hy | hy
        · exact absurd iy (no y hy)
        · rw [List.mem_singleton.mp hx, List.mem_singleton.mp hy]
    · obtain ⟨a, h1, h2, h3, h4⟩ := h.2 (by omega)
      have hla := xk_h_lt a.1
      have e1 : decide (one < 0) = false := by rw [h3, decide_eq_false_iff_not]; exact nI_pos (by omega)
      have e2 : decide (one = nI (xk_h e.1)) = decide (xk_h a.1 = xk_h e.1) := by rw [h3, decide_eq_decide]; exact nI_eq (by omega) (by omega)
      rw [e1, e2, h4, Bool.eq_iff_iff, xd_sm_iff, xk_take he]
      simp only [Bool.false_or, Bool.and_eq_true, decide_eq_true_eq, xd_sm_iff]
      constructor
      · rintro ⟨g1, g2⟩ x hx y hy ix iy
        rcases List.mem_append.mp hx with hx | hx
        · rcases List.mem_append.mp hy with hy | hy
          · exact g1 x hx y hy ix iy
          · rw [List.mem_singleton.mp hy, ← g2]; exact g1 x hx a h1 ix h2
        · rcases List.mem_append.mp hy with hy | hy
          · rw [List.mem_singleton.mp hx, ← g2]; exact g1 a h1 y hy h2 iy
          · rw [List.mem_singleton.mp hx, List.mem_singleton.mp hy]
      · intro g
        refine ⟨fun x hx y hy ix iy => g x (List.mem_append_left _ hx) y (List.mem_append_left _ hy) ix iy, ?_⟩
        exact g a (List.mem_append_left _ h1) e (List.mem_append_right _ (by simp)) h2 hie
theorem xg_J_end {K : List xk_E} {d p : Nat} {one : Int32} {same : Bool} (h : xg_J K d p K.length one same) : xd_gd K d p = (decide (xd_cn K d p ≤ 4) || same) := by
  unfold xg_J at h
  rw [List.take_length] at h
  by_cases z : xd_cn K d p = 0
  · simp [xd_gd, z]
  · obtain ⟨a, _, _, _, h4⟩ := h.2 (by omega)
    rw [h4]
    rfl
