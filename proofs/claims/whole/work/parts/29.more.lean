/-! More small rows. -/
theorem xa_E {A : Nat → Prop} {ws ws' : va_W} (hD : va_D A ws) (h : ws'.map Prod.fst = ws.map Prod.fst) : va_D A ws' := xa_D h hD
/-- a number of survivors, brought between 0 and n -/
def xw_cl (x : Int32) (n : Nat) : Nat := if x < 0 then 0 else min n x.toNatClampNeg
theorem xw_cl_le (x : Int32) (n : Nat) : xw_cl x n ≤ n := by
  unfold xw_cl; split <;> omega
theorem xw_cl_eq {x : Int32} {n : Nat} (hn : n < 2 ^ 31) : (if nI 0 < (if x < nI n then x else nI n) then (if x < nI n then x else nI n) else nI 0) = nI (xw_cl x n) := by
  unfold xw_cl
  by_cases h0 : x < 0
  · rw [if_pos h0]
    have h1 : x < nI n := by
      have := nI_toInt hn
      rw [Int32.lt_iff_toInt_lt] at *
      have e0 : (0 : Int32).toInt = 0 := by decide
      omega
    rw [if_pos h1, if_neg]
    rw [nI_0]
    exact xk_nlt h0
  · rw [if_neg h0]
    obtain ⟨j, hj, rfl⟩ := nI_of h0
    rw [nI_clamp hj]
    simp only [nI_ltI hj hn]
    by_cases h1 : j < n
    · simp only [h1, if_true, nI_ltI (show 0 < 2 ^ 31 by decide) hj]
      rw [Nat.min_eq_right (by omega)]
      split
      · rfl
      · rw [show j = 0 from by omega]
    · simp only [h1, if_false, nI_ltI (show 0 < 2 ^ 31 by decide) hn]
      rw [Nat.min_eq_left (by omega)]
      split
      · rfl
      · rw [show n = 0 from by omega]
theorem xw_ov1 {lim : Nat} {K : List xk_E} (h : 60 < K.length ∨ ¬ xd_pg K ≤ lim) : nI 1 = xb_i (xs_bad lim K) := by
  have : xs_bad lim K = true := by
    simp only [xs_bad, Bool.or_eq_true, decide_eq_true_eq]
    omega
  rw [this]; exact xb_t.symm
theorem xw_ov0 {lim : Nat} {K : List xk_E} (h1 : ¬ 60 < K.length) (h2 : xd_pg K ≤ lim) : nI 0 = xb_i (xs_bad lim K) := by
  have : xs_bad lim K = false := by
    simp only [xs_bad, Bool.or_eq_false_iff, decide_eq_false_iff_not]
    omega
  rw [this]; exact xb_f.symm
theorem xw_tm1 {t f : Nat} (ht : t ≤ 70) (hf : f ≤ 70) : nI t - nI 1 < nI f ↔ t < f + 1 := by
  by_cases z : t = 0
  · subst z
    have : nI 0 - nI 1 < nI f := by
      have h1 : (nI 0 - nI 1).toInt = -1 := by decide
      rw [Int32.lt_iff_toInt_lt, h1, nI_toInt (by omega)]
      omega
    simp only [this, true_iff]; omega
  · rw [pk_sub (by omega), nI_ltI (by omega) (by omega)]
    omega
theorem xw_dec2 {t : Nat} (ht : 0 < t) : nI t - nI 1 + Int32.ofInt (-1) = nI (t - 1) - nI 1 := by
  rw [pk_sub (by omega), show Int32.ofInt (-1) = -1 from by decide]
  generalize t - 1 = u
  rw [show nI 1 = 1 from by decide]
  apply Int32.toBitVec_inj.mp
  simp only [Int32.toBitVec_add, Int32.toBitVec_sub, Int32.toBitVec_neg]
  rw [BitVec.sub_eq_add_neg]
theorem xw_room {K : List xk_E} {k : Int32} {v : Int64} (h : (xk_set K k v).length ≤ 65) : xk_has K k = true ∨ K.length < 65 := by
  rw [xk_set_len] at h
  cases q : xk_has K k with
  | true => exact Or.inl rfl
  | false =>
    rw [q] at h
    have h : K.length + 1 ≤ 65 := h
    exact Or.inr (by omega)
/-- what taking record i back does -/
def xw_U (rk : Nat → Int32) (rv : Nat → Int64) (rm : Nat → Int32) (S : Nat → List xk_E) (i : Nat) : Prop :=
  (rm i = nI 2 ∧ xk_set (S (i + 1)) (rk i) (rv i) = S i ∧ (S i).length ≤ 65) ∨ (rm i = nI 1 ∧ xk_rem (S (i + 1)) (rk i) = S i) ∨ (rm i = nI 0 ∧ S (i + 1) = S i)
theorem xw_u2 {rk : Nat → Int32} {rv : Nat → Int64} {rm : Nat → Int32} {S : Nat → List xk_E} {t : Nat} (ht : 0 < t) (h : xw_U rk rv rm S (t - 1)) (hc : rm (t - 1) = nI 2) : xk_set (S t) (rk (t - 1)) (rv (t - 1)) = S (t - 1) ∧ (S (t - 1)).length ≤ 65 := by
  unfold xw_U at h
  rw [show t - 1 + 1 = t from by omega] at h
  rcases h with h | h | h
  · exact h.2
  · rw [hc] at h; exact absurd h.1 (by decide)
  · rw [hc] at h; exact absurd h.1 (by decide)
theorem xw_u1 {rk : Nat → Int32} {rv : Nat → Int64} {rm : Nat → Int32} {S : Nat → List xk_E} {t : Nat} (ht : 0 < t) (h : xw_U rk rv rm S (t - 1)) (hc : rm (t - 1) = nI 1) : xk_rem (S t) (rk (t - 1)) = S (t - 1) := by
  unfold xw_U at h
  rw [show t - 1 + 1 = t from by omega] at h
  rcases h with h | h | h
  · rw [hc] at h; exact absurd h.1 (by decide)
  · exact h.2
  · rw [hc] at h; exact absurd h.1 (by decide)
theorem xw_u0 {rk : Nat → Int32} {rv : Nat → Int64} {rm : Nat → Int32} {S : Nat → List xk_E} {t : Nat} (ht : 0 < t) (h : xw_U rk rv rm S (t - 1)) (h2 : ¬ rm (t - 1) = nI 2) (h1 : ¬ rm (t - 1) = nI 1) : S t = S (t - 1) := by
  unfold xw_U at h
  rw [show t - 1 + 1 = t from by omega] at h
  rcases h with h | h | h
  · exact absurd h.1 h2
  · exact absurd h.1 h1
  · exact h.2
