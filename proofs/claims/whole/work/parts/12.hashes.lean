/-! Pure: how many different hashes a class has. -/
def xd_hc (K : List xk_E) (d p : Nat) : Nat := (List.range 64).countP (fun h => h % 2 ^ d == p && decide (0 < xd_cn K 6 h))
theorem xd_cn6 {K : List xk_E} {h : Nat} (hh : h < 64) : 0 < xd_cn K 6 h ↔ ∃ e ∈ K, xk_h e.1 = h := by
  rw [xd_cn, List.countP_pos_iff]
  have e1 : (2 : Nat) ^ 6 = 64 := rfl
  constructor
  · rintro ⟨e, he, i⟩
    rw [xd_in_iff, e1] at i
    have := xk_h_lt e.1
    exact ⟨e, he, by omega⟩
  · rintro ⟨e, he, i⟩
    refine ⟨e, he, ?_⟩
    rw [xd_in_iff, e1]
    omega
/-- a count over a range with one place changed -/
theorem xd_count1 {P Q : Nat → Bool} {h : Nat} (hd : ∀ j, j ≠ h → P j = Q j) (hP : P h = false) (hQ : Q h = true) : ∀ n, h < n → (List.range n).countP Q = (List.range n).countP P + 1 := by
  intro n hn
  induction n with
  | zero => omega
  | succ n ih =>
    rw [List.range_succ, List.countP_append, List.countP_append]
    simp only [List.countP_cons, List.countP_nil]
    by_cases z : h = n
    · subst z
      have : (List.range h).countP Q = (List.range h).countP P := by
        refine List.countP_congr (fun j hj => ?_)
        have := List.mem_range.mp hj
        rw [hd j (by omega)]
      simp [hP, hQ, this]
    · have := ih (by omega)
      rw [hd n (fun q => z q.symm)]
      omega
theorem xd_count0 {P Q : Nat → Bool} (n : Nat) (hd : ∀ j, j < n → P j = Q j) : (List.range n).countP Q = (List.range n).countP P := by
  refine List.countP_congr (fun j hj => ?_)
  rw [hd j (List.mem_range.mp hj)]
theorem xd_hc_set (K : List xk_E) (k : Int32) (v : Int64) (d p : Nat) (hk : xk_has K k = false) : xd_hc (xk_set K k v) d p = if xk_h k % 2 ^ d = p ∧ xd_cn K 6 (xk_h k) = 0 then xd_hc K d p + 1 else xd_hc K d p := by
  have hlt := xk_h_lt k
  have e1 : (2 : Nat) ^ 6 = 64 := rfl
  have hm : xk_h k % 2 ^ 6 = xk_h k := by rw [e1]; omega
  have hne : ∀ j, j ≠ xk_h k → xd_cn (xk_set K k v) 6 j = xd_cn K 6 j := fun j hj => by
    rw [xd_cn_set, if_neg]; rw [hm]; exact fun q => hj q.2.symm
  have heq : xd_cn (xk_set K k v) 6 (xk_h k) = xd_cn K 6 (xk_h k) + 1 := by
    rw [xd_cn_set, if_pos ⟨hk, hm⟩]
  unfold xd_hc
  by_cases z : xk_h k % 2 ^ d = p ∧ xd_cn K 6 (xk_h k) = 0
  · rw [if_pos z]
    refine xd_count1 (h := xk_h k) (fun j hj => by rw [hne j hj]) ?_ ?_ 64 hlt
    · simp [z.2]
    · simp [z.1, heq]
  · rw [if_neg z]
    refine xd_count0 64 (fun j _ => ?_)
    by_cases q : j = xk_h k
    · subst q
      by_cases w : xk_h k % 2 ^ d = p
      · have : 0 < xd_cn K 6 (xk_h k) := by
          rcases Nat.eq_zero_or_pos (xd_cn K 6 (xk_h k)) with y | y
          · exact absurd ⟨w, y⟩ z
          · exact y
        simp [w, heq, this]
      · have w2 : (xk_h k % 2 ^ d == p) = false := by simpa using w
        simp only [w2, Bool.false_and]
    · rw [hne j q]
theorem xd_hc_rem (K : List xk_E) (k : Int32) (d p : Nat) (hk : xk_has K k = true) : xd_hc K d p = if xk_h k % 2 ^ d = p ∧ xd_cn K 6 (xk_h k) = 1 then xd_hc (xk_rem K k) d p + 1 else xd_hc (xk_rem K k) d p := by
  have hlt := xk_h_lt k
  have e1 : (2 : Nat) ^ 6 = 64 := rfl
  have hm : xk_h k % 2 ^ 6 = xk_h k := by rw [e1]; omega
  have hne : ∀ j, j ≠ xk_h k → xd_cn K 6 j = xd_cn (xk_rem K k) 6 j := fun j hj => by
    rw [xd_cn_rem K k, if_neg]; rw [hm]; exact fun q => hj q.2.symm
  have heq : xd_cn K 6 (xk_h k) = xd_cn (xk_rem K k) 6 (xk_h k) + 1 := by
    rw [xd_cn_rem K k, if_pos ⟨hk, hm⟩]
  unfold xd_hc
  by_cases z : xk_h k % 2 ^ d = p ∧ xd_cn K 6 (xk_h k) = 1
  · rw [if_pos z]
    refine xd_count1 (h := xk_h k) (fun j hj => by rw [hne j hj]) ?_ ?_ 64 hlt
    · have : xd_cn (xk_rem K k) 6 (xk_h k) = 0 := by omega
      simp [this]
    · simp [z.1, z.2]
  · rw [if_neg z]
    refine xd_count0 64 (fun j _ => ?_)
    by_cases q : j = xk_h k
    · subst q
      by_cases w : xk_h k % 2 ^ d = p
      · have h1 : ¬ xd_cn K 6 (xk_h k) = 1 := fun y => z ⟨w, y⟩
        have h2 : 0 < xd_cn (xk_rem K k) 6 (xk_h k) := by omega
        have h3 : 0 < xd_cn K 6 (xk_h k) := by omega
        simp [w, h2, h3]
      · have w2 : (xk_h k % 2 ^ d == p) = false := by simpa using w
        simp only [w2, Bool.false_and]
    · rw [hne j q]
/-- one hash or no more than four keys: good -/
theorem xd_good (K : List xk_E) (d p : Nat) : xd_gd K d p = true ↔ xd_cn K d p ≤ 4 ∨ xd_hc K d p = 1 := by
  simp only [xd_gd, Bool.or_eq_true, decide_eq_true_eq]
  by_cases hc : xd_cn K d p ≤ 4
  · simp [hc]
  · simp only [hc, false_or]
    have hpos : 0 < K.countP (xd_in d p) := by unfold xd_cn at hc; omega
    obtain ⟨e, he, ie⟩ := List.countP_pos_iff.mp hpos
    have hie := xd_in_iff.mp ie
    constructor
    · intro hs
      rw [xd_sm_iff] at hs
      unfold xd_hc
      have : (List.range 64).countP (fun h => h % 2 ^ d == p && decide (0 < xd_cn K 6 h)) = (List.range 64).countP (fun h => h == xk_h e.1) := by
        refine xd_count0 64 (fun j hj => ?_)
        rw [Bool.eq_iff_iff]
        simp only [Bool.and_eq_true, beq_iff_eq, decide_eq_true_eq, xd_cn6 hj]
        constructor
        · intro q
          rw [q]
          exact ⟨hie, e, he, rfl⟩
        · rintro ⟨h1, a, ha, h2⟩
          rw [← h2]
          exact hs a ha e he (xd_in_iff.mpr (by rw [h2]; exact h1)) ie
      rw [this]
      have := xd_count1 (P := fun _ => false) (Q := fun h => h == xk_h e.1) (h := xk_h e.1) (fun j hj => by simp [hj]) rfl (by simp) 64 (xk_h_lt _)
      rw [this]
      simp
    · intro h1
      rw [xd_sm_iff]
      intro a ha b hb ia ib
      refine Classical.byContradiction fun hne => ?_
      have q1 : (fun h => h % 2 ^ d == p && decide (0 < xd_cn K 6 h)) (xk_h a.1) = true := by
        simp only [Bool.and_eq_true, beq_iff_eq, decide_eq_true_eq, xd_cn6 (xk_h_lt a.1)]
        exact ⟨xd_in_iff.mp ia, a, ha, rfl⟩
      have q2 : (fun h => h % 2 ^ d == p && decide (0 < xd_cn K 6 h)) (xk_h b.1) = true := by
        simp only [Bool.and_eq_true, beq_iff_eq, decide_eq_true_eq, xd_cn6 (xk_h_lt b.1)]
        exact ⟨xd_in_iff.mp ib, b, hb, rfl⟩
      unfold xd_hc at h1
      have s1 := xd_count1 (P := fun h => (h % 2 ^ d == p && decide (0 < xd_cn K 6 h)) && !(h == xk_h a.1)) (Q := fun h => h % 2 ^ d == p && decide (0 < xd_cn K 6 h)) (h := xk_h a.1) (fun j hj => by simp [hj]) (by simp) q1 64 (xk_h_lt _)
      rw [h1] at s1
      have s2 : 0 < (List.range 64).countP (fun h => (h % 2 ^ d == p && decide (0 < xd_cn K 6 h)) && !(h == xk_h a.1)) := by
        rw [List.countP_pos_iff]
        refine ⟨xk_h b.1, List.mem_range.mpr (xk_h_lt _), ?_⟩
        have q3 : (xk_h b.1 % 2 ^ d == p && decide (0 < xd_cn K 6 (xk_h b.1))) = true := q2
        rw [q3]
        simp
        exact fun z => hne z.symm
      omega
