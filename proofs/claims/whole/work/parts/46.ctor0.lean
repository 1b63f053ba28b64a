/-! Rows for constructors. -/
theorem xp_preI {s : State} {H : Heap} {D : va_G} {cl : List vw_C} {b : Nat} {A : Nat → Prop} {w : va_W} {tys : List (ClassId × FieldType)} {As : List Value} (hK : va_K D cl tys s) (hP : va_P D cl w H) (hD : va_D A w) (hZ : zN s) : PreS s H (va_Pc (.ref b :: As) (xp_Q D cl tys H.size w)) (.ref b :: As) := by
  refine ⟨fun a U g mk h => ?_, fun U hU hW => ⟨rfl, by rw [hU], by rw [hU]; exact hP, va_K.moved hW.alike hK, hD.weaken (fun _ _ _ _ => trivial), zN_warm hW hZ⟩⟩
  obtain ⟨q0, q1, qP, qK, qD, qZ⟩ := h
  exact ⟨q0, q1, qP, va_K.moved (u := U) (U := U.calling g mk a) (Vm.Alike.refl U.vm) qK, qD, zN_same (u := U) (U := U.calling g mk a) rfl qZ⟩
def xw_lim (x : Int32) : Nat := if x < nI 8 then 8 else if nI 200 < x then 200 else x.toNatClampNeg
theorem xw_lim_le (x : Int32) : 8 ≤ xw_lim x ∧ xw_lim x ≤ 200 := by
  unfold xw_lim
  by_cases h1 : x < nI 8
  · rw [if_pos h1]; omega
  · rw [if_neg h1]
    by_cases h2 : nI 200 < x
    · rw [if_pos h2]; omega
    · rw [if_neg h2]
      have e8 : (nI 8).toInt = 8 := by decide
      have e200 : (nI 200).toInt = 200 := by decide
      have e0 : (0 : Int32).toInt = 0 := by decide
      have hn : ¬ x < 0 := by
        rw [Int32.lt_iff_toInt_lt] at *
        omega
      obtain ⟨j, hj, rfl⟩ := nI_of hn
      rw [nI_clamp hj]
      rw [nI_ltI hj (by decide)] at h1
      rw [nI_ltI (by decide) hj] at h2
      omega
theorem xw_lim_n {x : Int32} (h1 : ¬ x < nI 8) (h2 : ¬ nI 200 < x) : x = nI (xw_lim x) := by
  unfold xw_lim
  rw [if_neg h1, if_neg h2]
  have e8 : (nI 8).toInt = 8 := by decide
  have e0 : (0 : Int32).toInt = 0 := by decide
  have hn : ¬ x < 0 := by
    rw [Int32.lt_iff_toInt_lt] at *
    omega
  obtain ⟨j, hj, rfl⟩ := nI_of hn
  rw [nI_clamp hj]
theorem xw_lim_c (x : Int32) : (if nI 8 < (if x < nI 200 then x else nI 200) then (if x < nI 200 then x else nI 200) else nI 8) = nI (xw_lim x) := by
  have e8 : (nI 8).toInt = 8 := by decide
  have e200 : (nI 200).toInt = 200 := by decide
  by_cases h1 : x < nI 8
  · have h2 : x < nI 200 := by rw [Int32.lt_iff_toInt_lt] at *; omega
    rw [if_pos h2, if_neg (xk_nlt h1)]
    unfold xw_lim
    rw [if_pos h1]
  · by_cases h2 : nI 200 < x
    · rw [if_neg (xk_nlt h2), if_pos (by decide)]
      unfold xw_lim
      rw [if_neg h1, if_pos h2]
    · rw [← xw_lim_n h1 h2]
      by_cases h3 : x < nI 200
      · rw [if_pos h3]
        split
        · rfl
        · rename_i h4
          rw [Int32.lt_iff_toInt_lt] at *
          exact Int32.toInt_inj.mp (by omega)
      · rw [if_neg h3]
        have : x = nI 200 := by
          rw [Int32.lt_iff_toInt_lt] at *
          exact Int32.toInt_inj.mp (by omega)
        rw [this]; rfl
theorem xw_lim_m0 {x : Int32} (h : ¬ nI 8 ≤ x) : nI 8 = nI (xw_lim x) := by
  unfold xw_lim
  rw [if_pos (xk_nle h)]
theorem xw_lim_m1 {x : Int32} (h1 : nI 8 ≤ x) (h2 : ¬ x ≤ nI 200) : nI 200 = nI (xw_lim x) := by
  unfold xw_lim
  rw [if_neg (xk_nlt2 h1), if_pos (xk_nle h2)]
theorem xw_lim_m2 {x : Int32} (h1 : nI 8 ≤ x) (h2 : x ≤ nI 200) : x = nI (xw_lim x) := xw_lim_n (xk_nlt2 h1) (xk_nlt2 h2)
