/-! Small rows that the walks use. -/
theorem xk_nle {a b : Int32} (h : ¬ a ≤ b) : b < a := by
  rw [Int32.le_iff_toInt_le] at h; rw [Int32.lt_iff_toInt_lt]; omega
theorem xk_nlt2 {a b : Int32} (h : a ≤ b) : ¬ b < a := by
  rw [Int32.le_iff_toInt_le] at h; rw [Int32.lt_iff_toInt_lt]; omega
theorem xk_le {a b : Int32} (h : ¬ a < b) : b ≤ a := by
  rw [Int32.lt_iff_toInt_lt] at h; rw [Int32.le_iff_toInt_le]; omega
theorem xl_eq {x y : Int64} : lg_cmp x y = 0 ↔ x = y := lg_cmp_eq x y
theorem xl_ne {x y : Int64} : lg_cmp x y = 0 ↔ x = y := lg_cmp_eq x y
theorem xl_lt {x y : Int64} : lg_cmp x y < 0 ↔ x < y := lg_cmp_lt x y
theorem xl_gt {x y : Int64} : 0 < lg_cmp x y ↔ y < x := lg_cmp_gt x y
theorem xl_ge {x y : Int64} : 0 ≤ lg_cmp x y ↔ ¬ x < y := by
  rw [lg_cmp_ge, Int64.lt_iff_toInt_lt, Int64.le_iff_toInt_le]; omega
theorem xl_le {x y : Int64} : lg_cmp x y ≤ 0 ↔ ¬ y < x := by
  rw [lg_cmp_le, Int64.lt_iff_toInt_lt, Int64.le_iff_toInt_le]; omega
theorem xw_g1 {K : List xk_E} {d p : Nat} (h : xd_cn K d p ≤ 4 ∨ xd_hc K d p = 1) : nI 1 = xb_i (xd_gd K d p) := by
  rw [(xd_good K d p).mpr h]; exact xb_t.symm
theorem xw_g0 {K : List xk_E} {d p : Nat} (h1 : ¬ xd_cn K d p ≤ 4) (h2 : ¬ xd_hc K d p = 1) : nI 0 = xb_i (xd_gd K d p) := by
  have : xd_gd K d p = false := by
    rw [← Bool.not_eq_true]
    intro q
    rcases (xd_good K d p).mp q with q | q
    · exact h1 q
    · exact h2 q
  rw [this]; exact xb_f.symm
theorem xw_pl0 {K : List xk_E} {p : Nat} (h : ¬ p % 2 ^ xd_dp K p = p) : xd_pl K p = false := by
  rw [← Bool.not_eq_true]
  exact fun q => h (xd_pl_iff.mp q)
theorem xw_lts {K : List xk_E} {b : Nat} {k : Int32} {e : xk_E} (h : ∀ (j : Nat) (e : xk_E), j < b → K[j]? = some e → e.1 < k) (he : K[b]? = some e) (hk : e.1 < k) : ∀ (j : Nat) (x : xk_E), j < b + 1 → K[j]? = some x → x.1 < k := by
  intro j x hj hx
  by_cases z : j = b
  · subst z
    rw [he] at hx
    cases hx
    exact hk
  · exact h j x (by omega) hx
theorem xw_none {α : Type} {K : List α} {b : Nat} {x : α} {P : Prop} (h : K.length ≤ b) (hx : K[b]? = some x) : P := by
  rw [List.getElem?_eq_none h] at hx; cases hx
theorem xw_nlt {K : List xk_E} {b : Nat} {k : Int32} {e x : xk_E} (he : K[b]? = some e) (hk : k ≤ e.1) (hx : K[b]? = some x) : ¬ x.1 < k := by
  rw [he] at hx
  cases hx
  exact xk_nlt2 hk
theorem xw_hT {K : List xk_E} {k : Int32} {e : xk_E} (he : K[xk_lo K k]? = some e) (h : e.1 = k) : xk_has K k = true := (xk_has_iff K k).mpr ⟨e, he, h⟩
theorem xw_hF {K : List xk_E} {k : Int32} {e : xk_E} (he : K[xk_lo K k]? = some e) (h : ¬ e.1 = k) : xk_has K k = false := by
  rw [← Bool.not_eq_true, xk_has_iff]
  rintro ⟨x, hx, q⟩
  rw [he] at hx
  cases hx
  exact h q
theorem xw_hL {K : List xk_E} {k : Int32} (h : K.length ≤ xk_lo K k) : xk_has K k = false := by
  rw [← Bool.not_eq_true]
  intro q
  have := xk_has_lt q
  omega
