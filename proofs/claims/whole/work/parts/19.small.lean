/-! Small rows that the walks use. -/
theorem xk_nle {a b : Int32} (h : ¬ a ≤ b) : b < a := by
  rw [Int32.le_iff_toInt_le] at h; rw [Int32.lt_iff_toInt_lt]; omega
theorem xk_nlt2 {a b : Int32} (h : a ≤ b) : ¬ b < a := by
  rw [Int32.le_iff_toInt_le] at h; rw [Int32.lt_iff_toInt_lt]; omega
theorem xk_le {a b : Int32} (h : ¬ a < b) : b ≤ a := by
  rw [Int32.lt_iff_toInt_lt] at h; rw [Int32.le_iff_toInt_le]; omega
theorem xl_eq {x y : Int64} : lg_cmp x y = 0 ↔ x = y := lg_cmp_eq x y
theorem xl_ne {x y : Int64} : lg_cmp x y = 0 ↔ x = y := lg_cmp_eq x y
theorem xl_lt {x y : Int64} : lg_cmp x y < 0 ↔ x < y := lg_cmp_lt x y
theorem xl_gt {x y : Int64} : 0 < lg_cmp x y ↔ y < x := lg_cmp_gt x y
theorem xl_ge {x y : Int64} : 0 ≤ lg_cmp x y ↔ ¬ x < y := by
  rw [lg_cmp_ge, Int64.lt_iff_toInt_lt, Int64.le_iff_toInt_le]; omega
theorem xl_le {x y : Int64} : lg_cmp x y ≤ 0 ↔ ¬ y < x := by
  rw [lg_cmp_le, Int64.lt_iff_toInt_lt, Int64.le_iff_toInt_le]; omega
theorem xw_g1 {K : List xk_E} {d p : Nat} (h : xd_cn K d p ≤ 4 ∨ xd_hc K d p = 1) : nI 1 = xb_i (xd_gd K d p) := by
  rw [(xd_good K d p).mpr h]; exact xb_t.symm
theorem xw_g0 {K : List xk_E} {d p : Nat} (h1 : ¬ xd_cn K d p ≤ 4) (h2 : ¬ xd_hc K d p = 1) : nI 0 = xb_i (xd_gd K d p) := by
  have : xd_gd K d p = false := by
    rw [← Bool.not_eq_true]
    intro q
    rcases (xd_good K d p).mp q with q | q
    · exact h1 q
    · exact h2 q
  rw [this]; exact xb_f.symm
theorem xw_pl0 {K : List xk_E} {p : Nat} (h : ¬ p % 2 ^ xd_dp K p = p) : xd_pl K p = false := by
  rw [← Bool.not_eq_true]
  exact fun q => h (xd_pl_iff.mp q)
theorem xw_lts {K : List xk_E} {b : Nat} {k : Int32} {e : xk_E} (h : ∀ (j : Nat) (e : xk_E), j < b → K[j]? = some e → e.1 < k) (he : K[b]? = some e) (hk : e.1 < k) : ∀ (j : Nat) (x : xk_E), j < b + 1 → K[j]? = some x → x.1 < k := by
  intro j x hj hx
  by_cases z : j = b
  · subst z
    rw [he] at hx
    cases hx
    exact hk
  · exact h j x (by omega) hx
theorem xw_none {α : Type} {K : List α} {b : Nat} {x : α} {P : Prop} (h : K.length ≤ b) (hx : K[b]? = some x) : P := by
  rw [List.getElem?_eq_none h] at hx; cases hx
theorem xw_nlt {K : List xk_E} {b : Nat} {k : Int32} {e x : xk_E} (he : K[b]? = some e) (hk : k ≤ e.1) (hx : K[b]? = some x) : ¬ x.1 < k := by
  rw [he] at hx
  cases hx
  exact xk_nlt2 hk
theorem xw_hT {K : List xk_E} {k : Int32} {e : xk_E} (he : K[xk_lo K k]? = some e) (h : e.1 = k) : xk_has K k = true := (xk_has_iff K k).mpr ⟨e, he, h⟩
theorem xw_hF {K : List xk_E} {k : Int32} {e : xk_E} (he : K[xk_lo K k]? = some e) (h : ¬ e.1 = k) : xk_has K k = false := by
  rw [← Bool.not_eq_true, xk_has_iff]
  rintro ⟨x, hx, q⟩
  rw [he] at hx
  cases hx
  exact h q
theorem xw_hL {K : List xk_E} {k : Int32} (h : K.length ≤ xk_lo K k) : xk_has K k = false := by
  rw [← Bool.not_eq_true]
  intro q
  have := xk_has_lt q
  omega
theorem xw_lo1 {K : List xk_E} {k : Int32} {i : Nat} (h : i ≤ xk_lo K k) (g : K.length ≤ i) : i = xk_lo K k := by
  have := xk_lo_le K k; omega
theorem xw_lo2 {K : List xk_E} (hA : xk_asc K) {k : Int32} {i : Nat} {e : xk_E} (h : i ≤ xk_lo K k) (he : K[i]? = some e) (g : k ≤ e.1) : i = xk_lo K k := by
  have : ¬ i < xk_lo K k := fun z => xk_nlt2 g ((xk_below hA he).mpr z)
  omega
theorem xw_max0 {n : Nat} (h : n < 2 ^ 31) : (if nI 0 < nI n - nI 1 then nI n - nI 1 else nI 0) = nI (n - 1) := by
  by_cases z : n = 0
  · subst z; decide
  · rw [pk_sub (by omega)]
    simp only [nI_ltI (show 0 < 2 ^ 31 by decide) (show n - 1 < 2 ^ 31 by omega)]
    split
    · rfl
    · rw [show n - 1 = 0 from by omega]
theorem xw_ix {x : Int32} {n : Nat} (h : ¬ x < 0) (g : x < nI n) (hn : n < 2 ^ 31) : ∃ j : Nat, j < n ∧ x = nI j := by
  obtain ⟨j, hj, rfl⟩ := nI_of h
  rw [nI_ltI hj hn] at g
  exact ⟨j, g, rfl⟩
theorem xw_ka0 {K : List xk_E} {x : Int32} (h : x < 0) : nI 0 = xo_ka K x := by
  unfold xo_ka; rw [if_pos h]; rfl
theorem xw_ka1 {K : List xk_E} {x : Int32} (hK : K.length ≤ 65) (h : ¬ x < nI K.length) : nI 0 = xo_ka K x := by
  rw [xo_ka_miss]
  · rfl
  · intro j hj e
    rw [xo_ko_all] at hj
    subst e
    exact h (nI_lt hj (by omega))
/-- keys and hashes counted, the hashes only where one comes or goes -/
def xw_cb (f : Nat → Int32) (h : Nat) (x : Int32) (fl : Bool) (d : Nat) : Nat → Int32 := match fl with
  | true => xw_cu f h x d
  | false => f
theorem xw_cb_0 (f : Nat → Int32) (h : Nat) (x : Int32) (fl : Bool) : f = xw_cb f h x fl 0 := by cases fl <;> rfl
theorem xw_cb_if (f : Nat → Int32) (h : Nat) (x : Int32) (fl : Bool) (d : Nat) : xw_cb f h x fl d = if fl = true then xw_cu f h x d else f := by cases fl <;> rfl
theorem xw_cb_t {f : Nat → Int32} {h : Nat} {x : Int32} {fl : Bool} {d : Nat} (hf : fl = true) : xw_cb f h x fl d = xw_cu f h x d := by subst hf; rfl
theorem xw_cb_f {f : Nat → Int32} {h : Nat} {x : Int32} {fl : Bool} (d d' : Nat) (hf : fl = false) : xw_cb f h x fl d = xw_cb f h x fl d' := by subst hf; rfl
theorem xw_fl1 {fl : Bool} {a x : Int32} (hfl : fl = (decide (a = 0) || decide (a + x = 0))) (h : a = 0 ∨ a + x = 0) : nI 1 = xb_i fl := by
  have : fl = true := by
    rw [hfl]
    simpa using h
  rw [this]; exact xb_t.symm
theorem xw_fl0 {fl : Bool} {a x : Int32} (hfl : fl = (decide (a = 0) || decide (a + x = 0))) (h1 : ¬ a = 0) (h2 : ¬ a + x = 0) : nI 0 = xb_i fl := by
  have : fl = false := by
    rw [hfl]
    simp [h1, h2]
  rw [this]; exact xb_f.symm
theorem xw_flP {kf : Nat → Int32} {kg : Nat → Int64} {af bf : Nat → Int32} {K : List xk_E} (hT : xw_KT kf kg af bf K) {h : Nat} (hh : h < 64) : decide (xd_cn K 6 h = 0) = (decide (af (2 ^ 6 + h % 2 ^ 6) = 0) || decide (af (2 ^ 6 + h % 2 ^ 6) + nI 1 = 0)) := by
  have hc := xd_cn_le K 6 h
  have hl := hT.1
  rw [xw_before hT hh, nI_add, Bool.eq_iff_iff]
  simp only [Bool.or_eq_true, decide_eq_true_eq, xn_eq0 (show xd_cn K 6 h < 2 ^ 31 by omega), xn_eq0 (show xd_cn K 6 h + 1 < 2 ^ 31 by omega)]
  omega
theorem xw_flM {kf : Nat → Int32} {kg : Nat → Int64} {af bf : Nat → Int32} {K : List xk_E} (hT : xw_KT kf kg af bf K) {k : Int32} (hk : xk_has K k = true) : decide (xd_cn K 6 (xk_h k) = 1) = (decide (af (2 ^ 6 + xk_h k % 2 ^ 6) = 0) || decide (af (2 ^ 6 + xk_h k % 2 ^ 6) + (-1) = 0)) := by
  have hc := xd_cn_le K 6 (xk_h k)
  have hl := hT.1
  have hp := xw_has_cn hk
  rw [xw_before hT (xk_h_lt k), xw_dec _ hp, Bool.eq_iff_iff]
  simp only [Bool.or_eq_true, decide_eq_true_eq, xn_eq0 (show xd_cn K 6 (xk_h k) < 2 ^ 31 by omega), xn_eq0 (show xd_cn K 6 (xk_h k) - 1 < 2 ^ 31 by omega)]
  omega
def xw_fo (b : Bool) : Int32 := if b = true then nI 2 else nI 1
/-- the places from a to b filled with one number -/
def xw_fi (f : Nat → Int32) (a i : Nat) (x : Int32) : Nat → Int32 := fun j => if a ≤ j ∧ j < i then x else f j
theorem xw_fi_0 (f : Nat → Int32) (a : Nat) (x : Int32) : f = xw_fi f a a x := by
  funext j; unfold xw_fi; rw [if_neg (by omega)]
theorem xw_fi_up (f : Nat → Int32) {a i : Nat} (h : a ≤ i) (x : Int32) : upd (xw_fi f a i x) i x = xw_fi f a (i + 1) x := by
  funext j
  by_cases z : j = i
  · subst z; rw [pk_us]; unfold xw_fi; rw [if_pos (by omega)]
  · rw [pk_un z]; unfold xw_fi
    by_cases y : a ≤ j ∧ j < i
    · rw [if_pos y, if_pos (by omega)]
    · rw [if_neg y, if_neg (by omega)]
theorem xw_KT_insb {kf kf' : Nat → Int32} {kg kg' : Nat → Int64} {af bf : Nat → Int32} {K : List xk_E} (hT : xw_KT kf kg af bf K) {k : Int32} {v : Int64} (hk : xk_has K k = false) (hl : K.length < 65) (hf : ∀ j, j < K.length + 1 → kf' j = xk_ins kf (xk_lo K k) k j) (hg : ∀ j, j < K.length + 1 → kg' j = xk_ins kg (xk_lo K k) v j) {fl : Bool} (hfl : fl = decide (xd_cn K 6 (xk_h k) = 0)) :
    xw_KT kf' kg' (xw_cu af (xk_h k) (nI 1) 7) (xw_cb bf (xk_h k) (nI 1) fl 7) (xk_set K k v) := by
  rw [xw_cb_if]
  exact xw_KT_ins hT hk hl hf hg hfl
theorem xw_KT_delb {kf kf' : Nat → Int32} {kg kg' : Nat → Int64} {af bf : Nat → Int32} {K : List xk_E} (hT : xw_KT kf kg af bf K) {k : Int32} (hk : xk_has K k = true) (hf : ∀ j, j + 1 < K.length → kf' j = xk_del kf (xk_lo K k) j) (hg : ∀ j, j + 1 < K.length → kg' j = xk_del kg (xk_lo K k) j) {fl : Bool} (hfl : fl = decide (xd_cn K 6 (xk_h k) = 1)) :
    xw_KT kf' kg' (xw_cu af (xk_h k) (-1) 7) (xw_cb bf (xk_h k) (-1) fl 7) (xk_rem K k) := by
  rw [xw_cb_if]
  exact xw_KT_del hT hk hf hg hfl
