/-! Pure: places in order, keys in the order of places, how many pages a look reads. -/
def xo_pls (K : List xk_E) : Nat → List Nat
  | 0 => []
  | p + 1 => if xd_pl K p then xo_pls K p ++ [p] else xo_pls K p
def xo_at (K : List xk_E) (i : Int32) : Int32 := if i < 0 then -1 else match (xo_pls K 64)[i.toNatClampNeg]? with
  | some p => nI p
  | none => -1
theorem xo_pls_more {K : List xk_E} {p j x : Nat} (h : (xo_pls K p)[j]? = some x) : ∀ n, (xo_pls K (p + n))[j]? = some x := by
  intro n
  induction n with
  | zero => exact h
  | succ n ih =>
    have hj := (List.getElem?_eq_some_iff.mp ih).1
    rw [show p + (n + 1) = (p + n) + 1 from rfl]
    simp only [xo_pls]
    split
    · rw [List.getElem?_append_left hj]; exact ih
    · exact ih
theorem xo_pls_last {K : List xk_E} {p : Nat} (h : xd_pl K p = true) : (xo_pls K (p + 1))[(xo_pls K p).length]? = some p := by
  simp [xo_pls, h]
theorem xo_pls_le (K : List xk_E) (p : Nat) : (xo_pls K p).length ≤ p := by
  induction p with
  | zero => simp [xo_pls]
  | succ p ih =>
    simp only [xo_pls]
    split
    · simp only [List.length_append, List.length_cons, List.length_nil]; omega
    · omega
theorem xo_pls_len (K : List xk_E) (p : Nat) : (xo_pls K (p + 1)).length = if xd_pl K p then (xo_pls K p).length + 1 else (xo_pls K p).length := by
  simp only [xo_pls]
  split <;> simp
theorem xo_at_hit {K : List xk_E} {p : Nat} (hp : p < 64) (h : xd_pl K p = true) : xo_at K (nI (xo_pls K p).length) = nI p := by
  have hl := xo_pls_le K p
  have h1 := xo_pls_more (xo_pls_last h) (63 - p)
  rw [show p + 1 + (63 - p) = 64 from by omega] at h1
  unfold xo_at
  rw [if_neg (nI_pos (by omega)), nI_clamp (by omega), h1]
theorem xo_at_miss {K : List xk_E} {i : Int32} (h : ∀ j, j < (xo_pls K 64).length → ¬ i = nI j) : xo_at K i = -1 := by
  unfold xo_at
  split
  · rfl
  · rename_i q
    obtain ⟨j, hj, rfl⟩ := nI_of q
    rw [nI_clamp hj]
    have : (xo_pls K 64)[j]? = none := by
      rw [List.getElem?_eq_none_iff]
      refine Classical.byContradiction fun z => ?_
      exact h j (by omega) rfl
    rw [this]
theorem xo_at_neg {K : List xk_E} {i : Int32} (h : i < 0) : xo_at K i = -1 := by unfold xo_at; rw [if_pos h]
def xo_ko (K : List xk_E) : Nat → List xk_E
  | 0 => []
  | p + 1 => if xd_pl K p then xo_ko K p ++ K.filter (xd_in (xd_dp K p) p) else xo_ko K p
def xo_ka (K : List xk_E) (i : Int32) : Int32 := if i < 0 then 0 else match (xo_ko K 64)[i.toNatClampNeg]? with
  | some e => e.1
  | none => 0
theorem xo_ko_more {K : List xk_E} {p j : Nat} {x : xk_E} (h : (xo_ko K p)[j]? = some x) : ∀ n, (xo_ko K (p + n))[j]? = some x := by
  intro n
  induction n with
  | zero => exact h
  | succ n ih =>
    have hj := (List.getElem?_eq_some_iff.mp ih).1
    rw [show p + (n + 1) = (p + n) + 1 from rfl]
    simp only [xo_ko]
    split
    · rw [List.getElem?_append_left hj]; exact ih
    · exact ih
theorem xo_uniq {K : List xk_E} {h j : Nat} (hp : xd_pl K j = true) (e : h % 2 ^ xd_dp K j = j) : j = h % 2 ^ xd_dp K h := by
  have h1 : xd_dp K h = xd_dp K j := xd_dp_cong (by rw [e]; exact (xd_pl_iff.mp hp).symm)
  rw [h1, e]
theorem xo_sum (K L : List xk_E) : xt_S (fun p => if xd_pl K p then L.countP (xd_in (xd_dp K p) p) else 0) 64 = L.length := by
  induction L with
  | nil => exact xt_S_zero 64 (fun j _ => by simp)
  | cons a t ih =>
    rw [List.length_cons, ← ih]
    have hp0 : xk_h a.1 % 2 ^ xd_dp K (xk_h a.1) < 64 := Nat.lt_of_le_of_lt (Nat.mod_le _ _) (xk_h_lt _)
    have h1 : xt_S (fun p => if xd_pl K p then (if xd_in (xd_dp K p) p a then 1 else 0) else 0) 64 = 1 := by
      rw [xt_S_one (p := xk_h a.1 % 2 ^ xd_dp K (xk_h a.1)) 64 hp0]
      · rw [xd_pl_place, if_pos rfl, xd_dp_place]
        simp [xd_in]
      · intro j _ hne
        split
        · rename_i q
          rw [if_neg]
          intro z
          exact hne (xo_uniq q (xd_in_iff.mp z))
        · rfl
    have h2 : xt_S (fun p => if xd_pl K p then (a :: t).countP (xd_in (xd_dp K p) p) else 0) 64 = xt_S (fun p => (if xd_pl K p then t.countP (xd_in (xd_dp K p) p) else 0) + (if xd_pl K p then (if xd_in (xd_dp K p) p a then 1 else 0) else 0)) 64 := by
      refine xt_S_congr 64 (fun j _ => ?_)
      split
      · rw [List.countP_cons]
      · rfl
    rw [h2, xt_S_add, h1]
theorem xo_ko_len (K : List xk_E) : ∀ n, (xo_ko K n).length = xt_S (fun p => if xd_pl K p then K.countP (xd_in (xd_dp K p) p) else 0) n := by
  intro n
  induction n with
  | zero => rfl
  | succ n ih =>
    simp only [xo_ko, xt_S]
    split
    · rw [List.length_append, ih, List.countP_eq_length_filter]
    · rw [ih]; rfl
theorem xo_ko_all (K : List xk_E) : (xo_ko K 64).length = K.length := by rw [xo_ko_len, xo_sum]
theorem xo_ko_le (K : List xk_E) {n : Nat} (h : n ≤ 64) : (xo_ko K n).length ≤ K.length := by
  have key : ∀ m, (xo_ko K n).length ≤ (xo_ko K (n + m)).length := by
    intro m
    induction m with
    | zero => exact Nat.le_refl _
    | succ m ih =>
      rw [show n + (m + 1) = (n + m) + 1 from rfl]
      simp only [xo_ko]
      split
      · rw [List.length_append]; omega
      · exact ih
  have := key (64 - n)
  rw [show n + (64 - n) = 64 from by omega, xo_ko_all] at this
  exact this
theorem xo_ko_step (K : List xk_E) (p : Nat) : (xo_ko K (p + 1)).length = if xd_pl K p then (xo_ko K p).length + xd_cn K (xd_dp K p) p else (xo_ko K p).length := by
  simp only [xo_ko]
  split
  · rw [List.length_append, xd_cn, List.countP_eq_length_filter]
  · rfl
/-- the n-th key of a class, n counted along the list -/
theorem xo_fil_at {K : List xk_E} {d p i : Nat} {e : xk_E} (he : K[i]? = some e) (hi : xk_h e.1 % 2 ^ d = p) : (K.filter (xd_in d p))[xd_cn (K.take i) d p]? = some e := by
  have hlt := (List.getElem?_eq_some_iff.mp he).1
  have h1 : K = K.take i ++ (e :: K.drop (i + 1)) := by
    obtain ⟨h2, h3⟩ := List.getElem?_eq_some_iff.mp he
    rw [← h3, ← List.drop_eq_getElem_cons h2, List.take_append_drop]
  rw [xd_cn, List.countP_eq_length_filter]
  have h4 : K.filter (xd_in d p) = (K.take i).filter (xd_in d p) ++ (e :: (K.drop (i + 1)).filter (xd_in d p)) := by
    conv => lhs; rw [h1]
    rw [List.filter_append, List.filter_cons, if_pos (xd_in_iff.mpr hi)]
  rw [h4, List.getElem?_append_right (Nat.le_refl _)]
  simp
theorem xo_ka_hit {K : List xk_E} {p i : Nat} {e : xk_E} (hK : K.length ≤ 65) (hp : p < 64) (h : xd_pl K p = true) (he : K[i]? = some e) (hi : xk_h e.1 % 2 ^ xd_dp K p = p) : xo_ka K (nI ((xo_ko K p).length + xd_cn (K.take i) (xd_dp K p) p)) = e.1 := by
  have h0 : (xo_ko K (p + 1))[(xo_ko K p).length + xd_cn (K.take i) (xd_dp K p) p]? = some e := by
    simp only [xo_ko, h, if_true]
    rw [List.getElem?_append_right (by omega), Nat.add_sub_cancel_left]
    exact xo_fil_at he hi
  have h1 := xo_ko_more h0 (63 - p)
  rw [show p + 1 + (63 - p) = 64 from by omega] at h1
  have h2 := (List.getElem?_eq_some_iff.mp h1).1
  rw [xo_ko_all] at h2
  unfold xo_ka
  rw [if_neg (nI_pos (by omega)), nI_clamp (by omega), h1]
theorem xo_ka_miss {K : List xk_E} {i : Int32} (h : ∀ j, j < (xo_ko K 64).length → ¬ i = nI j) : xo_ka K i = 0 := by
  unfold xo_ka
  split
  · rfl
  · rename_i q
    obtain ⟨j, hj, rfl⟩ := nI_of q
    rw [nI_clamp hj]
    have : (xo_ko K 64)[j]? = none := by
      rw [List.getElem?_eq_none_iff]
      refine Classical.byContradiction fun z => ?_
      exact h j (by omega) rfl
    rw [this]
/-- a look's pages -/
def xo_bl (K : List xk_E) (k : Int32) (d p : Nat) : Nat := xd_cn (K.take (xk_lo K k)) d p
def xo_rp (K : List xk_E) (k : Int32) (d p : Nat) : Nat := min (xo_bl K k d p) (xd_cn K d p - 1) / 4 + 1
def xo_rd (K : List xk_E) (k : Int32) : Nat := xo_rp K k (xd_dp K (xk_h k)) (xk_h k % 2 ^ xd_dp K (xk_h k))
theorem xd_cn_mono {K : List xk_E} {d p i j : Nat} (h : i ≤ j) : xd_cn (K.take i) d p ≤ xd_cn (K.take j) d p := by
  obtain ⟨n, rfl⟩ : ∃ n, j = i + n := ⟨j - i, by omega⟩
  rw [List.take_add, xd_cn, xd_cn, List.countP_append]
  omega
theorem xd_cn_sub (K : List xk_E) (d p i : Nat) : xd_cn (K.take i) d p ≤ xd_cn K d p := by
  by_cases z : i ≤ K.length
  · have := xd_cn_mono (K := K) (d := d) (p := p) z
    rwa [List.take_length] at this
  · rw [List.take_of_length_le (by omega)]; exact Nat.le_refl _
def xo_J (K : List xk_E) (k : Int32) (d p i g : Nat) (more : Bool) : Prop :=
  (more = true → g = (xd_cn (K.take i) d p + 3) / 4 ∧ 4 * (xd_cn (K.take i) d p / 4) ≤ xo_bl K k d p ∧ (xd_cn (K.take i) d p = xd_cn K d p → xd_cn K d p = 0 ∨ xo_bl K k d p = xd_cn K d p)) ∧
  (more = false → g = xo_rp K k d p ∧ 0 < xd_cn K d p)
theorem xo_J_0 (K : List xk_E) (k : Int32) (d p : Nat) : xo_J K k d p 0 0 true := by
  have h0 : xd_cn (K.take 0) d p = 0 := by simp [xd_cn]
  refine ⟨fun _ => ⟨by rw [h0], by rw [h0]; omega, fun h => Or.inl (by rw [← h, h0])⟩, fun h => by cases h⟩
theorem xo_J_skip {K : List xk_E} {k : Int32} {d p i g : Nat} {e : xk_E} (h : xo_J K k d p i g true) (he : K[i]? = some e) (hn : ¬ xk_h e.1 % 2 ^ d = p) : xo_J K k d p (i + 1) g true := by
  unfold xo_J at *
  rw [xd_cn_take he, if_neg hn]
  exact h
theorem xo_J_in {K : List xk_E} (hA : xk_asc K) {k : Int32} {d p i g g' : Nat} {e : xk_E} {more : Bool} (h : xo_J K k d p i g true) (he : K[i]? = some e) (hn : xk_h e.1 % 2 ^ d = p) (hg : g' = if xd_cn (K.take i) d p % 4 = 0 then g + 1 else g)
    (hm : more = (decide (e.1 ≠ k) && !((decide ((xd_cn (K.take i) d p + 1) % 4 = 0) || decide (xd_cn (K.take i) d p + 1 = xd_cn K d p)) && decide (k < e.1)))) : xo_J K k d p (i + 1) g' more := by
  obtain ⟨h1, h2, h3⟩ := h.1 rfl
  have ht : xd_cn (K.take (i + 1)) d p = xd_cn (K.take i) d p + 1 := by rw [xd_cn_take he, if_pos hn]
  have hle := xd_cn_sub K d p (i + 1)
  have hbl : xo_bl K k d p ≤ xd_cn K d p := xd_cn_sub K d p _
  have hg' : g' = (xd_cn (K.take i) d p + 1 + 3) / 4 := by rw [hg]; split <;> omega
  have hlt : e.1 < k → xd_cn (K.take i) d p + 1 ≤ xo_bl K k d p := fun q => by
    have := xd_cn_mono (K := K) (d := d) (p := p) (i := i + 1) (j := xk_lo K k) ((xk_below hA he).mp q)
    rw [ht] at this
    exact this
  have hge : ¬ e.1 < k → xo_bl K k d p ≤ xd_cn (K.take i) d p := fun q => by
    have : ¬ i < xk_lo K k := fun z => q ((xk_below hA he).mpr z)
    exact xd_cn_mono (by omega)
  unfold xo_J
  rw [ht] at hle ⊢
  constructor
  · intro q
    rw [q] at hm
    have hm := hm.symm
    simp only [Bool.and_eq_true, Bool.not_eq_true', decide_eq_true_eq, Bool.and_eq_false_iff, Bool.or_eq_false_iff, decide_eq_false_iff_not] at hm
    obtain ⟨m1, m2⟩ := hm
    have end' : (xd_cn (K.take i) d p + 1) % 4 = 0 ∨ xd_cn (K.take i) d p + 1 = xd_cn K d p → e.1 < k := by
      intro z
      rcases m2 with m2 | m2
      · rcases z with z | z
        · exact absurd z m2.1
        · exact absurd z m2.2
      · refine Classical.byContradiction fun w => ?_
        exact m2 (xk_tri w m1)
    refine ⟨hg', ?_, ?_⟩
    · by_cases z : (xd_cn (K.take i) d p + 1) % 4 = 0
      · have := hlt (end' (Or.inl z)); omega
      · omega
    · intro z
      have := hlt (end' (Or.inr z)); omega
  · intro q
    rw [q] at hm
    have hm := hm.symm
    simp only [Bool.and_eq_false_iff, Bool.not_eq_false', decide_eq_false_iff_not, Bool.and_eq_true, Bool.or_eq_true, decide_eq_true_eq] at hm
    refine ⟨?_, by omega⟩
    rw [hg', xo_rp]
    by_cases m1 : e.1 = k
    · obtain ⟨a1, a2⟩ := (xk_there hA he).mp m1
      have : xo_bl K k d p = xd_cn (K.take i) d p := by rw [xo_bl, ← a1]
      rw [this]
      omega
    · rcases hm with hm | hm
      · exact absurd m1 hm
      · have := hge (xk_nlt hm.2)
        omega
theorem xo_J_end {K : List xk_E} {k : Int32} {d p i g : Nat} {more : Bool} (h : xo_J K k d p i g more) (hi : more = true → i = K.length) : (if xd_cn K d p = 0 then 1 else g) = xo_rp K k d p := by
  cases more with
  | false =>
    obtain ⟨h1, h2⟩ := h.2 rfl
    rw [if_neg (by omega), h1]
  | true =>
    have e := hi rfl
    subst e
    obtain ⟨h1, h2, h3⟩ := h.1 rfl
    rw [List.take_length] at h1 h2 h3
    have h4 := h3 rfl
    have hbl : xo_bl K k d p ≤ xd_cn K d p := xd_cn_sub K d p _
    rw [h1, xo_rp]
    split
    · omega
    · rcases h4 with h4 | h4
      · omega
      · rw [h4]; omega
