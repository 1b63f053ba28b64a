/-! Pure: the reference's arrays against base, records and steps. -/
def xm_rt (R : List xs_R) (wh rk : Nat → Int32) (rv : Nat → Int64) (bg : Nat → Int32) : Prop := ∀ (i : Nat) (r : xs_R), R[i]? = some r → wh i = nI r.1 ∧ rk i = r.2.1 ∧ rv i = r.2.2.1 ∧ bg i = nI r.2.2.2
def xm_rn (R : List xs_R) (n : Nat) (wh rk : Nat → Int32) (rv : Nat → Int64) (bg : Nat → Int32) : Prop := ∀ (i : Nat) (r : xs_R), i < n → R[i]? = some r → wh i = nI r.1 ∧ rk i = r.2.1 ∧ rv i = r.2.2.1 ∧ bg i = nI r.2.2.2
def xm_sx (ST : List xs_O) (sw sk : Nat → Int32) (sv : Nat → Int64) : Prop := ∀ (i : Nat) (o : xs_O), ST[i]? = some o → o.1 ≤ 1 ∧ sw i = nI o.1 ∧ sk i = o.2.1 ∧ sv i = o.2.2
def xm_MT (B : List xk_E) (R : List xs_R) (ST : List xs_O) (bk : Nat → Int32) (bv : Nat → Int64) (wh rk : Nat → Int32) (rv : Nat → Int64) (bg sw sk : Nat → Int32) (sv : Nat → Int64) : Prop := xk_tie bk bv B ∧ xm_rt R wh rk rv bg ∧ xm_sx ST sw sk sv
theorem xm_rn_rt {R : List xs_R} {wh rk : Nat → Int32} {rv : Nat → Int64} {bg : Nat → Int32} (h : xm_rn R R.length wh rk rv bg) : xm_rt R wh rk rv bg := fun i r hr => h i r (List.getElem?_eq_some_iff.mp hr).1 hr
theorem xm_rn_new {B : List xk_E} {R : List xs_R} {wh rk : Nat → Int32} {rv : Nat → Int64} {bg : Nat → Int32} (h : xm_rt R wh rk rv bg) (N : List xs_O) : xm_rn (xs_new B R N) R.length wh rk rv bg := by
  intro i r hi hr
  rw [xs_new, List.getElem?_append_left hi] at hr
  exact h i r hr
theorem xm_rn_up {R : List xs_R} {n : Nat} {wh rk : Nat → Int32} {rv : Nat → Int64} {bg : Nat → Int32} (h : xm_rn R n wh rk rv bg) {r : xs_R} (hr : R[n]? = some r) {w k b : Int32} {v : Int64} (h1 : w = nI r.1) (h2 : k = r.2.1) (h3 : v = r.2.2.1) (h4 : b = nI r.2.2.2) : xm_rn R (n + 1) (upd wh n w) (upd rk n k) (vp_updL rv n v) (upd bg n b) := by
  intro i x hi hx
  by_cases z : i = n
  · subst z
    rw [hr] at hx
    cases hx
    rw [pk_us, pk_us, pk_us, pk_uLs]
    exact ⟨h1, h2, h3, h4⟩
  · rw [pk_un z, pk_un z, pk_un z, pk_uLn z]
    exact h i x (by omega) hx
theorem xm_rn_back {B : List xk_E} {R : List xs_R} {N : List xs_O} {wh rk : Nat → Int32} {rv : Nat → Int64} {bg : Nat → Int32} (h : xm_rt (xs_new B R N) wh rk rv bg) : xm_rt R wh rk rv bg := by
  intro i r hr
  exact h i r (by rw [xs_new, List.getElem?_append_left (List.getElem?_eq_some_iff.mp hr).1]; exact hr)
theorem xm_rt_st {R : List xs_R} {wh rk : Nat → Int32} {rv : Nat → Int64} {bg : Nat → Int32} (h : xm_rt R wh rk rv bg) : xs_st R bg := fun i r hr => (h i r hr).2.2.2
theorem xm_rt_nil (wh rk : Nat → Int32) (rv : Nat → Int64) (bg : Nat → Int32) : xm_rt [] wh rk rv bg := fun i r h => by simp at h
theorem xm_rt_take {R : List xs_R} {wh rk : Nat → Int32} {rv : Nat → Int64} {bg : Nat → Int32} (h : xm_rt R wh rk rv bg) (n : Nat) : xm_rt (R.take n) wh rk rv bg := by
  intro i r hr
  refine h i r ?_
  have hi := (List.getElem?_eq_some_iff.mp hr).1
  rw [List.length_take] at hi
  rw [List.getElem?_take_of_lt (by omega)] at hr
  exact hr
theorem xm_S_take (B : List xk_E) (R : List xs_R) {n i : Nat} (h : i ≤ n) : xs_S B (R.take n) i = xs_S B R i := by
  unfold xs_S
  rw [List.take_take, Nat.min_eq_left h]
theorem xm_sx_up {ST : List xs_O} {sw sk : Nat → Int32} {sv : Nat → Int64} (h : xm_sx ST sw sk sv) {o : xs_O} (ho : o.1 ≤ 1) : xm_sx (ST ++ [o]) (upd sw ST.length (nI o.1)) (upd sk ST.length o.2.1) (vp_updL sv ST.length o.2.2) := by
  intro i x hx
  rcases xs_app_at hx with ⟨h1, h2⟩ | ⟨h1, h2⟩
  · rw [pk_un (by omega), pk_un (by omega), pk_uLn (by omega)]
    exact h i x h2
  · subst h1; subst h2
    rw [pk_us, pk_us, pk_uLs]
    exact ⟨ho, rfl, rfl, rfl⟩
theorem xm_sx_take {ST : List xs_O} {sw sk : Nat → Int32} {sv : Nat → Int64} (h : xm_sx ST sw sk sv) {bt : Bool} (hb : bt = true) {o : xs_O} (ho : o.1 ≤ 1) {w k : Int32} {v : Int64} (hw : w = nI o.1) (hk : k = o.2.1) (hv : v = o.2.2) : xm_sx (xs_pS bt ST o) (if ST.length < 5 then upd sw ST.length w else sw) (if ST.length < 5 then upd sk ST.length k else sk) (if ST.length < 5 then vp_updL sv ST.length v else sv) := by
  unfold xs_pS
  rw [if_pos hb]
  by_cases z : ST.length < 5
  · simp only [z, if_true]
    rw [hw, hk, hv]
    exact xm_sx_up h ho
  · simp only [z, if_false]
    exact h
theorem xm_sx_nil (sw sk : Nat → Int32) (sv : Nat → Int64) : xm_sx [] sw sk sv := fun i o h => by simp at h
theorem xm_sx_w {ST : List xs_O} {sw sk : Nat → Int32} {sv : Nat → Int64} (hb : xm_sx ST sw sk sv) : ∀ o ∈ xs_N ST, o.1 ≤ 2 := by
  intro o ho
  rcases List.mem_append.mp ho with h | h
  · obtain ⟨i, hi⟩ := List.getElem?_of_mem h
    have := (hb i o hi).1; omega
  · rw [List.mem_singleton.mp h]; decide
theorem xm_mvj {α : Type} (f : Nat → α) {n j : Nat} (h : n ≤ j) : xw_mv f n (j - n) j = f j := by
  unfold xw_mv; rw [if_neg (by omega)]
theorem xm_mvu (f : Nat → Int32) {n j : Nat} (h : n ≤ j) : upd (xw_mv f n (j - n)) (j - n) (f j) = xw_mv f n (j + 1 - n) := by
  have := xw_mv_up f n (j - n)
  rw [show n + (j - n) = j from by omega, show j - n + 1 = j + 1 - n from by omega] at this
  exact this
theorem xm_mvuL (f : Nat → Int64) {n j : Nat} (h : n ≤ j) : vp_updL (xw_mv f n (j - n)) (j - n) (f j) = xw_mv f n (j + 1 - n) := by
  have := xw_mv_upL f n (j - n)
  rw [show n + (j - n) = j from by omega, show j - n + 1 = j + 1 - n from by omega] at this
  exact this
theorem xm_mbj (f : Nat → Int32) {n j : Nat} (h : n ≤ j) : xm_mb f n (j - n) j = f j := by
  unfold xm_mb; rw [if_neg (by omega)]
theorem xm_mbu (f : Nat → Int32) {n j : Nat} (h : n ≤ j) : upd (xm_mb f n (j - n)) (j - n) (f j - nI n) = xm_mb f n (j + 1 - n) := by
  have := xm_mb_up f n (j - n)
  rw [show n + (j - n) = j from by omega, show j - n + 1 = j + 1 - n from by omega] at this
  exact this
/-- the records of a change alone, counted anew -/
theorem xm_rt_fresh {B : List xk_E} {R : List xs_R} {N : List xs_O} {wh rk : Nat → Int32} {rv : Nat → Int64} {bg : Nat → Int32} (h : xm_rt (xs_new B R N) wh rk rv bg) {n : Nat} (hn : n = (xs_new B R N).length - R.length) : xm_rt (N.map (xs_rec 0)) (xw_mv wh R.length n) (xw_mv rk R.length n) (xw_mv rv R.length n) (xm_mb bg R.length n) := by
  rw [xs_new_len, Nat.add_sub_cancel_left] at hn
  subst hn
  intro i r hr
  rw [List.getElem?_map] at hr
  cases q : N[i]? with
  | none => rw [q] at hr; cases hr
  | some o =>
    rw [q] at hr
    have hi := (List.getElem?_eq_some_iff.mp q).1
    obtain ⟨a1, a2, a3, a4⟩ := h (R.length + i) _ (xs_new_at q)
    have hr := Option.some.inj hr
    subst hr
    unfold xw_mv xm_mb
    rw [if_pos hi, if_pos hi, if_pos hi, if_pos hi]
    refine ⟨a1, a2, a3, ?_⟩
    rw [a4]
    show nI R.length - nI R.length = nI 0
    rw [pk_sub (Nat.le_refl _), Nat.sub_self]
theorem xm_c0 {x : Int32} {n : Nat} (h : x < 0) : nI 0 = nI (xw_cl x n) := by rw [xw_cl, if_pos h]
theorem xm_c1 {x : Int32} {n : Nat} (hn : n < 2 ^ 31) (h0 : 0 ≤ x) (h : ¬ x ≤ nI n) : nI n = nI (xw_cl x n) := by
  rw [xw_cl, if_neg (xk_nlt2 h0)]
  obtain ⟨j, hj, rfl⟩ := nI_of (xk_nlt2 h0)
  rw [nI_leI hj hn] at h
  rw [nI_clamp hj, Nat.min_eq_left (by omega)]
theorem xm_c2 {x : Int32} {n : Nat} (hn : n < 2 ^ 31) (h0 : 0 ≤ x) (h : x ≤ nI n) : x = nI (xw_cl x n) := by
  rw [xw_cl, if_neg (xk_nlt2 h0)]
  obtain ⟨j, hj, rfl⟩ := nI_of (xk_nlt2 h0)
  rw [nI_leI hj hn] at h
  rw [nI_clamp hj, Nat.min_eq_right h]
theorem xm_cut1 {R : List xs_R} {rs : Nat → Int32} (h : xs_st R rs) {x : Int32} (hc : xw_cl x R.length < R.length) : rs (xw_cl x R.length) = nI (xs_cut R x) := by
  have := xs_cut_eq h x
  rw [if_pos hc] at this
  exact this
theorem xm_cut2 {R : List xs_R} {rs : Nat → Int32} (h : xs_st R rs) {x : Int32} (hc : ¬ xw_cl x R.length < R.length) : nI R.length = nI (xs_cut R x) := by
  have := xs_cut_eq h x
  rw [if_neg hc] at this
  exact this
theorem xg_o1 {a b : Prop} {da : Decidable a} {db : Decidable b} (g : a ∨ b) : nI 1 = xb_i (decide a || decide b) := by
  have : (decide a || decide b) = true := by simpa using g
  rw [this]; exact xb_t.symm
theorem xg_o0 {a b : Prop} {da : Decidable a} {db : Decidable b} (h : ¬ a) (g : ¬ b) : nI 0 = xb_i (decide a || decide b) := by
  have : (decide a || decide b) = false := by simp [h, g]
  rw [this]; exact xb_f.symm
theorem xg_m0 {a k : Int32} {y : Bool} (h : a = k) : nI 0 = xb_i (decide (a ≠ k) && y) := by
  have : decide (a ≠ k) = false := by simpa using h
  rw [this]; exact xb_f.symm
theorem xg_m1 {a k : Int32} {en : Bool} (he : en = true) (h : k < a) : nI 0 = xb_i (decide (a ≠ k) && !(en && decide (k < a))) := by
  have : (decide (a ≠ k) && !(en && decide (k < a))) = false := by rw [he, decide_eq_true h]; simp
  rw [this]; exact xb_f.symm
theorem xg_m2 {a k : Int32} {en : Bool} (h : ¬ a = k) (he : en = false) : nI 1 = xb_i (decide (a ≠ k) && !(en && decide (k < a))) := by
  have : (decide (a ≠ k) && !(en && decide (k < a))) = true := by rw [he]; simp [h]
  rw [this]; exact xb_t.symm
theorem xg_m3 {a k : Int32} {en : Bool} (h : ¬ a = k) (g : ¬ k < a) : nI 1 = xb_i (decide (a ≠ k) && !(en && decide (k < a))) := by
  have : (decide (a ≠ k) && !(en && decide (k < a))) = true := by rw [decide_eq_false g]; simp [h]
  rw [this]; exact xb_t.symm
theorem xm_ov1 {lim : Nat} {K : List xk_E} (h : 60 < K.length ∨ ¬ xd_pg K ≤ lim) : xs_bad lim K = true := by
  simp only [xs_bad, Bool.or_eq_true, decide_eq_true_eq]
  omega
theorem xm_ov0 {lim : Nat} {K : List xk_E} (h1 : ¬ 60 < K.length) (h2 : xd_pg K ≤ lim) : xs_bad lim K = false := by
  simp only [xs_bad, Bool.or_eq_false_iff, decide_eq_false_iff_not]
  omega
theorem xm_one {B : List xk_E} {R : List xs_R} {wh rk : Nat → Int32} {rv : Nat → Int64} {bg : Nat → Int32} (h : xm_rt R wh rk rv bg) (o : xs_O) {w k : Int32} {v : Int64} (hw : w = nI o.1) (hk : k = o.2.1) (hv : v = o.2.2) : xm_rt (xs_new B R [o]) (upd wh R.length w) (upd rk R.length k) (vp_updL rv R.length v) (upd bg R.length (nI R.length)) := by
  refine xm_rn_rt ?_
  rw [xs_new_len]
  exact xm_rn_up (xm_rn_new h [o]) (xs_new_at (i := 0) rfl) hw hk hv rfl
