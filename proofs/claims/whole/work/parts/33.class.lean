/-! Pure: the class's arrays against base, records and steps. -/
def xs_cn (B : List xk_E) (R : List xs_R) (n : Nat) (rk : Nat → Int32) (rv : Nat → Int64) (rm : Nat → Int32) : Prop := ∀ (i : Nat) (r : xs_R), i < n → R[i]? = some r → rk i = r.2.1 ∧ rm i = xs_fm (xs_S B R i) r ∧ rv i = xs_fv (xs_S B R i) r
theorem xs_cn_ct {B : List xk_E} {R : List xs_R} {rk : Nat → Int32} {rv : Nat → Int64} {rm : Nat → Int32} (h : xs_cn B R R.length rk rv rm) : xs_ct B R rk rv rm := fun i r hr => h i r (List.getElem?_eq_some_iff.mp hr).1 hr
theorem xs_ct_cn {B : List xk_E} {R : List xs_R} {rk : Nat → Int32} {rv : Nat → Int64} {rm : Nat → Int32} (h : xs_ct B R rk rv rm) (n : Nat) : xs_cn B R n rk rv rm := fun i r _ hr => h i r hr
theorem xs_cn_new {B : List xk_E} {R : List xs_R} {rk : Nat → Int32} {rv : Nat → Int64} {rm : Nat → Int32} (h : xs_ct B R rk rv rm) (N : List xs_O) : xs_cn B (xs_new B R N) R.length rk rv rm := by
  intro i r hi hr
  rw [xs_new, xs_S_app B R _ (by omega)]
  rw [xs_new, List.getElem?_append_left hi] at hr
  exact h i r hr
theorem xs_cn_up {B : List xk_E} {R : List xs_R} {n : Nat} {rk : Nat → Int32} {rv : Nat → Int64} {rm : Nat → Int32} (h : xs_cn B R n rk rv rm) {r : xs_R} (hr : R[n]? = some r) {k fm : Int32} {fv : Int64} (h1 : k = r.2.1) (h2 : fm = xs_fm (xs_S B R n) r) (h3 : fv = xs_fv (xs_S B R n) r) : xs_cn B R (n + 1) (upd rk n k) (vp_updL rv n fv) (upd rm n fm) := by
  intro i x hi hx
  by_cases z : i = n
  · subst z
    rw [hr] at hx
    cases hx
    rw [pk_us, pk_us, pk_uLs]
    exact ⟨h1, h2, h3⟩
  · rw [pk_un z, pk_un z, pk_uLn z]
    exact h i x (by omega) hx
theorem xs_cn_U {B : List xk_E} {R : List xs_R} {n : Nat} {rk : Nat → Int32} {rv : Nat → Int64} {rm : Nat → Int32} (h : xs_cn B R n rk rv rm) (hA : xk_asc B) (hl : ∀ i, i ≤ R.length → (xs_S B R i).length ≤ 65) (hw : ∀ r ∈ R, r.1 ≤ 2) (hn : n ≤ R.length) : ∀ i, i < n → xw_U rk rv rm (xs_S B R) i := by
  intro i hi
  have hr : R[i]? = some R[i] := List.getElem?_eq_getElem (by omega)
  obtain ⟨a1, a2, a3⟩ := h i R[i] hi hr
  have hu := xs_undo (xs_S_asc hA R i) R[i] (hw _ (List.getElem_mem _)) (hl i (by omega))
  rw [← xs_S_succ hr] at hu
  unfold xw_U
  rw [a1, a2, a3]
  rcases hu with hu | hu | hu
  · exact Or.inl ⟨hu.1, hu.2, hl i (by omega)⟩
  · exact Or.inr (Or.inl hu)
  · exact Or.inr (Or.inr hu)
theorem xs_S_fresh (B : List xk_E) (R : List xs_R) (N : List xs_O) (i : Nat) : xs_S (xs_now B R) (N.map (xs_rec 0)) i = xs_S B (xs_new B R N) (R.length + i) := by
  have hd : N.map (xs_rec 0) = ((xs_new B R N).drop R.length).map (fun r => (r.1, r.2.1, r.2.2.1, 0)) := by
    simp [xs_new, xs_rec]
  rw [hd, xs_S_st, xs_now]
  have : xs_S B R R.length = xs_S B (xs_new B R N) R.length := by rw [xs_new, xs_S_app B R _ (Nat.le_refl _)]
  rw [this, xs_S_drop]
theorem xs_now_new (B : List xk_E) (R : List xs_R) (N : List xs_O) : xs_S B (xs_new B R N) R.length = xs_now B R := by rw [xs_new, xs_S_app B R _ (Nat.le_refl _)]; rfl
theorem xs_now_add (B : List xk_E) (R : List xs_R) (N : List xs_O) : xs_now (xs_B B R N) (xs_Q B R N) = xs_now B (xs_new B R N) := by
  unfold xs_B xs_Q
  split
  · rw [xs_now, xs_S_fresh, List.length_map, xs_now, xs_new_len]
  · rfl
theorem xs_Q_len (B : List xk_E) (R : List xs_R) (N : List xs_O) : (xs_Q B R N).length = if 64 < R.length + N.length then N.length else R.length + N.length := by
  unfold xs_Q
  split
  · rw [List.length_map]
  · exact xs_new_len B R N
/-- settling: the records of the change alone, or all -/
theorem xs_settle {B : List xk_E} {R : List xs_R} {N : List xs_O} {rk : Nat → Int32} {rv : Nat → Int64} {rm rs : Nat → Int32} {n : Nat} (hn : n = R.length + N.length) (h : xs_cn B (xs_new B R N) n rk rv rm) (hs : xs_st (xs_new B R N) rs) :
    xs_ct (xs_B B R N) (xs_Q B R N) (if 64 < n then xw_mv rk R.length (n - R.length) else rk) (if 64 < n then xw_mv rv R.length (n - R.length) else rv) (if 64 < n then xw_mv rm R.length (n - R.length) else rm) ∧ xs_st (xs_Q B R N) (if 64 < n then xm_mb rs R.length (n - R.length) else rs) := by
  subst hn
  unfold xs_B xs_Q
  by_cases z : 64 < R.length + N.length
  · simp only [z, if_true]
    rw [Nat.add_sub_cancel_left]
    have at' : ∀ (i : Nat) (r : xs_R), (N.map (xs_rec 0))[i]? = some r → i < N.length ∧ ∃ o, N[i]? = some o ∧ r = xs_rec 0 o ∧ (xs_new B R N)[R.length + i]? = some (xs_rec R.length o) := by
      intro i r hr
      rw [List.getElem?_map] at hr
      cases q : N[i]? with
      | none => rw [q] at hr; cases hr
      | some o =>
        rw [q] at hr
        refine ⟨(List.getElem?_eq_some_iff.mp q).1, o, rfl, (Option.some.inj hr).symm, ?_⟩
        rw [xs_new, List.getElem?_append_right (by omega), List.getElem?_map, Nat.add_sub_cancel_left, q]
        rfl
    constructor
    · intro i r hr
      obtain ⟨hi, o, ho, rfl, hx⟩ := at' i r hr
      obtain ⟨a1, a2, a3⟩ := h (R.length + i) _ (by omega) hx
      unfold xw_mv
      rw [if_pos hi, if_pos hi, if_pos hi, xs_S_fresh]
      exact ⟨a1, a2, a3⟩
    · intro i r hr
      obtain ⟨hi, o, ho, rfl, hx⟩ := at' i r hr
      have := hs _ _ hx
      unfold xm_mb
      rw [if_pos hi, this]
      show nI R.length - nI R.length = nI 0
      rw [pk_sub (Nat.le_refl _), Nat.sub_self]
  · simp only [z, if_false]
    refine ⟨?_, hs⟩
    rw [← xs_new_len B] at h
    exact xs_cn_ct h
def xs_bt (ST : List xs_O) (bp bk : Nat → Int32) (bv : Nat → Int64) : Prop := ∀ (i : Nat) (o : xs_O), ST[i]? = some o → o.1 ≤ 1 ∧ bp i = xb_i (decide (o.1 = 0)) ∧ bk i = o.2.1 ∧ bv i = o.2.2
/-- the class's arrays hold base, records and steps -/
def xs_CT (B : List xk_E) (R : List xs_R) (ST : List xs_O) (kf : Nat → Int32) (kg : Nat → Int64) (af bf rk : Nat → Int32) (rv : Nat → Int64) (rm rs bp bk : Nat → Int32) (bv : Nat → Int64) : Prop := xw_KT kf kg af bf (xs_now B R) ∧ xs_ct B R rk rv rm ∧ xs_st R rs ∧ xs_bt ST bp bk bv
theorem xs_bt_up {ST : List xs_O} {bp bk : Nat → Int32} {bv : Nat → Int64} (h : xs_bt ST bp bk bv) {o : xs_O} (ho : o.1 ≤ 1) : xs_bt (ST ++ [o]) (upd bp ST.length (xb_i (decide (o.1 = 0)))) (upd bk ST.length o.2.1) (vp_updL bv ST.length o.2.2) := by
  intro i x hx
  rcases xs_app_at hx with ⟨h1, h2⟩ | ⟨h1, h2⟩
  · rw [pk_un (by omega), pk_un (by omega), pk_uLn (by omega)]
    exact h i x h2
  · subst h1; subst h2
    rw [pk_us, pk_us, pk_uLs]
    exact ⟨ho, rfl, rfl, rfl⟩
theorem xs_st_new {B : List xk_E} {R : List xs_R} {N : List xs_O} {rs : Nat → Int32} (h1 : ∀ i r, i < R.length → R[i]? = some r → rs i = nI r.2.2.2) (h2 : ∀ i, R.length ≤ i → i < R.length + N.length → rs i = nI R.length) : xs_st (xs_new B R N) rs := by
  intro i r hr
  rcases xs_new_st hr with ⟨a, b⟩ | ⟨a, o, b, c⟩
  · exact h1 i r a b
  · subst c
    have := (List.getElem?_eq_some_iff.mp b).1
    exact h2 i a (by omega)
theorem xs_st_keep {R : List xs_R} {rs rs' : Nat → Int32} (h : xs_st R rs) (hk : ∀ j, j < R.length → rs' j = rs j) : xs_st R rs' := fun i r hr => by
  rw [hk i (List.getElem?_eq_some_iff.mp hr).1]; exact h i r hr
theorem xs_ct_keep {B : List xk_E} {R : List xs_R} {rk rk' : Nat → Int32} {rv rv' : Nat → Int64} {rm rm' : Nat → Int32} (h : xs_cn B (xs_new B R []) R.length rk rv rm) : True := trivial
theorem xs_cn_back {B : List xk_E} {R : List xs_R} {N : List xs_O} {n : Nat} {rk : Nat → Int32} {rv : Nat → Int64} {rm : Nat → Int32} (h : xs_cn B (xs_new B R N) n rk rv rm) (hn : R.length ≤ n) : xs_ct B R rk rv rm := by
  intro i r hr
  have hi := (List.getElem?_eq_some_iff.mp hr).1
  have := h i r (by omega) (by rw [xs_new, List.getElem?_append_left hi]; exact hr)
  rw [xs_new, xs_S_app B R _ (by omega)] at this
  exact this
theorem xs_new_w {B : List xk_E} {R : List xs_R} {lim : Nat} (hok : xs_ok lim B R) {N : List xs_O} (hw : ∀ o ∈ N, o.1 ≤ 2) : ∀ r ∈ xs_new B R N, r.1 ≤ 2 := by
  intro r hr
  obtain ⟨i, hi⟩ := List.getElem?_of_mem hr
  rcases xs_new_st hi with ⟨a, b⟩ | ⟨a, o, b, c⟩
  · exact (hok.2.2.2.2.1 i r b).1
  · subst c; exact hw o (List.mem_of_getElem? b)
theorem xs_new_at {B : List xk_E} {R : List xs_R} {N : List xs_O} {i : Nat} {o : xs_O} (h : N[i]? = some o) : (xs_new B R N)[R.length + i]? = some (xs_rec R.length o) := by
  rw [xs_new, List.getElem?_append_right (by omega), List.getElem?_map, Nat.add_sub_cancel_left, h]
  rfl
/-- how many records a crash leaves -/
def xs_cut (R : List xs_R) (x : Int32) : Nat := match R[xw_cl x R.length]? with
  | some r => r.2.2.2
  | none => R.length
theorem xs_cut_eq {R : List xs_R} {rs : Nat → Int32} (h : xs_st R rs) (x : Int32) : (if xw_cl x R.length < R.length then rs (xw_cl x R.length) else nI R.length) = nI (xs_cut R x) := by
  unfold xs_cut
  split
  · rename_i q
    have hr : R[xw_cl x R.length]? = some R[xw_cl x R.length] := List.getElem?_eq_getElem q
    rw [hr, h _ _ hr]
  · rename_i q
    rw [List.getElem?_eq_none (by omega)]
theorem xs_cut_le {lim : Nat} {B : List xk_E} {R : List xs_R} (hok : xs_ok lim B R) (x : Int32) : xs_cut R x ≤ R.length ∧ xs_V lim (xs_S B R (xs_cut R x)) := by
  unfold xs_cut
  cases q : R[xw_cl x R.length]? with
  | none => exact ⟨Nat.le_refl _, hok.2.2.2.2.2⟩
  | some r =>
    have := hok.2.2.2.2.1 _ r q
    have := (List.getElem?_eq_some_iff.mp q).1
    exact ⟨by show r.2.2.2 ≤ R.length; omega, (hok.2.2.2.2.1 _ r q).2.2⟩
theorem xw_atE {K : List xk_E} {j : Nat} (hj : j < 2 ^ 31) (h : (xo_pls K 64).length ≤ j) : (-1) = xo_at K (nI j) := by
  rw [xo_at_miss]
  intro i hi q
  rw [nI_eq hj (by have := xo_pls_le K 64; omega)] at q
  omega
