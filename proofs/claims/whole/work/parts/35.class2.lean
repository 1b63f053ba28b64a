/-! Pure: what a call leaves of base, records and steps; the class's arrays behind it. -/
def xs_pB (lm : Nat) (B : List xk_E) (R : List xs_R) (bt : Bool) (N : List xs_O) : List xk_E := if bt = true ∨ xs_bad lm (xs_now B (xs_new B R N)) = true then B else xs_B B R N
def xs_pR (lm : Nat) (B : List xk_E) (R : List xs_R) (bt : Bool) (N : List xs_O) : List xs_R := if bt = true ∨ xs_bad lm (xs_now B (xs_new B R N)) = true then R else xs_Q B R N
def xs_pS (bt : Bool) (ST : List xs_O) (o : xs_O) : List xs_O := if bt = true then (if ST.length < 5 then ST ++ [o] else ST) else ST
def xs_dB (B : List xk_E) (R : List xs_R) (bt : Bool) (k : Int32) : List xk_E := if bt = true ∨ xk_has (xs_now B R) k = false then B else xs_B B R [(1, k, 0)]
def xs_dR (B : List xk_E) (R : List xs_R) (bt : Bool) (k : Int32) : List xs_R := if bt = true ∨ xk_has (xs_now B R) k = false then R else xs_Q B R [(1, k, 0)]
theorem xs_pS_len {bt : Bool} (h : bt = true) (ST : List xs_O) (o : xs_O) : (xs_pS bt ST o).length = if ST.length < 5 then ST.length + 1 else ST.length := by
  unfold xs_pS
  rw [if_pos h]
  split <;> simp
theorem xs_pS_no {bt : Bool} (h : bt = false) (ST : List xs_O) (o : xs_O) : xs_pS bt ST o = ST := by
  subst h; rfl
theorem xs_C_take {B : List xk_E} {R : List xs_R} {ST : List xs_O} {kf : Nat → Int32} {kg : Nat → Int64} {af bf rk : Nat → Int32} {rv : Nat → Int64} {rm rs bp bk : Nat → Int32} {bv : Nat → Int64} (h : xs_CT B R ST kf kg af bf rk rv rm rs bp bk bv) {bt : Bool} (hb : bt = true) {o : xs_O} (ho : o.1 ≤ 1) {b : Bool} (hbo : b = decide (o.1 = 0)) {k : Int32} (hk : k = o.2.1) {v : Int64} (hv : v = o.2.2) :
    xs_CT B R (xs_pS bt ST o) kf kg af bf rk rv rm rs (if ST.length < 5 then upd bp ST.length (xb_i b) else bp) (if ST.length < 5 then upd bk ST.length k else bk) (if ST.length < 5 then vp_updL bv ST.length v else bv) := by
  refine ⟨h.1, h.2.1, h.2.2.1, ?_⟩
  unfold xs_pS
  rw [if_pos hb]
  by_cases z : ST.length < 5
  · simp only [z, if_true]
    rw [hbo, hk, hv]
    exact xs_bt_up h.2.2.2 ho
  · simp only [z, if_false]
    exact h.2.2.2
theorem xs_one_S (B : List xk_E) (R : List xs_R) (o : xs_O) : xs_S B (xs_new B R [o]) (R.length + 1) = xs_ap (xs_now B R) (xs_rec R.length o) := by
  rw [xs_S_succ (xs_new_at (i := 0) rfl)]
  show xs_ap (xs_S B (xs_new B R [o]) R.length) _ = _
  rw [xs_now_new]
theorem xs_one_now (B : List xk_E) (R : List xs_R) (o : xs_O) : xs_now B (xs_new B R [o]) = xs_S B (xs_new B R [o]) (R.length + 1) := by
  rw [xs_now, xs_new_len]; rfl
/-- one record written: its key's former value -/
theorem xs_one_cn {B : List xk_E} {R : List xs_R} {rk : Nat → Int32} {rv : Nat → Int64} {rm : Nat → Int32} (h : xs_ct B R rk rv rm) {o : xs_O} (ho : o.1 ≤ 1) {k : Int32} (hk : k = o.2.1) : xs_cn B (xs_new B R [o]) (R.length + 1) (upd rk R.length k) (vp_updL rv R.length (xk_get (xs_now B R) k)) (upd rm R.length (xw_fo (xk_has (xs_now B R) k))) := by
  subst hk
  have hne : ¬ o.1 = 2 := by omega
  refine xs_cn_up (xs_cn_new h [o]) (xs_new_at (i := 0) rfl) rfl ?_ ?_
  · rw [xs_now_new]
    simp only [xs_fm, xs_rec, hne, if_false, xw_fo]
    rfl
  · rw [xs_now_new]
    simp only [xs_fv, xs_rec, hne, if_false]
theorem xs_one_st {B : List xk_E} {R : List xs_R} {rs : Nat → Int32} (h : xs_st R rs) (o : xs_O) : xs_st (xs_new B R [o]) (upd rs R.length (nI R.length)) := by
  refine xs_st_new (fun i r hi hr => ?_) (fun i h1 h2 => ?_)
  · rw [pk_un (by omega)]; exact h i r hr
  · have : i = R.length := by simp at h2; omega
    subst this
    rw [pk_us]
theorem xs_one_U {lm : Nat} {B : List xk_E} {R : List xs_R} (hok : xs_ok lm B R) {o : xs_O} (ho : o.1 ≤ 1) {rk : Nat → Int32} {rv : Nat → Int64} {rm : Nat → Int32} (h : xs_cn B (xs_new B R [o]) (R.length + 1) rk rv rm) : ∀ i, R.length ≤ i → i < R.length + 1 → xw_U rk rv rm (xs_S B (xs_new B R [o])) i := by
  intro i _ hi
  refine xs_cn_U h hok.1 (xs_new_mid hok (by simp) (fun q => by simp at q)) (xs_new_w hok (fun x hx => ?_)) (by rw [xs_new_len]; simp) i hi
  rw [List.mem_singleton.mp hx]; omega
theorem xs_C_back {B : List xk_E} {R : List xs_R} {ST : List xs_O} {kf : Nat → Int32} {kg : Nat → Int64} {af bf rk : Nat → Int32} {rv : Nat → Int64} {rm rs bp bk : Nat → Int32} {bv : Nat → Int64} {N : List xs_O} {n : Nat} (hT : xw_KT kf kg af bf (xs_S B (xs_new B R N) R.length)) (hcn : xs_cn B (xs_new B R N) n rk rv rm) (hn : R.length ≤ n) (hs : xs_st R rs) (hb : xs_bt ST bp bk bv) : xs_CT B R ST kf kg af bf rk rv rm rs bp bk bv := by
  rw [xs_now_new] at hT
  exact ⟨hT, xs_cn_back hcn hn, hs, hb⟩
theorem xs_C_stay {B : List xk_E} {R : List xs_R} {ST : List xs_O} {kf : Nat → Int32} {kg : Nat → Int64} {af bf rk : Nat → Int32} {rv : Nat → Int64} {rm rs bp bk : Nat → Int32} {bv : Nat → Int64} {N : List xs_O} {n : Nat} (hn : n = R.length + N.length) (hT : xw_KT kf kg af bf (xs_now B (xs_new B R N))) (hcn : xs_cn B (xs_new B R N) n rk rv rm) (hs : xs_st (xs_new B R N) rs) (hb : xs_bt ST bp bk bv) :
    xs_CT (xs_B B R N) (xs_Q B R N) ST kf kg af bf (if 64 < n then xw_mv rk R.length (n - R.length) else rk) (if 64 < n then xw_mv rv R.length (n - R.length) else rv) (if 64 < n then xw_mv rm R.length (n - R.length) else rm) (if 64 < n then xm_mb rs R.length (n - R.length) else rs) bp bk bv := by
  obtain ⟨h1, h2⟩ := xs_settle hn hcn hs
  exact ⟨by rw [xs_now_add]; exact hT, h1, h2, hb⟩
theorem xs_rem_ok {lm : Nat} {B : List xk_E} {R : List xs_R} (hok : xs_ok lm B R) (k : Int32) : xs_bad lm (xs_now B (xs_new B R [(1, k, 0)])) = false := by
  have h := hok.2.2.2.2.2
  have e : xs_now B (xs_new B R [(1, k, 0)]) = xk_rem (xs_now B R) k := by
    rw [xs_one_now, xs_one_S]; rfl
  rw [e]
  have h1 := xd_pg_rem (xs_now B R) k
  have h2 := xk_rem_len (xs_now B R) k
  have h3 : (xs_now B R).length ≤ 60 ∧ xd_pg (xs_now B R) ≤ lm := h
  simp only [xs_bad, Bool.or_eq_false_iff, decide_eq_false_iff_not]
  refine ⟨?_, by omega⟩
  rw [h2]
  split <;> omega
theorem xs_bt_nil (bp bk : Nat → Int32) (bv : Nat → Int64) : xs_bt [] bp bk bv := fun i o h => by simp at h
theorem xs_now_nil (B : List xk_E) : xs_now B [] = B := by simp [xs_now, xs_S]
theorem xs_C_cut {B : List xk_E} {R : List xs_R} {kf : Nat → Int32} {kg : Nat → Int64} {af bf rk : Nat → Int32} {rv : Nat → Int64} {rm rs bp bk : Nat → Int32} {bv : Nat → Int64} {n : Nat} {ST : List xs_O} (hT : xw_KT kf kg af bf (xs_S B R n)) (hb : xs_bt ST bp bk bv) : xs_CT (xs_S B R n) [] ST kf kg af bf rk rv rm rs bp bk bv := by
  refine ⟨by rw [xs_now_nil]; exact hT, fun i r h => by simp at h, fun i r h => by simp at h, hb⟩
/-- the records of a batch: its steps and the record that ends it -/
def xs_N (ST : List xs_O) : List xs_O := ST ++ [(2, 0, 0)]
theorem xs_N_len (ST : List xs_O) : (xs_N ST).length = ST.length + 1 := by simp [xs_N]
theorem xs_N_at {ST : List xs_O} {i : Nat} {o : xs_O} (h : ST[i]? = some o) : (xs_N ST)[i]? = some o := by
  unfold xs_N
  rw [List.getElem?_append_left (List.getElem?_eq_some_iff.mp h).1]; exact h
theorem xs_N_last (ST : List xs_O) : (xs_N ST)[ST.length]? = some (2, 0, 0) := by simp [xs_N]
theorem xs_N_six {ST : List xs_O} (h : ST.length ≤ 5) : (xs_N ST).length ≤ 6 ∧ ((xs_N ST).length = 6 → ∃ o, (xs_N ST)[5]? = some o ∧ o.1 = 2) := by
  rw [xs_N_len]
  refine ⟨by omega, fun q => ⟨(2, 0, 0), ?_, rfl⟩⟩
  have := xs_N_last ST
  rwa [show ST.length = 5 from by omega] at this
theorem xs_N_w {ST : List xs_O} {bp bk : Nat → Int32} {bv : Nat → Int64} (hb : xs_bt ST bp bk bv) : ∀ o ∈ xs_N ST, o.1 ≤ 2 := by
  intro o ho
  rcases List.mem_append.mp ho with h | h
  · obtain ⟨i, hi⟩ := List.getElem?_of_mem h
    have := (hb i o hi).1; omega
  · rw [List.mem_singleton.mp h]; decide
theorem xs_N_now (B : List xk_E) (R : List xs_R) (ST : List xs_O) : xs_now B (xs_new B R (xs_N ST)) = xs_S B (xs_new B R (xs_N ST)) (R.length + ST.length) := by
  rw [xs_now, xs_new_len, xs_N_len]
  show xs_S B (xs_new B R (xs_N ST)) (R.length + ST.length + 1) = _
  rw [xs_S_succ (xs_new_at (xs_N_last ST)), xs_ap_mark _ rfl]
theorem xs_N_cn {B : List xk_E} {R : List xs_R} {ST : List xs_O} {rk : Nat → Int32} {rv : Nat → Int64} {rm : Nat → Int32} (h : xs_cn B (xs_new B R (xs_N ST)) (R.length + ST.length) rk rv rm) : xs_cn B (xs_new B R (xs_N ST)) (R.length + ST.length + 1) (upd rk (R.length + ST.length) (nI 0)) (vp_updL rv (R.length + ST.length) 0) (upd rm (R.length + ST.length) (nI 0)) := by
  refine xs_cn_up h (xs_new_at (xs_N_last ST)) ?_ ?_ ?_
  · show nI 0 = 0
    decide
  · simp [xs_fm, xs_rec]
  · simp [xs_fv, xs_rec]
theorem xs_N_st {B : List xk_E} {R : List xs_R} {ST : List xs_O} {rs rs' : Nat → Int32} (h : xs_st R rs) (hk : ∀ j, j < R.length → rs' j = rs j) : xs_st (xs_new B R (xs_N ST)) (xw_fi (upd rs' (R.length + ST.length) (nI (R.length + ST.length))) R.length (R.length + ST.length + 1) (nI R.length)) := by
  refine xs_st_new (fun i r hi hr => ?_) (fun i h1 h2 => ?_)
  · unfold xw_fi
    rw [if_neg (by omega), pk_un (by omega), hk i hi]; exact h i r hr
  · rw [xs_N_len] at h2
    unfold xw_fi
    rw [if_pos (by omega)]
theorem xs_N_U {lm : Nat} {B : List xk_E} {R : List xs_R} (hok : xs_ok lm B R) {ST : List xs_O} (hst : ST.length ≤ 5) {bp bk : Nat → Int32} {bv : Nat → Int64} (hb : xs_bt ST bp bk bv) {rk : Nat → Int32} {rv : Nat → Int64} {rm : Nat → Int32} (h : xs_cn B (xs_new B R (xs_N ST)) (R.length + ST.length) rk rv rm) : ∀ i, R.length ≤ i → i < R.length + ST.length → xw_U rk rv rm (xs_S B (xs_new B R (xs_N ST))) i := by
  intro i _ hi
  refine xs_cn_U h hok.1 (xs_new_mid hok (xs_N_six hst).1 (xs_N_six hst).2) (xs_new_w hok (xs_N_w hb)) (by rw [xs_new_len, xs_N_len]; omega) i hi
theorem xs_Q_one (B : List xk_E) (R : List xs_R) (o : xs_O) : (if 64 < R.length + 1 then (R.length + 1 - R.length) else R.length + 1) = (xs_Q B R [o]).length := by
  rw [xs_Q_len, Nat.add_sub_cancel_left]; rfl
theorem xs_Q_N (B : List xk_E) (R : List xs_R) (ST : List xs_O) : (if 64 < R.length + ST.length + 1 then (R.length + ST.length + 1 - R.length) else R.length + ST.length + 1) = (xs_Q B R (xs_N ST)).length := by
  rw [xs_Q_len, xs_N_len, Nat.add_assoc, Nat.add_sub_cancel_left]
theorem xs_ok_w {lm : Nat} {B : List xk_E} {R : List xs_R} (hok : xs_ok lm B R) : ∀ r ∈ R, r.1 ≤ 2 := by
  intro r hr
  obtain ⟨i, hi⟩ := List.getElem?_of_mem hr
  exact (hok.2.2.2.2.1 i r hi).1
