/-! Pure: base, records, the state behind each record; what a change adds. -/
abbrev xs_O : Type := Nat × Int32 × Int64
abbrev xs_R : Type := Nat × Int32 × Int64 × Nat
def xs_ap (S : List xk_E) (r : xs_R) : List xk_E := if r.1 = 0 then xk_set S r.2.1 r.2.2.1 else if r.1 = 1 then xk_rem S r.2.1 else S
def xs_S (B : List xk_E) (R : List xs_R) (i : Nat) : List xk_E := (R.take i).foldl xs_ap B
def xs_V (lim : Nat) (K : List xk_E) : Prop := K.length ≤ 60 ∧ xd_pg K ≤ lim
def xs_rec (st : Nat) (o : xs_O) : xs_R := (o.1, o.2.1, o.2.2, st)
theorem xs_S_0 (B : List xk_E) (R : List xs_R) : xs_S B R 0 = B := by simp [xs_S]
theorem xs_S_succ {B : List xk_E} {R : List xs_R} {i : Nat} {r : xs_R} (h : R[i]? = some r) : xs_S B R (i + 1) = xs_ap (xs_S B R i) r := by
  unfold xs_S
  rw [xk_take h, List.foldl_append]
  rfl
theorem xs_S_app (B : List xk_E) (R N : List xs_R) {i : Nat} (h : i ≤ R.length) : xs_S B (R ++ N) i = xs_S B R i := by
  unfold xs_S
  rw [List.take_append_of_le_length h]
theorem xs_S_drop (B : List xk_E) (R : List xs_R) (n i : Nat) : xs_S (xs_S B R n) (R.drop n) i = xs_S B R (n + i) := by
  unfold xs_S
  rw [← List.foldl_append]
  congr 1
  rw [List.take_add]
/-- the numbers where a batch began play no part -/
theorem xs_S_st (B : List xk_E) (R : List xs_R) (n i : Nat) : xs_S B (R.map (fun r => (r.1, r.2.1, r.2.2.1, n))) i = xs_S B R i := by
  unfold xs_S
  rw [← List.map_take, List.foldl_map]
  rfl
theorem xs_ap_asc {S : List xk_E} (h : xk_asc S) (r : xs_R) : xk_asc (xs_ap S r) := by
  unfold xs_ap
  split
  · exact xk_asc_set h _ _
  · split
    · exact xk_asc_rem h _
    · exact h
theorem xs_S_asc {B : List xk_E} (h : xk_asc B) (R : List xs_R) (i : Nat) : xk_asc (xs_S B R i) := by
  unfold xs_S
  generalize R.take i = L
  induction L generalizing B with
  | nil => exact h
  | cons r t ih => exact ih (xs_ap_asc h r)
theorem xs_ap_len (S : List xk_E) (r : xs_R) : (xs_ap S r).length ≤ S.length + 1 := by
  unfold xs_ap
  split
  · rw [xk_set_len]; split <;> omega
  · split
    · rw [xk_rem_len]; split <;> omega
    · omega
theorem xs_ap_mark (S : List xk_E) {r : xs_R} (h : r.1 = 2) : xs_ap S r = S := by
  unfold xs_ap
  rw [if_neg (by omega), if_neg (by omega)]
/-- what the class keeps of a record: what its key had before -/
def xs_fm (S : List xk_E) (r : xs_R) : Int32 := if r.1 = 2 then nI 0 else if xk_has S r.2.1 then nI 2 else nI 1
def xs_fv (S : List xk_E) (r : xs_R) : Int64 := if r.1 = 2 then 0 else xk_get S r.2.1
def xs_ct (B : List xk_E) (R : List xs_R) (rk : Nat → Int32) (rv : Nat → Int64) (rm : Nat → Int32) : Prop := ∀ (i : Nat) (r : xs_R), R[i]? = some r → rk i = r.2.1 ∧ rm i = xs_fm (xs_S B R i) r ∧ rv i = xs_fv (xs_S B R i) r
def xs_st (R : List xs_R) (rs : Nat → Int32) : Prop := ∀ (i : Nat) (r : xs_R), R[i]? = some r → rs i = nI r.2.2.2
theorem xs_app_at {α : Type} {R : List α} {r x : α} {i : Nat} (h : (R ++ [r])[i]? = some x) : (i < R.length ∧ R[i]? = some x) ∨ (i = R.length ∧ x = r) := by
  by_cases z : i < R.length
  · rw [List.getElem?_append_left z] at h
    exact Or.inl ⟨z, h⟩
  · rw [List.getElem?_append_right (by omega)] at h
    have hi := (List.getElem?_eq_some_iff.mp h).1
    simp only [List.length_cons, List.length_nil] at hi
    have e : i - R.length = 0 := by omega
    rw [e] at h
    simp at h
    exact Or.inr ⟨by omega, h.symm⟩
theorem xs_ct_app {B : List xk_E} {R : List xs_R} {rk : Nat → Int32} {rv : Nat → Int64} {rm : Nat → Int32} (h : xs_ct B R rk rv rm) (r : xs_R) : xs_ct B (R ++ [r]) (upd rk R.length r.2.1) (vp_updL rv R.length (xs_fv (xs_S B R R.length) r)) (upd rm R.length (xs_fm (xs_S B R R.length) r)) := by
  intro i x hx
  rcases xs_app_at hx with ⟨h1, h2⟩ | ⟨h1, h2⟩
  · rw [pk_un (by omega), pk_un (by omega), pk_uLn (by omega), xs_S_app B R [r] (by omega)]
    exact h i x h2
  · subst h1; subst h2
    rw [pk_us, pk_us, pk_uLs, xs_S_app B R [x] (Nat.le_refl _)]
    exact ⟨rfl, rfl, rfl⟩
/-- taking a record back -/
theorem xs_undo {S : List xk_E} (hA : xk_asc S) (r : xs_R) (hr : r.1 ≤ 2) (hl : S.length ≤ 65) :
    (xs_fm S r = nI 2 ∧ xk_set (xs_ap S r) r.2.1 (xs_fv S r) = S) ∨ (xs_fm S r = nI 1 ∧ xk_rem (xs_ap S r) r.2.1 = S) ∨ (xs_fm S r = nI 0 ∧ xs_ap S r = S) := by
  unfold xs_fm xs_fv xs_ap
  by_cases c2 : r.1 = 2
  · refine Or.inr (Or.inr ⟨by rw [if_pos c2], ?_⟩)
    rw [if_neg (by omega), if_neg (by omega)]
  · rw [if_neg c2, if_neg c2]
    by_cases hk : xk_has S r.2.1 = true
    · refine Or.inl ⟨by rw [if_pos hk], ?_⟩
      by_cases c0 : r.1 = 0
      · rw [if_pos c0]; exact xk_un_ss _ hk
      · rw [if_neg c0, if_pos (by omega)]; exact xk_un_sr hA hk
    · have hk : xk_has S r.2.1 = false := by simpa using hk
      refine Or.inr (Or.inl ⟨by rw [hk]; rfl, ?_⟩)
      by_cases c0 : r.1 = 0
      · rw [if_pos c0]; exact xk_un_rs _ hk
      · rw [if_neg c0, if_pos (by omega), xk_rem_no hk, xk_rem_no hk]
/-- between calls -/
def xs_ok (lim : Nat) (B : List xk_E) (R : List xs_R) : Prop := xk_asc B ∧ B.length ≤ 60 ∧ R.length ≤ 64 ∧ (∀ i, i ≤ R.length → (xs_S B R i).length ≤ 65) ∧ (∀ (i : Nat) (r : xs_R), R[i]? = some r → r.1 ≤ 2 ∧ r.2.2.2 ≤ i ∧ xs_V lim (xs_S B R r.2.2.2)) ∧ xs_V lim (xs_S B R R.length)
def xs_new (B : List xk_E) (R : List xs_R) (N : List xs_O) : List xs_R := R ++ N.map (xs_rec R.length)
def xs_now (B : List xk_E) (R : List xs_R) : List xk_E := xs_S B R R.length
def xs_bad (lim : Nat) (K : List xk_E) : Bool := decide (60 < K.length) || decide (lim < xd_pg K)
/-- base and records behind a change that stays -/
def xs_B (B : List xk_E) (R : List xs_R) (N : List xs_O) : List xk_E := if 64 < R.length + N.length then xs_now B R else B
def xs_Q (B : List xk_E) (R : List xs_R) (N : List xs_O) : List xs_R := if 64 < R.length + N.length then N.map (xs_rec 0) else xs_new B R N
theorem xs_S_len {B : List xk_E} {R : List xs_R} {n : Nat} (h : (xs_S B R n).length ≤ 60) : ∀ m, m ≤ 5 → n + m ≤ R.length → (xs_S B R (n + m)).length ≤ 60 + m := by
  intro m
  induction m with
  | zero => intro _ _; exact h
  | succ m ih =>
    intro hm hn
    have hr : R[n + m]? = some R[n + m] := List.getElem?_eq_getElem (by omega)
    rw [show n + (m + 1) = (n + m) + 1 from rfl, xs_S_succ hr]
    have := xs_ap_len (xs_S B R (n + m)) R[n + m]
    have := ih (by omega) (by omega)
    omega
theorem xs_new_len (B : List xk_E) (R : List xs_R) (N : List xs_O) : (xs_new B R N).length = R.length + N.length := by simp [xs_new]
theorem xs_new_st {B : List xk_E} {R : List xs_R} {N : List xs_O} {i : Nat} {r : xs_R} (h : (xs_new B R N)[i]? = some r) : (i < R.length ∧ R[i]? = some r) ∨ (R.length ≤ i ∧ ∃ o, N[i - R.length]? = some o ∧ r = xs_rec R.length o) := by
  unfold xs_new at h
  by_cases z : i < R.length
  · rw [List.getElem?_append_left z] at h
    exact Or.inl ⟨z, h⟩
  · rw [List.getElem?_append_right (by omega), List.getElem?_map] at h
    cases q : N[i - R.length]? with
    | none => rw [q] at h; cases h
    | some o => rw [q] at h; exact Or.inr ⟨by omega, o, rfl, (Option.some.inj h).symm⟩
theorem xs_new_mid {lim : Nat} {B : List xk_E} {R : List xs_R} (h : xs_ok lim B R) {N : List xs_O} (hN : N.length ≤ 6) (hm : N.length = 6 → ∃ o, N[5]? = some o ∧ o.1 = 2) : ∀ i, i ≤ (xs_new B R N).length → (xs_S B (xs_new B R N) i).length ≤ 65 := by
  intro i hi
  rw [xs_new_len] at hi
  by_cases z : i ≤ R.length
  · rw [xs_new, xs_S_app B R _ z]
    exact h.2.2.2.1 i z
  · have h60 : (xs_S B (xs_new B R N) R.length).length ≤ 60 := by
      rw [xs_new, xs_S_app B R _ (Nat.le_refl _)]
      exact h.2.2.2.2.2.1
    by_cases z5 : i ≤ R.length + 5
    · have := xs_S_len h60 (i - R.length) (by omega) (by rw [xs_new_len]; omega)
      rw [show R.length + (i - R.length) = i from by omega] at this
      omega
    · have e : i = (R.length + 5) + 1 := by omega
      obtain ⟨o, ho, h2⟩ := hm (by omega)
      have hr : (xs_new B R N)[R.length + 5]? = some (xs_rec R.length o) := by
        rw [xs_new, List.getElem?_append_right (by omega), List.getElem?_map, show R.length + 5 - R.length = 5 from by omega, ho]
        rfl
      rw [e, xs_S_succ hr, xs_ap_mark _ (by exact h2)]
      have := xs_S_len h60 5 (by omega) (by rw [xs_new_len]; omega)
      omega
theorem xs_ok_add {lim : Nat} {B : List xk_E} {R : List xs_R} (h : xs_ok lim B R) {N : List xs_O} (hN : N.length ≤ 6) (hm : N.length = 6 → ∃ o, N[5]? = some o ∧ o.1 = 2) (hw : ∀ o ∈ N, o.1 ≤ 2) (hg : xs_bad lim (xs_now B (xs_new B R N)) = false) : xs_ok lim (xs_B B R N) (xs_Q B R N) := by
  have hmid := xs_new_mid h hN hm
  have hV : xs_V lim (xs_S B (xs_new B R N) (xs_new B R N).length) := by
    simp only [xs_bad, Bool.or_eq_false_iff, decide_eq_false_iff_not] at hg
    exact ⟨by have := hg.1; unfold xs_now at this; omega, by have := hg.2; unfold xs_now at this; omega⟩
  obtain ⟨h1, h2, h3, h4, h5, h6⟩ := h
  unfold xs_B xs_Q
  by_cases z : 64 < R.length + N.length
  · rw [if_pos z, if_pos z]
    have hd : N.map (xs_rec 0) = ((xs_new B R N).drop R.length).map (fun r => (r.1, r.2.1, r.2.2.1, 0)) := by
      simp [xs_new, xs_rec]
    have hS : ∀ i, xs_S (xs_now B R) (N.map (xs_rec 0)) i = xs_S B (xs_new B R N) (R.length + i) := by
      intro i
      rw [hd, xs_S_st, xs_now]
      have : xs_S B R R.length = xs_S B (xs_new B R N) R.length := by rw [xs_new, xs_S_app B R _ (Nat.le_refl _)]
      rw [this, xs_S_drop]
    have hlen : (N.map (xs_rec 0)).length = N.length := by simp
    refine ⟨xs_S_asc h1 R _, h6.1, by rw [hlen]; omega, ?_, ?_, ?_⟩
    · intro i hi
      rw [hlen] at hi
      rw [hS]
      exact hmid _ (by rw [xs_new_len]; omega)
    · intro i r hr
      rw [List.getElem?_map] at hr
      cases q : N[i]? with
      | none => rw [q] at hr; cases hr
      | some o =>
        rw [q] at hr
        have hr := Option.some.inj hr
        subst hr
        refine ⟨hw o (List.mem_of_getElem? q), Nat.zero_le _, ?_⟩
        show xs_V lim (xs_S (xs_now B R) (N.map (xs_rec 0)) 0)
        rw [xs_S_0]
        exact h6
    · rw [hS, hlen, ← xs_new_len B]
      exact hV
  · rw [if_neg z, if_neg z]
    refine ⟨h1, h2, by rw [xs_new_len]; omega, hmid, ?_, hV⟩
    intro i r hr
    rcases xs_new_st hr with ⟨a, b⟩ | ⟨a, o, b, c⟩
    · obtain ⟨c1, c2, c3⟩ := h5 i r b
      refine ⟨c1, c2, ?_⟩
      rw [xs_new, xs_S_app B R _ (by omega)]
      exact c3
    · subst c
      refine ⟨hw o (List.mem_of_getElem? b), a, ?_⟩
      show xs_V lim (xs_S B (xs_new B R N) R.length)
      rw [xs_new, xs_S_app B R _ (Nat.le_refl _)]
      exact h6
theorem xs_ok_flush {lim : Nat} {B : List xk_E} {R : List xs_R} (h : xs_ok lim B R) {n : Nat} (hV : xs_V lim (xs_S B R n)) : xs_ok lim (xs_S B R n) [] := by
  refine ⟨xs_S_asc h.1 R n, hV.1, Nat.zero_le _, ?_, fun i r hr => by simp at hr, ?_⟩
  · intro i hi
    have e : i = 0 := by simpa using hi
    subst e
    rw [xs_S_0]
    have := hV.1; omega
  · show xs_V lim (xs_S (xs_S B R n) [] 0)
    rw [xs_S_0]
    exact hV
