/-! The law: what holds between two calls; a theorem a case. (printed by law.py) -/
def xl_I (D : va_G) (qc : Nat → Nat) (ca : Nat → ClassId) (qm : Nat → Nat) (cm : Nat → ClassId) (lm : Nat) (H : Heap) : Prop := ∃ (B0 : List xk_E) (R0 : List xs_R) (bt : Bool) (ST SM : List xs_O) (kf : Nat → Int32) (kg : Nat → Int64) (af : Nat → Int32) (bf : Nat → Int32) (rk : Nat → Int32) (rv : Nat → Int64) (rm : Nat → Int32) (rs : Nat → Int32) (bp : Nat → Int32) (bk : Nat → Int32) (bv : Nat → Int64) (mbk : Nat → Int32) (mbv : Nat → Int64) (mwh : Nat → Int32) (mrk : Nat → Int32) (mrv : Nat → Int64) (mbg : Nat → Int32) (msw : Nat → Int32) (msk : Nat → Int32) (msv : Nat → Int64) (mkp : Int32) (mky : Nat → Int32) (mvl : Nat → Int64), va_P D zz_cl (xw_C qc ca (nI lm) kf kg (nI (xs_now B0 R0).length) af bf rk rv rm rs (nI R0.length) bp bk bv (xb_i bt) (nI ST.length)) H ∧ va_P D zz_cl (xw_M qm cm (nI lm) (nI B0.length) mbk mbv (nI R0.length) mwh mrk mrv mbg (xb_i bt) (nI SM.length) msw msk msv mkp mky mvl) H ∧ xs_CT B0 R0 ST kf kg af bf rk rv rm rs bp bk bv ∧ xm_MT B0 R0 SM mbk mbv mwh mrk mrv mbg msw msk msv ∧ xs_ok lm B0 R0 ∧ ST.length ≤ 5 ∧ SM.length ≤ 5 ∧ (bt = true → ST = SM)
/-- what stays through the law's loop -/
def xl_X (pJ : Program) (s : State) (mJ : MethodId) (cJ : Code) (b L : Nat) (xs : Nat → Int32) (A : Nat → Prop) (D : va_G) (qc : Nat → Nat) (ca : Nat → ClassId) (qm : Nat → Nat) (cm : Nat → ClassId) (lm : Nat) : Prop :=
  pJ.tables.exec = Jvm.exec ∧ cJ.code = code ∧ cJ.maxLocals = 4 ∧ s.vm.findClass R_L = some mJ.cls ∧ (∀ w ∈ (Cond.initialized R_L :: zt), w.before #[Value.ref b] s = true) ∧ zN s ∧ va_X b L xs s s.heap ∧ b < s.heap.size ∧ (¬ A b) ∧ (∀ q, s.heap.size ≤ q → A q) ∧ va_K D zz_cl (xw_tC ca) s ∧ va_K D zz_cl (xw_tM cm) s ∧ va_D A (xw_C qc ca (nI 0) (fun _ => 0) (fun _ => 0) (nI 0) (fun _ => 0) (fun _ => 0) (fun _ => 0) (fun _ => 0) (fun _ => 0) (fun _ => 0) (nI 0) (fun _ => 0) (fun _ => 0) (fun _ => 0) (nI 0) (nI 0)) ∧ va_D A (xw_M qm cm (nI 0) (nI 0) (fun _ => 0) (fun _ => 0) (nI 0) (fun _ => 0) (fun _ => 0) (fun _ => 0) (fun _ => 0) (nI 0) (nI 0) (fun _ => 0) (fun _ => 0) (fun _ => 0) (nI 0) (fun _ => 0) (fun _ => 0)) ∧ (∀ a ∈ ([qc 0, qc 1, qc 2, qc 3, qc 4, qc 5, qc 6, qc 7, qc 8, qc 9, qc 10, qc 11, qc 12, qc 13, qc 14, qc 15] : List Nat), a ∉ ([qm 0, qm 1, qm 2, qm 3, qm 4, qm 5, qm 6, qm 7, qm 8, qm 9, qm 10, qm 11] : List Nat)) ∧ L ≤ 2049 ∧ lm ≤ 200
theorem xl_keep {D : va_G} {cl : List vw_C} {wc wm : va_W} {H H1 : Heap} (hPm : va_P D cl wm H) (hdis : ∀ a ∈ wc.map Prod.fst, a ∉ wm.map Prod.fst) (hk : ∀ q : Nat, q < H.size → ¬ va_A wc H.size q → H1[q]? = H[q]?) : va_P D cl wm H1 := by
  refine hPm.kept (fun k q hq => hk q.1 (hPm k q hq).lt (fun h => ?_))
  rcases h with ⟨k2, e, h⟩ | h
  · refine hdis q.1 ?_ ?_
    · exact List.mem_map.mpr ⟨(q.1, e), List.mem_of_getElem? h, rfl⟩
    · exact List.mem_map.mpr ⟨q, List.mem_of_getElem? hq, rfl⟩
  · have := (hPm k q hq).lt
    omega
theorem xl_sw {a c : List Nat} (h : ∀ x ∈ a, x ∉ c) : ∀ x ∈ c, x ∉ a := fun x hx hy => h x hy hx
theorem xl_sld {p : Program} {l : Launch} {e : Env} {R : Room} {s : State} {m : MethodId} {args : Array Value} {below : List Frame} {meth : Method} {c : Code} {H : Heap} {locs : List Loc} {cells slots : Nat} {Q : State → Prop} {cc : ByteArray} {pc : Nat} {ls : Array Slot} {rest : List Value} {A : Nat → Prop} {H0 : Heap} (hexec : p.tables.exec = Jvm.exec) (hb : c.code = cc) {b L : Nat} {xs : Nat → Int32} (hX : va_X b L xs s H0) (hbl : b < H0.size) (hbA : ¬ A b) (hS : va_S A H0 H locs) {k : Nat} (hk : k < L) (hL : L < 2 ^ 31) (hdg : decode cc pc = .ok (.iaload, 1))
    (kk : W p l e R s m args below meth c H locs cells slots Q (F0 m (pc + 1) ls (.int (xs k) :: rest))) : W p l e R s m args below meth c H locs cells slots Q (F0 m pc ls (.int (nI k) :: .ref b :: rest)) := by
  refine va_sld hexec hb hX hbl hbA hS (vp_in_nI hk hL) hdg ?_
  rw [nI_clamp (by omega)]
  exact kk
theorem xl_ok_p {lm : Nat} {B : List xk_E} {R : List xs_R} (hok : xs_ok lm B R) (bt : Bool) {N : List xs_O} (hN : N.length ≤ 6) (hm : N.length = 6 → ∃ o, N[5]? = some o ∧ o.1 = 2) (hw : ∀ o ∈ N, o.1 ≤ 2) : xs_ok lm (xs_pB lm B R bt N) (xs_pR lm B R bt N) := by
  unfold xs_pB xs_pR
  by_cases z : bt = true ∨ xs_bad lm (xs_now B (xs_new B R N)) = true
  · rw [if_pos z, if_pos z]; exact hok
  · rw [if_neg z, if_neg z]
    refine xs_ok_add hok hN hm hw ?_
    cases q : xs_bad lm (xs_now B (xs_new B R N)) with
    | true => exact absurd (Or.inr q) z
    | false => rfl
theorem xl_ok_d {lm : Nat} {B : List xk_E} {R : List xs_R} (hok : xs_ok lm B R) (bt : Bool) (k : Int32) : xs_ok lm (xs_dB B R bt k) (xs_dR B R bt k) := by
  unfold xs_dB xs_dR
  by_cases z : bt = true ∨ xk_has (xs_now B R) k = false
  · rw [if_pos z, if_pos z]; exact hok
  · rw [if_neg z, if_neg z]
    exact xs_ok_add hok (by simp) (fun q => by simp at q) (fun o ho => by rw [List.mem_singleton.mp ho]; exact (by decide : (1 : Nat) ≤ 2)) (xs_rem_ok hok k)
theorem xl_ok_c {lm : Nat} {B : List xk_E} {R : List xs_R} (hok : xs_ok lm B R) (bt : Bool) {ST : List xs_O} (hst : ST.length ≤ 5) (hw : ∀ o ∈ xs_N ST, o.1 ≤ 2) : xs_ok lm (if bt = true then xs_pB lm B R false (xs_N ST) else B) (if bt = true then xs_pR lm B R false (xs_N ST) else R) := by
  by_cases z : bt = true
  · rw [if_pos z, if_pos z]; exact xl_ok_p hok false (xs_N_six hst).1 (xs_N_six hst).2 hw
  · rw [if_neg z, if_neg z]; exact hok
theorem xl_pS5 {bt : Bool} {ST : List xs_O} (h : ST.length ≤ 5) (o : xs_O) : (xs_pS bt ST o).length ≤ 5 := by
  unfold xs_pS
  split
  · split
    · rw [List.length_append]; simp; omega
    · exact h
  · exact h
theorem xl_i5 {bt : Bool} {ST ST' : List xs_O} (h : ST.length ≤ 5) (h' : ST'.length ≤ 5) : (if bt = true then ST else ST').length ≤ 5 := by split; exact h; exact h'
theorem xl_end {L i : Nat} (hL : L ≤ 2049) (hi : i ≤ 4000) : nI L - nI 4 < nI i ↔ L < i + 4 := by
  rw [Int32.lt_iff_toInt_lt, pk_sub_toInt (by omega) (by omega), nI_toInt (by omega)]
  omega
set_option maxHeartbeats 4000000 in
theorem c_L_cell (l : Launch) (b L : Nat) (xs : Nat → Int32) (hL : L ≤ 2049) : Met l y_L_cell zw_L_cell ({ frames := 0, cells := 0, slots := 0, locals := 0 } : Room) (va_Pc [.ref b, .int (nI 0)] (fun U => va_X b L xs U U.heap ∧ b < U.heap.size)) (vp_Si (fun r : Int32 => r = (if 0 < L then xs 0 else 0))) 0 0 (fun _ => False) := by
  refine Met.ofW (cc := b_L_cell) (maxL := 2) (ret := (some .int)) (by decide) rfl ?_
  intro pJ eJ s mJ args below meth cJ s₁ B hml hv
  obtain ⟨rfl, hX, hbl⟩ := hv
  have hx := B.exec
  have hb := B.bytes
  have hr := B.returns
  have hlocks := B.notSynchronized
  have hS : va_S (fun _ => False) s.heap s.heap [] := va_S.rf
  have hl := lv_entry ([.ref b, .int (nI 0)]) (n := 2) (Nat.le_of_ble_eq_true rfl)
  rw [lg_entry_eq]
  generalize (lg_sl ([.ref b, .int (nI 0)]) ++ List.replicate (2 - (lg_sl ([.ref b, .int (nI 0)])).length) Slot.unset).toArray = ls at hl ⊢
  have hl : lv_has ls 2 [(0, .ref b), (1, .int (nI 0))] := hl
  refine lv_iload_n hx hb d_L_cell_0 rfl (lv_at hl 1 rfl) ?_
  refine lv_aload_n hx hb d_L_cell_1 rfl (lv_at hl 0 rfl) ?_
  refine va_slen hx hb hX hbl (fun h => h) hS d_L_cell_2 ?_
  refine lv_icmp_ge (tgt := 12) hx hb d_L_cell_3 (by decide) (fun hc => ?_) (fun hc => ?_)
  · have hc := (nI_leI (a := L) (b := 0) (by omega) (by omega)).mp hc
    refine lv_iconst (v := 0) hx hb d_L_cell_12 (by decide +kernel) ?_
    exact W.iret (v := 0) hx hb hr (fun tJ htJ hWJ => ⟨_, rfl, by rw [if_neg (by omega)], htJ⟩) (fun _ h => by cases h) d_L_cell_13
  · have hc : ¬ L ≤ 0 := fun q => hc ((nI_leI (a := L) (b := 0) (by omega) (by omega)).mpr q)
    refine lv_aload_n hx hb d_L_cell_6 rfl (lv_at hl 0 rfl) ?_
    refine lv_iload_n hx hb d_L_cell_7 rfl (lv_at hl 1 rfl) ?_
    refine xl_sld hx hb hX hbl (fun h => h) hS (k := 0) (by omega) (by omega) d_L_cell_8 ?_
    refine lv_goto (tgt := 13) hx hb d_L_cell_9 (by decide) ?_
    exact W.iret (v := xs 0) hx hb hr (fun tJ htJ hWJ => ⟨_, rfl, by rw [if_pos (by omega)], htJ⟩) (fun _ h => by cases h) d_L_cell_13
