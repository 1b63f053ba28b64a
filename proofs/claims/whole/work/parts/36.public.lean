/-! Walks: specs_e (printed by run.py) -/
set_option maxHeartbeats 4000000 in
set_option maxRecDepth 100000 in
theorem c_E_put (l : Launch) (D : va_G) (q : Nat → Nat) (cA : Nat → ClassId) (kf : Nat → Int32) (kg : Nat → Int64) (af : Nat → Int32) (bf : Nat → Int32) (rk : Nat → Int32) (rv : Nat → Int64) (rm : Nat → Int32) (rs : Nat → Int32) (bp : Nat → Int32) (bk : Nat → Int32) (bv : Nat → Int64) (sz : Nat) (lm : Nat) (B0 : List xk_E) (R0 : List xs_R) (bt : Bool) (ST : List xs_O) (k : Int32) (v : Int64) (hC : xs_CT B0 R0 ST kf kg af bf rk rv rm rs bp bk bv) (hok : xs_ok lm B0 R0) (hlm : lm ≤ 200) (hst : ST.length ≤ 5) : Met l y_E_put zw_E_put ({ frames := 6, cells := 0, slots := 0, locals := 131 } : Room) (va_Pc [.ref (q 0), .int k, .long v] (xp_Q D zz_cl (xw_tC cA) sz (xw_C q cA (nI lm) kf kg (nI (xs_now B0 R0).length) af bf rk rv rm rs (nI R0.length) bp bk bv (xb_i bt) (nI ST.length)))) (va_Qi (fun (r : Int32) (u : (Nat → Int32) × (Nat → Int64) × (Nat → Int32) × (Nat → Int32) × (Nat → Int32) × (Nat → Int64) × (Nat → Int32) × (Nat → Int32) × (Nat → Int32) × (Nat → Int32) × (Nat → Int64)) => r = (if bt = true then (if ST.length < 5 then nI 3 else nI 0) else if xs_bad lm (xs_now B0 (xs_new B0 R0 [((0, k, v) : xs_O)])) = true then nI 0 else if xk_has (xs_now B0 R0) k = true then nI 2 else nI 1) ∧ (xs_CT (xs_pB lm B0 R0 bt [((0, k, v) : xs_O)]) (xs_pR lm B0 R0 bt [((0, k, v) : xs_O)]) (xs_pS bt ST ((0, k, v) : xs_O)) u.1 u.2.1 u.2.2.1 u.2.2.2.1 u.2.2.2.2.1 u.2.2.2.2.2.1 u.2.2.2.2.2.2.1 u.2.2.2.2.2.2.2.1 u.2.2.2.2.2.2.2.2.1 u.2.2.2.2.2.2.2.2.2.1 u.2.2.2.2.2.2.2.2.2.2)) (fun (u : (Nat → Int32) × (Nat → Int64) × (Nat → Int32) × (Nat → Int32) × (Nat → Int32) × (Nat → Int64) × (Nat → Int32) × (Nat → Int32) × (Nat → Int32) × (Nat → Int32) × (Nat → Int64)) (t : State) => va_P D zz_cl (xw_C q cA (nI lm) u.1 u.2.1 (nI (xs_now (xs_pB lm B0 R0 bt [((0, k, v) : xs_O)]) (xs_pR lm B0 R0 bt [((0, k, v) : xs_O)])).length) u.2.2.1 u.2.2.2.1 u.2.2.2.2.1 u.2.2.2.2.2.1 u.2.2.2.2.2.2.1 u.2.2.2.2.2.2.2.1 (nI (xs_pR lm B0 R0 bt [((0, k, v) : xs_O)]).length) u.2.2.2.2.2.2.2.2.1 u.2.2.2.2.2.2.2.2.2.1 u.2.2.2.2.2.2.2.2.2.2 (xb_i bt) (nI (xs_pS bt ST ((0, k, v) : xs_O)).length)) t.heap) (va_A (xw_C q cA (nI lm) kf kg (nI (xs_now B0 R0).length) af bf rk rv rm rs (nI R0.length) bp bk bv (xb_i bt) (nI ST.length)) sz)) 0 0 (va_A (xw_C q cA (nI lm) kf kg (nI (xs_now B0 R0).length) af bf rk rv rm rs (nI R0.length) bp bk bv (xb_i bt) (nI ST.length)) sz) := by
  refine Met.ofW (cc := b_E_put) (maxL := 6) (ret := (some .int)) (by decide) rfl ?_
  intro pJ eJ s mJ args below meth cJ s₁ B hml hv
  obtain ⟨rfl, hsz, hP, hK, hD0, hZ⟩ := hv
  have hx := B.exec
  have hb := B.bytes
  have hr := B.returns
  have hts := atoms_spec (ws := zw_E_put) B.pre
  have hown : s.vm.findClass R_E = some mJ.cls := findClass_of_methodNamed B.named
  have hlocks := B.notSynchronized
  subst hsz
  have hD := hD0.self (sz := s.heap.size)
  generalize hAe : va_A (xw_C q cA (nI lm) kf kg (nI (xs_now B0 R0).length) af bf rk rv rm rs (nI R0.length) bp bk bv (xb_i bt) (nI ST.length)) s.heap.size = A at hD ⊢
  have hA : ∀ q : Nat, s.heap.size ≤ q → A q := fun q h => by rw [← hAe]; exact Or.inr h
  have hS : va_S A s.heap s.heap [] := va_S.rf
  have hl := lv_entry ([.ref (q 0), .int k, .long v]) (n := 6) (Nat.le_of_ble_eq_true rfl)
  rw [lg_entry_eq]
  generalize (lg_sl ([.ref (q 0), .int k, .long v]) ++ List.replicate (6 - (lg_sl ([.ref (q 0), .int k, .long v])).length) Slot.unset).toArray = ls at hl ⊢
  have hl : lv_has ls 6 [(0, .ref (q 0)), (1, .int k), (2, .long v)] := hl
  have h60 : (xs_now B0 R0).length ≤ 60 := hok.2.2.2.2.2.1
  have h64 := hok.2.2.1
  refine lv_aload_n hx hb d_E_put_0 rfl (lv_at hl 0 rfl) ?_
  refine va_get (D := D) (ci := 0) (v := .ref (q 4)) (C := R_E) (T := F_E) (N := 4) hx hb hts (zi_E _) hown hK hP 0 rfl rfl 3 (by decide) (hts _ (List.mem_cons_of_mem _ zm_116)) (fun _ h9 => h9) rfl d_E_put_1 ?_
  refine va_getN (D := D) (ci := 4) (v := .int (xb_i bt)) (C := R_B) (T := F_B) (N := 5) hx hb hts (zi_B _) hown hK hP 4 rfl rfl 3 (by decide) (va_Nw.use rfl (hZ _ zn_98)) (fun _ h9 => h9) rfl d_E_put_4 ?_
  refine lv_if_eq (tgt := 21) hx hb d_E_put_7 (by decide) (fun hc7 => ?_) (fun hc7 => ?_)
  · skip
    rw [xb_0] at hc7
    refine lv_aload_n hx hb d_E_put_21 rfl (lv_at hl 0 rfl) ?_
    refine va_get (D := D) (ci := 0) (v := .ref (q 3)) (C := R_E) (T := F_E) (N := 4) hx hb hts (zi_E _) hown hK hP 0 rfl rfl 2 (by decide) (hts _ (List.mem_cons_of_mem _ zm_115)) (fun _ h9 => h9) rfl d_E_put_22 ?_
    refine va_getN (D := D) (ci := 3) (v := .int (nI R0.length)) (C := R_R) (T := F_R) (N := 5) hx hb hts (zi_R _) hown hK hP 3 rfl rfl 4 (by decide) (va_Nw.use rfl (hZ _ zn_72)) (fun _ h9 => h9) rfl d_E_put_25 ?_
    refine lv_istore (lv' := [(4, .int (nI R0.length)), (0, .ref (q 0)), (1, .int k), (2, .long v)]) hx hb d_E_put_28 hl (Nat.le_of_ble_eq_true rfl) rfl (fun ls hl => ?_)
    refine lv_aload_n hx hb d_E_put_30 rfl (lv_at hl 1 rfl) ?_
    refine va_get (D := D) (ci := 0) (v := .ref (q 1)) (C := R_E) (T := F_E) (N := 4) hx hb hts (zi_E _) hown hK hP 0 rfl rfl 1 (by decide) (hts _ (List.mem_cons_of_mem _ zm_114)) (fun _ h9 => h9) rfl d_E_put_31 ?_
    refine lv_iload_n hx hb d_E_put_34 rfl (lv_at hl 2 rfl) ?_
    refine xa_cI (va_runV (As := [.int k]) (rest := []) ⟨hx, hb, hml, hown, hts⟩ (c_K_holds l D q cA (nI lm) kf kg af bf rk rv rm rs (nI R0.length) bp bk bv (xb_i bt) (nI ST.length) (xs_now B0 R0) k hC.1) (cwV 1 hts (zg_V zm_134 zm_135 zm_136 zm_3 zm_137) rfl rfl rfl (by decide +kernel) ⟨Nat.le_of_ble_eq_true rfl, Nat.le_of_ble_eq_true rfl⟩) (xp_preV (ci := 1) (q0 := 1) hK hP rfl rfl rfl hZ) rfl rfl hl.1 rfl (lv_room (Nat.le_of_ble_eq_true rfl)) d_E_put_35 ⟨Nat.zero_le _, Nat.zero_le _⟩) ?_
    refine lv_istore (lv' := [(5, .int (xb_i (xk_has (xs_now B0 R0) k))), (4, .int (nI R0.length)), (0, .ref (q 0)), (1, .int k), (2, .long v)]) hx hb d_E_put_38 hl (Nat.le_of_ble_eq_true rfl) rfl (fun ls hl => ?_)
    refine lv_aload_n hx hb d_E_put_40 rfl (lv_at hl 2 rfl) ?_
    refine lv_iload_n hx hb d_E_put_41 rfl (lv_at hl 3 rfl) ?_
    refine lv_lload_n hx hb d_E_put_42 rfl (lv_at hl 4 rfl) ?_
    refine xa_cMV (va_runV (As := [.int k, .long v]) (rest := []) ⟨hx, hb, hml, hown, hts⟩ (c_E_ras l D q cA (nI lm) kf kg af bf rk rv rm rs bp bk bv (xb_i bt) (nI ST.length) s.heap.size (xs_now B0 R0) R0.length k v hC.1 (by omega) (Or.inr (by omega))) (cwV 2 hts (zg_V zm_146 zm_148 zs_2 zm_1 zm_149) rfl rfl rfl (by decide +kernel) ⟨Nat.le_of_ble_eq_true rfl, Nat.le_of_ble_eq_true rfl⟩) (xp_preVQ (ci := 0) (q0 := 0) hK hP hD rfl rfl rfl hZ) rfl rfl hl.1 rfl (lv_room (Nat.le_of_ble_eq_true rfl)) d_E_put_43 ⟨Nat.zero_le _, Nat.zero_le _⟩) hS (xa_F hD hS hA) (fun u H locs hp43 hP hS => ?_)
    obtain ⟨kf2_43, kg2_43, af2_43, bf2_43⟩ := u
    have hP : va_P D zz_cl (xw_C q cA (nI lm) kf2_43 kg2_43 (nI (xk_set (xs_now B0 R0) k v).length) af2_43 bf2_43 (upd rk R0.length k) (vp_updL rv R0.length (xk_get (xs_now B0 R0) k)) (upd rm R0.length (xw_fo (xk_has (xs_now B0 R0) k))) (upd rs R0.length (nI R0.length)) (nI (R0.length + 1)) bp bk bv (xb_i bt) (nI ST.length)) H := hP
    have hD : va_D A (xw_C q cA (nI lm) kf2_43 kg2_43 (nI (xk_set (xs_now B0 R0) k v).length) af2_43 bf2_43 (upd rk R0.length k) (vp_updL rv R0.length (xk_get (xs_now B0 R0) k)) (upd rm R0.length (xw_fo (xk_has (xs_now B0 R0) k))) (upd rs R0.length (nI R0.length)) (nI (R0.length + 1)) bp bk bv (xb_i bt) (nI ST.length)) := xa_E hD rfl
    have hp43 : xw_KT kf2_43 kg2_43 af2_43 bf2_43 (xk_set (xs_now B0 R0) k v) := hp43
    have hsn : xs_S B0 (xs_new B0 R0 [((0, k, v) : xs_O)]) (R0.length + 1) = xk_set (xs_now B0 R0) k v := by rw [xs_one_S]; rfl
    rw [← hsn] at hp43
    have hcn := xs_one_cn hC.2.1 (o := ((0, k, v) : xs_O)) (Nat.zero_le _) (k := k) rfl
    have hnw := xs_one_now B0 R0 ((0, k, v) : xs_O)
    rw [show nI (xk_set (xs_now B0 R0) k v).length = nI (xs_S B0 (xs_new B0 R0 [((0, k, v) : xs_O)]) (R0.length + 1)).length from by rw [hsn]] at hP hD
    refine lv_aload_n hx hb d_E_put_46 rfl (lv_at hl 2 rfl) ?_
    refine xa_cI (va_runV (As := []) (rest := []) ⟨hx, hb, hml, hown, hts⟩ (c_E_over l D q cA kf2_43 kg2_43 af2_43 bf2_43 (upd rk R0.length k) (vp_updL rv R0.length (xk_get (xs_now B0 R0) k)) (upd rm R0.length (xw_fo (xk_has (xs_now B0 R0) k))) (upd rs R0.length (nI R0.length)) (nI (R0.length + 1)) bp bk bv (xb_i bt) (nI ST.length) (xs_S B0 (xs_new B0 R0 [((0, k, v) : xs_O)]) (R0.length + 1)) lm hp43 hlm) (cwV 0 hts (zg_V zm_183 zm_185 zs_5 zm_1 zm_186) rfl rfl rfl (by decide +kernel) ⟨Nat.le_of_ble_eq_true rfl, Nat.le_of_ble_eq_true rfl⟩) (xp_preV (ci := 0) (q0 := 0) hK hP rfl rfl rfl hZ) rfl rfl hl.1 rfl (lv_room (Nat.le_of_ble_eq_true rfl)) d_E_put_47 ⟨Nat.zero_le _, Nat.zero_le _⟩) ?_
    refine lv_if_eq (tgt := 61) hx hb d_E_put_50 (by decide) (fun hc50 => ?_) (fun hc50 => ?_)
    · skip
      rw [xb_0] at hc50
      refine lv_aload_n hx hb d_E_put_61 rfl (lv_at hl 2 rfl) ?_
      refine va_get (D := D) (ci := 0) (v := .ref (q 3)) (C := R_E) (T := F_E) (N := 4) hx hb hts (zi_E _) hown hK hP 0 rfl rfl 2 (by decide) (hts _ (List.mem_cons_of_mem _ zm_115)) (fun _ h9 => h9) rfl d_E_put_62 ?_
      refine lv_iload hx hb d_E_put_65 (lv_at hl 1 rfl) ?_
      refine xa_cMV (va_runV (As := [.int (nI R0.length)]) (rest := []) ⟨hx, hb, hml, hown, hts⟩ (c_R_settle l D q cA (nI lm) kf2_43 kg2_43 (nI (xs_S B0 (xs_new B0 R0 [((0, k, v) : xs_O)]) (R0.length + 1)).length) af2_43 bf2_43 (upd rk R0.length k) (vp_updL rv R0.length (xk_get (xs_now B0 R0) k)) (upd rm R0.length (xw_fo (xk_has (xs_now B0 R0) k))) (upd rs R0.length (nI R0.length)) bp bk bv (xb_i bt) (nI ST.length) H.size (R0.length + 1) R0.length (by omega) (by omega)) (cwV 1 hts (zg_V zm_241 zm_242 zm_243 zm_5 zm_244) rfl rfl rfl (by decide +kernel) ⟨Nat.le_of_ble_eq_true rfl, Nat.le_of_ble_eq_true rfl⟩) (xp_preVQ (ci := 3) (q0 := 3) hK hP hD rfl rfl rfl hZ) rfl rfl hl.1 rfl (lv_room (Nat.le_of_ble_eq_true rfl)) d_E_put_67 ⟨Nat.zero_le _, Nat.zero_le _⟩) hS (xa_F hD hS hA) (fun u H locs hp67 hP hS => ?_)
      have hP : va_P D zz_cl (xw_C q cA (nI lm) kf2_43 kg2_43 (nI (xs_S B0 (xs_new B0 R0 [((0, k, v) : xs_O)]) (R0.length + 1)).length) af2_43 bf2_43 (if 64 < R0.length + 1 then xw_mv (upd rk R0.length k) R0.length (R0.length + 1 - R0.length) else upd rk R0.length k) (if 64 < R0.length + 1 then xw_mv (vp_updL rv R0.length (xk_get (xs_now B0 R0) k)) R0.length (R0.length + 1 - R0.length) else vp_updL rv R0.length (xk_get (xs_now B0 R0) k)) (if 64 < R0.length + 1 then xw_mv (upd rm R0.length (xw_fo (xk_has (xs_now B0 R0) k))) R0.length (R0.length + 1 - R0.length) else upd rm R0.length (xw_fo (xk_has (xs_now B0 R0) k))) (if 64 < R0.length + 1 then xm_mb (upd rs R0.length (nI R0.length)) R0.length (R0.length + 1 - R0.length) else upd rs R0.length (nI R0.length)) (nI (if 64 < R0.length + 1 then (R0.length + 1 - R0.length) else R0.length + 1)) bp bk bv (xb_i bt) (nI ST.length)) H := hP
      have hD : va_D A (xw_C q cA (nI lm) kf2_43 kg2_43 (nI (xs_S B0 (xs_new B0 R0 [((0, k, v) : xs_O)]) (R0.length + 1)).length) af2_43 bf2_43 (if 64 < R0.length + 1 then xw_mv (upd rk R0.length k) R0.length (R0.length + 1 - R0.length) else upd rk R0.length k) (if 64 < R0.length + 1 then xw_mv (vp_updL rv R0.length (xk_get (xs_now B0 R0) k)) R0.length (R0.length + 1 - R0.length) else vp_updL rv R0.length (xk_get (xs_now B0 R0) k)) (if 64 < R0.length + 1 then xw_mv (upd rm R0.length (xw_fo (xk_has (xs_now B0 R0) k))) R0.length (R0.length + 1 - R0.length) else upd rm R0.length (xw_fo (xk_has (xs_now B0 R0) k))) (if 64 < R0.length + 1 then xm_mb (upd rs R0.length (nI R0.length)) R0.length (R0.length + 1 - R0.length) else upd rs R0.length (nI R0.length)) (nI (if 64 < R0.length + 1 then (R0.length + 1 - R0.length) else R0.length + 1)) bp bk bv (xb_i bt) (nI ST.length)) := xa_E hD rfl
      have e0 : ¬ (bt = true ∨ xs_bad lm (xs_now B0 (xs_new B0 R0 [((0, k, v) : xs_O)])) = true) := by rw [hc7, hnw, hc50]; decide
      have e1 : xs_pB lm B0 R0 bt [((0, k, v) : xs_O)] = xs_B B0 R0 [((0, k, v) : xs_O)] := by unfold xs_pB; rw [if_neg e0]
      have e2 : xs_pR lm B0 R0 bt [((0, k, v) : xs_O)] = xs_Q B0 R0 [((0, k, v) : xs_O)] := by unfold xs_pR; rw [if_neg e0]
      have e3 : xs_pS bt ST ((0, k, v) : xs_O) = ST := xs_pS_no hc7 _ _
      rw [show nI (if 64 < R0.length + 1 then (R0.length + 1 - R0.length) else R0.length + 1) = nI (xs_Q B0 R0 [((0, k, v) : xs_O)]).length from congrArg nI (xs_Q_one B0 R0 ((0, k, v) : xs_O))] at hP hD
      refine lv_iload hx hb d_E_put_70 (lv_at hl 0 rfl) ?_
      refine lv_if_eq (tgt := 79) hx hb d_E_put_72 (by decide) (fun hc72 => ?_) (fun hc72 => ?_)
      · skip
        rw [xb_0] at hc72
        refine lv_iconst (v := nI 1) hx hb d_E_put_79 (by decide +kernel) ?_
        exact W.iret (v := nI 1) hx hb hr (fun tJ htJ hWJ => ⟨⟨_, (kf2_43, kg2_43, af2_43, bf2_43, if 64 < R0.length + 1 then xw_mv (upd rk R0.length k) R0.length (R0.length + 1 - R0.length) else upd rk R0.length k, if 64 < R0.length + 1 then xw_mv (vp_updL rv R0.length (xk_get (xs_now B0 R0) k)) R0.length (R0.length + 1 - R0.length) else vp_updL rv R0.length (xk_get (xs_now B0 R0) k), if 64 < R0.length + 1 then xw_mv (upd rm R0.length (xw_fo (xk_has (xs_now B0 R0) k))) R0.length (R0.length + 1 - R0.length) else upd rm R0.length (xw_fo (xk_has (xs_now B0 R0) k)), if 64 < R0.length + 1 then xm_mb (upd rs R0.length (nI R0.length)) R0.length (R0.length + 1 - R0.length) else upd rs R0.length (nI R0.length), bp, bk, bv), rfl, ⟨by rw [if_neg (by rw [hc7]; decide), if_neg (by rw [hnw, hc50]; decide)]; first | rw [if_pos hc72] | rw [if_neg (by rw [hc72]; decide)], by rw [e1, e2, e3]; exact xs_C_stay rfl (by rw [hnw]; exact hp43) hcn (xs_one_st hC.2.2.1 _) hC.2.2.2⟩, by dsimp only; rw [htJ]; rw [e1, e2, e3, xs_now_add, hnw]; exact hP⟩, hS.F htJ⟩) hS.2.2 d_E_put_80
      · skip
        rw [xb_1] at hc72
        refine lv_iconst (v := nI 2) hx hb d_E_put_75 (by decide +kernel) ?_
        refine lv_goto (tgt := 80) hx hb d_E_put_76 (by decide) ?_
        exact W.iret (v := nI 2) hx hb hr (fun tJ htJ hWJ => ⟨⟨_, (kf2_43, kg2_43, af2_43, bf2_43, if 64 < R0.length + 1 then xw_mv (upd rk R0.length k) R0.length (R0.length + 1 - R0.length) else upd rk R0.length k, if 64 < R0.length + 1 then xw_mv (vp_updL rv R0.length (xk_get (xs_now B0 R0) k)) R0.length (R0.length + 1 - R0.length) else vp_updL rv R0.length (xk_get (xs_now B0 R0) k), if 64 < R0.length + 1 then xw_mv (upd rm R0.length (xw_fo (xk_has (xs_now B0 R0) k))) R0.length (R0.length + 1 - R0.length) else upd rm R0.length (xw_fo (xk_has (xs_now B0 R0) k)), if 64 < R0.length + 1 then xm_mb (upd rs R0.length (nI R0.length)) R0.length (R0.length + 1 - R0.length) else upd rs R0.length (nI R0.length), bp, bk, bv), rfl, ⟨by rw [if_neg (by rw [hc7]; decide), if_neg (by rw [hnw, hc50]; decide)]; first | rw [if_pos hc72] | rw [if_neg (by rw [hc72]; decide)], by rw [e1, e2, e3]; exact xs_C_stay rfl (by rw [hnw]; exact hp43) hcn (xs_one_st hC.2.2.1 _) hC.2.2.2⟩, by dsimp only; rw [htJ]; rw [e1, e2, e3, xs_now_add, hnw]; exact hP⟩, hS.F htJ⟩) hS.2.2 d_E_put_80
    · skip
      rw [xb_1] at hc50
      refine lv_aload_n hx hb d_E_put_53 rfl (lv_at hl 2 rfl) ?_
      refine lv_iload hx hb d_E_put_54 (lv_at hl 1 rfl) ?_
      refine xa_cMV (va_runV (As := [.int (nI R0.length)]) (rest := []) ⟨hx, hb, hml, hown, hts⟩ (c_E_tbf l D q cA (nI lm) kf2_43 kg2_43 af2_43 bf2_43 (upd rk R0.length k) (vp_updL rv R0.length (xk_get (xs_now B0 R0) k)) (upd rm R0.length (xw_fo (xk_has (xs_now B0 R0) k))) (upd rs R0.length (nI R0.length)) bp bk bv (xb_i bt) (nI ST.length) H.size (xs_S B0 (xs_new B0 R0 [((0, k, v) : xs_O)])) (R0.length + 1) R0.length hp43 (by omega) (by omega) (xs_one_U hok (Nat.zero_le _) hcn)) (cwV 1 hts (zg_V zm_228 zm_230 zs_7 zm_1 zm_231) rfl rfl rfl (by decide +kernel) ⟨Nat.le_of_ble_eq_true rfl, Nat.le_of_ble_eq_true rfl⟩) (xp_preVQ (ci := 0) (q0 := 0) hK hP hD rfl rfl rfl hZ) rfl rfl hl.1 rfl (lv_room (Nat.le_of_ble_eq_true rfl)) d_E_put_56 ⟨Nat.zero_le _, Nat.zero_le _⟩) hS (xa_F hD hS hA) (fun u H locs hp56 hP hS => ?_)
      obtain ⟨kf2_56, kg2_56, af2_56, bf2_56⟩ := u
      have hP : va_P D zz_cl (xw_C q cA (nI lm) kf2_56 kg2_56 (nI (xs_S B0 (xs_new B0 R0 [((0, k, v) : xs_O)]) R0.length).length) af2_56 bf2_56 (upd rk R0.length k) (vp_updL rv R0.length (xk_get (xs_now B0 R0) k)) (upd rm R0.length (xw_fo (xk_has (xs_now B0 R0) k))) (upd rs R0.length (nI R0.length)) (nI R0.length) bp bk bv (xb_i bt) (nI ST.length)) H := hP
      have hD : va_D A (xw_C q cA (nI lm) kf2_56 kg2_56 (nI (xs_S B0 (xs_new B0 R0 [((0, k, v) : xs_O)]) R0.length).length) af2_56 bf2_56 (upd rk R0.length k) (vp_updL rv R0.length (xk_get (xs_now B0 R0) k)) (upd rm R0.length (xw_fo (xk_has (xs_now B0 R0) k))) (upd rs R0.length (nI R0.length)) (nI R0.length) bp bk bv (xb_i bt) (nI ST.length)) := xa_E hD rfl
      have hp56 : xw_KT kf2_56 kg2_56 af2_56 bf2_56 (xs_S B0 (xs_new B0 R0 [((0, k, v) : xs_O)]) R0.length) := hp56
      have e1 : xs_pB lm B0 R0 bt [((0, k, v) : xs_O)] = B0 := by unfold xs_pB; rw [if_pos (Or.inr (by rw [hnw]; exact hc50))]
      have e2 : xs_pR lm B0 R0 bt [((0, k, v) : xs_O)] = R0 := by unfold xs_pR; rw [if_pos (Or.inr (by rw [hnw]; exact hc50))]
      have e3 : xs_pS bt ST ((0, k, v) : xs_O) = ST := xs_pS_no hc7 _ _
      rw [show nI (xs_S B0 (xs_new B0 R0 [((0, k, v) : xs_O)]) R0.length).length = nI (xs_now B0 R0).length from by rw [xs_now_new]] at hP hD
      refine lv_iconst (v := nI 0) hx hb d_E_put_59 (by decide +kernel) ?_
      exact W.iret (v := nI 0) hx hb hr (fun tJ htJ hWJ => ⟨⟨_, (kf2_56, kg2_56, af2_56, bf2_56, upd rk R0.length k, vp_updL rv R0.length (xk_get (xs_now B0 R0) k), upd rm R0.length (xw_fo (xk_has (xs_now B0 R0) k)), upd rs R0.length (nI R0.length), bp, bk, bv), rfl, ⟨by rw [if_neg (by rw [hc7]; decide), if_pos (by rw [hnw]; exact hc50)], by rw [e1, e2, e3]; exact xs_C_back hp56 hcn (by omega) (xs_st_keep hC.2.2.1 (fun j hj => pk_un (by omega))) hC.2.2.2⟩, by dsimp only; rw [htJ]; rw [e1, e2, e3]; exact hP⟩, hS.F htJ⟩) hS.2.2 d_E_put_60
  · skip
    rw [xb_1] at hc7
    refine lv_aload_n hx hb d_E_put_10 rfl (lv_at hl 0 rfl) ?_
    refine va_get (D := D) (ci := 0) (v := .ref (q 4)) (C := R_E) (T := F_E) (N := 4) hx hb hts (zi_E _) hown hK hP 0 rfl rfl 3 (by decide) (hts _ (List.mem_cons_of_mem _ zm_116)) (fun _ h9 => h9) rfl d_E_put_11 ?_
    refine lv_iconst (v := nI 1) hx hb d_E_put_14 (by decide +kernel) ?_
    refine xa_top (y := xb_i true) xb_t.symm ?_
    refine lv_iload_n hx hb d_E_put_15 rfl (lv_at hl 1 rfl) ?_
    refine lv_lload_n hx hb d_E_put_16 rfl (lv_at hl 2 rfl) ?_
    refine xa_cMI (va_runV (As := [.int (xb_i true), .int k, .long v]) (rest := []) ⟨hx, hb, hml, hown, hts⟩ (c_B_take l D q cA (nI lm) kf kg (nI (xs_now B0 R0).length) af bf rk rv rm rs (nI R0.length) bp bk bv (xb_i bt) s.heap.size ST.length true k v (by omega)) (cwV 3 hts (zg_V zm_130 zm_131 zm_132 zm_6 zm_133) rfl rfl rfl (by decide +kernel) ⟨Nat.le_of_ble_eq_true rfl, Nat.le_of_ble_eq_true rfl⟩) (xp_preVQ (ci := 4) (q0 := 4) hK hP hD rfl rfl rfl hZ) rfl rfl hl.1 rfl (lv_room (Nat.le_of_ble_eq_true rfl)) d_E_put_17 ⟨Nat.zero_le _, Nat.zero_le _⟩) hS (xa_F hD hS hA) (fun r u H locs hp17 hP hS => ?_)
    obtain ⟨rfl, hp17⟩ := hp17
    have hP : va_P D zz_cl (xw_C q cA (nI lm) kf kg (nI (xs_now B0 R0).length) af bf rk rv rm rs (nI R0.length) (if ST.length < 5 then upd bp ST.length (xb_i true) else bp) (if ST.length < 5 then upd bk ST.length k else bk) (if ST.length < 5 then vp_updL bv ST.length v else bv) (xb_i bt) (nI (if ST.length < 5 then ST.length + 1 else ST.length))) H := hP
    have hD : va_D A (xw_C q cA (nI lm) kf kg (nI (xs_now B0 R0).length) af bf rk rv rm rs (nI R0.length) (if ST.length < 5 then upd bp ST.length (xb_i true) else bp) (if ST.length < 5 then upd bk ST.length k else bk) (if ST.length < 5 then vp_updL bv ST.length v else bv) (xb_i bt) (nI (if ST.length < 5 then ST.length + 1 else ST.length))) := xa_E hD rfl
    have e1 : xs_pB lm B0 R0 bt [((0, k, v) : xs_O)] = B0 := by unfold xs_pB; rw [if_pos (Or.inl hc7)]
    have e2 : xs_pR lm B0 R0 bt [((0, k, v) : xs_O)] = R0 := by unfold xs_pR; rw [if_pos (Or.inl hc7)]
    exact W.iret (v := if ST.length < 5 then nI 3 else nI 0) hx hb hr (fun tJ htJ hWJ => ⟨⟨_, (kf, kg, af, bf, rk, rv, rm, rs, if ST.length < 5 then upd bp ST.length (xb_i true) else bp, if ST.length < 5 then upd bk ST.length k else bk, if ST.length < 5 then vp_updL bv ST.length v else bv), rfl, ⟨by rw [if_pos hc7], by rw [e1, e2]; exact xs_C_take hC hc7 (Nat.zero_le _) rfl rfl rfl⟩, by dsimp only; rw [htJ]; rw [e1, e2, xs_pS_len hc7]; exact hP⟩, hS.F htJ⟩) hS.2.2 d_E_put_20
set_option maxHeartbeats 4000000 in
set_option maxRecDepth 100000 in
theorem c_E_del (l : Launch) (D : va_G) (q : Nat → Nat) (cA : Nat → ClassId) (kf : Nat → Int32) (kg : Nat → Int64) (af : Nat → Int32) (bf : Nat → Int32) (rk : Nat → Int32) (rv : Nat → Int64) (rm : Nat → Int32) (rs : Nat → Int32) (bp : Nat → Int32) (bk : Nat → Int32) (bv : Nat → Int64) (sz : Nat) (lm : Nat) (B0 : List xk_E) (R0 : List xs_R) (bt : Bool) (ST : List xs_O) (k : Int32) (hC : xs_CT B0 R0 ST kf kg af bf rk rv rm rs bp bk bv) (hok : xs_ok lm B0 R0) (hlm : lm ≤ 200) (hst : ST.length ≤ 5) : Met l y_E_delete zw_E_delete ({ frames := 4, cells := 0, slots := 0, locals := 103 } : Room) (va_Pc [.ref (q 0), .int k] (xp_Q D zz_cl (xw_tC cA) sz (xw_C q cA (nI lm) kf kg (nI (xs_now B0 R0).length) af bf rk rv rm rs (nI R0.length) bp bk bv (xb_i bt) (nI ST.length)))) (va_Qi (fun (r : Int32) (u : (Nat → Int32) × (Nat → Int64) × (Nat → Int32) × (Nat → Int32) × (Nat → Int32) × (Nat → Int64) × (Nat → Int32) × (Nat → Int32) × (Nat → Int32) × (Nat → Int32) × (Nat → Int64)) => r = (if bt = true then (if ST.length < 5 then nI 3 else nI 0) else if xk_has (xs_now B0 R0) k = true then nI 1 else nI 0) ∧ (xs_CT (xs_dB B0 R0 bt k) (xs_dR B0 R0 bt k) (xs_pS bt ST ((1, k, 0) : xs_O)) u.1 u.2.1 u.2.2.1 u.2.2.2.1 u.2.2.2.2.1 u.2.2.2.2.2.1 u.2.2.2.2.2.2.1 u.2.2.2.2.2.2.2.1 u.2.2.2.2.2.2.2.2.1 u.2.2.2.2.2.2.2.2.2.1 u.2.2.2.2.2.2.2.2.2.2)) (fun (u : (Nat → Int32) × (Nat → Int64) × (Nat → Int32) × (Nat → Int32) × (Nat → Int32) × (Nat → Int64) × (Nat → Int32) × (Nat → Int32) × (Nat → Int32) × (Nat → Int32) × (Nat → Int64)) (t : State) => va_P D zz_cl (xw_C q cA (nI lm) u.1 u.2.1 (nI (xs_now (xs_dB B0 R0 bt k) (xs_dR B0 R0 bt k)).length) u.2.2.1 u.2.2.2.1 u.2.2.2.2.1 u.2.2.2.2.2.1 u.2.2.2.2.2.2.1 u.2.2.2.2.2.2.2.1 (nI (xs_dR B0 R0 bt k).length) u.2.2.2.2.2.2.2.2.1 u.2.2.2.2.2.2.2.2.2.1 u.2.2.2.2.2.2.2.2.2.2 (xb_i bt) (nI (xs_pS bt ST ((1, k, 0) : xs_O)).length)) t.heap) (va_A (xw_C q cA (nI lm) kf kg (nI (xs_now B0 R0).length) af bf rk rv rm rs (nI R0.length) bp bk bv (xb_i bt) (nI ST.length)) sz)) 0 0 (va_A (xw_C q cA (nI lm) kf kg (nI (xs_now B0 R0).length) af bf rk rv rm rs (nI R0.length) bp bk bv (xb_i bt) (nI ST.length)) sz) := by
  refine Met.ofW (cc := b_E_delete) (maxL := 3) (ret := (some .int)) (by decide) rfl ?_
  intro pJ eJ s mJ args below meth cJ s₁ B hml hv
  obtain ⟨rfl, hsz, hP, hK, hD0, hZ⟩ := hv
  have hx := B.exec
  have hb := B.bytes
  have hr := B.returns
  have hts := atoms_spec (ws := zw_E_delete) B.pre
  have hown : s.vm.findClass R_E = some mJ.cls := findClass_of_methodNamed B.named
  have hlocks := B.notSynchronized
  subst hsz
  have hD := hD0.self (sz := s.heap.size)
  generalize hAe : va_A (xw_C q cA (nI lm) kf kg (nI (xs_now B0 R0).length) af bf rk rv rm rs (nI R0.length) bp bk bv (xb_i bt) (nI ST.length)) s.heap.size = A at hD ⊢
  have hA : ∀ q : Nat, s.heap.size ≤ q → A q := fun q h => by rw [← hAe]; exact Or.inr h
  have hS : va_S A s.heap s.heap [] := va_S.rf
  have hl := lv_entry ([.ref (q 0), .int k]) (n := 3) (Nat.le_of_ble_eq_true rfl)
  rw [lg_entry_eq]
  generalize (lg_sl ([.ref (q 0), .int k]) ++ List.replicate (3 - (lg_sl ([.ref (q 0), .int k])).length) Slot.unset).toArray = ls at hl ⊢
  have hl : lv_has ls 3 [(0, .ref (q 0)), (1, .int k)] := hl
  have h60 : (xs_now B0 R0).length ≤ 60 := hok.2.2.2.2.2.1
  have h64 := hok.2.2.1
  refine lv_aload_n hx hb d_E_delete_0 rfl (lv_at hl 0 rfl) ?_
  refine va_get (D := D) (ci := 0) (v := .ref (q 4)) (C := R_E) (T := F_E) (N := 4) hx hb hts (zi_E _) hown hK hP 0 rfl rfl 3 (by decide) (hts _ (List.mem_cons_of_mem _ zm_116)) (fun _ h9 => h9) rfl d_E_delete_1 ?_
  refine va_getN (D := D) (ci := 4) (v := .int (xb_i bt)) (C := R_B) (T := F_B) (N := 5) hx hb hts (zi_B _) hown hK hP 4 rfl rfl 3 (by decide) (va_Nw.use rfl (hZ _ zn_98)) (fun _ h9 => h9) rfl d_E_delete_4 ?_
  refine lv_if_eq (tgt := 21) hx hb d_E_delete_7 (by decide) (fun hc7 => ?_) (fun hc7 => ?_)
  · skip
    rw [xb_0] at hc7
    refine lv_aload_n hx hb d_E_delete_21 rfl (lv_at hl 0 rfl) ?_
    refine va_get (D := D) (ci := 0) (v := .ref (q 1)) (C := R_E) (T := F_E) (N := 4) hx hb hts (zi_E _) hown hK hP 0 rfl rfl 1 (by decide) (hts _ (List.mem_cons_of_mem _ zm_114)) (fun _ h9 => h9) rfl d_E_delete_22 ?_
    refine lv_iload_n hx hb d_E_delete_25 rfl (lv_at hl 1 rfl) ?_
    refine xa_cI (va_runV (As := [.int k]) (rest := []) ⟨hx, hb, hml, hown, hts⟩ (c_K_holds l D q cA (nI lm) kf kg af bf rk rv rm rs (nI R0.length) bp bk bv (xb_i bt) (nI ST.length) (xs_now B0 R0) k hC.1) (cwV 1 hts (zg_V zm_134 zm_135 zm_136 zm_3 zm_137) rfl rfl rfl (by decide +kernel) ⟨Nat.le_of_ble_eq_true rfl, Nat.le_of_ble_eq_true rfl⟩) (xp_preV (ci := 1) (q0 := 1) hK hP rfl rfl rfl hZ) rfl rfl hl.1 rfl (lv_room (Nat.le_of_ble_eq_true rfl)) d_E_delete_26 ⟨Nat.zero_le _, Nat.zero_le _⟩) ?_
    refine lv_if_ne (tgt := 34) hx hb d_E_delete_29 (by decide) (fun hc29 => ?_) (fun hc29 => ?_)
    · skip
      rw [xb_1] at hc29
      refine lv_aload_n hx hb d_E_delete_34 rfl (lv_at hl 0 rfl) ?_
      refine va_get (D := D) (ci := 0) (v := .ref (q 3)) (C := R_E) (T := F_E) (N := 4) hx hb hts (zi_E _) hown hK hP 0 rfl rfl 2 (by decide) (hts _ (List.mem_cons_of_mem _ zm_115)) (fun _ h9 => h9) rfl d_E_delete_35 ?_
      refine va_getN (D := D) (ci := 3) (v := .int (nI R0.length)) (C := R_R) (T := F_R) (N := 5) hx hb hts (zi_R _) hown hK hP 3 rfl rfl 4 (by decide) (va_Nw.use rfl (hZ _ zn_72)) (fun _ h9 => h9) rfl d_E_delete_38 ?_
      refine lv_istore_n (lv' := [(2, .int (nI R0.length)), (0, .ref (q 0)), (1, .int k)]) hx hb d_E_delete_41 rfl hl (Nat.le_of_ble_eq_true rfl) rfl (fun ls hl => ?_)
      refine lv_aload_n hx hb d_E_delete_42 rfl (lv_at hl 1 rfl) ?_
      refine lv_iload_n hx hb d_E_delete_43 rfl (lv_at hl 2 rfl) ?_
      refine xa_cMV (va_runV (As := [.int k]) (rest := []) ⟨hx, hb, hml, hown, hts⟩ (c_E_rar l D q cA (nI lm) kf kg af bf rk rv rm rs bp bk bv (xb_i bt) (nI ST.length) s.heap.size (xs_now B0 R0) R0.length k hC.1 (by omega)) (cwV 1 hts (zg_V zm_249 zm_251 zs_8 zm_1 zm_252) rfl rfl rfl (by decide +kernel) ⟨Nat.le_of_ble_eq_true rfl, Nat.le_of_ble_eq_true rfl⟩) (xp_preVQ (ci := 0) (q0 := 0) hK hP hD rfl rfl rfl hZ) rfl rfl hl.1 rfl (lv_room (Nat.le_of_ble_eq_true rfl)) d_E_delete_44 ⟨Nat.zero_le _, Nat.zero_le _⟩) hS (xa_F hD hS hA) (fun u H locs hp44 hP hS => ?_)
      obtain ⟨kf2_44, kg2_44, af2_44, bf2_44⟩ := u
      have hP : va_P D zz_cl (xw_C q cA (nI lm) kf2_44 kg2_44 (nI (xk_rem (xs_now B0 R0) k).length) af2_44 bf2_44 (upd rk R0.length k) (vp_updL rv R0.length (xk_get (xs_now B0 R0) k)) (upd rm R0.length (xw_fo (xk_has (xs_now B0 R0) k))) (upd rs R0.length (nI R0.length)) (nI (R0.length + 1)) bp bk bv (xb_i bt) (nI ST.length)) H := hP
      have hD : va_D A (xw_C q cA (nI lm) kf2_44 kg2_44 (nI (xk_rem (xs_now B0 R0) k).length) af2_44 bf2_44 (upd rk R0.length k) (vp_updL rv R0.length (xk_get (xs_now B0 R0) k)) (upd rm R0.length (xw_fo (xk_has (xs_now B0 R0) k))) (upd rs R0.length (nI R0.length)) (nI (R0.length + 1)) bp bk bv (xb_i bt) (nI ST.length)) := xa_E hD rfl
      have hp44 : xw_KT kf2_44 kg2_44 af2_44 bf2_44 (xk_rem (xs_now B0 R0) k) := hp44
      have hsn : xs_S B0 (xs_new B0 R0 [((1, k, 0) : xs_O)]) (R0.length + 1) = xk_rem (xs_now B0 R0) k := by rw [xs_one_S]; rfl
      rw [← hsn] at hp44
      have hcn := xs_one_cn hC.2.1 (o := ((1, k, 0) : xs_O)) (Nat.le_refl _) (k := k) rfl
      have hnw := xs_one_now B0 R0 ((1, k, 0) : xs_O)
      rw [show nI (xk_rem (xs_now B0 R0) k).length = nI (xs_S B0 (xs_new B0 R0 [((1, k, 0) : xs_O)]) (R0.length + 1)).length from by rw [hsn]] at hP hD
      refine lv_aload_n hx hb d_E_delete_47 rfl (lv_at hl 1 rfl) ?_
      refine va_get (D := D) (ci := 0) (v := .ref (q 3)) (C := R_E) (T := F_E) (N := 4) hx hb hts (zi_E _) hown hK hP 0 rfl rfl 2 (by decide) (hts _ (List.mem_cons_of_mem _ zm_115)) (fun _ h9 => h9) rfl d_E_delete_48 ?_
      refine lv_iload_n hx hb d_E_delete_51 rfl (lv_at hl 0 rfl) ?_
      refine xa_cMV (va_runV (As := [.int (nI R0.length)]) (rest := []) ⟨hx, hb, hml, hown, hts⟩ (c_R_settle l D q cA (nI lm) kf2_44 kg2_44 (nI (xs_S B0 (xs_new B0 R0 [((1, k, 0) : xs_O)]) (R0.length + 1)).length) af2_44 bf2_44 (upd rk R0.length k) (vp_updL rv R0.length (xk_get (xs_now B0 R0) k)) (upd rm R0.length (xw_fo (xk_has (xs_now B0 R0) k))) (upd rs R0.length (nI R0.length)) bp bk bv (xb_i bt) (nI ST.length) H.size (R0.length + 1) R0.length (by omega) (by omega)) (cwV 1 hts (zg_V zm_241 zm_242 zm_243 zm_5 zm_244) rfl rfl rfl (by decide +kernel) ⟨Nat.le_of_ble_eq_true rfl, Nat.le_of_ble_eq_true rfl⟩) (xp_preVQ (ci := 3) (q0 := 3) hK hP hD rfl rfl rfl hZ) rfl rfl hl.1 rfl (lv_room (Nat.le_of_ble_eq_true rfl)) d_E_delete_52 ⟨Nat.zero_le _, Nat.zero_le _⟩) hS (xa_F hD hS hA) (fun u H locs hp52 hP hS => ?_)
      have hP : va_P D zz_cl (xw_C q cA (nI lm) kf2_44 kg2_44 (nI (xs_S B0 (xs_new B0 R0 [((1, k, 0) : xs_O)]) (R0.length + 1)).length) af2_44 bf2_44 (if 64 < R0.length + 1 then xw_mv (upd rk R0.length k) R0.length (R0.length + 1 - R0.length) else upd rk R0.length k) (if 64 < R0.length + 1 then xw_mv (vp_updL rv R0.length (xk_get (xs_now B0 R0) k)) R0.length (R0.length + 1 - R0.length) else vp_updL rv R0.length (xk_get (xs_now B0 R0) k)) (if 64 < R0.length + 1 then xw_mv (upd rm R0.length (xw_fo (xk_has (xs_now B0 R0) k))) R0.length (R0.length + 1 - R0.length) else upd rm R0.length (xw_fo (xk_has (xs_now B0 R0) k))) (if 64 < R0.length + 1 then xm_mb (upd rs R0.length (nI R0.length)) R0.length (R0.length + 1 - R0.length) else upd rs R0.length (nI R0.length)) (nI (if 64 < R0.length + 1 then (R0.length + 1 - R0.length) else R0.length + 1)) bp bk bv (xb_i bt) (nI ST.length)) H := hP
      have hD : va_D A (xw_C q cA (nI lm) kf2_44 kg2_44 (nI (xs_S B0 (xs_new B0 R0 [((1, k, 0) : xs_O)]) (R0.length + 1)).length) af2_44 bf2_44 (if 64 < R0.length + 1 then xw_mv (upd rk R0.length k) R0.length (R0.length + 1 - R0.length) else upd rk R0.length k) (if 64 < R0.length + 1 then xw_mv (vp_updL rv R0.length (xk_get (xs_now B0 R0) k)) R0.length (R0.length + 1 - R0.length) else vp_updL rv R0.length (xk_get (xs_now B0 R0) k)) (if 64 < R0.length + 1 then xw_mv (upd rm R0.length (xw_fo (xk_has (xs_now B0 R0) k))) R0.length (R0.length + 1 - R0.length) else upd rm R0.length (xw_fo (xk_has (xs_now B0 R0) k))) (if 64 < R0.length + 1 then xm_mb (upd rs R0.length (nI R0.length)) R0.length (R0.length + 1 - R0.length) else upd rs R0.length (nI R0.length)) (nI (if 64 < R0.length + 1 then (R0.length + 1 - R0.length) else R0.length + 1)) bp bk bv (xb_i bt) (nI ST.length)) := xa_E hD rfl
      have e0 : ¬ (bt = true ∨ xk_has (xs_now B0 R0) k = false) := by rw [hc7, hc29]; decide
      have e1 : xs_dB B0 R0 bt k = xs_B B0 R0 [((1, k, 0) : xs_O)] := by unfold xs_dB; rw [if_neg e0]
      have e2 : xs_dR B0 R0 bt k = xs_Q B0 R0 [((1, k, 0) : xs_O)] := by unfold xs_dR; rw [if_neg e0]
      have e3 : xs_pS bt ST ((1, k, 0) : xs_O) = ST := xs_pS_no hc7 _ _
      rw [show nI (if 64 < R0.length + 1 then (R0.length + 1 - R0.length) else R0.length + 1) = nI (xs_Q B0 R0 [((1, k, 0) : xs_O)]).length from congrArg nI (xs_Q_one B0 R0 ((1, k, 0) : xs_O))] at hP hD
      refine lv_iconst (v := nI 1) hx hb d_E_delete_55 (by decide +kernel) ?_
      exact W.iret (v := nI 1) hx hb hr (fun tJ htJ hWJ => ⟨⟨_, (kf2_44, kg2_44, af2_44, bf2_44, if 64 < R0.length + 1 then xw_mv (upd rk R0.length k) R0.length (R0.length + 1 - R0.length) else upd rk R0.length k, if 64 < R0.length + 1 then xw_mv (vp_updL rv R0.length (xk_get (xs_now B0 R0) k)) R0.length (R0.length + 1 - R0.length) else vp_updL rv R0.length (xk_get (xs_now B0 R0) k), if 64 < R0.length + 1 then xw_mv (upd rm R0.length (xw_fo (xk_has (xs_now B0 R0) k))) R0.length (R0.length + 1 - R0.length) else upd rm R0.length (xw_fo (xk_has (xs_now B0 R0) k)), if 64 < R0.length + 1 then xm_mb (upd rs R0.length (nI R0.length)) R0.length (R0.length + 1 - R0.length) else upd rs R0.length (nI R0.length), bp, bk, bv), rfl, ⟨by rw [if_neg (by rw [hc7]; decide), if_pos hc29], by rw [e1, e2, e3]; exact xs_C_stay rfl (by rw [hnw]; exact hp44) hcn (xs_one_st hC.2.2.1 _) hC.2.2.2⟩, by dsimp only; rw [htJ]; rw [e1, e2, e3, xs_now_add, hnw]; exact hP⟩, hS.F htJ⟩) hS.2.2 d_E_delete_56
    · skip
      rw [xb_0] at hc29
      have e1 : xs_dB B0 R0 bt k = B0 := by unfold xs_dB; rw [if_pos (Or.inr hc29)]
      have e2 : xs_dR B0 R0 bt k = R0 := by unfold xs_dR; rw [if_pos (Or.inr hc29)]
      have e3 : xs_pS bt ST ((1, k, 0) : xs_O) = ST := xs_pS_no hc7 _ _
      refine lv_iconst (v := nI 0) hx hb d_E_delete_32 (by decide +kernel) ?_
      exact W.iret (v := nI 0) hx hb hr (fun tJ htJ hWJ => ⟨⟨_, (kf, kg, af, bf, rk, rv, rm, rs, bp, bk, bv), rfl, ⟨by rw [if_neg (by rw [hc7]; decide), if_neg (by rw [hc29]; decide)], by rw [e1, e2, e3]; exact hC⟩, by dsimp only; rw [htJ]; rw [e1, e2, e3]; exact hP⟩, hS.F htJ⟩) hS.2.2 d_E_delete_33
  · skip
    rw [xb_1] at hc7
    refine lv_aload_n hx hb d_E_delete_10 rfl (lv_at hl 0 rfl) ?_
    refine va_get (D := D) (ci := 0) (v := .ref (q 4)) (C := R_E) (T := F_E) (N := 4) hx hb hts (zi_E _) hown hK hP 0 rfl rfl 3 (by decide) (hts _ (List.mem_cons_of_mem _ zm_116)) (fun _ h9 => h9) rfl d_E_delete_11 ?_
    refine lv_iconst (v := nI 0) hx hb d_E_delete_14 (by decide +kernel) ?_
    refine xa_top (y := xb_i false) xb_f.symm ?_
    refine lv_iload_n hx hb d_E_delete_15 rfl (lv_at hl 1 rfl) ?_
    refine lv_lconst (v := 0) hx hb d_E_delete_16 (by decide +kernel) ?_
    refine xa_cMI (va_runV (As := [.int (xb_i false), .int k, .long 0]) (rest := []) ⟨hx, hb, hml, hown, hts⟩ (c_B_take l D q cA (nI lm) kf kg (nI (xs_now B0 R0).length) af bf rk rv rm rs (nI R0.length) bp bk bv (xb_i bt) s.heap.size ST.length false k 0 (by omega)) (cwV 3 hts (zg_V zm_130 zm_131 zm_132 zm_6 zm_133) rfl rfl rfl (by decide +kernel) ⟨Nat.le_of_ble_eq_true rfl, Nat.le_of_ble_eq_true rfl⟩) (xp_preVQ (ci := 4) (q0 := 4) hK hP hD rfl rfl rfl hZ) rfl rfl hl.1 rfl (lv_room (Nat.le_of_ble_eq_true rfl)) d_E_delete_17 ⟨Nat.zero_le _, Nat.zero_le _⟩) hS (xa_F hD hS hA) (fun r u H locs hp17 hP hS => ?_)
    obtain ⟨rfl, hp17⟩ := hp17
    have hP : va_P D zz_cl (xw_C q cA (nI lm) kf kg (nI (xs_now B0 R0).length) af bf rk rv rm rs (nI R0.length) (if ST.length < 5 then upd bp ST.length (xb_i false) else bp) (if ST.length < 5 then upd bk ST.length k else bk) (if ST.length < 5 then vp_updL bv ST.length 0 else bv) (xb_i bt) (nI (if ST.length < 5 then ST.length + 1 else ST.length))) H := hP
    have hD : va_D A (xw_C q cA (nI lm) kf kg (nI (xs_now B0 R0).length) af bf rk rv rm rs (nI R0.length) (if ST.length < 5 then upd bp ST.length (xb_i false) else bp) (if ST.length < 5 then upd bk ST.length k else bk) (if ST.length < 5 then vp_updL bv ST.length 0 else bv) (xb_i bt) (nI (if ST.length < 5 then ST.length + 1 else ST.length))) := xa_E hD rfl
    have e1 : xs_dB B0 R0 bt k = B0 := by unfold xs_dB; rw [if_pos (Or.inl hc7)]
    have e2 : xs_dR B0 R0 bt k = R0 := by unfold xs_dR; rw [if_pos (Or.inl hc7)]
    exact W.iret (v := if ST.length < 5 then nI 3 else nI 0) hx hb hr (fun tJ htJ hWJ => ⟨⟨_, (kf, kg, af, bf, rk, rv, rm, rs, if ST.length < 5 then upd bp ST.length (xb_i false) else bp, if ST.length < 5 then upd bk ST.length k else bk, if ST.length < 5 then vp_updL bv ST.length 0 else bv), rfl, ⟨by rw [if_pos hc7], by rw [e1, e2]; exact xs_C_take hC hc7 (Nat.le_refl _) rfl rfl rfl⟩, by dsimp only; rw [htJ]; rw [e1, e2, xs_pS_len hc7]; exact hP⟩, hS.F htJ⟩) hS.2.2 d_E_delete_20
set_option maxHeartbeats 4000000 in
set_option maxRecDepth 100000 in
theorem c_E_open (l : Launch) (D : va_G) (q : Nat → Nat) (cA : Nat → ClassId) (kf : Nat → Int32) (kg : Nat → Int64) (af : Nat → Int32) (bf : Nat → Int32) (rk : Nat → Int32) (rv : Nat → Int64) (rm : Nat → Int32) (rs : Nat → Int32) (bp : Nat → Int32) (bk : Nat → Int32) (bv : Nat → Int64) (sz : Nat) (lm : Nat) (B0 : List xk_E) (R0 : List xs_R) (bt : Bool) (ST : List xs_O) (hC : xs_CT B0 R0 ST kf kg af bf rk rv rm rs bp bk bv) (hok : xs_ok lm B0 R0) (hlm : lm ≤ 200) (hst : ST.length ≤ 5) : Met l y_E_open zw_E_open ({ frames := 1, cells := 0, slots := 0, locals := 20 } : Room) (va_Pc [.ref (q 0)] (xp_Q D zz_cl (xw_tC cA) sz (xw_C q cA (nI lm) kf kg (nI (xs_now B0 R0).length) af bf rk rv rm rs (nI R0.length) bp bk bv (xb_i bt) (nI ST.length)))) (va_Qi (fun (r : Int32) (u : (Nat → Int32) × (Nat → Int64) × (Nat → Int32) × (Nat → Int32) × (Nat → Int32) × (Nat → Int64) × (Nat → Int32) × (Nat → Int32) × (Nat → Int32) × (Nat → Int32) × (Nat → Int64)) => r = (xb_i (!bt)) ∧ (xs_CT B0 R0 (if bt = true then ST else []) u.1 u.2.1 u.2.2.1 u.2.2.2.1 u.2.2.2.2.1 u.2.2.2.2.2.1 u.2.2.2.2.2.2.1 u.2.2.2.2.2.2.2.1 u.2.2.2.2.2.2.2.2.1 u.2.2.2.2.2.2.2.2.2.1 u.2.2.2.2.2.2.2.2.2.2)) (fun (u : (Nat → Int32) × (Nat → Int64) × (Nat → Int32) × (Nat → Int32) × (Nat → Int32) × (Nat → Int64) × (Nat → Int32) × (Nat → Int32) × (Nat → Int32) × (Nat → Int32) × (Nat → Int64)) (t : State) => va_P D zz_cl (xw_C q cA (nI lm) u.1 u.2.1 (nI (xs_now B0 R0).length) u.2.2.1 u.2.2.2.1 u.2.2.2.2.1 u.2.2.2.2.2.1 u.2.2.2.2.2.2.1 u.2.2.2.2.2.2.2.1 (nI (R0).length) u.2.2.2.2.2.2.2.2.1 u.2.2.2.2.2.2.2.2.2.1 u.2.2.2.2.2.2.2.2.2.2 (xb_i true) (nI (if bt = true then ST else []).length)) t.heap) (va_A (xw_C q cA (nI lm) kf kg (nI (xs_now B0 R0).length) af bf rk rv rm rs (nI R0.length) bp bk bv (xb_i bt) (nI ST.length)) sz)) 0 0 (va_A (xw_C q cA (nI lm) kf kg (nI (xs_now B0 R0).length) af bf rk rv rm rs (nI R0.length) bp bk bv (xb_i bt) (nI ST.length)) sz) := by
  refine Met.ofW (cc := b_E_open) (maxL := 1) (ret := (some .boolean)) (by decide) rfl ?_
  intro pJ eJ s mJ args below meth cJ s₁ B hml hv
  obtain ⟨rfl, hsz, hP, hK, hD0, hZ⟩ := hv
  have hx := B.exec
  have hb := B.bytes
  have hr := B.returns
  have hts := atoms_spec (ws := zw_E_open) B.pre
  have hown : s.vm.findClass R_E = some mJ.cls := findClass_of_methodNamed B.named
  have hlocks := B.notSynchronized
  subst hsz
  have hD := hD0.self (sz := s.heap.size)
  generalize hAe : va_A (xw_C q cA (nI lm) kf kg (nI (xs_now B0 R0).length) af bf rk rv rm rs (nI R0.length) bp bk bv (xb_i bt) (nI ST.length)) s.heap.size = A at hD ⊢
  have hA : ∀ q : Nat, s.heap.size ≤ q → A q := fun q h => by rw [← hAe]; exact Or.inr h
  have hS : va_S A s.heap s.heap [] := va_S.rf
  have hl := lv_entry ([.ref (q 0)]) (n := 1) (Nat.le_of_ble_eq_true rfl)
  rw [lg_entry_eq]
  generalize (lg_sl ([.ref (q 0)]) ++ List.replicate (1 - (lg_sl ([.ref (q 0)])).length) Slot.unset).toArray = ls at hl ⊢
  have hl : lv_has ls 1 [(0, .ref (q 0))] := hl
  have h60 : (xs_now B0 R0).length ≤ 60 := hok.2.2.2.2.2.1
  have h64 := hok.2.2.1
  refine lv_aload_n hx hb d_E_open_0 rfl (lv_at hl 0 rfl) ?_
  refine va_get (D := D) (ci := 0) (v := .ref (q 4)) (C := R_E) (T := F_E) (N := 4) hx hb hts (zi_E _) hown hK hP 0 rfl rfl 3 (by decide) (hts _ (List.mem_cons_of_mem _ zm_116)) (fun _ h9 => h9) rfl d_E_open_1 ?_
  refine va_getN (D := D) (ci := 4) (v := .int (xb_i bt)) (C := R_B) (T := F_B) (N := 5) hx hb hts (zi_B _) hown hK hP 4 rfl rfl 3 (by decide) (va_Nw.use rfl (hZ _ zn_98)) (fun _ h9 => h9) rfl d_E_open_4 ?_
  refine lv_if_eq (tgt := 12) hx hb d_E_open_7 (by decide) (fun hc7 => ?_) (fun hc7 => ?_)
  · skip
    rw [xb_0] at hc7
    refine lv_aload_n hx hb d_E_open_12 rfl (lv_at hl 0 rfl) ?_
    refine va_get (D := D) (ci := 0) (v := .ref (q 4)) (C := R_E) (T := F_E) (N := 4) hx hb hts (zi_E _) hown hK hP 0 rfl rfl 3 (by decide) (hts _ (List.mem_cons_of_mem _ zm_116)) (fun _ h9 => h9) rfl d_E_open_13 ?_
    refine xa_cMV (va_runV (As := []) (rest := []) ⟨hx, hb, hml, hown, hts⟩ (c_B_begin l D q cA (nI lm) kf kg (nI (xs_now B0 R0).length) af bf rk rv rm rs (nI R0.length) bp bk bv (xb_i bt) (nI ST.length) s.heap.size) (cwV 0 hts (zg_V zm_277 zm_278 zm_279 zm_6 zm_280) rfl rfl rfl (by decide +kernel) ⟨Nat.le_of_ble_eq_true rfl, Nat.le_of_ble_eq_true rfl⟩) (xp_preVQ (ci := 4) (q0 := 4) hK hP hD rfl rfl rfl hZ) rfl rfl hl.1 rfl (lv_room (Nat.le_of_ble_eq_true rfl)) d_E_open_16 ⟨Nat.zero_le _, Nat.zero_le _⟩) hS (xa_F hD hS hA) (fun u H locs hp16 hP hS => ?_)
    have hP : va_P D zz_cl (xw_C q cA (nI lm) kf kg (nI (xs_now B0 R0).length) af bf rk rv rm rs (nI R0.length) bp bk bv (xb_i true) (nI 0)) H := hP
    have hD : va_D A (xw_C q cA (nI lm) kf kg (nI (xs_now B0 R0).length) af bf rk rv rm rs (nI R0.length) bp bk bv (xb_i true) (nI 0)) := xa_E hD rfl
    refine lv_iconst (v := nI 1) hx hb d_E_open_19 (by decide +kernel) ?_
    exact W.zret (ty := .boolean) (v := nI 1) hx hb hr (by decide +kernel) (fun tJ htJ hWJ => ⟨⟨_, (kf, kg, af, bf, rk, rv, rm, rs, bp, bk, bv), rfl, ⟨by rw [hc7]; rfl, by rw [if_neg (by rw [hc7]; decide)]; exact ⟨hC.1, hC.2.1, hC.2.2.1, xs_bt_nil _ _ _⟩⟩, by dsimp only; rw [htJ]; rw [if_neg (by rw [hc7]; decide)]; exact hP⟩, hS.F htJ⟩) hS.2.2 d_E_open_20
  · skip
    rw [xb_1] at hc7
    refine lv_iconst (v := nI 0) hx hb d_E_open_10 (by decide +kernel) ?_
    exact W.zret (ty := .boolean) (v := nI 0) hx hb hr (by decide +kernel) (fun tJ htJ hWJ => ⟨⟨_, (kf, kg, af, bf, rk, rv, rm, rs, bp, bk, bv), rfl, ⟨by rw [hc7]; rfl, by rw [if_pos hc7]; exact hC⟩, by dsimp only; rw [htJ]; rw [if_pos hc7, ← hc7]; exact hP⟩, hS.F htJ⟩) hS.2.2 d_E_open_11
set_option maxHeartbeats 4000000 in
set_option maxRecDepth 100000 in
theorem c_E_aban (l : Launch) (D : va_G) (q : Nat → Nat) (cA : Nat → ClassId) (kf : Nat → Int32) (kg : Nat → Int64) (af : Nat → Int32) (bf : Nat → Int32) (rk : Nat → Int32) (rv : Nat → Int64) (rm : Nat → Int32) (rs : Nat → Int32) (bp : Nat → Int32) (bk : Nat → Int32) (bv : Nat → Int64) (sz : Nat) (lm : Nat) (B0 : List xk_E) (R0 : List xs_R) (bt : Bool) (ST : List xs_O) (hC : xs_CT B0 R0 ST kf kg af bf rk rv rm rs bp bk bv) (hok : xs_ok lm B0 R0) (hlm : lm ≤ 200) (hst : ST.length ≤ 5) : Met l y_E_abandon zw_E_abandon ({ frames := 1, cells := 0, slots := 0, locals := 20 } : Room) (va_Pc [.ref (q 0)] (xp_Q D zz_cl (xw_tC cA) sz (xw_C q cA (nI lm) kf kg (nI (xs_now B0 R0).length) af bf rk rv rm rs (nI R0.length) bp bk bv (xb_i bt) (nI ST.length)))) (va_Qi (fun (r : Int32) (u : (Nat → Int32) × (Nat → Int64) × (Nat → Int32) × (Nat → Int32) × (Nat → Int32) × (Nat → Int64) × (Nat → Int32) × (Nat → Int32) × (Nat → Int32) × (Nat → Int32) × (Nat → Int64)) => r = (if bt = true then nI ST.length else (-1)) ∧ (xs_CT B0 R0 (if bt = true then [] else ST) u.1 u.2.1 u.2.2.1 u.2.2.2.1 u.2.2.2.2.1 u.2.2.2.2.2.1 u.2.2.2.2.2.2.1 u.2.2.2.2.2.2.2.1 u.2.2.2.2.2.2.2.2.1 u.2.2.2.2.2.2.2.2.2.1 u.2.2.2.2.2.2.2.2.2.2)) (fun (u : (Nat → Int32) × (Nat → Int64) × (Nat → Int32) × (Nat → Int32) × (Nat → Int32) × (Nat → Int64) × (Nat → Int32) × (Nat → Int32) × (Nat → Int32) × (Nat → Int32) × (Nat → Int64)) (t : State) => va_P D zz_cl (xw_C q cA (nI lm) u.1 u.2.1 (nI (xs_now B0 R0).length) u.2.2.1 u.2.2.2.1 u.2.2.2.2.1 u.2.2.2.2.2.1 u.2.2.2.2.2.2.1 u.2.2.2.2.2.2.2.1 (nI (R0).length) u.2.2.2.2.2.2.2.2.1 u.2.2.2.2.2.2.2.2.2.1 u.2.2.2.2.2.2.2.2.2.2 (xb_i false) (nI (if bt = true then [] else ST).length)) t.heap) (va_A (xw_C q cA (nI lm) kf kg (nI (xs_now B0 R0).length) af bf rk rv rm rs (nI R0.length) bp bk bv (xb_i bt) (nI ST.length)) sz)) 0 0 (va_A (xw_C q cA (nI lm) kf kg (nI (xs_now B0 R0).length) af bf rk rv rm rs (nI R0.length) bp bk bv (xb_i bt) (nI ST.length)) sz) := by
  refine Met.ofW (cc := b_E_abandon) (maxL := 2) (ret := (some .int)) (by decide) rfl ?_
  intro pJ eJ s mJ args below meth cJ s₁ B hml hv
  obtain ⟨rfl, hsz, hP, hK, hD0, hZ⟩ := hv
  have hx := B.exec
  have hb := B.bytes
  have hr := B.returns
  have hts := atoms_spec (ws := zw_E_abandon) B.pre
  have hown : s.vm.findClass R_E = some mJ.cls := findClass_of_methodNamed B.named
  have hlocks := B.notSynchronized
  subst hsz
  have hD := hD0.self (sz := s.heap.size)
  generalize hAe : va_A (xw_C q cA (nI lm) kf kg (nI (xs_now B0 R0).length) af bf rk rv rm rs (nI R0.length) bp bk bv (xb_i bt) (nI ST.length)) s.heap.size = A at hD ⊢
  have hA : ∀ q : Nat, s.heap.size ≤ q → A q := fun q h => by rw [← hAe]; exact Or.inr h
  have hS : va_S A s.heap s.heap [] := va_S.rf
  have hl := lv_entry ([.ref (q 0)]) (n := 2) (Nat.le_of_ble_eq_true rfl)
  rw [lg_entry_eq]
  generalize (lg_sl ([.ref (q 0)]) ++ List.replicate (2 - (lg_sl ([.ref (q 0)])).length) Slot.unset).toArray = ls at hl ⊢
  have hl : lv_has ls 2 [(0, .ref (q 0))] := hl
  have h60 : (xs_now B0 R0).length ≤ 60 := hok.2.2.2.2.2.1
  have h64 := hok.2.2.1
  refine lv_aload_n hx hb d_E_abandon_0 rfl (lv_at hl 0 rfl) ?_
  refine va_get (D := D) (ci := 0) (v := .ref (q 4)) (C := R_E) (T := F_E) (N := 4) hx hb hts (zi_E _) hown hK hP 0 rfl rfl 3 (by decide) (hts _ (List.mem_cons_of_mem _ zm_116)) (fun _ h9 => h9) rfl d_E_abandon_1 ?_
  refine va_getN (D := D) (ci := 4) (v := .int (xb_i bt)) (C := R_B) (T := F_B) (N := 5) hx hb hts (zi_B _) hown hK hP 4 rfl rfl 3 (by decide) (va_Nw.use rfl (hZ _ zn_98)) (fun _ h9 => h9) rfl d_E_abandon_4 ?_
  refine lv_if_ne (tgt := 12) hx hb d_E_abandon_7 (by decide) (fun hc7 => ?_) (fun hc7 => ?_)
  · skip
    rw [xb_1] at hc7
    refine lv_aload_n hx hb d_E_abandon_12 rfl (lv_at hl 0 rfl) ?_
    refine va_get (D := D) (ci := 0) (v := .ref (q 4)) (C := R_E) (T := F_E) (N := 4) hx hb hts (zi_E _) hown hK hP 0 rfl rfl 3 (by decide) (hts _ (List.mem_cons_of_mem _ zm_116)) (fun _ h9 => h9) rfl d_E_abandon_13 ?_
    refine va_getN (D := D) (ci := 4) (v := .int (nI ST.length)) (C := R_B) (T := F_B) (N := 5) hx hb hts (zi_B _) hown hK hP 4 rfl rfl 4 (by decide) (va_Nw.use rfl (hZ _ zn_100)) (fun _ h9 => h9) rfl d_E_abandon_16 ?_
    refine lv_istore_n (lv' := [(1, .int (nI ST.length)), (0, .ref (q 0))]) hx hb d_E_abandon_19 rfl hl (Nat.le_of_ble_eq_true rfl) rfl (fun ls hl => ?_)
    refine lv_aload_n hx hb d_E_abandon_20 rfl (lv_at hl 1 rfl) ?_
    refine va_get (D := D) (ci := 0) (v := .ref (q 4)) (C := R_E) (T := F_E) (N := 4) hx hb hts (zi_E _) hown hK hP 0 rfl rfl 3 (by decide) (hts _ (List.mem_cons_of_mem _ zm_116)) (fun _ h9 => h9) rfl d_E_abandon_21 ?_
    refine xa_cMV (va_runV (As := []) (rest := []) ⟨hx, hb, hml, hown, hts⟩ (c_B_end l D q cA (nI lm) kf kg (nI (xs_now B0 R0).length) af bf rk rv rm rs (nI R0.length) bp bk bv (xb_i bt) (nI ST.length) s.heap.size) (cwV 0 hts (zg_V zm_289 zm_290 zm_291 zm_6 zm_292) rfl rfl rfl (by decide +kernel) ⟨Nat.le_of_ble_eq_true rfl, Nat.le_of_ble_eq_true rfl⟩) (xp_preVQ (ci := 4) (q0 := 4) hK hP hD rfl rfl rfl hZ) rfl rfl hl.1 rfl (lv_room (Nat.le_of_ble_eq_true rfl)) d_E_abandon_24 ⟨Nat.zero_le _, Nat.zero_le _⟩) hS (xa_F hD hS hA) (fun u H locs hp24 hP hS => ?_)
    have hP : va_P D zz_cl (xw_C q cA (nI lm) kf kg (nI (xs_now B0 R0).length) af bf rk rv rm rs (nI R0.length) bp bk bv (xb_i false) (nI 0)) H := hP
    have hD : va_D A (xw_C q cA (nI lm) kf kg (nI (xs_now B0 R0).length) af bf rk rv rm rs (nI R0.length) bp bk bv (xb_i false) (nI 0)) := xa_E hD rfl
    refine lv_iload_n hx hb d_E_abandon_27 rfl (lv_at hl 0 rfl) ?_
    exact W.iret (v := nI ST.length) hx hb hr (fun tJ htJ hWJ => ⟨⟨_, (kf, kg, af, bf, rk, rv, rm, rs, bp, bk, bv), rfl, ⟨by rw [if_pos hc7], by rw [if_pos hc7]; exact ⟨hC.1, hC.2.1, hC.2.2.1, xs_bt_nil _ _ _⟩⟩, by dsimp only; rw [htJ]; rw [if_pos hc7]; exact hP⟩, hS.F htJ⟩) hS.2.2 d_E_abandon_28
  · skip
    rw [xb_0] at hc7
    refine lv_iconst (v := (-1)) hx hb d_E_abandon_10 (by decide +kernel) ?_
    exact W.iret (v := (-1)) hx hb hr (fun tJ htJ hWJ => ⟨⟨_, (kf, kg, af, bf, rk, rv, rm, rs, bp, bk, bv), rfl, ⟨by rw [if_neg (by rw [hc7]; decide)], by rw [if_neg (by rw [hc7]; decide)]; exact hC⟩, by dsimp only; rw [htJ]; rw [if_neg (by rw [hc7]; decide), ← hc7]; exact hP⟩, hS.F htJ⟩) hS.2.2 d_E_abandon_11
set_option maxHeartbeats 4000000 in
set_option maxRecDepth 100000 in
theorem c_E_flush (l : Launch) (D : va_G) (q : Nat → Nat) (cA : Nat → ClassId) (kf : Nat → Int32) (kg : Nat → Int64) (af : Nat → Int32) (bf : Nat → Int32) (rk : Nat → Int32) (rv : Nat → Int64) (rm : Nat → Int32) (rs : Nat → Int32) (bp : Nat → Int32) (bk : Nat → Int32) (bv : Nat → Int64) (sz : Nat) (lm : Nat) (B0 : List xk_E) (R0 : List xs_R) (bt : Bool) (ST : List xs_O) (hC : xs_CT B0 R0 ST kf kg af bf rk rv rm rs bp bk bv) (hok : xs_ok lm B0 R0) (hlm : lm ≤ 200) (hst : ST.length ≤ 5) : Met l y_E_flush zw_E_flush ({ frames := 2, cells := 0, slots := 0, locals := 42 } : Room) (va_Pc [.ref (q 0)] (xp_Q D zz_cl (xw_tC cA) sz (xw_C q cA (nI lm) kf kg (nI (xs_now B0 R0).length) af bf rk rv rm rs (nI R0.length) bp bk bv (xb_i bt) (nI ST.length)))) (va_Qi (fun (r : Int32) (u : (Nat → Int32) × (Nat → Int64) × (Nat → Int32) × (Nat → Int32) × (Nat → Int32) × (Nat → Int64) × (Nat → Int32) × (Nat → Int32) × (Nat → Int32) × (Nat → Int32) × (Nat → Int64)) => r = (nI R0.length) ∧ (xs_CT (xs_now B0 R0) (([] : List xs_R)) ST u.1 u.2.1 u.2.2.1 u.2.2.2.1 u.2.2.2.2.1 u.2.2.2.2.2.1 u.2.2.2.2.2.2.1 u.2.2.2.2.2.2.2.1 u.2.2.2.2.2.2.2.2.1 u.2.2.2.2.2.2.2.2.2.1 u.2.2.2.2.2.2.2.2.2.2)) (fun (u : (Nat → Int32) × (Nat → Int64) × (Nat → Int32) × (Nat → Int32) × (Nat → Int32) × (Nat → Int64) × (Nat → Int32) × (Nat → Int32) × (Nat → Int32) × (Nat → Int32) × (Nat → Int64)) (t : State) => va_P D zz_cl (xw_C q cA (nI lm) u.1 u.2.1 (nI (xs_now (xs_now B0 R0) (([] : List xs_R))).length) u.2.2.1 u.2.2.2.1 u.2.2.2.2.1 u.2.2.2.2.2.1 u.2.2.2.2.2.2.1 u.2.2.2.2.2.2.2.1 (nI (([] : List xs_R)).length) u.2.2.2.2.2.2.2.2.1 u.2.2.2.2.2.2.2.2.2.1 u.2.2.2.2.2.2.2.2.2.2 (xb_i bt) (nI (ST).length)) t.heap) (va_A (xw_C q cA (nI lm) kf kg (nI (xs_now B0 R0).length) af bf rk rv rm rs (nI R0.length) bp bk bv (xb_i bt) (nI ST.length)) sz)) 0 0 (va_A (xw_C q cA (nI lm) kf kg (nI (xs_now B0 R0).length) af bf rk rv rm rs (nI R0.length) bp bk bv (xb_i bt) (nI ST.length)) sz) := by
  refine Met.ofW (cc := b_E_flush) (maxL := 2) (ret := (some .int)) (by decide) rfl ?_
  intro pJ eJ s mJ args below meth cJ s₁ B hml hv
  obtain ⟨rfl, hsz, hP, hK, hD0, hZ⟩ := hv
  have hx := B.exec
  have hb := B.bytes
  have hr := B.returns
  have hts := atoms_spec (ws := zw_E_flush) B.pre
  have hown : s.vm.findClass R_E = some mJ.cls := findClass_of_methodNamed B.named
  have hlocks := B.notSynchronized
  subst hsz
  have hD := hD0.self (sz := s.heap.size)
  generalize hAe : va_A (xw_C q cA (nI lm) kf kg (nI (xs_now B0 R0).length) af bf rk rv rm rs (nI R0.length) bp bk bv (xb_i bt) (nI ST.length)) s.heap.size = A at hD ⊢
  have hA : ∀ q : Nat, s.heap.size ≤ q → A q := fun q h => by rw [← hAe]; exact Or.inr h
  have hS : va_S A s.heap s.heap [] := va_S.rf
  have hl := lv_entry ([.ref (q 0)]) (n := 2) (Nat.le_of_ble_eq_true rfl)
  rw [lg_entry_eq]
  generalize (lg_sl ([.ref (q 0)]) ++ List.replicate (2 - (lg_sl ([.ref (q 0)])).length) Slot.unset).toArray = ls at hl ⊢
  have hl : lv_has ls 2 [(0, .ref (q 0))] := hl
  have h60 : (xs_now B0 R0).length ≤ 60 := hok.2.2.2.2.2.1
  have h64 := hok.2.2.1
  refine lv_aload_n hx hb d_E_flush_0 rfl (lv_at hl 0 rfl) ?_
  refine va_get (D := D) (ci := 0) (v := .ref (q 3)) (C := R_E) (T := F_E) (N := 4) hx hb hts (zi_E _) hown hK hP 0 rfl rfl 2 (by decide) (hts _ (List.mem_cons_of_mem _ zm_115)) (fun _ h9 => h9) rfl d_E_flush_1 ?_
  refine va_getN (D := D) (ci := 3) (v := .int (nI R0.length)) (C := R_R) (T := F_R) (N := 5) hx hb hts (zi_R _) hown hK hP 3 rfl rfl 4 (by decide) (va_Nw.use rfl (hZ _ zn_72)) (fun _ h9 => h9) rfl d_E_flush_4 ?_
  refine lv_istore_n (lv' := [(1, .int (nI R0.length)), (0, .ref (q 0))]) hx hb d_E_flush_7 rfl hl (Nat.le_of_ble_eq_true rfl) rfl (fun ls hl => ?_)
  refine lv_aload_n hx hb d_E_flush_8 rfl (lv_at hl 1 rfl) ?_
  refine va_get (D := D) (ci := 0) (v := .ref (q 3)) (C := R_E) (T := F_E) (N := 4) hx hb hts (zi_E _) hown hK hP 0 rfl rfl 2 (by decide) (hts _ (List.mem_cons_of_mem _ zm_115)) (fun _ h9 => h9) rfl d_E_flush_9 ?_
  refine lv_iconst (v := nI 0) hx hb d_E_flush_12 (by decide +kernel) ?_
  refine xa_cMV (va_runV (As := [.int (nI 0)]) (rest := []) ⟨hx, hb, hml, hown, hts⟩ (c_R_forget l D q cA (nI lm) kf kg (nI (xs_now B0 R0).length) af bf rk rv rm rs bp bk bv (xb_i bt) (nI ST.length) s.heap.size R0.length 0 (by omega) (by omega)) (cwV 1 hts (zg_V zm_236 zm_237 zm_238 zm_5 zm_239) rfl rfl rfl (by decide +kernel) ⟨Nat.le_of_ble_eq_true rfl, Nat.le_of_ble_eq_true rfl⟩) (xp_preVQ (ci := 3) (q0 := 3) hK hP hD rfl rfl rfl hZ) rfl rfl hl.1 rfl (lv_room (Nat.le_of_ble_eq_true rfl)) d_E_flush_13 ⟨Nat.zero_le _, Nat.zero_le _⟩) hS (xa_F hD hS hA) (fun u H locs hp13 hP hS => ?_)
  have hP : va_P D zz_cl (xw_C q cA (nI lm) kf kg (nI (xs_now B0 R0).length) af bf rk rv rm rs (nI (min R0.length 0)) bp bk bv (xb_i bt) (nI ST.length)) H := hP
  have hD : va_D A (xw_C q cA (nI lm) kf kg (nI (xs_now B0 R0).length) af bf rk rv rm rs (nI (min R0.length 0)) bp bk bv (xb_i bt) (nI ST.length)) := xa_E hD rfl
  rw [show nI (min R0.length 0) = nI 0 from by rw [Nat.min_zero]] at hP hD
  refine lv_iload_n hx hb d_E_flush_16 rfl (lv_at hl 0 rfl) ?_
  exact W.iret (v := nI R0.length) hx hb hr (fun tJ htJ hWJ => ⟨⟨_, (kf, kg, af, bf, rk, rv, rm, rs, bp, bk, bv), rfl, ⟨rfl, xs_C_cut hC.1 hC.2.2.2⟩, by dsimp only; rw [htJ]; rw [xs_now_nil]; exact hP⟩, hS.F htJ⟩) hS.2.2 d_E_flush_17
set_option maxHeartbeats 4000000 in
set_option maxRecDepth 100000 in
theorem c_E_crash (l : Launch) (D : va_G) (q : Nat → Nat) (cA : Nat → ClassId) (kf : Nat → Int32) (kg : Nat → Int64) (af : Nat → Int32) (bf : Nat → Int32) (rk : Nat → Int32) (rv : Nat → Int64) (rm : Nat → Int32) (rs : Nat → Int32) (bp : Nat → Int32) (bk : Nat → Int32) (bv : Nat → Int64) (sz : Nat) (lm : Nat) (B0 : List xk_E) (R0 : List xs_R) (bt : Bool) (ST : List xs_O) (x : Int32) (hC : xs_CT B0 R0 ST kf kg af bf rk rv rm rs bp bk bv) (hok : xs_ok lm B0 R0) (hlm : lm ≤ 200) (hst : ST.length ≤ 5) : Met l y_E_crash zw_E_crash ({ frames := 5, cells := 0, slots := 0, locals := 130 } : Room) (va_Pc [.ref (q 0), .int x] (xp_Q D zz_cl (xw_tC cA) sz (xw_C q cA (nI lm) kf kg (nI (xs_now B0 R0).length) af bf rk rv rm rs (nI R0.length) bp bk bv (xb_i bt) (nI ST.length)))) (va_Qi (fun (r : Int32) (u : (Nat → Int32) × (Nat → Int64) × (Nat → Int32) × (Nat → Int32) × (Nat → Int32) × (Nat → Int64) × (Nat → Int32) × (Nat → Int32) × (Nat → Int32) × (Nat → Int32) × (Nat → Int64)) => r = (nI (R0.length - xs_cut R0 x)) ∧ (xs_CT (xs_S B0 R0 (xs_cut R0 x)) (([] : List xs_R)) (([] : List xs_O)) u.1 u.2.1 u.2.2.1 u.2.2.2.1 u.2.2.2.2.1 u.2.2.2.2.2.1 u.2.2.2.2.2.2.1 u.2.2.2.2.2.2.2.1 u.2.2.2.2.2.2.2.2.1 u.2.2.2.2.2.2.2.2.2.1 u.2.2.2.2.2.2.2.2.2.2)) (fun (u : (Nat → Int32) × (Nat → Int64) × (Nat → Int32) × (Nat → Int32) × (Nat → Int32) × (Nat → Int64) × (Nat → Int32) × (Nat → Int32) × (Nat → Int32) × (Nat → Int32) × (Nat → Int64)) (t : State) => va_P D zz_cl (xw_C q cA (nI lm) u.1 u.2.1 (nI (xs_now (xs_S B0 R0 (xs_cut R0 x)) (([] : List xs_R))).length) u.2.2.1 u.2.2.2.1 u.2.2.2.2.1 u.2.2.2.2.2.1 u.2.2.2.2.2.2.1 u.2.2.2.2.2.2.2.1 (nI (([] : List xs_R)).length) u.2.2.2.2.2.2.2.2.1 u.2.2.2.2.2.2.2.2.2.1 u.2.2.2.2.2.2.2.2.2.2 (xb_i false) (nI (([] : List xs_O)).length)) t.heap) (va_A (xw_C q cA (nI lm) kf kg (nI (xs_now B0 R0).length) af bf rk rv rm rs (nI R0.length) bp bk bv (xb_i bt) (nI ST.length)) sz)) 0 0 (va_A (xw_C q cA (nI lm) kf kg (nI (xs_now B0 R0).length) af bf rk rv rm rs (nI R0.length) bp bk bv (xb_i bt) (nI ST.length)) sz) := by
  refine Met.ofW (cc := b_E_crash) (maxL := 4) (ret := (some .int)) (by decide) rfl ?_
  intro pJ eJ s mJ args below meth cJ s₁ B hml hv
  obtain ⟨rfl, hsz, hP, hK, hD0, hZ⟩ := hv
  have hx := B.exec
  have hb := B.bytes
  have hr := B.returns
  have hts := atoms_spec (ws := zw_E_crash) B.pre
  have hown : s.vm.findClass R_E = some mJ.cls := findClass_of_methodNamed B.named
  have hlocks := B.notSynchronized
  subst hsz
  have hD := hD0.self (sz := s.heap.size)
  generalize hAe : va_A (xw_C q cA (nI lm) kf kg (nI (xs_now B0 R0).length) af bf rk rv rm rs (nI R0.length) bp bk bv (xb_i bt) (nI ST.length)) s.heap.size = A at hD ⊢
  have hA : ∀ q : Nat, s.heap.size ≤ q → A q := fun q h => by rw [← hAe]; exact Or.inr h
  have hS : va_S A s.heap s.heap [] := va_S.rf
  have hl := lv_entry ([.ref (q 0), .int x]) (n := 4) (Nat.le_of_ble_eq_true rfl)
  rw [lg_entry_eq]
  generalize (lg_sl ([.ref (q 0), .int x]) ++ List.replicate (4 - (lg_sl ([.ref (q 0), .int x])).length) Slot.unset).toArray = ls at hl ⊢
  have hl : lv_has ls 4 [(0, .ref (q 0)), (1, .int x)] := hl
  have h60 : (xs_now B0 R0).length ≤ 60 := hok.2.2.2.2.2.1
  have h64 := hok.2.2.1
  have hcut := (xs_cut_le hok x).1
  refine lv_aload_n hx hb d_E_crash_0 rfl (lv_at hl 0 rfl) ?_
  refine va_get (D := D) (ci := 0) (v := .ref (q 3)) (C := R_E) (T := F_E) (N := 4) hx hb hts (zi_E _) hown hK hP 0 rfl rfl 2 (by decide) (hts _ (List.mem_cons_of_mem _ zm_115)) (fun _ h9 => h9) rfl d_E_crash_1 ?_
  refine lv_iload_n hx hb d_E_crash_4 rfl (lv_at hl 1 rfl) ?_
  refine xa_cI (va_runV (As := [.int x]) (rest := []) ⟨hx, hb, hml, hown, hts⟩ (c_R_surv l D q cA (nI lm) kf kg (nI (xs_now B0 R0).length) af bf rk rv rm rs bp bk bv (xb_i bt) (nI ST.length) R0.length x (by omega)) (cwV 1 hts (zg_V zm_309 zm_310 zm_311 zm_5 zm_312) rfl rfl rfl (by decide +kernel) ⟨Nat.le_of_ble_eq_true rfl, Nat.le_of_ble_eq_true rfl⟩) (xp_preV (ci := 3) (q0 := 3) hK hP rfl rfl rfl hZ) rfl rfl hl.1 rfl (lv_room (Nat.le_of_ble_eq_true rfl)) d_E_crash_5 ⟨Nat.zero_le _, Nat.zero_le _⟩) ?_
  refine xa_top (y := nI (xs_cut R0 x)) (xs_cut_eq hC.2.2.1 x) ?_
  refine lv_istore_n (lv' := [(2, .int (nI (xs_cut R0 x))), (0, .ref (q 0)), (1, .int x)]) hx hb d_E_crash_8 rfl hl (Nat.le_of_ble_eq_true rfl) rfl (fun ls hl => ?_)
  refine lv_aload_n hx hb d_E_crash_9 rfl (lv_at hl 1 rfl) ?_
  refine va_get (D := D) (ci := 0) (v := .ref (q 3)) (C := R_E) (T := F_E) (N := 4) hx hb hts (zi_E _) hown hK hP 0 rfl rfl 2 (by decide) (hts _ (List.mem_cons_of_mem _ zm_115)) (fun _ h9 => h9) rfl d_E_crash_10 ?_
  refine va_getN (D := D) (ci := 3) (v := .int (nI R0.length)) (C := R_R) (T := F_R) (N := 5) hx hb hts (zi_R _) hown hK hP 3 rfl rfl 4 (by decide) (va_Nw.use rfl (hZ _ zn_72)) (fun _ h9 => h9) rfl d_E_crash_13 ?_
  refine lv_iload_n hx hb d_E_crash_16 rfl (lv_at hl 0 rfl) ?_
  refine lv_isub hx hb d_E_crash_17 ?_
  refine xa_top (y := nI (R0.length - (xs_cut R0 x))) (pk_sub (by omega)) ?_
  refine lv_istore_n (lv' := [(3, .int (nI (R0.length - (xs_cut R0 x)))), (2, .int (nI (xs_cut R0 x))), (0, .ref (q 0)), (1, .int x)]) hx hb d_E_crash_18 rfl hl (Nat.le_of_ble_eq_true rfl) rfl (fun ls hl => ?_)
  refine lv_aload_n hx hb d_E_crash_19 rfl (lv_at hl 2 rfl) ?_
  refine lv_iload_n hx hb d_E_crash_20 rfl (lv_at hl 1 rfl) ?_
  refine xa_cMV (va_runV (As := [.int (nI (xs_cut R0 x))]) (rest := []) ⟨hx, hb, hml, hown, hts⟩ (c_E_tbf l D q cA (nI lm) kf kg af bf rk rv rm rs bp bk bv (xb_i bt) (nI ST.length) s.heap.size (xs_S B0 R0) R0.length (xs_cut R0 x) hC.1 (by omega) (by omega) (fun i _ hi => xs_cn_U (xs_ct_cn hC.2.1 _) hok.1 hok.2.2.2.1 (xs_ok_w hok) (Nat.le_refl _) i hi)) (cwV 1 hts (zg_V zm_228 zm_230 zs_7 zm_1 zm_231) rfl rfl rfl (by decide +kernel) ⟨Nat.le_of_ble_eq_true rfl, Nat.le_of_ble_eq_true rfl⟩) (xp_preVQ (ci := 0) (q0 := 0) hK hP hD rfl rfl rfl hZ) rfl rfl hl.1 rfl (lv_room (Nat.le_of_ble_eq_true rfl)) d_E_crash_21 ⟨Nat.zero_le _, Nat.zero_le _⟩) hS (xa_F hD hS hA) (fun u H locs hp21 hP hS => ?_)
  obtain ⟨kf2_21, kg2_21, af2_21, bf2_21⟩ := u
  have hP : va_P D zz_cl (xw_C q cA (nI lm) kf2_21 kg2_21 (nI (xs_S B0 R0 (xs_cut R0 x)).length) af2_21 bf2_21 rk rv rm rs (nI (xs_cut R0 x)) bp bk bv (xb_i bt) (nI ST.length)) H := hP
  have hD : va_D A (xw_C q cA (nI lm) kf2_21 kg2_21 (nI (xs_S B0 R0 (xs_cut R0 x)).length) af2_21 bf2_21 rk rv rm rs (nI (xs_cut R0 x)) bp bk bv (xb_i bt) (nI ST.length)) := xa_E hD rfl
  have hp21 : xw_KT kf2_21 kg2_21 af2_21 bf2_21 (xs_S B0 R0 (xs_cut R0 x)) := hp21
  refine lv_aload_n hx hb d_E_crash_24 rfl (lv_at hl 2 rfl) ?_
  refine va_get (D := D) (ci := 0) (v := .ref (q 3)) (C := R_E) (T := F_E) (N := 4) hx hb hts (zi_E _) hown hK hP 0 rfl rfl 2 (by decide) (hts _ (List.mem_cons_of_mem _ zm_115)) (fun _ h9 => h9) rfl d_E_crash_25 ?_
  refine lv_iconst (v := nI 0) hx hb d_E_crash_28 (by decide +kernel) ?_
  refine xa_cMV (va_runV (As := [.int (nI 0)]) (rest := []) ⟨hx, hb, hml, hown, hts⟩ (c_R_forget l D q cA (nI lm) kf2_21 kg2_21 (nI (xs_S B0 R0 (xs_cut R0 x)).length) af2_21 bf2_21 rk rv rm rs bp bk bv (xb_i bt) (nI ST.length) H.size (xs_cut R0 x) 0 (by omega) (by omega)) (cwV 1 hts (zg_V zm_236 zm_237 zm_238 zm_5 zm_239) rfl rfl rfl (by decide +kernel) ⟨Nat.le_of_ble_eq_true rfl, Nat.le_of_ble_eq_true rfl⟩) (xp_preVQ (ci := 3) (q0 := 3) hK hP hD rfl rfl rfl hZ) rfl rfl hl.1 rfl (lv_room (Nat.le_of_ble_eq_true rfl)) d_E_crash_29 ⟨Nat.zero_le _, Nat.zero_le _⟩) hS (xa_F hD hS hA) (fun u H locs hp29 hP hS => ?_)
  have hP : va_P D zz_cl (xw_C q cA (nI lm) kf2_21 kg2_21 (nI (xs_S B0 R0 (xs_cut R0 x)).length) af2_21 bf2_21 rk rv rm rs (nI (min (xs_cut R0 x) 0)) bp bk bv (xb_i bt) (nI ST.length)) H := hP
  have hD : va_D A (xw_C q cA (nI lm) kf2_21 kg2_21 (nI (xs_S B0 R0 (xs_cut R0 x)).length) af2_21 bf2_21 rk rv rm rs (nI (min (xs_cut R0 x) 0)) bp bk bv (xb_i bt) (nI ST.length)) := xa_E hD rfl
  rw [show nI (min (xs_cut R0 x) 0) = nI 0 from by rw [Nat.min_zero]] at hP hD
  refine lv_aload_n hx hb d_E_crash_32 rfl (lv_at hl 2 rfl) ?_
  refine va_get (D := D) (ci := 0) (v := .ref (q 4)) (C := R_E) (T := F_E) (N := 4) hx hb hts (zi_E _) hown hK hP 0 rfl rfl 3 (by decide) (hts _ (List.mem_cons_of_mem _ zm_116)) (fun _ h9 => h9) rfl d_E_crash_33 ?_
  refine xa_cMV (va_runV (As := []) (rest := []) ⟨hx, hb, hml, hown, hts⟩ (c_B_end l D q cA (nI lm) kf2_21 kg2_21 (nI (xs_S B0 R0 (xs_cut R0 x)).length) af2_21 bf2_21 rk rv rm rs (nI 0) bp bk bv (xb_i bt) (nI ST.length) H.size) (cwV 0 hts (zg_V zm_289 zm_290 zm_291 zm_6 zm_292) rfl rfl rfl (by decide +kernel) ⟨Nat.le_of_ble_eq_true rfl, Nat.le_of_ble_eq_true rfl⟩) (xp_preVQ (ci := 4) (q0 := 4) hK hP hD rfl rfl rfl hZ) rfl rfl hl.1 rfl (lv_room (Nat.le_of_ble_eq_true rfl)) d_E_crash_36 ⟨Nat.zero_le _, Nat.zero_le _⟩) hS (xa_F hD hS hA) (fun u H locs hp36 hP hS => ?_)
  have hP : va_P D zz_cl (xw_C q cA (nI lm) kf2_21 kg2_21 (nI (xs_S B0 R0 (xs_cut R0 x)).length) af2_21 bf2_21 rk rv rm rs (nI 0) bp bk bv (xb_i false) (nI 0)) H := hP
  have hD : va_D A (xw_C q cA (nI lm) kf2_21 kg2_21 (nI (xs_S B0 R0 (xs_cut R0 x)).length) af2_21 bf2_21 rk rv rm rs (nI 0) bp bk bv (xb_i false) (nI 0)) := xa_E hD rfl
  refine lv_iload_n hx hb d_E_crash_39 rfl (lv_at hl 0 rfl) ?_
  exact W.iret (v := nI (R0.length - (xs_cut R0 x))) hx hb hr (fun tJ htJ hWJ => ⟨⟨_, (kf2_21, kg2_21, af2_21, bf2_21, rk, rv, rm, rs, bp, bk, bv), rfl, ⟨rfl, xs_C_cut hp21 (xs_bt_nil _ _ _)⟩, by dsimp only; rw [htJ]; rw [xs_now_nil]; exact hP⟩, hS.F htJ⟩) hS.2.2 d_E_crash_40
set_option maxHeartbeats 4000000 in
set_option maxRecDepth 100000 in
theorem c_E_commit (l : Launch) (D : va_G) (q : Nat → Nat) (cA : Nat → ClassId) (kf : Nat → Int32) (kg : Nat → Int64) (af : Nat → Int32) (bf : Nat → Int32) (rk : Nat → Int32) (rv : Nat → Int64) (rm : Nat → Int32) (rs : Nat → Int32) (bp : Nat → Int32) (bk : Nat → Int32) (bv : Nat → Int64) (sz : Nat) (lm : Nat) (B0 : List xk_E) (R0 : List xs_R) (bt : Bool) (ST : List xs_O) (hC : xs_CT B0 R0 ST kf kg af bf rk rv rm rs bp bk bv) (hok : xs_ok lm B0 R0) (hlm : lm ≤ 200) (hst : ST.length ≤ 5) : Met l y_E_commit zw_E_commit ({ frames := 6, cells := 0, slots := 0, locals := 152 } : Room) (va_Pc [.ref (q 0)] (xp_Q D zz_cl (xw_tC cA) sz (xw_C q cA (nI lm) kf kg (nI (xs_now B0 R0).length) af bf rk rv rm rs (nI R0.length) bp bk bv (xb_i bt) (nI ST.length)))) (va_Qi (fun (r : Int32) (u : (Nat → Int32) × (Nat → Int64) × (Nat → Int32) × (Nat → Int32) × (Nat → Int32) × (Nat → Int64) × (Nat → Int32) × (Nat → Int32) × (Nat → Int32) × (Nat → Int32) × (Nat → Int64)) => r = (if bt = true then (if xs_bad lm (xs_now B0 (xs_new B0 R0 (xs_N ST))) = true then nI 0 else nI (ST.length + 1)) else (-1)) ∧ (xs_CT (if bt = true then xs_pB lm B0 R0 false (xs_N ST) else B0) (if bt = true then xs_pR lm B0 R0 false (xs_N ST) else R0) (if bt = true then [] else ST) u.1 u.2.1 u.2.2.1 u.2.2.2.1 u.2.2.2.2.1 u.2.2.2.2.2.1 u.2.2.2.2.2.2.1 u.2.2.2.2.2.2.2.1 u.2.2.2.2.2.2.2.2.1 u.2.2.2.2.2.2.2.2.2.1 u.2.2.2.2.2.2.2.2.2.2)) (fun (u : (Nat → Int32) × (Nat → Int64) × (Nat → Int32) × (Nat → Int32) × (Nat → Int32) × (Nat → Int64) × (Nat → Int32) × (Nat → Int32) × (Nat → Int32) × (Nat → Int32) × (Nat → Int64)) (t : State) => va_P D zz_cl (xw_C q cA (nI lm) u.1 u.2.1 (nI (xs_now (if bt = true then xs_pB lm B0 R0 false (xs_N ST) else B0) (if bt = true then xs_pR lm B0 R0 false (xs_N ST) else R0)).length) u.2.2.1 u.2.2.2.1 u.2.2.2.2.1 u.2.2.2.2.2.1 u.2.2.2.2.2.2.1 u.2.2.2.2.2.2.2.1 (nI (if bt = true then xs_pR lm B0 R0 false (xs_N ST) else R0).length) u.2.2.2.2.2.2.2.2.1 u.2.2.2.2.2.2.2.2.2.1 u.2.2.2.2.2.2.2.2.2.2 (xb_i false) (nI (if bt = true then [] else ST).length)) t.heap) (va_A (xw_C q cA (nI lm) kf kg (nI (xs_now B0 R0).length) af bf rk rv rm rs (nI R0.length) bp bk bv (xb_i bt) (nI ST.length)) sz)) 0 0 (va_A (xw_C q cA (nI lm) kf kg (nI (xs_now B0 R0).length) af bf rk rv rm rs (nI R0.length) bp bk bv (xb_i bt) (nI ST.length)) sz) := by
  refine Met.ofW (cc := b_E_commit) (maxL := 3) (ret := (some .int)) (by decide) rfl ?_
  intro pJ eJ s mJ args below meth cJ s₁ B hml hv
  obtain ⟨rfl, hsz, hP, hK, hD0, hZ⟩ := hv
  have hx := B.exec
  have hb := B.bytes
  have hr := B.returns
  have hts := atoms_spec (ws := zw_E_commit) B.pre
  have hown : s.vm.findClass R_E = some mJ.cls := findClass_of_methodNamed B.named
  have hlocks := B.notSynchronized
  subst hsz
  have hD := hD0.self (sz := s.heap.size)
  generalize hAe : va_A (xw_C q cA (nI lm) kf kg (nI (xs_now B0 R0).length) af bf rk rv rm rs (nI R0.length) bp bk bv (xb_i bt) (nI ST.length)) s.heap.size = A at hD ⊢
  have hA : ∀ q : Nat, s.heap.size ≤ q → A q := fun q h => by rw [← hAe]; exact Or.inr h
  have hS : va_S A s.heap s.heap [] := va_S.rf
  have hl := lv_entry ([.ref (q 0)]) (n := 3) (Nat.le_of_ble_eq_true rfl)
  rw [lg_entry_eq]
  generalize (lg_sl ([.ref (q 0)]) ++ List.replicate (3 - (lg_sl ([.ref (q 0)])).length) Slot.unset).toArray = ls at hl ⊢
  have hl : lv_has ls 3 [(0, .ref (q 0))] := hl
  have h60 : (xs_now B0 R0).length ≤ 60 := hok.2.2.2.2.2.1
  have h64 := hok.2.2.1
  have hnw := xs_N_now B0 R0 ST
  refine lv_aload_n hx hb d_E_commit_0 rfl (lv_at hl 0 rfl) ?_
  refine va_get (D := D) (ci := 0) (v := .ref (q 4)) (C := R_E) (T := F_E) (N := 4) hx hb hts (zi_E _) hown hK hP 0 rfl rfl 3 (by decide) (hts _ (List.mem_cons_of_mem _ zm_116)) (fun _ h9 => h9) rfl d_E_commit_1 ?_
  refine va_getN (D := D) (ci := 4) (v := .int (xb_i bt)) (C := R_B) (T := F_B) (N := 5) hx hb hts (zi_B _) hown hK hP 4 rfl rfl 3 (by decide) (va_Nw.use rfl (hZ _ zn_98)) (fun _ h9 => h9) rfl d_E_commit_4 ?_
  refine lv_if_ne (tgt := 12) hx hb d_E_commit_7 (by decide) (fun hc7 => ?_) (fun hc7 => ?_)
  · skip
    rw [xb_1] at hc7
    refine lv_aload_n hx hb d_E_commit_12 rfl (lv_at hl 0 rfl) ?_
    refine va_get (D := D) (ci := 0) (v := .ref (q 3)) (C := R_E) (T := F_E) (N := 4) hx hb hts (zi_E _) hown hK hP 0 rfl rfl 2 (by decide) (hts _ (List.mem_cons_of_mem _ zm_115)) (fun _ h9 => h9) rfl d_E_commit_13 ?_
    refine va_getN (D := D) (ci := 3) (v := .int (nI R0.length)) (C := R_R) (T := F_R) (N := 5) hx hb hts (zi_R _) hown hK hP 3 rfl rfl 4 (by decide) (va_Nw.use rfl (hZ _ zn_72)) (fun _ h9 => h9) rfl d_E_commit_16 ?_
    refine lv_istore_n (lv' := [(1, .int (nI R0.length)), (0, .ref (q 0))]) hx hb d_E_commit_19 rfl hl (Nat.le_of_ble_eq_true rfl) rfl (fun ls hl => ?_)
    rw [show nI (xs_now B0 R0).length = nI (xs_S B0 (xs_new B0 R0 (xs_N ST)) R0.length).length from by rw [xs_now_new]] at hP hD
    refine lv_aload_n hx hb d_E_commit_20 rfl (lv_at hl 1 rfl) ?_
    refine xa_cMV (va_runV (As := []) (rest := []) ⟨hx, hb, hml, hown, hts⟩ (c_E_steps2 l D q cA (nI lm) kf kg af bf rk rv rm rs bp bk bv (xb_i bt) s.heap.size B0 (xs_new B0 R0 (xs_N ST)) ST R0.length (by rw [xs_now_new]; exact hC.1) (xs_cn_new hC.2.1 _) hC.2.2.2 (fun i o ho => xs_new_at (xs_N_at ho)) (fun i hi => xs_new_mid hok (xs_N_six hst).1 (xs_N_six hst).2 i (by rw [xs_new_len, xs_N_len]; omega)) h64 hst) (cwV 0 hts (zg_V zm_285 zm_287 zs_9 zm_1 zm_288) rfl rfl rfl (by decide +kernel) ⟨Nat.le_of_ble_eq_true rfl, Nat.le_of_ble_eq_true rfl⟩) (xp_preVQ (ci := 0) (q0 := 0) hK hP hD rfl rfl rfl hZ) rfl rfl hl.1 rfl (lv_room (Nat.le_of_ble_eq_true rfl)) d_E_commit_21 ⟨Nat.zero_le _, Nat.zero_le _⟩) hS (xa_F hD hS hA) (fun u H locs hp21 hP hS => ?_)
    obtain ⟨kf2_21, kg2_21, af2_21, bf2_21, rk2_21, rv2_21, rm2_21, rs2_21⟩ := u
    have hP : va_P D zz_cl (xw_C q cA (nI lm) kf2_21 kg2_21 (nI (xs_S B0 (xs_new B0 R0 (xs_N ST)) (R0.length + ST.length)).length) af2_21 bf2_21 rk2_21 rv2_21 rm2_21 rs2_21 (nI (R0.length + ST.length)) bp bk bv (xb_i bt) (nI ST.length)) H := hP
    have hD : va_D A (xw_C q cA (nI lm) kf2_21 kg2_21 (nI (xs_S B0 (xs_new B0 R0 (xs_N ST)) (R0.length + ST.length)).length) af2_21 bf2_21 rk2_21 rv2_21 rm2_21 rs2_21 (nI (R0.length + ST.length)) bp bk bv (xb_i bt) (nI ST.length)) := xa_E hD rfl
    have hp21 : xw_KT kf2_21 kg2_21 af2_21 bf2_21 (xs_S B0 (xs_new B0 R0 (xs_N ST)) (R0.length + ST.length)) ∧ xs_cn B0 (xs_new B0 R0 (xs_N ST)) (R0.length + ST.length) rk2_21 rv2_21 rm2_21 ∧ ∀ j, j < R0.length → rs2_21 j = rs j := hp21
    obtain ⟨hT2, hcn2, hrs2⟩ := hp21
    refine lv_aload_n hx hb d_E_commit_24 rfl (lv_at hl 1 rfl) ?_
    refine va_get (D := D) (ci := 0) (v := .ref (q 4)) (C := R_E) (T := F_E) (N := 4) hx hb hts (zi_E _) hown hK hP 0 rfl rfl 3 (by decide) (hts _ (List.mem_cons_of_mem _ zm_116)) (fun _ h9 => h9) rfl d_E_commit_25 ?_
    refine xa_cMV (va_runV (As := []) (rest := []) ⟨hx, hb, hml, hown, hts⟩ (c_B_end l D q cA (nI lm) kf2_21 kg2_21 (nI (xs_S B0 (xs_new B0 R0 (xs_N ST)) (R0.length + ST.length)).length) af2_21 bf2_21 rk2_21 rv2_21 rm2_21 rs2_21 (nI (R0.length + ST.length)) bp bk bv (xb_i bt) (nI ST.length) H.size) (cwV 0 hts (zg_V zm_289 zm_290 zm_291 zm_6 zm_292) rfl rfl rfl (by decide +kernel) ⟨Nat.le_of_ble_eq_true rfl, Nat.le_of_ble_eq_true rfl⟩) (xp_preVQ (ci := 4) (q0 := 4) hK hP hD rfl rfl rfl hZ) rfl rfl hl.1 rfl (lv_room (Nat.le_of_ble_eq_true rfl)) d_E_commit_28 ⟨Nat.zero_le _, Nat.zero_le _⟩) hS (xa_F hD hS hA) (fun u H locs hp28 hP hS => ?_)
    have hP : va_P D zz_cl (xw_C q cA (nI lm) kf2_21 kg2_21 (nI (xs_S B0 (xs_new B0 R0 (xs_N ST)) (R0.length + ST.length)).length) af2_21 bf2_21 rk2_21 rv2_21 rm2_21 rs2_21 (nI (R0.length + ST.length)) bp bk bv (xb_i false) (nI 0)) H := hP
    have hD : va_D A (xw_C q cA (nI lm) kf2_21 kg2_21 (nI (xs_S B0 (xs_new B0 R0 (xs_N ST)) (R0.length + ST.length)).length) af2_21 bf2_21 rk2_21 rv2_21 rm2_21 rs2_21 (nI (R0.length + ST.length)) bp bk bv (xb_i false) (nI 0)) := xa_E hD rfl
    refine lv_aload_n hx hb d_E_commit_31 rfl (lv_at hl 1 rfl) ?_
    refine xa_cI (va_runV (As := []) (rest := []) ⟨hx, hb, hml, hown, hts⟩ (c_E_over l D q cA kf2_21 kg2_21 af2_21 bf2_21 rk2_21 rv2_21 rm2_21 rs2_21 (nI (R0.length + ST.length)) bp bk bv (xb_i false) (nI 0) (xs_S B0 (xs_new B0 R0 (xs_N ST)) (R0.length + ST.length)) lm hT2 hlm) (cwV 0 hts (zg_V zm_183 zm_185 zs_5 zm_1 zm_186) rfl rfl rfl (by decide +kernel) ⟨Nat.le_of_ble_eq_true rfl, Nat.le_of_ble_eq_true rfl⟩) (xp_preV (ci := 0) (q0 := 0) hK hP rfl rfl rfl hZ) rfl rfl hl.1 rfl (lv_room (Nat.le_of_ble_eq_true rfl)) d_E_commit_32 ⟨Nat.zero_le _, Nat.zero_le _⟩) ?_
    refine lv_if_eq (tgt := 45) hx hb d_E_commit_35 (by decide) (fun hc35 => ?_) (fun hc35 => ?_)
    · skip
      rw [xb_0] at hc35
      refine lv_aload_n hx hb d_E_commit_45 rfl (lv_at hl 1 rfl) ?_
      refine va_get (D := D) (ci := 0) (v := .ref (q 3)) (C := R_E) (T := F_E) (N := 4) hx hb hts (zi_E _) hown hK hP 0 rfl rfl 2 (by decide) (hts _ (List.mem_cons_of_mem _ zm_115)) (fun _ h9 => h9) rfl d_E_commit_46 ?_
      refine lv_iload_n hx hb d_E_commit_49 rfl (lv_at hl 0 rfl) ?_
      refine xa_cMV (va_runV (As := [.int (nI R0.length)]) (rest := []) ⟨hx, hb, hml, hown, hts⟩ (c_R_close l D q cA (nI lm) kf2_21 kg2_21 (nI (xs_S B0 (xs_new B0 R0 (xs_N ST)) (R0.length + ST.length)).length) af2_21 bf2_21 rk2_21 rv2_21 rm2_21 rs2_21 bp bk bv (xb_i false) (nI 0) H.size (R0.length + ST.length) R0.length (by omega) (by omega)) (cwV 1 hts (zg_V zm_293 zm_294 zm_295 zm_5 zm_296) rfl rfl rfl (by decide +kernel) ⟨Nat.le_of_ble_eq_true rfl, Nat.le_of_ble_eq_true rfl⟩) (xp_preVQ (ci := 3) (q0 := 3) hK hP hD rfl rfl rfl hZ) rfl rfl hl.1 rfl (lv_room (Nat.le_of_ble_eq_true rfl)) d_E_commit_50 ⟨Nat.zero_le _, Nat.zero_le _⟩) hS (xa_F hD hS hA) (fun u H locs hp50 hP hS => ?_)
      have hP : va_P D zz_cl (xw_C q cA (nI lm) kf2_21 kg2_21 (nI (xs_S B0 (xs_new B0 R0 (xs_N ST)) (R0.length + ST.length)).length) af2_21 bf2_21 (upd rk2_21 (R0.length + ST.length) (nI 0)) (vp_updL rv2_21 (R0.length + ST.length) 0) (upd rm2_21 (R0.length + ST.length) (nI 0)) (xw_fi (upd rs2_21 (R0.length + ST.length) (nI (R0.length + ST.length))) R0.length (R0.length + ST.length + 1) (nI R0.length)) (nI (R0.length + ST.length + 1)) bp bk bv (xb_i false) (nI 0)) H := hP
      have hD : va_D A (xw_C q cA (nI lm) kf2_21 kg2_21 (nI (xs_S B0 (xs_new B0 R0 (xs_N ST)) (R0.length + ST.length)).length) af2_21 bf2_21 (upd rk2_21 (R0.length + ST.length) (nI 0)) (vp_updL rv2_21 (R0.length + ST.length) 0) (upd rm2_21 (R0.length + ST.length) (nI 0)) (xw_fi (upd rs2_21 (R0.length + ST.length) (nI (R0.length + ST.length))) R0.length (R0.length + ST.length + 1) (nI R0.length)) (nI (R0.length + ST.length + 1)) bp bk bv (xb_i false) (nI 0)) := xa_E hD rfl
      refine lv_aload_n hx hb d_E_commit_53 rfl (lv_at hl 1 rfl) ?_
      refine va_get (D := D) (ci := 0) (v := .ref (q 3)) (C := R_E) (T := F_E) (N := 4) hx hb hts (zi_E _) hown hK hP 0 rfl rfl 2 (by decide) (hts _ (List.mem_cons_of_mem _ zm_115)) (fun _ h9 => h9) rfl d_E_commit_54 ?_
      refine va_getN (D := D) (ci := 3) (v := .int (nI (R0.length + ST.length + 1))) (C := R_R) (T := F_R) (N := 5) hx hb hts (zi_R _) hown hK hP 3 rfl rfl 4 (by decide) (va_Nw.use rfl (hZ _ zn_72)) (fun _ h9 => h9) rfl d_E_commit_57 ?_
      refine lv_iload_n hx hb d_E_commit_60 rfl (lv_at hl 0 rfl) ?_
      refine lv_isub hx hb d_E_commit_61 ?_
      refine xa_top (y := nI ((R0.length + ST.length + 1) - R0.length)) (pk_sub (by omega)) ?_
      refine lv_istore_n (lv' := [(2, .int (nI ((R0.length + ST.length + 1) - R0.length))), (1, .int (nI R0.length)), (0, .ref (q 0))]) hx hb d_E_commit_62 rfl hl (Nat.le_of_ble_eq_true rfl) rfl (fun ls hl => ?_)
      refine lv_aload_n hx hb d_E_commit_63 rfl (lv_at hl 2 rfl) ?_
      refine va_get (D := D) (ci := 0) (v := .ref (q 3)) (C := R_E) (T := F_E) (N := 4) hx hb hts (zi_E _) hown hK hP 0 rfl rfl 2 (by decide) (hts _ (List.mem_cons_of_mem _ zm_115)) (fun _ h9 => h9) rfl d_E_commit_64 ?_
      refine lv_iload_n hx hb d_E_commit_67 rfl (lv_at hl 1 rfl) ?_
      refine xa_cMV (va_runV (As := [.int (nI R0.length)]) (rest := []) ⟨hx, hb, hml, hown, hts⟩ (c_R_settle l D q cA (nI lm) kf2_21 kg2_21 (nI (xs_S B0 (xs_new B0 R0 (xs_N ST)) (R0.length + ST.length)).length) af2_21 bf2_21 (upd rk2_21 (R0.length + ST.length) (nI 0)) (vp_updL rv2_21 (R0.length + ST.length) 0) (upd rm2_21 (R0.length + ST.length) (nI 0)) (xw_fi (upd rs2_21 (R0.length + ST.length) (nI (R0.length + ST.length))) R0.length (R0.length + ST.length + 1) (nI R0.length)) bp bk bv (xb_i false) (nI 0) H.size (R0.length + ST.length + 1) R0.length (by omega) (by omega)) (cwV 1 hts (zg_V zm_241 zm_242 zm_243 zm_5 zm_244) rfl rfl rfl (by decide +kernel) ⟨Nat.le_of_ble_eq_true rfl, Nat.le_of_ble_eq_true rfl⟩) (xp_preVQ (ci := 3) (q0 := 3) hK hP hD rfl rfl rfl hZ) rfl rfl hl.1 rfl (lv_room (Nat.le_of_ble_eq_true rfl)) d_E_commit_68 ⟨Nat.zero_le _, Nat.zero_le _⟩) hS (xa_F hD hS hA) (fun u H locs hp68 hP hS => ?_)
      have hP : va_P D zz_cl (xw_C q cA (nI lm) kf2_21 kg2_21 (nI (xs_S B0 (xs_new B0 R0 (xs_N ST)) (R0.length + ST.length)).length) af2_21 bf2_21 (if 64 < R0.length + ST.length + 1 then xw_mv (upd rk2_21 (R0.length + ST.length) (nI 0)) R0.length (R0.length + ST.length + 1 - R0.length) else upd rk2_21 (R0.length + ST.length) (nI 0)) (if 64 < R0.length + ST.length + 1 then xw_mv (vp_updL rv2_21 (R0.length + ST.length) 0) R0.length (R0.length + ST.length + 1 - R0.length) else vp_updL rv2_21 (R0.length + ST.length) 0) (if 64 < R0.length + ST.length + 1 then xw_mv (upd rm2_21 (R0.length + ST.length) (nI 0)) R0.length (R0.length + ST.length + 1 - R0.length) else upd rm2_21 (R0.length + ST.length) (nI 0)) (if 64 < R0.length + ST.length + 1 then xm_mb (xw_fi (upd rs2_21 (R0.length + ST.length) (nI (R0.length + ST.length))) R0.length (R0.length + ST.length + 1) (nI R0.length)) R0.length (R0.length + ST.length + 1 - R0.length) else xw_fi (upd rs2_21 (R0.length + ST.length) (nI (R0.length + ST.length))) R0.length (R0.length + ST.length + 1) (nI R0.length)) (nI (if 64 < R0.length + ST.length + 1 then (R0.length + ST.length + 1 - R0.length) else R0.length + ST.length + 1)) bp bk bv (xb_i false) (nI 0)) H := hP
      have hD : va_D A (xw_C q cA (nI lm) kf2_21 kg2_21 (nI (xs_S B0 (xs_new B0 R0 (xs_N ST)) (R0.length + ST.length)).length) af2_21 bf2_21 (if 64 < R0.length + ST.length + 1 then xw_mv (upd rk2_21 (R0.length + ST.length) (nI 0)) R0.length (R0.length + ST.length + 1 - R0.length) else upd rk2_21 (R0.length + ST.length) (nI 0)) (if 64 < R0.length + ST.length + 1 then xw_mv (vp_updL rv2_21 (R0.length + ST.length) 0) R0.length (R0.length + ST.length + 1 - R0.length) else vp_updL rv2_21 (R0.length + ST.length) 0) (if 64 < R0.length + ST.length + 1 then xw_mv (upd rm2_21 (R0.length + ST.length) (nI 0)) R0.length (R0.length + ST.length + 1 - R0.length) else upd rm2_21 (R0.length + ST.length) (nI 0)) (if 64 < R0.length + ST.length + 1 then xm_mb (xw_fi (upd rs2_21 (R0.length + ST.length) (nI (R0.length + ST.length))) R0.length (R0.length + ST.length + 1) (nI R0.length)) R0.length (R0.length + ST.length + 1 - R0.length) else xw_fi (upd rs2_21 (R0.length + ST.length) (nI (R0.length + ST.length))) R0.length (R0.length + ST.length + 1) (nI R0.length)) (nI (if 64 < R0.length + ST.length + 1 then (R0.length + ST.length + 1 - R0.length) else R0.length + ST.length + 1)) bp bk bv (xb_i false) (nI 0)) := xa_E hD rfl
      have eb : xs_bad lm (xs_now B0 (xs_new B0 R0 (xs_N ST))) = false := by rw [hnw]; exact hc35
      have e0 : ¬ (false = true ∨ xs_bad lm (xs_now B0 (xs_new B0 R0 (xs_N ST))) = true) := by rw [eb]; decide
      have e1 : (if bt = true then xs_pB lm B0 R0 false (xs_N ST) else B0) = xs_B B0 R0 (xs_N ST) := by rw [if_pos hc7]; unfold xs_pB; rw [if_neg e0]
      have e2 : (if bt = true then xs_pR lm B0 R0 false (xs_N ST) else R0) = xs_Q B0 R0 (xs_N ST) := by rw [if_pos hc7]; unfold xs_pR; rw [if_neg e0]
      rw [show nI (if 64 < R0.length + ST.length + 1 then (R0.length + ST.length + 1 - R0.length) else R0.length + ST.length + 1) = nI (xs_Q B0 R0 (xs_N ST)).length from congrArg nI (xs_Q_N B0 R0 ST)] at hP hD
      refine lv_iload_n hx hb d_E_commit_71 rfl (lv_at hl 0 rfl) ?_
      exact W.iret (v := nI ((R0.length + ST.length + 1) - R0.length)) hx hb hr (fun tJ htJ hWJ => ⟨⟨_, (kf2_21, kg2_21, af2_21, bf2_21, if 64 < R0.length + ST.length + 1 then xw_mv (upd rk2_21 (R0.length + ST.length) (nI 0)) R0.length (R0.length + ST.length + 1 - R0.length) else upd rk2_21 (R0.length + ST.length) (nI 0), if 64 < R0.length + ST.length + 1 then xw_mv (vp_updL rv2_21 (R0.length + ST.length) 0) R0.length (R0.length + ST.length + 1 - R0.length) else vp_updL rv2_21 (R0.length + ST.length) 0, if 64 < R0.length + ST.length + 1 then xw_mv (upd rm2_21 (R0.length + ST.length) (nI 0)) R0.length (R0.length + ST.length + 1 - R0.length) else upd rm2_21 (R0.length + ST.length) (nI 0), if 64 < R0.length + ST.length + 1 then xm_mb (xw_fi (upd rs2_21 (R0.length + ST.length) (nI (R0.length + ST.length))) R0.length (R0.length + ST.length + 1) (nI R0.length)) R0.length (R0.length + ST.length + 1 - R0.length) else xw_fi (upd rs2_21 (R0.length + ST.length) (nI (R0.length + ST.length))) R0.length (R0.length + ST.length + 1) (nI R0.length), bp, bk, bv), rfl, ⟨by rw [if_pos hc7, if_neg (by rw [eb]; decide)]; exact congrArg nI (by omega), by rw [e1, e2, if_pos hc7]; exact xs_C_stay (by rw [xs_N_len]; rfl) (by rw [hnw]; exact hT2) (xs_N_cn hcn2) (xs_N_st hC.2.2.1 hrs2) (xs_bt_nil _ _ _)⟩, by dsimp only; rw [htJ]; rw [e1, e2, if_pos hc7, xs_now_add, hnw]; exact hP⟩, hS.F htJ⟩) hS.2.2 d_E_commit_72
    · skip
      rw [xb_1] at hc35
      refine lv_aload_n hx hb d_E_commit_38 rfl (lv_at hl 1 rfl) ?_
      refine lv_iload_n hx hb d_E_commit_39 rfl (lv_at hl 0 rfl) ?_
      refine xa_cMV (va_runV (As := [.int (nI R0.length)]) (rest := []) ⟨hx, hb, hml, hown, hts⟩ (c_E_tbf l D q cA (nI lm) kf2_21 kg2_21 af2_21 bf2_21 rk2_21 rv2_21 rm2_21 rs2_21 bp bk bv (xb_i false) (nI 0) H.size (xs_S B0 (xs_new B0 R0 (xs_N ST))) (R0.length + ST.length) R0.length hT2 (by omega) (by omega) (xs_N_U hok hst hC.2.2.2 hcn2)) (cwV 1 hts (zg_V zm_228 zm_230 zs_7 zm_1 zm_231) rfl rfl rfl (by decide +kernel) ⟨Nat.le_of_ble_eq_true rfl, Nat.le_of_ble_eq_true rfl⟩) (xp_preVQ (ci := 0) (q0 := 0) hK hP hD rfl rfl rfl hZ) rfl rfl hl.1 rfl (lv_room (Nat.le_of_ble_eq_true rfl)) d_E_commit_40 ⟨Nat.zero_le _, Nat.zero_le _⟩) hS (xa_F hD hS hA) (fun u H locs hp40 hP hS => ?_)
      obtain ⟨kf2_40, kg2_40, af2_40, bf2_40⟩ := u
      have hP : va_P D zz_cl (xw_C q cA (nI lm) kf2_40 kg2_40 (nI (xs_S B0 (xs_new B0 R0 (xs_N ST)) R0.length).length) af2_40 bf2_40 rk2_21 rv2_21 rm2_21 rs2_21 (nI R0.length) bp bk bv (xb_i false) (nI 0)) H := hP
      have hD : va_D A (xw_C q cA (nI lm) kf2_40 kg2_40 (nI (xs_S B0 (xs_new B0 R0 (xs_N ST)) R0.length).length) af2_40 bf2_40 rk2_21 rv2_21 rm2_21 rs2_21 (nI R0.length) bp bk bv (xb_i false) (nI 0)) := xa_E hD rfl
      have hp40 : xw_KT kf2_40 kg2_40 af2_40 bf2_40 (xs_S B0 (xs_new B0 R0 (xs_N ST)) R0.length) := hp40
      have eb : xs_bad lm (xs_now B0 (xs_new B0 R0 (xs_N ST))) = true := by rw [hnw]; exact hc35
      have e1 : (if bt = true then xs_pB lm B0 R0 false (xs_N ST) else B0) = B0 := by rw [if_pos hc7]; unfold xs_pB; rw [if_pos (Or.inr eb)]
      have e2 : (if bt = true then xs_pR lm B0 R0 false (xs_N ST) else R0) = R0 := by rw [if_pos hc7]; unfold xs_pR; rw [if_pos (Or.inr eb)]
      rw [show nI (xs_S B0 (xs_new B0 R0 (xs_N ST)) R0.length).length = nI (xs_now B0 R0).length from by rw [xs_now_new]] at hP hD
      refine lv_iconst (v := nI 0) hx hb d_E_commit_43 (by decide +kernel) ?_
      exact W.iret (v := nI 0) hx hb hr (fun tJ htJ hWJ => ⟨⟨_, (kf2_40, kg2_40, af2_40, bf2_40, rk2_21, rv2_21, rm2_21, rs2_21, bp, bk, bv), rfl, ⟨by rw [if_pos hc7, if_pos eb], by rw [e1, e2, if_pos hc7]; exact xs_C_back hp40 hcn2 (by omega) (xs_st_keep hC.2.2.1 hrs2) (xs_bt_nil _ _ _)⟩, by dsimp only; rw [htJ]; rw [e1, e2, if_pos hc7]; exact hP⟩, hS.F htJ⟩) hS.2.2 d_E_commit_44
  · skip
    rw [xb_0] at hc7
    refine lv_iconst (v := (-1)) hx hb d_E_commit_10 (by decide +kernel) ?_
    exact W.iret (v := (-1)) hx hb hr (fun tJ htJ hWJ => ⟨⟨_, (kf, kg, af, bf, rk, rv, rm, rs, bp, bk, bv), rfl, ⟨by rw [if_neg (by rw [hc7]; decide)], by rw [if_neg (by rw [hc7]; decide), if_neg (by rw [hc7]; decide), if_neg (by rw [hc7]; decide)]; exact hC⟩, by dsimp only; rw [htJ]; rw [if_neg (by rw [hc7]; decide), if_neg (by rw [hc7]; decide), if_neg (by rw [hc7]; decide), ← hc7]; exact hP⟩, hS.F htJ⟩) hS.2.2 d_E_commit_11
