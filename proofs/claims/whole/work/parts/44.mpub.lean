/-! Walks: specs_o (printed by run.py) -/
set_option maxHeartbeats 4000000 in
set_option maxRecDepth 100000 in
theorem c_M_has (l : Launch) (D : va_G) (q : Nat → Nat) (cA : Nat → ClassId) (lim : Int32) (bk : Nat → Int32) (bv : Nat → Int64) (wh : Nat → Int32) (rk : Nat → Int32) (rv : Nat → Int64) (bg : Nat → Int32) (bt : Int32) (sc : Int32) (sw : Nat → Int32) (sk : Nat → Int32) (sv : Nat → Int64) (kp : Int32) (ky : Nat → Int32) (vl : Nat → Int64) (sz : Nat) (lm : Nat) (B0 : List xk_E) (R0 : List xs_R) (ST : List xs_O) (k : Int32) (hMT : xm_MT B0 R0 ST bk bv wh rk rv bg sw sk sv) (hok : xs_ok lm B0 R0) : Met l y_M_has zw_M_has ({ frames := 4, cells := 0, slots := 0, locals := 91 } : Room) (va_Pc [.ref (q 0), .int k] (xp_Q D zz_cl (xw_tM cA) sz (xw_M q cA lim (nI B0.length) bk bv (nI R0.length) wh rk rv bg bt sc sw sk sv kp ky vl))) (va_Qi (fun (r : Int32) (u : (Nat → Int32) × (Nat → Int64)) => r = (xb_i (xk_has (xs_now B0 R0) k)) ∧ (xm_T u.1 u.2 (xs_now B0 R0))) (fun (u : (Nat → Int32) × (Nat → Int64)) (t : State) => va_P D zz_cl (xw_M q cA lim (nI B0.length) bk bv (nI R0.length) wh rk rv bg bt sc sw sk sv (nI (xs_now B0 R0).length) u.1 u.2) t.heap) (va_A (xw_M q cA lim (nI B0.length) bk bv (nI R0.length) wh rk rv bg bt sc sw sk sv kp ky vl) sz)) 0 0 (va_A (xw_M q cA lim (nI B0.length) bk bv (nI R0.length) wh rk rv bg bt sc sw sk sv kp ky vl) sz) := by
  refine Met.ofW (cc := b_M_has) (maxL := 2) (ret := (some .boolean)) (by decide) rfl ?_
  intro pJ eJ s mJ args below meth cJ s₁ B hml hv
  obtain ⟨rfl, hsz, hP, hK, hD0, hZ⟩ := hv
  have hx := B.exec
  have hb := B.bytes
  have hr := B.returns
  have hts := atoms_spec (ws := zw_M_has) B.pre
  have hown : s.vm.findClass R_M = some mJ.cls := findClass_of_methodNamed B.named
  have hlocks := B.notSynchronized
  subst hsz
  have hD := hD0.self (sz := s.heap.size)
  generalize hAe : va_A (xw_M q cA lim (nI B0.length) bk bv (nI R0.length) wh rk rv bg bt sc sw sk sv kp ky vl) s.heap.size = A at hD ⊢
  have hA : ∀ q : Nat, s.heap.size ≤ q → A q := fun q h => by rw [← hAe]; exact Or.inr h
  have hS : va_S A s.heap s.heap [] := va_S.rf
  have hl := lv_entry ([.ref (q 0), .int k]) (n := 2) (Nat.le_of_ble_eq_true rfl)
  rw [lg_entry_eq]
  generalize (lg_sl ([.ref (q 0), .int k]) ++ List.replicate (2 - (lg_sl ([.ref (q 0), .int k])).length) Slot.unset).toArray = ls at hl ⊢
  have hl : lv_has ls 2 [(0, .ref (q 0)), (1, .int k)] := hl
  refine lv_aload_n hx hb d_M_has_0 rfl (lv_at hl 0 rfl) ?_
  refine xa_cMV (va_runV (As := []) (rest := []) ⟨hx, hb, hml, hown, hts⟩ (c_M_now l D q cA lim bk bv wh rk rv bg bt sc sw sk sv kp ky vl s.heap.size B0 R0 hMT.1 hok.1 hok.2.1 hMT.2.1 (by have := hok.2.2.1; omega) (xs_ok_w hok) hok.2.2.2.1) (cwV 0 hts (zg_V zm_440 zm_442 zs_12 zm_7 zm_443) rfl rfl rfl (by decide +kernel) ⟨Nat.le_of_ble_eq_true rfl, Nat.le_of_ble_eq_true rfl⟩) (xp_preVQ (ci := 5) (q0 := 0) hK hP hD rfl rfl rfl hZ) rfl rfl hl.1 rfl (lv_room (Nat.le_of_ble_eq_true rfl)) d_M_has_1 ⟨Nat.zero_le _, Nat.zero_le _⟩) hS (xa_F hD hS hA) (fun u H locs hp1 hP hS => ?_)
  obtain ⟨ky2_1, vl2_1⟩ := u
  have hP : va_P D zz_cl (xw_M q cA lim (nI B0.length) bk bv (nI R0.length) wh rk rv bg bt sc sw sk sv (nI (xs_now B0 R0).length) ky2_1 vl2_1) H := hP
  have hD : va_D A (xw_M q cA lim (nI B0.length) bk bv (nI R0.length) wh rk rv bg bt sc sw sk sv (nI (xs_now B0 R0).length) ky2_1 vl2_1) := xa_E hD rfl
  have hp1 : xm_T ky2_1 vl2_1 (xs_now B0 R0) := hp1
  obtain ⟨K, hK9⟩ : ∃ K, K = xs_now B0 R0 := ⟨_, rfl⟩
  rw [← hK9] at hp1
  have hM := hp1
  have hlen := hM.1
  rw [show nI (xs_now B0 R0).length = nI K.length from by rw [hK9]] at hP hD
  refine lv_aload_n hx hb d_M_has_4 rfl (lv_at hl 0 rfl) ?_
  refine lv_iload_n hx hb d_M_has_5 rfl (lv_at hl 1 rfl) ?_
  refine xa_cI (va_runV (As := [.int k]) (rest := []) ⟨hx, hb, hml, hown, hts⟩ (c_M_find l D q cA lim (nI B0.length) bk bv (nI R0.length) wh rk rv bg bt sc sw sk sv ky2_1 vl2_1 K k hM) (cwV 1 hts (zg_V zm_452 zm_454 zs_15 zm_7 zm_455) rfl rfl rfl (by decide +kernel) ⟨Nat.le_of_ble_eq_true rfl, Nat.le_of_ble_eq_true rfl⟩) (xp_preV (ci := 5) (q0 := 0) hK hP rfl rfl rfl hZ) rfl rfl hl.1 rfl (lv_room (Nat.le_of_ble_eq_true rfl)) d_M_has_6 ⟨Nat.zero_le _, Nat.zero_le _⟩) ?_
  refine lv_if_lt (tgt := 16) hx hb d_M_has_9 (by decide) (fun hc9 => ?_) (fun hc9 => ?_)
  · skip
    refine lv_iconst (v := nI 0) hx hb d_M_has_16 (by decide +kernel) ?_
    exact W.zret (ty := .boolean) (v := nI 0) hx hb hr (by decide +kernel) (fun tJ htJ hWJ => ⟨⟨_, (ky2_1, vl2_1), rfl, ⟨by rw [← hK9]; first | (rw [xm_fd_f hM.1 hc9]; exact xb_f.symm) | (rw [xm_fd_t hc9]; exact xb_t.symm), by rw [← hK9]; exact hM⟩, by dsimp only; rw [htJ]; rw [← hK9]; exact hP⟩, hS.F htJ⟩) hS.2.2 d_M_has_17
  · skip
    refine lv_iconst (v := nI 1) hx hb d_M_has_12 (by decide +kernel) ?_
    refine lv_goto (tgt := 17) hx hb d_M_has_13 (by decide) ?_
    exact W.zret (ty := .boolean) (v := nI 1) hx hb hr (by decide +kernel) (fun tJ htJ hWJ => ⟨⟨_, (ky2_1, vl2_1), rfl, ⟨by rw [← hK9]; first | (rw [xm_fd_f hM.1 hc9]; exact xb_f.symm) | (rw [xm_fd_t hc9]; exact xb_t.symm), by rw [← hK9]; exact hM⟩, by dsimp only; rw [htJ]; rw [← hK9]; exact hP⟩, hS.F htJ⟩) hS.2.2 d_M_has_17
set_option maxHeartbeats 4000000 in
set_option maxRecDepth 100000 in
theorem c_M_get (l : Launch) (D : va_G) (q : Nat → Nat) (cA : Nat → ClassId) (lim : Int32) (bk : Nat → Int32) (bv : Nat → Int64) (wh : Nat → Int32) (rk : Nat → Int32) (rv : Nat → Int64) (bg : Nat → Int32) (bt : Int32) (sc : Int32) (sw : Nat → Int32) (sk : Nat → Int32) (sv : Nat → Int64) (kp : Int32) (ky : Nat → Int32) (vl : Nat → Int64) (sz : Nat) (lm : Nat) (B0 : List xk_E) (R0 : List xs_R) (ST : List xs_O) (k : Int32) (hMT : xm_MT B0 R0 ST bk bv wh rk rv bg sw sk sv) (hok : xs_ok lm B0 R0) : Met l y_M_get zw_M_get ({ frames := 4, cells := 0, slots := 0, locals := 91 } : Room) (va_Pc [.ref (q 0), .int k] (xp_Q D zz_cl (xw_tM cA) sz (xw_M q cA lim (nI B0.length) bk bv (nI R0.length) wh rk rv bg bt sc sw sk sv kp ky vl))) (va_Ql (fun (r : Int64) (u : (Nat → Int32) × (Nat → Int64)) => r = (xk_get (xs_now B0 R0) k) ∧ (xm_T u.1 u.2 (xs_now B0 R0))) (fun (u : (Nat → Int32) × (Nat → Int64)) (t : State) => va_P D zz_cl (xw_M q cA lim (nI B0.length) bk bv (nI R0.length) wh rk rv bg bt sc sw sk sv (nI (xs_now B0 R0).length) u.1 u.2) t.heap) (va_A (xw_M q cA lim (nI B0.length) bk bv (nI R0.length) wh rk rv bg bt sc sw sk sv kp ky vl) sz)) 0 0 (va_A (xw_M q cA lim (nI B0.length) bk bv (nI R0.length) wh rk rv bg bt sc sw sk sv kp ky vl) sz) := by
  refine Met.ofW (cc := b_M_get) (maxL := 3) (ret := (some .long)) (by decide) rfl ?_
  intro pJ eJ s mJ args below meth cJ s₁ B hml hv
  obtain ⟨rfl, hsz, hP, hK, hD0, hZ⟩ := hv
  have hx := B.exec
  have hb := B.bytes
  have hr := B.returns
  have hts := atoms_spec (ws := zw_M_get) B.pre
  have hown : s.vm.findClass R_M = some mJ.cls := findClass_of_methodNamed B.named
  have hlocks := B.notSynchronized
  subst hsz
  have hD := hD0.self (sz := s.heap.size)
  generalize hAe : va_A (xw_M q cA lim (nI B0.length) bk bv (nI R0.length) wh rk rv bg bt sc sw sk sv kp ky vl) s.heap.size = A at hD ⊢
  have hA : ∀ q : Nat, s.heap.size ≤ q → A q := fun q h => by rw [← hAe]; exact Or.inr h
  have hS : va_S A s.heap s.heap [] := va_S.rf
  have hl := lv_entry ([.ref (q 0), .int k]) (n := 3) (Nat.le_of_ble_eq_true rfl)
  rw [lg_entry_eq]
  generalize (lg_sl ([.ref (q 0), .int k]) ++ List.replicate (3 - (lg_sl ([.ref (q 0), .int k])).length) Slot.unset).toArray = ls at hl ⊢
  have hl : lv_has ls 3 [(0, .ref (q 0)), (1, .int k)] := hl
  refine lv_aload_n hx hb d_M_get_0 rfl (lv_at hl 0 rfl) ?_
  refine xa_cMV (va_runV (As := []) (rest := []) ⟨hx, hb, hml, hown, hts⟩ (c_M_now l D q cA lim bk bv wh rk rv bg bt sc sw sk sv kp ky vl s.heap.size B0 R0 hMT.1 hok.1 hok.2.1 hMT.2.1 (by have := hok.2.2.1; omega) (xs_ok_w hok) hok.2.2.2.1) (cwV 0 hts (zg_V zm_440 zm_442 zs_12 zm_7 zm_443) rfl rfl rfl (by decide +kernel) ⟨Nat.le_of_ble_eq_true rfl, Nat.le_of_ble_eq_true rfl⟩) (xp_preVQ (ci := 5) (q0 := 0) hK hP hD rfl rfl rfl hZ) rfl rfl hl.1 rfl (lv_room (Nat.le_of_ble_eq_true rfl)) d_M_get_1 ⟨Nat.zero_le _, Nat.zero_le _⟩) hS (xa_F hD hS hA) (fun u H locs hp1 hP hS => ?_)
  obtain ⟨ky2_1, vl2_1⟩ := u
  have hP : va_P D zz_cl (xw_M q cA lim (nI B0.length) bk bv (nI R0.length) wh rk rv bg bt sc sw sk sv (nI (xs_now B0 R0).length) ky2_1 vl2_1) H := hP
  have hD : va_D A (xw_M q cA lim (nI B0.length) bk bv (nI R0.length) wh rk rv bg bt sc sw sk sv (nI (xs_now B0 R0).length) ky2_1 vl2_1) := xa_E hD rfl
  have hp1 : xm_T ky2_1 vl2_1 (xs_now B0 R0) := hp1
  obtain ⟨K, hK9⟩ : ∃ K, K = xs_now B0 R0 := ⟨_, rfl⟩
  rw [← hK9] at hp1
  have hM := hp1
  have hlen := hM.1
  rw [show nI (xs_now B0 R0).length = nI K.length from by rw [hK9]] at hP hD
  refine lv_aload_n hx hb d_M_get_4 rfl (lv_at hl 0 rfl) ?_
  refine lv_iload_n hx hb d_M_get_5 rfl (lv_at hl 1 rfl) ?_
  refine xa_cI (va_runV (As := [.int k]) (rest := []) ⟨hx, hb, hml, hown, hts⟩ (c_M_find l D q cA lim (nI B0.length) bk bv (nI R0.length) wh rk rv bg bt sc sw sk sv ky2_1 vl2_1 K k hM) (cwV 1 hts (zg_V zm_452 zm_454 zs_15 zm_7 zm_455) rfl rfl rfl (by decide +kernel) ⟨Nat.le_of_ble_eq_true rfl, Nat.le_of_ble_eq_true rfl⟩) (xp_preV (ci := 5) (q0 := 0) hK hP rfl rfl rfl hZ) rfl rfl hl.1 rfl (lv_room (Nat.le_of_ble_eq_true rfl)) d_M_get_6 ⟨Nat.zero_le _, Nat.zero_le _⟩) ?_
  refine lv_istore_n (lv' := [(2, .int (xm_fd K k)), (0, .ref (q 0)), (1, .int k)]) hx hb d_M_get_9 rfl hl (Nat.le_of_ble_eq_true rfl) rfl (fun ls hl => ?_)
  refine lv_iload_n hx hb d_M_get_10 rfl (lv_at hl 0 rfl) ?_
  refine lv_if_ge (tgt := 18) hx hb d_M_get_11 (by decide) (fun hc11 => ?_) (fun hc11 => ?_)
  · skip
    have hk := xm_fd_t (xk_nlt2 hc11)
    have hfd := xm_fd_eq hk
    have hhl := xk_has_lt hk
    refine lv_aload_n hx hb d_M_get_18 rfl (lv_at hl 1 rfl) ?_
    refine va_get (D := D) (ci := 5) (v := .ref (q 11)) (C := R_M) (T := F_M) (N := 17) hx hb hts (zi_M _) hown hK hP 0 rfl rfl 16 (by decide) (hts _ (List.mem_cons_of_mem _ zm_392)) (fun _ h9 => h9) rfl d_M_get_19 ?_
    refine lv_iload_n hx hb d_M_get_22 rfl (lv_at hl 0 rfl) ?_
    refine xa_top (y := nI (xk_lo K k)) hfd ?_
    refine xa_lald hx hb hK hP 11 10 rfl rfl (k := xk_lo K k) (by omega) (by decide) d_M_get_23 ?_
    refine xa_topl (y := xk_get K k) ((xk_tie_f hM.2.2 (xk_has_at hk)).2) ?_
    exact W.lret (v := xk_get K k) hx hb hr (fun tJ htJ hWJ => ⟨⟨_, (ky2_1, vl2_1), rfl, ⟨by rw [← hK9]; first | done | exact (xk_get_0 (xm_fd_f hM.1 (xk_nle hc11))).symm, by rw [← hK9]; exact hM⟩, by dsimp only; rw [htJ]; rw [← hK9]; exact hP⟩, hS.F htJ⟩) hS.2.2 d_M_get_24
  · skip
    refine lv_lconst (v := 0) hx hb d_M_get_14 (by decide +kernel) ?_
    refine lv_goto (tgt := 24) hx hb d_M_get_15 (by decide) ?_
    exact W.lret (v := 0) hx hb hr (fun tJ htJ hWJ => ⟨⟨_, (ky2_1, vl2_1), rfl, ⟨by rw [← hK9]; first | done | exact (xk_get_0 (xm_fd_f hM.1 (xk_nle hc11))).symm, by rw [← hK9]; exact hM⟩, by dsimp only; rw [htJ]; rw [← hK9]; exact hP⟩, hS.F htJ⟩) hS.2.2 d_M_get_24
set_option maxHeartbeats 4000000 in
set_option maxRecDepth 100000 in
theorem c_M_size (l : Launch) (D : va_G) (q : Nat → Nat) (cA : Nat → ClassId) (lim : Int32) (bk : Nat → Int32) (bv : Nat → Int64) (wh : Nat → Int32) (rk : Nat → Int32) (rv : Nat → Int64) (bg : Nat → Int32) (bt : Int32) (sc : Int32) (sw : Nat → Int32) (sk : Nat → Int32) (sv : Nat → Int64) (kp : Int32) (ky : Nat → Int32) (vl : Nat → Int64) (sz : Nat) (lm : Nat) (B0 : List xk_E) (R0 : List xs_R) (ST : List xs_O) (hMT : xm_MT B0 R0 ST bk bv wh rk rv bg sw sk sv) (hok : xs_ok lm B0 R0) : Met l y_M_size zw_M_size ({ frames := 4, cells := 0, slots := 0, locals := 91 } : Room) (va_Pc [.ref (q 0)] (xp_Q D zz_cl (xw_tM cA) sz (xw_M q cA lim (nI B0.length) bk bv (nI R0.length) wh rk rv bg bt sc sw sk sv kp ky vl))) (va_Qi (fun (r : Int32) (u : (Nat → Int32) × (Nat → Int64)) => r = (nI ((xs_now B0 R0).length)) ∧ (xm_T u.1 u.2 (xs_now B0 R0))) (fun (u : (Nat → Int32) × (Nat → Int64)) (t : State) => va_P D zz_cl (xw_M q cA lim (nI B0.length) bk bv (nI R0.length) wh rk rv bg bt sc sw sk sv (nI (xs_now B0 R0).length) u.1 u.2) t.heap) (va_A (xw_M q cA lim (nI B0.length) bk bv (nI R0.length) wh rk rv bg bt sc sw sk sv kp ky vl) sz)) 0 0 (va_A (xw_M q cA lim (nI B0.length) bk bv (nI R0.length) wh rk rv bg bt sc sw sk sv kp ky vl) sz) := by
  refine Met.ofW (cc := b_M_size) (maxL := 1) (ret := (some .int)) (by decide) rfl ?_
  intro pJ eJ s mJ args below meth cJ s₁ B hml hv
  obtain ⟨rfl, hsz, hP, hK, hD0, hZ⟩ := hv
  have hx := B.exec
  have hb := B.bytes
  have hr := B.returns
  have hts := atoms_spec (ws := zw_M_size) B.pre
  have hown : s.vm.findClass R_M = some mJ.cls := findClass_of_methodNamed B.named
  have hlocks := B.notSynchronized
  subst hsz
  have hD := hD0.self (sz := s.heap.size)
  generalize hAe : va_A (xw_M q cA lim (nI B0.length) bk bv (nI R0.length) wh rk rv bg bt sc sw sk sv kp ky vl) s.heap.size = A at hD ⊢
  have hA : ∀ q : Nat, s.heap.size ≤ q → A q := fun q h => by rw [← hAe]; exact Or.inr h
  have hS : va_S A s.heap s.heap [] := va_S.rf
  have hl := lv_entry ([.ref (q 0)]) (n := 1) (Nat.le_of_ble_eq_true rfl)
  rw [lg_entry_eq]
  generalize (lg_sl ([.ref (q 0)]) ++ List.replicate (1 - (lg_sl ([.ref (q 0)])).length) Slot.unset).toArray = ls at hl ⊢
  have hl : lv_has ls 1 [(0, .ref (q 0))] := hl
  refine lv_aload_n hx hb d_M_size_0 rfl (lv_at hl 0 rfl) ?_
  refine xa_cMV (va_runV (As := []) (rest := []) ⟨hx, hb, hml, hown, hts⟩ (c_M_now l D q cA lim bk bv wh rk rv bg bt sc sw sk sv kp ky vl s.heap.size B0 R0 hMT.1 hok.1 hok.2.1 hMT.2.1 (by have := hok.2.2.1; omega) (xs_ok_w hok) hok.2.2.2.1) (cwV 0 hts (zg_V zm_440 zm_442 zs_12 zm_7 zm_443) rfl rfl rfl (by decide +kernel) ⟨Nat.le_of_ble_eq_true rfl, Nat.le_of_ble_eq_true rfl⟩) (xp_preVQ (ci := 5) (q0 := 0) hK hP hD rfl rfl rfl hZ) rfl rfl hl.1 rfl (lv_room (Nat.le_of_ble_eq_true rfl)) d_M_size_1 ⟨Nat.zero_le _, Nat.zero_le _⟩) hS (xa_F hD hS hA) (fun u H locs hp1 hP hS => ?_)
  obtain ⟨ky2_1, vl2_1⟩ := u
  have hP : va_P D zz_cl (xw_M q cA lim (nI B0.length) bk bv (nI R0.length) wh rk rv bg bt sc sw sk sv (nI (xs_now B0 R0).length) ky2_1 vl2_1) H := hP
  have hD : va_D A (xw_M q cA lim (nI B0.length) bk bv (nI R0.length) wh rk rv bg bt sc sw sk sv (nI (xs_now B0 R0).length) ky2_1 vl2_1) := xa_E hD rfl
  have hp1 : xm_T ky2_1 vl2_1 (xs_now B0 R0) := hp1
  obtain ⟨K, hK9⟩ : ∃ K, K = xs_now B0 R0 := ⟨_, rfl⟩
  rw [← hK9] at hp1
  have hM := hp1
  have hlen := hM.1
  rw [show nI (xs_now B0 R0).length = nI K.length from by rw [hK9]] at hP hD
  refine lv_aload_n hx hb d_M_size_4 rfl (lv_at hl 0 rfl) ?_
  refine va_get (D := D) (ci := 5) (v := .int (nI K.length)) (C := R_M) (T := F_M) (N := 17) hx hb hts (zi_M _) hown hK hP 0 rfl rfl 14 (by decide) (hts _ (List.mem_cons_of_mem _ zm_390)) (fun _ h9 => h9) rfl d_M_size_5 ?_
  exact W.iret (v := nI K.length) hx hb hr (fun tJ htJ hWJ => ⟨⟨_, (ky2_1, vl2_1), rfl, ⟨by rw [← hK9], by rw [← hK9]; exact hM⟩, by dsimp only; rw [htJ]; rw [← hK9]; exact hP⟩, hS.F htJ⟩) hS.2.2 d_M_size_8
set_option maxHeartbeats 4000000 in
set_option maxRecDepth 100000 in
theorem c_M_pages (l : Launch) (D : va_G) (q : Nat → Nat) (cA : Nat → ClassId) (lim : Int32) (bk : Nat → Int32) (bv : Nat → Int64) (wh : Nat → Int32) (rk : Nat → Int32) (rv : Nat → Int64) (bg : Nat → Int32) (bt : Int32) (sc : Int32) (sw : Nat → Int32) (sk : Nat → Int32) (sv : Nat → Int64) (kp : Int32) (ky : Nat → Int32) (vl : Nat → Int64) (sz : Nat) (lm : Nat) (B0 : List xk_E) (R0 : List xs_R) (ST : List xs_O) (hMT : xm_MT B0 R0 ST bk bv wh rk rv bg sw sk sv) (hok : xs_ok lm B0 R0) : Met l y_M_pages zw_M_pages ({ frames := 5, cells := 0, slots := 0, locals := 122 } : Room) (va_Pc [.ref (q 0)] (xp_Q D zz_cl (xw_tM cA) sz (xw_M q cA lim (nI B0.length) bk bv (nI R0.length) wh rk rv bg bt sc sw sk sv kp ky vl))) (va_Qi (fun (r : Int32) (u : (Nat → Int32) × (Nat → Int64)) => r = (nI (xd_pg (xs_now B0 R0))) ∧ (xm_T u.1 u.2 (xs_now B0 R0))) (fun (u : (Nat → Int32) × (Nat → Int64)) (t : State) => va_P D zz_cl (xw_M q cA lim (nI B0.length) bk bv (nI R0.length) wh rk rv bg bt sc sw sk sv (nI (xs_now B0 R0).length) u.1 u.2) t.heap) (va_A (xw_M q cA lim (nI B0.length) bk bv (nI R0.length) wh rk rv bg bt sc sw sk sv kp ky vl) sz)) 0 0 (va_A (xw_M q cA lim (nI B0.length) bk bv (nI R0.length) wh rk rv bg bt sc sw sk sv kp ky vl) sz) := by
  refine Met.ofW (cc := b_M_pages) (maxL := 1) (ret := (some .int)) (by decide) rfl ?_
  intro pJ eJ s mJ args below meth cJ s₁ B hml hv
  obtain ⟨rfl, hsz, hP, hK, hD0, hZ⟩ := hv
  have hx := B.exec
  have hb := B.bytes
  have hr := B.returns
  have hts := atoms_spec (ws := zw_M_pages) B.pre
  have hown : s.vm.findClass R_M = some mJ.cls := findClass_of_methodNamed B.named
  have hlocks := B.notSynchronized
  subst hsz
  have hD := hD0.self (sz := s.heap.size)
  generalize hAe : va_A (xw_M q cA lim (nI B0.length) bk bv (nI R0.length) wh rk rv bg bt sc sw sk sv kp ky vl) s.heap.size = A at hD ⊢
  have hA : ∀ q : Nat, s.heap.size ≤ q → A q := fun q h => by rw [← hAe]; exact Or.inr h
  have hS : va_S A s.heap s.heap [] := va_S.rf
  have hl := lv_entry ([.ref (q 0)]) (n := 1) (Nat.le_of_ble_eq_true rfl)
  rw [lg_entry_eq]
  generalize (lg_sl ([.ref (q 0)]) ++ List.replicate (1 - (lg_sl ([.ref (q 0)])).length) Slot.unset).toArray = ls at hl ⊢
  have hl : lv_has ls 1 [(0, .ref (q 0))] := hl
  refine lv_aload_n hx hb d_M_pages_0 rfl (lv_at hl 0 rfl) ?_
  refine xa_cMV (va_runV (As := []) (rest := []) ⟨hx, hb, hml, hown, hts⟩ (c_M_now l D q cA lim bk bv wh rk rv bg bt sc sw sk sv kp ky vl s.heap.size B0 R0 hMT.1 hok.1 hok.2.1 hMT.2.1 (by have := hok.2.2.1; omega) (xs_ok_w hok) hok.2.2.2.1) (cwV 0 hts (zg_V zm_440 zm_442 zs_12 zm_7 zm_443) rfl rfl rfl (by decide +kernel) ⟨Nat.le_of_ble_eq_true rfl, Nat.le_of_ble_eq_true rfl⟩) (xp_preVQ (ci := 5) (q0 := 0) hK hP hD rfl rfl rfl hZ) rfl rfl hl.1 rfl (lv_room (Nat.le_of_ble_eq_true rfl)) d_M_pages_1 ⟨Nat.zero_le _, Nat.zero_le _⟩) hS (xa_F hD hS hA) (fun u H locs hp1 hP hS => ?_)
  obtain ⟨ky2_1, vl2_1⟩ := u
  have hP : va_P D zz_cl (xw_M q cA lim (nI B0.length) bk bv (nI R0.length) wh rk rv bg bt sc sw sk sv (nI (xs_now B0 R0).length) ky2_1 vl2_1) H := hP
  have hD : va_D A (xw_M q cA lim (nI B0.length) bk bv (nI R0.length) wh rk rv bg bt sc sw sk sv (nI (xs_now B0 R0).length) ky2_1 vl2_1) := xa_E hD rfl
  have hp1 : xm_T ky2_1 vl2_1 (xs_now B0 R0) := hp1
  obtain ⟨K, hK9⟩ : ∃ K, K = xs_now B0 R0 := ⟨_, rfl⟩
  rw [← hK9] at hp1
  have hM := hp1
  have hlen := hM.1
  rw [show nI (xs_now B0 R0).length = nI K.length from by rw [hK9]] at hP hD
  refine lv_aload_n hx hb d_M_pages_4 rfl (lv_at hl 0 rfl) ?_
  refine xa_cI (va_runV (As := []) (rest := []) ⟨hx, hb, hml, hown, hts⟩ (c_M_inUse l D q cA lim (nI B0.length) bk bv (nI R0.length) wh rk rv bg bt sc sw sk sv ky2_1 vl2_1 K hM) (cwV 0 hts (zg_V zm_468 zm_470 zs_19 zm_7 zm_471) rfl rfl rfl (by decide +kernel) ⟨Nat.le_of_ble_eq_true rfl, Nat.le_of_ble_eq_true rfl⟩) (xp_preV (ci := 5) (q0 := 0) hK hP rfl rfl rfl hZ) rfl rfl hl.1 rfl (lv_room (Nat.le_of_ble_eq_true rfl)) d_M_pages_5 ⟨Nat.zero_le _, Nat.zero_le _⟩) ?_
  exact W.iret (v := nI (xd_pg K)) hx hb hr (fun tJ htJ hWJ => ⟨⟨_, (ky2_1, vl2_1), rfl, ⟨by rw [← hK9], by rw [← hK9]; exact hM⟩, by dsimp only; rw [htJ]; rw [← hK9]; exact hP⟩, hS.F htJ⟩) hS.2.2 d_M_pages_8
set_option maxHeartbeats 4000000 in
set_option maxRecDepth 100000 in
theorem c_M_gdep (l : Launch) (D : va_G) (q : Nat → Nat) (cA : Nat → ClassId) (lim : Int32) (bk : Nat → Int32) (bv : Nat → Int64) (wh : Nat → Int32) (rk : Nat → Int32) (rv : Nat → Int64) (bg : Nat → Int32) (bt : Int32) (sc : Int32) (sw : Nat → Int32) (sk : Nat → Int32) (sv : Nat → Int64) (kp : Int32) (ky : Nat → Int32) (vl : Nat → Int64) (sz : Nat) (lm : Nat) (B0 : List xk_E) (R0 : List xs_R) (ST : List xs_O) (hMT : xm_MT B0 R0 ST bk bv wh rk rv bg sw sk sv) (hok : xs_ok lm B0 R0) : Met l y_M_globalDepth zw_M_globalDepth ({ frames := 4, cells := 0, slots := 0, locals := 97 } : Room) (va_Pc [.ref (q 0)] (xp_Q D zz_cl (xw_tM cA) sz (xw_M q cA lim (nI B0.length) bk bv (nI R0.length) wh rk rv bg bt sc sw sk sv kp ky vl))) (va_Qi (fun (r : Int32) (u : (Nat → Int32) × (Nat → Int64)) => r = (nI (xd_gm (xs_now B0 R0) 64)) ∧ (xm_T u.1 u.2 (xs_now B0 R0))) (fun (u : (Nat → Int32) × (Nat → Int64)) (t : State) => va_P D zz_cl (xw_M q cA lim (nI B0.length) bk bv (nI R0.length) wh rk rv bg bt sc sw sk sv (nI (xs_now B0 R0).length) u.1 u.2) t.heap) (va_A (xw_M q cA lim (nI B0.length) bk bv (nI R0.length) wh rk rv bg bt sc sw sk sv kp ky vl) sz)) 0 0 (va_A (xw_M q cA lim (nI B0.length) bk bv (nI R0.length) wh rk rv bg bt sc sw sk sv kp ky vl) sz) := by
  refine Met.ofW (cc := b_M_globalDepth) (maxL := 1) (ret := (some .int)) (by decide) rfl ?_
  intro pJ eJ s mJ args below meth cJ s₁ B hml hv
  obtain ⟨rfl, hsz, hP, hK, hD0, hZ⟩ := hv
  have hx := B.exec
  have hb := B.bytes
  have hr := B.returns
  have hts := atoms_spec (ws := zw_M_globalDepth) B.pre
  have hown : s.vm.findClass R_M = some mJ.cls := findClass_of_methodNamed B.named
  have hlocks := B.notSynchronized
  subst hsz
  have hD := hD0.self (sz := s.heap.size)
  generalize hAe : va_A (xw_M q cA lim (nI B0.length) bk bv (nI R0.length) wh rk rv bg bt sc sw sk sv kp ky vl) s.heap.size = A at hD ⊢
  have hA : ∀ q : Nat, s.heap.size ≤ q → A q := fun q h => by rw [← hAe]; exact Or.inr h
  have hS : va_S A s.heap s.heap [] := va_S.rf
  have hl := lv_entry ([.ref (q 0)]) (n := 1) (Nat.le_of_ble_eq_true rfl)
  rw [lg_entry_eq]
  generalize (lg_sl ([.ref (q 0)]) ++ List.replicate (1 - (lg_sl ([.ref (q 0)])).length) Slot.unset).toArray = ls at hl ⊢
  have hl : lv_has ls 1 [(0, .ref (q 0))] := hl
  refine lv_aload_n hx hb d_M_globalDepth_0 rfl (lv_at hl 0 rfl) ?_
  refine xa_cMV (va_runV (As := []) (rest := []) ⟨hx, hb, hml, hown, hts⟩ (c_M_now l D q cA lim bk bv wh rk rv bg bt sc sw sk sv kp ky vl s.heap.size B0 R0 hMT.1 hok.1 hok.2.1 hMT.2.1 (by have := hok.2.2.1; omega) (xs_ok_w hok) hok.2.2.2.1) (cwV 0 hts (zg_V zm_440 zm_442 zs_12 zm_7 zm_443) rfl rfl rfl (by decide +kernel) ⟨Nat.le_of_ble_eq_true rfl, Nat.le_of_ble_eq_true rfl⟩) (xp_preVQ (ci := 5) (q0 := 0) hK hP hD rfl rfl rfl hZ) rfl rfl hl.1 rfl (lv_room (Nat.le_of_ble_eq_true rfl)) d_M_globalDepth_1 ⟨Nat.zero_le _, Nat.zero_le _⟩) hS (xa_F hD hS hA) (fun u H locs hp1 hP hS => ?_)
  obtain ⟨ky2_1, vl2_1⟩ := u
  have hP : va_P D zz_cl (xw_M q cA lim (nI B0.length) bk bv (nI R0.length) wh rk rv bg bt sc sw sk sv (nI (xs_now B0 R0).length) ky2_1 vl2_1) H := hP
  have hD : va_D A (xw_M q cA lim (nI B0.length) bk bv (nI R0.length) wh rk rv bg bt sc sw sk sv (nI (xs_now B0 R0).length) ky2_1 vl2_1) := xa_E hD rfl
  have hp1 : xm_T ky2_1 vl2_1 (xs_now B0 R0) := hp1
  obtain ⟨K, hK9⟩ : ∃ K, K = xs_now B0 R0 := ⟨_, rfl⟩
  rw [← hK9] at hp1
  have hM := hp1
  have hlen := hM.1
  rw [show nI (xs_now B0 R0).length = nI K.length from by rw [hK9]] at hP hD
  refine lv_aload_n hx hb d_M_globalDepth_4 rfl (lv_at hl 0 rfl) ?_
  refine xa_cI (va_runV (As := []) (rest := []) ⟨hx, hb, hml, hown, hts⟩ (c_M_great l D q cA lim (nI B0.length) bk bv (nI R0.length) wh rk rv bg bt sc sw sk sv ky2_1 vl2_1 K hM) (cwV 0 hts (zg_V zm_472 zm_474 zs_20 zm_7 zm_475) rfl rfl rfl (by decide +kernel) ⟨Nat.le_of_ble_eq_true rfl, Nat.le_of_ble_eq_true rfl⟩) (xp_preV (ci := 5) (q0 := 0) hK hP rfl rfl rfl hZ) rfl rfl hl.1 rfl (lv_room (Nat.le_of_ble_eq_true rfl)) d_M_globalDepth_5 ⟨Nat.zero_le _, Nat.zero_le _⟩) ?_
  exact W.iret (v := nI (xd_gm K 64)) hx hb hr (fun tJ htJ hWJ => ⟨⟨_, (ky2_1, vl2_1), rfl, ⟨by rw [← hK9], by rw [← hK9]; exact hM⟩, by dsimp only; rw [htJ]; rw [← hK9]; exact hP⟩, hS.F htJ⟩) hS.2.2 d_M_globalDepth_8
set_option maxHeartbeats 4000000 in
set_option maxRecDepth 100000 in
theorem c_M_ldep (l : Launch) (D : va_G) (q : Nat → Nat) (cA : Nat → ClassId) (lim : Int32) (bk : Nat → Int32) (bv : Nat → Int64) (wh : Nat → Int32) (rk : Nat → Int32) (rv : Nat → Int64) (bg : Nat → Int32) (bt : Int32) (sc : Int32) (sw : Nat → Int32) (sk : Nat → Int32) (sv : Nat → Int64) (kp : Int32) (ky : Nat → Int32) (vl : Nat → Int64) (sz : Nat) (lm : Nat) (B0 : List xk_E) (R0 : List xs_R) (ST : List xs_O) (k : Int32) (hMT : xm_MT B0 R0 ST bk bv wh rk rv bg sw sk sv) (hok : xs_ok lm B0 R0) : Met l y_M_localDepth zw_M_localDepth ({ frames := 4, cells := 0, slots := 0, locals := 99 } : Room) (va_Pc [.ref (q 0), .int k] (xp_Q D zz_cl (xw_tM cA) sz (xw_M q cA lim (nI B0.length) bk bv (nI R0.length) wh rk rv bg bt sc sw sk sv kp ky vl))) (va_Qi (fun (r : Int32) (u : (Nat → Int32) × (Nat → Int64)) => r = (nI (xd_dp (xs_now B0 R0) (xk_h k))) ∧ (xm_T u.1 u.2 (xs_now B0 R0))) (fun (u : (Nat → Int32) × (Nat → Int64)) (t : State) => va_P D zz_cl (xw_M q cA lim (nI B0.length) bk bv (nI R0.length) wh rk rv bg bt sc sw sk sv (nI (xs_now B0 R0).length) u.1 u.2) t.heap) (va_A (xw_M q cA lim (nI B0.length) bk bv (nI R0.length) wh rk rv bg bt sc sw sk sv kp ky vl) sz)) 0 0 (va_A (xw_M q cA lim (nI B0.length) bk bv (nI R0.length) wh rk rv bg bt sc sw sk sv kp ky vl) sz) := by
  refine Met.ofW (cc := b_M_localDepth) (maxL := 2) (ret := (some .int)) (by decide) rfl ?_
  intro pJ eJ s mJ args below meth cJ s₁ B hml hv
  obtain ⟨rfl, hsz, hP, hK, hD0, hZ⟩ := hv
  have hx := B.exec
  have hb := B.bytes
  have hr := B.returns
  have hts := atoms_spec (ws := zw_M_localDepth) B.pre
  have hown : s.vm.findClass R_M = some mJ.cls := findClass_of_methodNamed B.named
  have hlocks := B.notSynchronized
  subst hsz
  have hD := hD0.self (sz := s.heap.size)
  generalize hAe : va_A (xw_M q cA lim (nI B0.length) bk bv (nI R0.length) wh rk rv bg bt sc sw sk sv kp ky vl) s.heap.size = A at hD ⊢
  have hA : ∀ q : Nat, s.heap.size ≤ q → A q := fun q h => by rw [← hAe]; exact Or.inr h
  have hS : va_S A s.heap s.heap [] := va_S.rf
  have hl := lv_entry ([.ref (q 0), .int k]) (n := 2) (Nat.le_of_ble_eq_true rfl)
  rw [lg_entry_eq]
  generalize (lg_sl ([.ref (q 0), .int k]) ++ List.replicate (2 - (lg_sl ([.ref (q 0), .int k])).length) Slot.unset).toArray = ls at hl ⊢
  have hl : lv_has ls 2 [(0, .ref (q 0)), (1, .int k)] := hl
  refine lv_aload_n hx hb d_M_localDepth_0 rfl (lv_at hl 0 rfl) ?_
  refine xa_cMV (va_runV (As := []) (rest := []) ⟨hx, hb, hml, hown, hts⟩ (c_M_now l D q cA lim bk bv wh rk rv bg bt sc sw sk sv kp ky vl s.heap.size B0 R0 hMT.1 hok.1 hok.2.1 hMT.2.1 (by have := hok.2.2.1; omega) (xs_ok_w hok) hok.2.2.2.1) (cwV 0 hts (zg_V zm_440 zm_442 zs_12 zm_7 zm_443) rfl rfl rfl (by decide +kernel) ⟨Nat.le_of_ble_eq_true rfl, Nat.le_of_ble_eq_true rfl⟩) (xp_preVQ (ci := 5) (q0 := 0) hK hP hD rfl rfl rfl hZ) rfl rfl hl.1 rfl (lv_room (Nat.le_of_ble_eq_true rfl)) d_M_localDepth_1 ⟨Nat.zero_le _, Nat.zero_le _⟩) hS (xa_F hD hS hA) (fun u H locs hp1 hP hS => ?_)
  obtain ⟨ky2_1, vl2_1⟩ := u
  have hP : va_P D zz_cl (xw_M q cA lim (nI B0.length) bk bv (nI R0.length) wh rk rv bg bt sc sw sk sv (nI (xs_now B0 R0).length) ky2_1 vl2_1) H := hP
  have hD : va_D A (xw_M q cA lim (nI B0.length) bk bv (nI R0.length) wh rk rv bg bt sc sw sk sv (nI (xs_now B0 R0).length) ky2_1 vl2_1) := xa_E hD rfl
  have hp1 : xm_T ky2_1 vl2_1 (xs_now B0 R0) := hp1
  obtain ⟨K, hK9⟩ : ∃ K, K = xs_now B0 R0 := ⟨_, rfl⟩
  rw [← hK9] at hp1
  have hM := hp1
  have hlen := hM.1
  have hh := xk_h_lt k
  have hm0 := Nat.mod_le (xk_h k) (2 ^ xd_dp K (xk_h k))
  rw [show nI (xs_now B0 R0).length = nI K.length from by rw [hK9]] at hP hD
  refine lv_aload_n hx hb d_M_localDepth_4 rfl (lv_at hl 0 rfl) ?_
  refine lv_aload_n hx hb d_M_localDepth_5 rfl (lv_at hl 0 rfl) ?_
  refine lv_iload_n hx hb d_M_localDepth_6 rfl (lv_at hl 1 rfl) ?_
  refine xa_cI (va_runV (As := [.int k]) (rest := [.ref (q 0)]) ⟨hx, hb, hml, hown, hts⟩ (c_M_bktOf l D q cA lim (nI B0.length) bk bv (nI R0.length) wh rk rv bg bt sc sw sk sv ky2_1 vl2_1 K k hM) (cwV 1 hts (zg_V zm_541 zm_543 zs_29 zm_7 zm_544) rfl rfl rfl (by decide +kernel) ⟨Nat.le_of_ble_eq_true rfl, Nat.le_of_ble_eq_true rfl⟩) (xp_preV (ci := 5) (q0 := 0) hK hP rfl rfl rfl hZ) rfl rfl hl.1 rfl (lv_room (Nat.le_of_ble_eq_true rfl)) d_M_localDepth_7 ⟨Nat.zero_le _, Nat.zero_le _⟩) ?_
  refine xa_cI (va_runV (As := [.int (nI (xk_h k % 2 ^ xd_dp K (xk_h k)))]) (rest := []) ⟨hx, hb, hml, hown, hts⟩ (c_M_dep l D q cA lim (nI B0.length) bk bv (nI R0.length) wh rk rv bg bt sc sw sk sv ky2_1 vl2_1 K (xk_h k % 2 ^ xd_dp K (xk_h k)) hM (by omega)) (cwV 1 hts (zg_V zm_476 zm_478 zs_21 zm_7 zm_479) rfl rfl rfl (by decide +kernel) ⟨Nat.le_of_ble_eq_true rfl, Nat.le_of_ble_eq_true rfl⟩) (xp_preV (ci := 5) (q0 := 0) hK hP rfl rfl rfl hZ) rfl rfl hl.1 rfl (lv_room (Nat.le_of_ble_eq_true rfl)) d_M_localDepth_10 ⟨Nat.zero_le _, Nat.zero_le _⟩) ?_
  exact W.iret (v := xm_rd K (xk_h k % 2 ^ xd_dp K (xk_h k))) hx hb hr (fun tJ htJ hWJ => ⟨⟨_, (ky2_1, vl2_1), rfl, ⟨by rw [← hK9]; rw [xm_rd_eq (xd_pl_place K _), xd_dp_place], by rw [← hK9]; exact hM⟩, by dsimp only; rw [htJ]; rw [← hK9]; exact hP⟩, hS.F htJ⟩) hS.2.2 d_M_localDepth_13
set_option maxHeartbeats 4000000 in
set_option maxRecDepth 100000 in
theorem c_M_bkts (l : Launch) (D : va_G) (q : Nat → Nat) (cA : Nat → ClassId) (lim : Int32) (bk : Nat → Int32) (bv : Nat → Int64) (wh : Nat → Int32) (rk : Nat → Int32) (rv : Nat → Int64) (bg : Nat → Int32) (bt : Int32) (sc : Int32) (sw : Nat → Int32) (sk : Nat → Int32) (sv : Nat → Int64) (kp : Int32) (ky : Nat → Int32) (vl : Nat → Int64) (sz : Nat) (lm : Nat) (B0 : List xk_E) (R0 : List xs_R) (ST : List xs_O) (hMT : xm_MT B0 R0 ST bk bv wh rk rv bg sw sk sv) (hok : xs_ok lm B0 R0) : Met l y_M_buckets zw_M_buckets ({ frames := 4, cells := 0, slots := 0, locals := 91 } : Room) (va_Pc [.ref (q 0)] (xp_Q D zz_cl (xw_tM cA) sz (xw_M q cA lim (nI B0.length) bk bv (nI R0.length) wh rk rv bg bt sc sw sk sv kp ky vl))) (va_Qi (fun (r : Int32) (u : (Nat → Int32) × (Nat → Int64)) => r = (nI ((xo_pls (xs_now B0 R0) 64).length)) ∧ (xm_T u.1 u.2 (xs_now B0 R0))) (fun (u : (Nat → Int32) × (Nat → Int64)) (t : State) => va_P D zz_cl (xw_M q cA lim (nI B0.length) bk bv (nI R0.length) wh rk rv bg bt sc sw sk sv (nI (xs_now B0 R0).length) u.1 u.2) t.heap) (va_A (xw_M q cA lim (nI B0.length) bk bv (nI R0.length) wh rk rv bg bt sc sw sk sv kp ky vl) sz)) 0 0 (va_A (xw_M q cA lim (nI B0.length) bk bv (nI R0.length) wh rk rv bg bt sc sw sk sv kp ky vl) sz) := by
  refine Met.ofW (cc := b_M_buckets) (maxL := 3) (ret := (some .int)) (by decide) rfl ?_
  intro pJ eJ s mJ args below meth cJ s₁ B hml hv
  obtain ⟨rfl, hsz, hP, hK, hD0, hZ⟩ := hv
  have hx := B.exec
  have hb := B.bytes
  have hr := B.returns
  have hts := atoms_spec (ws := zw_M_buckets) B.pre
  have hown : s.vm.findClass R_M = some mJ.cls := findClass_of_methodNamed B.named
  have hlocks := B.notSynchronized
  subst hsz
  have hD := hD0.self (sz := s.heap.size)
  generalize hAe : va_A (xw_M q cA lim (nI B0.length) bk bv (nI R0.length) wh rk rv bg bt sc sw sk sv kp ky vl) s.heap.size = A at hD ⊢
  have hA : ∀ q : Nat, s.heap.size ≤ q → A q := fun q h => by rw [← hAe]; exact Or.inr h
  have hS : va_S A s.heap s.heap [] := va_S.rf
  have hl := lv_entry ([.ref (q 0)]) (n := 3) (Nat.le_of_ble_eq_true rfl)
  rw [lg_entry_eq]
  generalize (lg_sl ([.ref (q 0)]) ++ List.replicate (3 - (lg_sl ([.ref (q 0)])).length) Slot.unset).toArray = ls at hl ⊢
  have hl : lv_has ls 3 [(0, .ref (q 0))] := hl
  refine lv_aload_n hx hb d_M_buckets_0 rfl (lv_at hl 0 rfl) ?_
  refine xa_cMV (va_runV (As := []) (rest := []) ⟨hx, hb, hml, hown, hts⟩ (c_M_now l D q cA lim bk bv wh rk rv bg bt sc sw sk sv kp ky vl s.heap.size B0 R0 hMT.1 hok.1 hok.2.1 hMT.2.1 (by have := hok.2.2.1; omega) (xs_ok_w hok) hok.2.2.2.1) (cwV 0 hts (zg_V zm_440 zm_442 zs_12 zm_7 zm_443) rfl rfl rfl (by decide +kernel) ⟨Nat.le_of_ble_eq_true rfl, Nat.le_of_ble_eq_true rfl⟩) (xp_preVQ (ci := 5) (q0 := 0) hK hP hD rfl rfl rfl hZ) rfl rfl hl.1 rfl (lv_room (Nat.le_of_ble_eq_true rfl)) d_M_buckets_1 ⟨Nat.zero_le _, Nat.zero_le _⟩) hS (xa_F hD hS hA) (fun u H locs hp1 hP hS => ?_)
  obtain ⟨ky2_1, vl2_1⟩ := u
  have hP : va_P D zz_cl (xw_M q cA lim (nI B0.length) bk bv (nI R0.length) wh rk rv bg bt sc sw sk sv (nI (xs_now B0 R0).length) ky2_1 vl2_1) H := hP
  have hD : va_D A (xw_M q cA lim (nI B0.length) bk bv (nI R0.length) wh rk rv bg bt sc sw sk sv (nI (xs_now B0 R0).length) ky2_1 vl2_1) := xa_E hD rfl
  have hp1 : xm_T ky2_1 vl2_1 (xs_now B0 R0) := hp1
  obtain ⟨K, hK9⟩ : ∃ K, K = xs_now B0 R0 := ⟨_, rfl⟩
  rw [← hK9] at hp1
  have hM := hp1
  have hlen := hM.1
  rw [show nI (xs_now B0 R0).length = nI K.length from by rw [hK9]] at hP hD
  refine lv_iconst (v := nI 0) hx hb d_M_buckets_4 (by decide +kernel) ?_
  refine lv_istore_n (lv' := [(1, .int (nI 0)), (0, .ref (q 0))]) hx hb d_M_buckets_5 rfl hl (Nat.le_of_ble_eq_true rfl) rfl (fun ls hl => ?_)
  refine lv_iconst (v := nI 0) hx hb d_M_buckets_6 (by decide +kernel) ?_
  refine lv_istore_n (lv' := [(2, .int (nI 0)), (1, .int (nI 0)), (0, .ref (q 0))]) hx hb d_M_buckets_7 rfl hl (Nat.le_of_ble_eq_true rfl) rfl (fun ls hl => ?_)
  have lp8 : ∀ (N : Nat) (p : Nat) (n : Nat) (ls : Array Slot), (p ≤ 64) → (n = (xo_pls K p).length) → lv_has ls 3 [(0, .ref (q 0)), (1, .int (nI n)), (2, .int (nI p))] → 64 - p < N → W pJ l eJ (headSpec zw_M_buckets ({ frames := 4, cells := 0, slots := 0, locals := 91 } : Room)).room s mJ ([.ref (q 0)] : List Value).toArray below meth cJ H locs 0 0 (MQ below (va_Qi (fun (r : Int32) (u : (Nat → Int32) × (Nat → Int64)) => r = (nI ((xo_pls (xs_now B0 R0) 64).length)) ∧ (xm_T u.1 u.2 (xs_now B0 R0))) (fun (u : (Nat → Int32) × (Nat → Int64)) (t : State) => va_P D zz_cl (xw_M q cA lim (nI B0.length) bk bv (nI R0.length) wh rk rv bg bt sc sw sk sv (nI (xs_now B0 R0).length) u.1 u.2) t.heap) A) ([.ref (q 0)] : List Value).toArray s 0 0 A) (F0 mJ 8 ls []) := by
    intro N
    induction N with
    | zero => intro p n ls hp hn hl hm; exact absurd hm (Nat.not_lt_zero _)
    | succ N ih8 =>
      intro p n ls hp hn hl hm
      refine lv_iload_n hx hb d_M_buckets_8 rfl (lv_at hl 2 rfl) ?_
      refine lv_bipush (v := nI 64) hx hb d_M_buckets_9 (by decide +kernel) ?_
      refine lv_icmp_ge (tgt := 36) hx hb d_M_buckets_11 (by decide) (fun hc11 => ?_) (fun hc11 => ?_)
      · skip
        rw [nI_leI (by omega) (by omega)] at hc11
        refine lv_iload_n hx hb d_M_buckets_36 rfl (lv_at hl 1 rfl) ?_
        exact W.iret (v := nI n) hx hb hr (fun tJ htJ hWJ => ⟨⟨_, (ky2_1, vl2_1), rfl, ⟨by rw [← hK9]; rw [hn, show p = 64 from by omega], by rw [← hK9]; exact hM⟩, by dsimp only; rw [htJ]; rw [← hK9]; exact hP⟩, hS.F htJ⟩) hS.2.2 d_M_buckets_37
      · skip
        rw [nI_leI (by omega) (by omega)] at hc11
        refine lv_aload_n hx hb d_M_buckets_14 rfl (lv_at hl 0 rfl) ?_
        refine lv_iload_n hx hb d_M_buckets_15 rfl (lv_at hl 2 rfl) ?_
        refine xa_cI (va_runV (As := [.int (nI p)]) (rest := []) ⟨hx, hb, hml, hown, hts⟩ (c_M_dep l D q cA lim (nI B0.length) bk bv (nI R0.length) wh rk rv bg bt sc sw sk sv ky2_1 vl2_1 K p hM (by omega)) (cwV 1 hts (zg_V zm_476 zm_478 zs_21 zm_7 zm_479) rfl rfl rfl (by decide +kernel) ⟨Nat.le_of_ble_eq_true rfl, Nat.le_of_ble_eq_true rfl⟩) (xp_preV (ci := 5) (q0 := 0) hK hP rfl rfl rfl hZ) rfl rfl hl.1 rfl (lv_room (Nat.le_of_ble_eq_true rfl)) d_M_buckets_16 ⟨Nat.zero_le _, Nat.zero_le _⟩) ?_
        refine lv_if_lt (tgt := 28) hx hb d_M_buckets_19 (by decide) (fun hc19 => ?_) (fun hc19 => ?_)
        · skip
          refine lv_iload_n hx hb d_M_buckets_28 rfl (lv_at hl 1 rfl) ?_
          refine lv_istore_n (lv' := [(1, .int (nI n)), (0, .ref (q 0)), (2, .int (nI p))]) hx hb d_M_buckets_29 rfl hl (Nat.le_of_ble_eq_true rfl) rfl (fun ls hl => ?_)
          refine lv_iinc (k := 2) (v := nI (p + 1)) (lv' := [(2, .int (nI (p + 1))), (1, .int (nI n)), (0, .ref (q 0))]) hx hb d_M_buckets_30 hl rfl (xn_inc _) (Nat.le_of_ble_eq_true rfl) rfl (fun ls hl => ?_)
          refine lv_goto (tgt := 8) hx hb d_M_buckets_33 (by decide) ?_
          exact ih8 (p + 1) n ls (by omega) (by first | rw [xo_pls_len, if_pos (xm_rd_pl hc19), hn] | rw [xo_pls_len, if_neg (by rw [xm_rd_np hc19]; decide), hn]) (lv_sub hl [2, 1, 0] rfl) (by omega)
        · skip
          refine lv_iload_n hx hb d_M_buckets_22 rfl (lv_at hl 1 rfl) ?_
          refine lv_iconst (v := nI 1) hx hb d_M_buckets_23 (by decide +kernel) ?_
          refine lv_iadd hx hb d_M_buckets_24 ?_
          refine xa_top (y := nI (n + 1)) (nI_add _ _) ?_
          refine lv_goto (tgt := 29) hx hb d_M_buckets_25 (by decide) ?_
          refine lv_istore_n (lv' := [(1, .int (nI (n + 1))), (0, .ref (q 0)), (2, .int (nI p))]) hx hb d_M_buckets_29 rfl hl (Nat.le_of_ble_eq_true rfl) rfl (fun ls hl => ?_)
          refine lv_iinc (k := 2) (v := nI (p + 1)) (lv' := [(2, .int (nI (p + 1))), (1, .int (nI (n + 1))), (0, .ref (q 0))]) hx hb d_M_buckets_30 hl rfl (xn_inc _) (Nat.le_of_ble_eq_true rfl) rfl (fun ls hl => ?_)
          refine lv_goto (tgt := 8) hx hb d_M_buckets_33 (by decide) ?_
          exact ih8 (p + 1) (n + 1) ls (by omega) (by first | rw [xo_pls_len, if_pos (xm_rd_pl hc19), hn] | rw [xo_pls_len, if_neg (by rw [xm_rd_np hc19]; decide), hn]) (lv_sub hl [2, 1, 0] rfl) (by omega)
  exact lp8 _ 0 0 ls (by omega) rfl (lv_sub hl [2, 1, 0] rfl) (Nat.lt_succ_self _)
set_option maxHeartbeats 4000000 in
set_option maxRecDepth 100000 in
theorem c_M_bAt (l : Launch) (D : va_G) (q : Nat → Nat) (cA : Nat → ClassId) (lim : Int32) (bk : Nat → Int32) (bv : Nat → Int64) (wh : Nat → Int32) (rk : Nat → Int32) (rv : Nat → Int64) (bg : Nat → Int32) (bt : Int32) (sc : Int32) (sw : Nat → Int32) (sk : Nat → Int32) (sv : Nat → Int64) (kp : Int32) (ky : Nat → Int32) (vl : Nat → Int64) (sz : Nat) (lm : Nat) (B0 : List xk_E) (R0 : List xs_R) (ST : List xs_O) (x : Int32) (hMT : xm_MT B0 R0 ST bk bv wh rk rv bg sw sk sv) (hok : xs_ok lm B0 R0) : Met l y_M_bucketAt zw_M_bucketAt ({ frames := 4, cells := 0, slots := 0, locals := 91 } : Room) (va_Pc [.ref (q 0), .int x] (xp_Q D zz_cl (xw_tM cA) sz (xw_M q cA lim (nI B0.length) bk bv (nI R0.length) wh rk rv bg bt sc sw sk sv kp ky vl))) (va_Qi (fun (r : Int32) (u : (Nat → Int32) × (Nat → Int64)) => r = (xo_at (xs_now B0 R0) x) ∧ (xm_T u.1 u.2 (xs_now B0 R0))) (fun (u : (Nat → Int32) × (Nat → Int64)) (t : State) => va_P D zz_cl (xw_M q cA lim (nI B0.length) bk bv (nI R0.length) wh rk rv bg bt sc sw sk sv (nI (xs_now B0 R0).length) u.1 u.2) t.heap) (va_A (xw_M q cA lim (nI B0.length) bk bv (nI R0.length) wh rk rv bg bt sc sw sk sv kp ky vl) sz)) 0 0 (va_A (xw_M q cA lim (nI B0.length) bk bv (nI R0.length) wh rk rv bg bt sc sw sk sv kp ky vl) sz) := by
  refine Met.ofW (cc := b_M_bucketAt) (maxL := 4) (ret := (some .int)) (by decide) rfl ?_
  intro pJ eJ s mJ args below meth cJ s₁ B hml hv
  obtain ⟨rfl, hsz, hP, hK, hD0, hZ⟩ := hv
  have hx := B.exec
  have hb := B.bytes
  have hr := B.returns
  have hts := atoms_spec (ws := zw_M_bucketAt) B.pre
  have hown : s.vm.findClass R_M = some mJ.cls := findClass_of_methodNamed B.named
  have hlocks := B.notSynchronized
  subst hsz
  have hD := hD0.self (sz := s.heap.size)
  generalize hAe : va_A (xw_M q cA lim (nI B0.length) bk bv (nI R0.length) wh rk rv bg bt sc sw sk sv kp ky vl) s.heap.size = A at hD ⊢
  have hA : ∀ q : Nat, s.heap.size ≤ q → A q := fun q h => by rw [← hAe]; exact Or.inr h
  have hS : va_S A s.heap s.heap [] := va_S.rf
  have hl := lv_entry ([.ref (q 0), .int x]) (n := 4) (Nat.le_of_ble_eq_true rfl)
  rw [lg_entry_eq]
  generalize (lg_sl ([.ref (q 0), .int x]) ++ List.replicate (4 - (lg_sl ([.ref (q 0), .int x])).length) Slot.unset).toArray = ls at hl ⊢
  have hl : lv_has ls 4 [(0, .ref (q 0)), (1, .int x)] := hl
  refine lv_aload_n hx hb d_M_bucketAt_0 rfl (lv_at hl 0 rfl) ?_
  refine xa_cMV (va_runV (As := []) (rest := []) ⟨hx, hb, hml, hown, hts⟩ (c_M_now l D q cA lim bk bv wh rk rv bg bt sc sw sk sv kp ky vl s.heap.size B0 R0 hMT.1 hok.1 hok.2.1 hMT.2.1 (by have := hok.2.2.1; omega) (xs_ok_w hok) hok.2.2.2.1) (cwV 0 hts (zg_V zm_440 zm_442 zs_12 zm_7 zm_443) rfl rfl rfl (by decide +kernel) ⟨Nat.le_of_ble_eq_true rfl, Nat.le_of_ble_eq_true rfl⟩) (xp_preVQ (ci := 5) (q0 := 0) hK hP hD rfl rfl rfl hZ) rfl rfl hl.1 rfl (lv_room (Nat.le_of_ble_eq_true rfl)) d_M_bucketAt_1 ⟨Nat.zero_le _, Nat.zero_le _⟩) hS (xa_F hD hS hA) (fun u H locs hp1 hP hS => ?_)
  obtain ⟨ky2_1, vl2_1⟩ := u
  have hP : va_P D zz_cl (xw_M q cA lim (nI B0.length) bk bv (nI R0.length) wh rk rv bg bt sc sw sk sv (nI (xs_now B0 R0).length) ky2_1 vl2_1) H := hP
  have hD : va_D A (xw_M q cA lim (nI B0.length) bk bv (nI R0.length) wh rk rv bg bt sc sw sk sv (nI (xs_now B0 R0).length) ky2_1 vl2_1) := xa_E hD rfl
  have hp1 : xm_T ky2_1 vl2_1 (xs_now B0 R0) := hp1
  obtain ⟨K, hK9⟩ : ∃ K, K = xs_now B0 R0 := ⟨_, rfl⟩
  rw [← hK9] at hp1
  have hM := hp1
  have hlen := hM.1
  rw [show nI (xs_now B0 R0).length = nI K.length from by rw [hK9]] at hP hD
  refine lv_iconst (v := nI 0) hx hb d_M_bucketAt_4 (by decide +kernel) ?_
  refine lv_istore_n (lv' := [(2, .int (nI 0)), (0, .ref (q 0)), (1, .int x)]) hx hb d_M_bucketAt_5 rfl hl (Nat.le_of_ble_eq_true rfl) rfl (fun ls hl => ?_)
  refine lv_iconst (v := nI 0) hx hb d_M_bucketAt_6 (by decide +kernel) ?_
  refine lv_istore_n (lv' := [(3, .int (nI 0)), (2, .int (nI 0)), (0, .ref (q 0)), (1, .int x)]) hx hb d_M_bucketAt_7 rfl hl (Nat.le_of_ble_eq_true rfl) rfl (fun ls hl => ?_)
  have lp8 : ∀ (N : Nat) (p : Nat) (n : Nat) (ls : Array Slot), (p ≤ 64) → (n = (xo_pls K p).length) → (∀ j, j < n → ¬ x = nI j) → lv_has ls 4 [(0, .ref (q 0)), (1, .int x), (2, .int (nI n)), (3, .int (nI p))] → 64 - p < N → W pJ l eJ (headSpec zw_M_bucketAt ({ frames := 4, cells := 0, slots := 0, locals := 91 } : Room)).room s mJ ([.ref (q 0), .int x] : List Value).toArray below meth cJ H locs 0 0 (MQ below (va_Qi (fun (r : Int32) (u : (Nat → Int32) × (Nat → Int64)) => r = (xo_at (xs_now B0 R0) x) ∧ (xm_T u.1 u.2 (xs_now B0 R0))) (fun (u : (Nat → Int32) × (Nat → Int64)) (t : State) => va_P D zz_cl (xw_M q cA lim (nI B0.length) bk bv (nI R0.length) wh rk rv bg bt sc sw sk sv (nI (xs_now B0 R0).length) u.1 u.2) t.heap) A) ([.ref (q 0), .int x] : List Value).toArray s 0 0 A) (F0 mJ 8 ls []) := by
    intro N
    induction N with
    | zero => intro p n ls hp hn hno hl hm; exact absurd hm (Nat.not_lt_zero _)
    | succ N ih8 =>
      intro p n ls hp hn hno hl hm
      refine lv_iload_n hx hb d_M_bucketAt_8 rfl (lv_at hl 3 rfl) ?_
      refine lv_bipush (v := nI 64) hx hb d_M_bucketAt_9 (by decide +kernel) ?_
      refine lv_icmp_ge (tgt := 39) hx hb d_M_bucketAt_11 (by decide) (fun hc11 => ?_) (fun hc11 => ?_)
      · skip
        rw [nI_leI (by omega) (by omega)] at hc11
        refine lv_iconst (v := (-1)) hx hb d_M_bucketAt_39 (by decide +kernel) ?_
        exact W.iret (v := (-1)) hx hb hr (fun tJ htJ hWJ => ⟨⟨_, (ky2_1, vl2_1), rfl, ⟨by rw [← hK9]; exact (xo_at_miss (by rw [show (64 : Nat) = p from by omega, ← hn]; exact hno)).symm, by rw [← hK9]; exact hM⟩, by dsimp only; rw [htJ]; rw [← hK9]; exact hP⟩, hS.F htJ⟩) hS.2.2 d_M_bucketAt_40
      · skip
        rw [nI_leI (by omega) (by omega)] at hc11
        refine lv_aload_n hx hb d_M_bucketAt_14 rfl (lv_at hl 0 rfl) ?_
        refine lv_iload_n hx hb d_M_bucketAt_15 rfl (lv_at hl 3 rfl) ?_
        refine xa_cI (va_runV (As := [.int (nI p)]) (rest := []) ⟨hx, hb, hml, hown, hts⟩ (c_M_dep l D q cA lim (nI B0.length) bk bv (nI R0.length) wh rk rv bg bt sc sw sk sv ky2_1 vl2_1 K p hM (by omega)) (cwV 1 hts (zg_V zm_476 zm_478 zs_21 zm_7 zm_479) rfl rfl rfl (by decide +kernel) ⟨Nat.le_of_ble_eq_true rfl, Nat.le_of_ble_eq_true rfl⟩) (xp_preV (ci := 5) (q0 := 0) hK hP rfl rfl rfl hZ) rfl rfl hl.1 rfl (lv_room (Nat.le_of_ble_eq_true rfl)) d_M_bucketAt_16 ⟨Nat.zero_le _, Nat.zero_le _⟩) ?_
        refine lv_if_lt (tgt := 33) hx hb d_M_bucketAt_19 (by decide) (fun hc19 => ?_) (fun hc19 => ?_)
        · skip
          refine lv_iinc (k := 3) (v := nI (p + 1)) (lv' := [(3, .int (nI (p + 1))), (0, .ref (q 0)), (1, .int x), (2, .int (nI n))]) hx hb d_M_bucketAt_33 hl rfl (xn_inc _) (Nat.le_of_ble_eq_true rfl) rfl (fun ls hl => ?_)
          refine lv_goto (tgt := 8) hx hb d_M_bucketAt_36 (by decide) ?_
          exact ih8 (p + 1) n ls (by omega) (by first | rw [xo_pls_len, if_pos (xm_rd_pl hc19), hn] | rw [xo_pls_len, if_neg (by rw [xm_rd_np hc19]; decide), hn]) (by first | exact hno | exact lt_s hno (fun q => hc24 q.symm)) (lv_sub hl [1, 2, 3, 0] rfl) (by omega)
        · skip
          refine lv_iload_n hx hb d_M_bucketAt_22 rfl (lv_at hl 2 rfl) ?_
          refine lv_iload_n hx hb d_M_bucketAt_23 rfl (lv_at hl 1 rfl) ?_
          refine lv_icmp_ne (tgt := 29) hx hb d_M_bucketAt_24 (by decide) (fun hc24 => ?_) (fun hc24 => ?_)
          · skip
            refine lv_iload_n hx hb d_M_bucketAt_29 rfl (lv_at hl 2 rfl) ?_
            refine lv_iconst (v := nI 1) hx hb d_M_bucketAt_30 (by decide +kernel) ?_
            refine lv_iadd hx hb d_M_bucketAt_31 ?_
            refine xa_top (y := nI (n + 1)) (nI_add _ _) ?_
            refine lv_istore_n (lv' := [(2, .int (nI (n + 1))), (0, .ref (q 0)), (1, .int x), (3, .int (nI p))]) hx hb d_M_bucketAt_32 rfl hl (Nat.le_of_ble_eq_true rfl) rfl (fun ls hl => ?_)
            refine lv_iinc (k := 3) (v := nI (p + 1)) (lv' := [(3, .int (nI (p + 1))), (2, .int (nI (n + 1))), (0, .ref (q 0)), (1, .int x)]) hx hb d_M_bucketAt_33 hl rfl (xn_inc _) (Nat.le_of_ble_eq_true rfl) rfl (fun ls hl => ?_)
            refine lv_goto (tgt := 8) hx hb d_M_bucketAt_36 (by decide) ?_
            exact ih8 (p + 1) (n + 1) ls (by omega) (by first | rw [xo_pls_len, if_pos (xm_rd_pl hc19), hn] | rw [xo_pls_len, if_neg (by rw [xm_rd_np hc19]; decide), hn]) (by first | exact hno | exact lt_s hno (fun q => hc24 q.symm)) (lv_sub hl [2, 3, 1, 0] rfl) (by omega)
          · skip
            refine lv_iload_n hx hb d_M_bucketAt_27 rfl (lv_at hl 3 rfl) ?_
            exact W.iret (v := nI p) hx hb hr (fun tJ htJ hWJ => ⟨⟨_, (ky2_1, vl2_1), rfl, ⟨by rw [← hK9]; rw [← hc24, hn]; exact (xo_at_hit (by omega) (xm_rd_pl hc19)).symm, by rw [← hK9]; exact hM⟩, by dsimp only; rw [htJ]; rw [← hK9]; exact hP⟩, hS.F htJ⟩) hS.2.2 d_M_bucketAt_28
  exact lp8 _ 0 0 ls (by omega) rfl (fun j hj => by omega) (lv_sub hl [2, 3, 1, 0] rfl) (Nat.lt_succ_self _)
set_option maxHeartbeats 4000000 in
set_option maxRecDepth 100000 in
theorem c_M_keyAt (l : Launch) (D : va_G) (q : Nat → Nat) (cA : Nat → ClassId) (lim : Int32) (bk : Nat → Int32) (bv : Nat → Int64) (wh : Nat → Int32) (rk : Nat → Int32) (rv : Nat → Int64) (bg : Nat → Int32) (bt : Int32) (sc : Int32) (sw : Nat → Int32) (sk : Nat → Int32) (sv : Nat → Int64) (kp : Int32) (ky : Nat → Int32) (vl : Nat → Int64) (sz : Nat) (lm : Nat) (B0 : List xk_E) (R0 : List xs_R) (ST : List xs_O) (x : Int32) (hMT : xm_MT B0 R0 ST bk bv wh rk rv bg sw sk sv) (hok : xs_ok lm B0 R0) : Met l y_M_keyAt zw_M_keyAt ({ frames := 4, cells := 0, slots := 0, locals := 91 } : Room) (va_Pc [.ref (q 0), .int x] (xp_Q D zz_cl (xw_tM cA) sz (xw_M q cA lim (nI B0.length) bk bv (nI R0.length) wh rk rv bg bt sc sw sk sv kp ky vl))) (va_Qi (fun (r : Int32) (u : (Nat → Int32) × (Nat → Int64)) => r = (xo_ka (xs_now B0 R0) x) ∧ (xm_T u.1 u.2 (xs_now B0 R0))) (fun (u : (Nat → Int32) × (Nat → Int64)) (t : State) => va_P D zz_cl (xw_M q cA lim (nI B0.length) bk bv (nI R0.length) wh rk rv bg bt sc sw sk sv (nI (xs_now B0 R0).length) u.1 u.2) t.heap) (va_A (xw_M q cA lim (nI B0.length) bk bv (nI R0.length) wh rk rv bg bt sc sw sk sv kp ky vl) sz)) 0 0 (va_A (xw_M q cA lim (nI B0.length) bk bv (nI R0.length) wh rk rv bg bt sc sw sk sv kp ky vl) sz) := by
  refine Met.ofW (cc := b_M_keyAt) (maxL := 6) (ret := (some .int)) (by decide) rfl ?_
  intro pJ eJ s mJ args below meth cJ s₁ B hml hv
  obtain ⟨rfl, hsz, hP, hK, hD0, hZ⟩ := hv
  have hx := B.exec
  have hb := B.bytes
  have hr := B.returns
  have hts := atoms_spec (ws := zw_M_keyAt) B.pre
  have hown : s.vm.findClass R_M = some mJ.cls := findClass_of_methodNamed B.named
  have hlocks := B.notSynchronized
  subst hsz
  have hD := hD0.self (sz := s.heap.size)
  generalize hAe : va_A (xw_M q cA lim (nI B0.length) bk bv (nI R0.length) wh rk rv bg bt sc sw sk sv kp ky vl) s.heap.size = A at hD ⊢
  have hA : ∀ q : Nat, s.heap.size ≤ q → A q := fun q h => by rw [← hAe]; exact Or.inr h
  have hS : va_S A s.heap s.heap [] := va_S.rf
  have hl := lv_entry ([.ref (q 0), .int x]) (n := 6) (Nat.le_of_ble_eq_true rfl)
  rw [lg_entry_eq]
  generalize (lg_sl ([.ref (q 0), .int x]) ++ List.replicate (6 - (lg_sl ([.ref (q 0), .int x])).length) Slot.unset).toArray = ls at hl ⊢
  have hl : lv_has ls 6 [(0, .ref (q 0)), (1, .int x)] := hl
  refine lv_aload_n hx hb d_M_keyAt_0 rfl (lv_at hl 0 rfl) ?_
  refine xa_cMV (va_runV (As := []) (rest := []) ⟨hx, hb, hml, hown, hts⟩ (c_M_now l D q cA lim bk bv wh rk rv bg bt sc sw sk sv kp ky vl s.heap.size B0 R0 hMT.1 hok.1 hok.2.1 hMT.2.1 (by have := hok.2.2.1; omega) (xs_ok_w hok) hok.2.2.2.1) (cwV 0 hts (zg_V zm_440 zm_442 zs_12 zm_7 zm_443) rfl rfl rfl (by decide +kernel) ⟨Nat.le_of_ble_eq_true rfl, Nat.le_of_ble_eq_true rfl⟩) (xp_preVQ (ci := 5) (q0 := 0) hK hP hD rfl rfl rfl hZ) rfl rfl hl.1 rfl (lv_room (Nat.le_of_ble_eq_true rfl)) d_M_keyAt_1 ⟨Nat.zero_le _, Nat.zero_le _⟩) hS (xa_F hD hS hA) (fun u H locs hp1 hP hS => ?_)
  obtain ⟨ky2_1, vl2_1⟩ := u
  have hP : va_P D zz_cl (xw_M q cA lim (nI B0.length) bk bv (nI R0.length) wh rk rv bg bt sc sw sk sv (nI (xs_now B0 R0).length) ky2_1 vl2_1) H := hP
  have hD : va_D A (xw_M q cA lim (nI B0.length) bk bv (nI R0.length) wh rk rv bg bt sc sw sk sv (nI (xs_now B0 R0).length) ky2_1 vl2_1) := xa_E hD rfl
  have hp1 : xm_T ky2_1 vl2_1 (xs_now B0 R0) := hp1
  obtain ⟨K, hK9⟩ : ∃ K, K = xs_now B0 R0 := ⟨_, rfl⟩
  rw [← hK9] at hp1
  have hM := hp1
  have hlen := hM.1
  rw [show nI (xs_now B0 R0).length = nI K.length from by rw [hK9]] at hP hD
  refine lv_iconst (v := nI 0) hx hb d_M_keyAt_4 (by decide +kernel) ?_
  refine lv_istore_n (lv' := [(2, .int (nI 0)), (0, .ref (q 0)), (1, .int x)]) hx hb d_M_keyAt_5 rfl hl (Nat.le_of_ble_eq_true rfl) rfl (fun ls hl => ?_)
  refine lv_iconst (v := nI 0) hx hb d_M_keyAt_6 (by decide +kernel) ?_
  refine lv_istore_n (lv' := [(3, .int (nI 0)), (2, .int (nI 0)), (0, .ref (q 0)), (1, .int x)]) hx hb d_M_keyAt_7 rfl hl (Nat.le_of_ble_eq_true rfl) rfl (fun ls hl => ?_)
  have lp8 : ∀ (N : Nat) (p : Nat) (n : Nat) (ls : Array Slot), (p ≤ 64) → (n = (xo_ko K p).length) → (∀ j, j < n → ¬ x = nI j) → lv_has ls 6 [(0, .ref (q 0)), (1, .int x), (2, .int (nI n)), (3, .int (nI p))] → 64 - p < N → W pJ l eJ (headSpec zw_M_keyAt ({ frames := 4, cells := 0, slots := 0, locals := 91 } : Room)).room s mJ ([.ref (q 0), .int x] : List Value).toArray below meth cJ H locs 0 0 (MQ below (va_Qi (fun (r : Int32) (u : (Nat → Int32) × (Nat → Int64)) => r = (xo_ka (xs_now B0 R0) x) ∧ (xm_T u.1 u.2 (xs_now B0 R0))) (fun (u : (Nat → Int32) × (Nat → Int64)) (t : State) => va_P D zz_cl (xw_M q cA lim (nI B0.length) bk bv (nI R0.length) wh rk rv bg bt sc sw sk sv (nI (xs_now B0 R0).length) u.1 u.2) t.heap) A) ([.ref (q 0), .int x] : List Value).toArray s 0 0 A) (F0 mJ 8 ls []) := by
    intro N
    induction N with
    | zero => intro p n ls hp hn hno hl hm; exact absurd hm (Nat.not_lt_zero _)
    | succ N ih8 =>
      intro p n ls hp hn hno hl hm
      refine lv_iload_n hx hb d_M_keyAt_8 rfl (lv_at hl 3 rfl) ?_
      refine lv_bipush (v := nI 64) hx hb d_M_keyAt_9 (by decide +kernel) ?_
      refine lv_icmp_ge (tgt := 88) hx hb d_M_keyAt_11 (by decide) (fun hc11 => ?_) (fun hc11 => ?_)
      · skip
        rw [nI_leI (by omega) (by omega)] at hc11
        refine lv_iconst (v := nI 0) hx hb d_M_keyAt_88 (by decide +kernel) ?_
        exact W.iret (v := nI 0) hx hb hr (fun tJ htJ hWJ => ⟨⟨_, (ky2_1, vl2_1), rfl, ⟨by rw [← hK9]; exact (xo_ka_miss (by rw [show (64 : Nat) = p from by omega, ← hn]; exact hno)).symm, by rw [← hK9]; exact hM⟩, by dsimp only; rw [htJ]; rw [← hK9]; exact hP⟩, hS.F htJ⟩) hS.2.2 d_M_keyAt_89
      · skip
        rw [nI_leI (by omega) (by omega)] at hc11
        refine lv_aload_n hx hb d_M_keyAt_14 rfl (lv_at hl 0 rfl) ?_
        refine lv_iload_n hx hb d_M_keyAt_15 rfl (lv_at hl 3 rfl) ?_
        refine xa_cI (va_runV (As := [.int (nI p)]) (rest := []) ⟨hx, hb, hml, hown, hts⟩ (c_M_dep l D q cA lim (nI B0.length) bk bv (nI R0.length) wh rk rv bg bt sc sw sk sv ky2_1 vl2_1 K p hM (by omega)) (cwV 1 hts (zg_V zm_476 zm_478 zs_21 zm_7 zm_479) rfl rfl rfl (by decide +kernel) ⟨Nat.le_of_ble_eq_true rfl, Nat.le_of_ble_eq_true rfl⟩) (xp_preV (ci := 5) (q0 := 0) hK hP rfl rfl rfl hZ) rfl rfl hl.1 rfl (lv_room (Nat.le_of_ble_eq_true rfl)) d_M_keyAt_16 ⟨Nat.zero_le _, Nat.zero_le _⟩) ?_
        refine lv_istore (lv' := [(4, .int (xm_rd K p)), (0, .ref (q 0)), (1, .int x), (2, .int (nI n)), (3, .int (nI p))]) hx hb d_M_keyAt_19 hl (Nat.le_of_ble_eq_true rfl) rfl (fun ls hl => ?_)
        refine lv_iconst (v := nI 0) hx hb d_M_keyAt_21 (by decide +kernel) ?_
        refine lv_istore (lv' := [(5, .int (nI 0)), (4, .int (xm_rd K p)), (0, .ref (q 0)), (1, .int x), (2, .int (nI n)), (3, .int (nI p))]) hx hb d_M_keyAt_22 hl (Nat.le_of_ble_eq_true rfl) rfl (fun ls hl => ?_)
        have lp24 : ∀ (N : Nat) (i : Nat) (n : Nat) (ls : Array Slot), (i ≤ K.length) → (n = (xo_ko K p).length + (if xd_pl K p = true then xd_cn (K.take i) (xd_dp K p) p else 0)) → (∀ j, j < n → ¬ x = nI j) → lv_has ls 6 [(0, .ref (q 0)), (1, .int x), (2, .int (nI n)), (3, .int (nI p)), (4, .int (xm_rd K p)), (5, .int (nI i))] → K.length - i < N → W pJ l eJ (headSpec zw_M_keyAt ({ frames := 4, cells := 0, slots := 0, locals := 91 } : Room)).room s mJ ([.ref (q 0), .int x] : List Value).toArray below meth cJ H locs 0 0 (MQ below (va_Qi (fun (r : Int32) (u : (Nat → Int32) × (Nat → Int64)) => r = (xo_ka (xs_now B0 R0) x) ∧ (xm_T u.1 u.2 (xs_now B0 R0))) (fun (u : (Nat → Int32) × (Nat → Int64)) (t : State) => va_P D zz_cl (xw_M q cA lim (nI B0.length) bk bv (nI R0.length) wh rk rv bg bt sc sw sk sv (nI (xs_now B0 R0).length) u.1 u.2) t.heap) A) ([.ref (q 0), .int x] : List Value).toArray s 0 0 A) (F0 mJ 24 ls []) := by
          intro N
          induction N with
          | zero => intro i n ls hi hn hno hl hm; exact absurd hm (Nat.not_lt_zero _)
          | succ N ih24 =>
            intro i n ls hi hn hno hl hm
            refine lv_iload hx hb d_M_keyAt_24 (lv_at hl 5 rfl) ?_
            refine lv_aload_n hx hb d_M_keyAt_26 rfl (lv_at hl 0 rfl) ?_
            refine va_get (D := D) (ci := 5) (v := .int (nI K.length)) (C := R_M) (T := F_M) (N := 17) hx hb hts (zi_M _) hown hK hP 0 rfl rfl 14 (by decide) (hts _ (List.mem_cons_of_mem _ zm_390)) (fun _ h9 => h9) rfl d_M_keyAt_27 ?_
            refine lv_icmp_ge (tgt := 82) hx hb d_M_keyAt_30 (by decide) (fun hc30 => ?_) (fun hc30 => ?_)
            · skip
              rw [nI_leI (by omega) (by omega)] at hc30
              refine lv_iinc (k := 3) (v := nI (p + 1)) (lv' := [(3, .int (nI (p + 1))), (0, .ref (q 0)), (1, .int x), (2, .int (nI n)), (4, .int (xm_rd K p)), (5, .int (nI i))]) hx hb d_M_keyAt_82 hl rfl (xn_inc _) (Nat.le_of_ble_eq_true rfl) rfl (fun ls hl => ?_)
              refine lv_goto (tgt := 8) hx hb d_M_keyAt_85 (by decide) ?_
              exact ih8 (p + 1) n ls (by omega) (by first | (rw [hn, xo_ko_step, show i = K.length from by omega, List.take_length]; split <;> rfl) | (rw [hn, xo_ko_step, if_neg (by rw [xm_rd_np hc35]; decide), if_neg (by rw [xm_rd_np hc35]; decide)]; rfl)) hno (lv_sub hl [1, 2, 3, 0] rfl) (by omega)
            · skip
              rw [nI_leI (by omega) (by omega)] at hc30
              refine lv_iload hx hb d_M_keyAt_33 (lv_at hl 4 rfl) ?_
              refine lv_if_lt (tgt := 82) hx hb d_M_keyAt_35 (by decide) (fun hc35 => ?_) (fun hc35 => ?_)
              · skip
                refine lv_iinc (k := 3) (v := nI (p + 1)) (lv' := [(3, .int (nI (p + 1))), (0, .ref (q 0)), (1, .int x), (2, .int (nI n)), (4, .int (xm_rd K p)), (5, .int (nI i))]) hx hb d_M_keyAt_82 hl rfl (xn_inc _) (Nat.le_of_ble_eq_true rfl) rfl (fun ls hl => ?_)
                refine lv_goto (tgt := 8) hx hb d_M_keyAt_85 (by decide) ?_
                exact ih8 (p + 1) n ls (by omega) (by first | (rw [hn, xo_ko_step, show i = K.length from by omega, List.take_length]; split <;> rfl) | (rw [hn, xo_ko_step, if_neg (by rw [xm_rd_np hc35]; decide), if_neg (by rw [xm_rd_np hc35]; decide)]; rfl)) hno (lv_sub hl [1, 2, 3, 0] rfl) (by omega)
              · skip
                obtain ⟨e, he⟩ : ∃ e, K[i]? = some e := ⟨_, List.getElem?_eq_getElem (by omega)⟩
                have hfe := (xk_tie_f hM.2.2 he).1
                have hpl := xm_rd_pl hc35
                have hrd := xm_rd_eq hpl
                refine lv_aload_n hx hb d_M_keyAt_38 rfl (lv_at hl 0 rfl) ?_
                refine lv_aload_n hx hb d_M_keyAt_39 rfl (lv_at hl 0 rfl) ?_
                refine lv_aload_n hx hb d_M_keyAt_40 rfl (lv_at hl 0 rfl) ?_
                refine va_get (D := D) (ci := 5) (v := .ref (q 10)) (C := R_M) (T := F_M) (N := 17) hx hb hts (zi_M _) hown hK hP 0 rfl rfl 15 (by decide) (hts _ (List.mem_cons_of_mem _ zm_391)) (fun _ h9 => h9) rfl d_M_keyAt_41 ?_
                refine lv_iload hx hb d_M_keyAt_44 (lv_at hl 5 rfl) ?_
                refine xa_iald hx hb hK hP 10 9 rfl rfl (k := i) (by omega) (by decide) d_M_keyAt_46 ?_
                refine xa_top (y := e.1) hfe ?_
                refine xa_cI (va_runV (As := [.int e.1]) (rest := [.ref (q 0)]) ⟨hx, hb, hml, hown, hts⟩ (c_M_hash l D q cA lim (nI B0.length) bk bv (nI R0.length) wh rk rv bg bt sc sw sk sv (nI K.length) ky2_1 vl2_1 e.1) (cwV 1 hts (zg_V zm_484 zm_486 zs_23 zm_7 zm_487) rfl rfl rfl (by decide +kernel) ⟨Nat.le_of_ble_eq_true rfl, Nat.le_of_ble_eq_true rfl⟩) (xp_preV (ci := 5) (q0 := 0) hK hP rfl rfl rfl hZ) rfl rfl hl.1 rfl (lv_room (Nat.le_of_ble_eq_true rfl)) d_M_keyAt_47 ⟨Nat.zero_le _, Nat.zero_le _⟩) ?_
                refine lv_iload hx hb d_M_keyAt_50 (lv_at hl 4 rfl) ?_
                refine xa_top (y := nI (xd_dp K p)) hrd ?_
                refine lv_iload_n hx hb d_M_keyAt_52 rfl (lv_at hl 3 rfl) ?_
                refine xa_cI (va_runV (As := [.int (nI (xk_h e.1)), .int (nI (xd_dp K p)), .int (nI p)]) (rest := []) ⟨hx, hb, hml, hown, hts⟩ (c_M_inC l D q cA lim (nI B0.length) bk bv (nI R0.length) wh rk rv bg bt sc sw sk sv (nI K.length) ky2_1 vl2_1 (xk_h e.1) (xd_dp K p) p (by first | exact xk_h_lt _ | omega) (by first | exact xd_dp_le _ _ | omega) (by omega)) (cwV 3 hts (zg_V zm_488 zm_490 zs_24 zm_7 zm_491) rfl rfl rfl (by decide +kernel) ⟨Nat.le_of_ble_eq_true rfl, Nat.le_of_ble_eq_true rfl⟩) (xp_preV (ci := 5) (q0 := 0) hK hP rfl rfl rfl hZ) rfl rfl hl.1 rfl (lv_room (Nat.le_of_ble_eq_true rfl)) d_M_keyAt_53 ⟨Nat.zero_le _, Nat.zero_le _⟩) ?_
                refine lv_if_eq (tgt := 76) hx hb d_M_keyAt_56 (by decide) (fun hc56 => ?_) (fun hc56 => ?_)
                · skip
                  rw [xb_0] at hc56
                  refine lv_iinc (k := 5) (v := nI (i + 1)) (lv' := [(5, .int (nI (i + 1))), (0, .ref (q 0)), (1, .int x), (2, .int (nI n)), (3, .int (nI p)), (4, .int (xm_rd K p))]) hx hb d_M_keyAt_76 hl rfl (xn_inc _) (Nat.le_of_ble_eq_true rfl) rfl (fun ls hl => ?_)
                  refine lv_goto (tgt := 24) hx hb d_M_keyAt_79 (by decide) ?_
                  exact ih24 (i + 1) n ls (by omega) (by first | (rw [hn, if_pos hpl, if_pos hpl, xd_cn_take he, if_pos (by simpa using hc56)]; omega) | rw [hn, if_pos hpl, if_pos hpl, xd_cn_take he, if_neg (by simpa using hc56)]) (by first | exact hno | exact lt_s hno (fun q => hc61 q.symm)) (lv_sub hl [1, 2, 3, 4, 5, 0] rfl) (by omega)
                · skip
                  rw [xb_1] at hc56
                  refine lv_iload_n hx hb d_M_keyAt_59 rfl (lv_at hl 2 rfl) ?_
                  refine lv_iload_n hx hb d_M_keyAt_60 rfl (lv_at hl 1 rfl) ?_
                  refine lv_icmp_ne (tgt := 72) hx hb d_M_keyAt_61 (by decide) (fun hc61 => ?_) (fun hc61 => ?_)
                  · skip
                    refine lv_iload_n hx hb d_M_keyAt_72 rfl (lv_at hl 2 rfl) ?_
                    refine lv_iconst (v := nI 1) hx hb d_M_keyAt_73 (by decide +kernel) ?_
                    refine lv_iadd hx hb d_M_keyAt_74 ?_
                    refine xa_top (y := nI (n + 1)) (nI_add _ _) ?_
                    refine lv_istore_n (lv' := [(2, .int (nI (n + 1))), (0, .ref (q 0)), (1, .int x), (3, .int (nI p)), (4, .int (xm_rd K p)), (5, .int (nI i))]) hx hb d_M_keyAt_75 rfl hl (Nat.le_of_ble_eq_true rfl) rfl (fun ls hl => ?_)
                    refine lv_iinc (k := 5) (v := nI (i + 1)) (lv' := [(5, .int (nI (i + 1))), (2, .int (nI (n + 1))), (0, .ref (q 0)), (1, .int x), (3, .int (nI p)), (4, .int (xm_rd K p))]) hx hb d_M_keyAt_76 hl rfl (xn_inc _) (Nat.le_of_ble_eq_true rfl) rfl (fun ls hl => ?_)
                    refine lv_goto (tgt := 24) hx hb d_M_keyAt_79 (by decide) ?_
                    exact ih24 (i + 1) (n + 1) ls (by omega) (by first | (rw [hn, if_pos hpl, if_pos hpl, xd_cn_take he, if_pos (by simpa using hc56)]; omega) | rw [hn, if_pos hpl, if_pos hpl, xd_cn_take he, if_neg (by simpa using hc56)]) (by first | exact hno | exact lt_s hno (fun q => hc61 q.symm)) (lv_sub hl [2, 3, 1, 4, 5, 0] rfl) (by omega)
                  · skip
                    refine lv_aload_n hx hb d_M_keyAt_64 rfl (lv_at hl 0 rfl) ?_
                    refine va_get (D := D) (ci := 5) (v := .ref (q 10)) (C := R_M) (T := F_M) (N := 17) hx hb hts (zi_M _) hown hK hP 0 rfl rfl 15 (by decide) (hts _ (List.mem_cons_of_mem _ zm_391)) (fun _ h9 => h9) rfl d_M_keyAt_65 ?_
                    refine lv_iload hx hb d_M_keyAt_68 (lv_at hl 5 rfl) ?_
                    refine xa_iald hx hb hK hP 10 9 rfl rfl (k := i) (by omega) (by decide) d_M_keyAt_70 ?_
                    refine xa_top (y := e.1) hfe ?_
                    exact W.iret (v := e.1) hx hb hr (fun tJ htJ hWJ => ⟨⟨_, (ky2_1, vl2_1), rfl, ⟨by rw [← hK9]; rw [← hc61, hn, if_pos hpl]; exact (xo_ka_hit hM.1 (by omega) hpl he (by simpa using hc56)).symm, by rw [← hK9]; exact hM⟩, by dsimp only; rw [htJ]; rw [← hK9]; exact hP⟩, hS.F htJ⟩) hS.2.2 d_M_keyAt_71
        exact lp24 _ 0 n ls (Nat.zero_le _) (by rw [hn]; simp [xd_cn]) hno (lv_sub hl [2, 3, 4, 5, 1, 0] rfl) (Nat.lt_succ_self _)
  exact lp8 _ 0 0 ls (by omega) rfl (fun j hj => by omega) (lv_sub hl [2, 3, 1, 0] rfl) (Nat.lt_succ_self _)
set_option maxHeartbeats 4000000 in
set_option maxRecDepth 100000 in
theorem c_M_reads (l : Launch) (D : va_G) (q : Nat → Nat) (cA : Nat → ClassId) (lim : Int32) (bk : Nat → Int32) (bv : Nat → Int64) (wh : Nat → Int32) (rk : Nat → Int32) (rv : Nat → Int64) (bg : Nat → Int32) (bt : Int32) (sc : Int32) (sw : Nat → Int32) (sk : Nat → Int32) (sv : Nat → Int64) (kp : Int32) (ky : Nat → Int32) (vl : Nat → Int64) (sz : Nat) (lm : Nat) (B0 : List xk_E) (R0 : List xs_R) (ST : List xs_O) (k : Int32) (hMT : xm_MT B0 R0 ST bk bv wh rk rv bg sw sk sv) (hok : xs_ok lm B0 R0) : Met l y_M_reads zw_M_reads ({ frames := 4, cells := 0, slots := 0, locals := 99 } : Room) (va_Pc [.ref (q 0), .int k] (xp_Q D zz_cl (xw_tM cA) sz (xw_M q cA lim (nI B0.length) bk bv (nI R0.length) wh rk rv bg bt sc sw sk sv kp ky vl))) (va_Qi (fun (r : Int32) (u : (Nat → Int32) × (Nat → Int64)) => r = (nI (1 + xo_rd (xs_now B0 R0) k + (if xk_has (xs_now B0 R0) k = true then xv_vp (xk_get (xs_now B0 R0) k) else 0))) ∧ (xm_T u.1 u.2 (xs_now B0 R0))) (fun (u : (Nat → Int32) × (Nat → Int64)) (t : State) => va_P D zz_cl (xw_M q cA lim (nI B0.length) bk bv (nI R0.length) wh rk rv bg bt sc sw sk sv (nI (xs_now B0 R0).length) u.1 u.2) t.heap) (va_A (xw_M q cA lim (nI B0.length) bk bv (nI R0.length) wh rk rv bg bt sc sw sk sv kp ky vl) sz)) 0 0 (va_A (xw_M q cA lim (nI B0.length) bk bv (nI R0.length) wh rk rv bg bt sc sw sk sv kp ky vl) sz) := by
  refine Met.ofW (cc := b_M_reads) (maxL := 10) (ret := (some .int)) (by decide) rfl ?_
  intro pJ eJ s mJ args below meth cJ s₁ B hml hv
  obtain ⟨rfl, hsz, hP, hK, hD0, hZ⟩ := hv
  have hx := B.exec
  have hb := B.bytes
  have hr := B.returns
  have hts := atoms_spec (ws := zw_M_reads) B.pre
  have hown : s.vm.findClass R_M = some mJ.cls := findClass_of_methodNamed B.named
  have hlocks := B.notSynchronized
  subst hsz
  have hD := hD0.self (sz := s.heap.size)
  generalize hAe : va_A (xw_M q cA lim (nI B0.length) bk bv (nI R0.length) wh rk rv bg bt sc sw sk sv kp ky vl) s.heap.size = A at hD ⊢
  have hA : ∀ q : Nat, s.heap.size ≤ q → A q := fun q h => by rw [← hAe]; exact Or.inr h
  have hS : va_S A s.heap s.heap [] := va_S.rf
  have hl := lv_entry ([.ref (q 0), .int k]) (n := 10) (Nat.le_of_ble_eq_true rfl)
  rw [lg_entry_eq]
  generalize (lg_sl ([.ref (q 0), .int k]) ++ List.replicate (10 - (lg_sl ([.ref (q 0), .int k])).length) Slot.unset).toArray = ls at hl ⊢
  have hl : lv_has ls 10 [(0, .ref (q 0)), (1, .int k)] := hl
  refine lv_aload_n hx hb d_M_reads_0 rfl (lv_at hl 0 rfl) ?_
  refine xa_cMV (va_runV (As := []) (rest := []) ⟨hx, hb, hml, hown, hts⟩ (c_M_now l D q cA lim bk bv wh rk rv bg bt sc sw sk sv kp ky vl s.heap.size B0 R0 hMT.1 hok.1 hok.2.1 hMT.2.1 (by have := hok.2.2.1; omega) (xs_ok_w hok) hok.2.2.2.1) (cwV 0 hts (zg_V zm_440 zm_442 zs_12 zm_7 zm_443) rfl rfl rfl (by decide +kernel) ⟨Nat.le_of_ble_eq_true rfl, Nat.le_of_ble_eq_true rfl⟩) (xp_preVQ (ci := 5) (q0 := 0) hK hP hD rfl rfl rfl hZ) rfl rfl hl.1 rfl (lv_room (Nat.le_of_ble_eq_true rfl)) d_M_reads_1 ⟨Nat.zero_le _, Nat.zero_le _⟩) hS (xa_F hD hS hA) (fun u H locs hp1 hP hS => ?_)
  obtain ⟨ky2_1, vl2_1⟩ := u
  have hP : va_P D zz_cl (xw_M q cA lim (nI B0.length) bk bv (nI R0.length) wh rk rv bg bt sc sw sk sv (nI (xs_now B0 R0).length) ky2_1 vl2_1) H := hP
  have hD : va_D A (xw_M q cA lim (nI B0.length) bk bv (nI R0.length) wh rk rv bg bt sc sw sk sv (nI (xs_now B0 R0).length) ky2_1 vl2_1) := xa_E hD rfl
  have hp1 : xm_T ky2_1 vl2_1 (xs_now B0 R0) := hp1
  obtain ⟨K, hK9⟩ : ∃ K, K = xs_now B0 R0 := ⟨_, rfl⟩
  rw [← hK9] at hp1
  have hM := hp1
  have hlen := hM.1
  have hh := xk_h_lt k
  have hm0 := Nat.mod_le (xk_h k) (2 ^ xd_dp K (xk_h k))
  rw [show nI (xs_now B0 R0).length = nI K.length from by rw [hK9]] at hP hD
  refine lv_aload_n hx hb d_M_reads_4 rfl (lv_at hl 0 rfl) ?_
  refine lv_iload_n hx hb d_M_reads_5 rfl (lv_at hl 1 rfl) ?_
  refine xa_cI (va_runV (As := [.int k]) (rest := []) ⟨hx, hb, hml, hown, hts⟩ (c_M_bktOf l D q cA lim (nI B0.length) bk bv (nI R0.length) wh rk rv bg bt sc sw sk sv ky2_1 vl2_1 K k hM) (cwV 1 hts (zg_V zm_541 zm_543 zs_29 zm_7 zm_544) rfl rfl rfl (by decide +kernel) ⟨Nat.le_of_ble_eq_true rfl, Nat.le_of_ble_eq_true rfl⟩) (xp_preV (ci := 5) (q0 := 0) hK hP rfl rfl rfl hZ) rfl rfl hl.1 rfl (lv_room (Nat.le_of_ble_eq_true rfl)) d_M_reads_6 ⟨Nat.zero_le _, Nat.zero_le _⟩) ?_
  refine lv_istore_n (lv' := [(2, .int (nI (xk_h k % 2 ^ xd_dp K (xk_h k)))), (0, .ref (q 0)), (1, .int k)]) hx hb d_M_reads_9 rfl hl (Nat.le_of_ble_eq_true rfl) rfl (fun ls hl => ?_)
  refine lv_aload_n hx hb d_M_reads_10 rfl (lv_at hl 1 rfl) ?_
  refine lv_iload_n hx hb d_M_reads_11 rfl (lv_at hl 0 rfl) ?_
  refine xa_cI (va_runV (As := [.int (nI (xk_h k % 2 ^ xd_dp K (xk_h k)))]) (rest := []) ⟨hx, hb, hml, hown, hts⟩ (c_M_dep l D q cA lim (nI B0.length) bk bv (nI R0.length) wh rk rv bg bt sc sw sk sv ky2_1 vl2_1 K (xk_h k % 2 ^ xd_dp K (xk_h k)) hM (by omega)) (cwV 1 hts (zg_V zm_476 zm_478 zs_21 zm_7 zm_479) rfl rfl rfl (by decide +kernel) ⟨Nat.le_of_ble_eq_true rfl, Nat.le_of_ble_eq_true rfl⟩) (xp_preV (ci := 5) (q0 := 0) hK hP rfl rfl rfl hZ) rfl rfl hl.1 rfl (lv_room (Nat.le_of_ble_eq_true rfl)) d_M_reads_12 ⟨Nat.zero_le _, Nat.zero_le _⟩) ?_
  refine xa_top (y := nI (xd_dp K (xk_h k))) (by rw [xm_rd_eq (xd_pl_place K _), xd_dp_place]) ?_
  refine lv_istore_n (lv' := [(3, .int (nI (xd_dp K (xk_h k)))), (2, .int (nI (xk_h k % 2 ^ xd_dp K (xk_h k)))), (0, .ref (q 0)), (1, .int k)]) hx hb d_M_reads_15 rfl hl (Nat.le_of_ble_eq_true rfl) rfl (fun ls hl => ?_)
  have hcn := xd_cn_le K (xd_dp K (xk_h k)) (xk_h k % 2 ^ xd_dp K (xk_h k))
  refine lv_aload_n hx hb d_M_reads_16 rfl (lv_at hl 2 rfl) ?_
  refine lv_iload_n hx hb d_M_reads_17 rfl (lv_at hl 0 rfl) ?_
  refine lv_iload_n hx hb d_M_reads_18 rfl (lv_at hl 1 rfl) ?_
  refine xa_cI (va_runV (As := [.int (nI (xd_dp K (xk_h k))), .int (nI (xk_h k % 2 ^ xd_dp K (xk_h k)))]) (rest := []) ⟨hx, hb, hml, hown, hts⟩ (c_M_count l D q cA lim (nI B0.length) bk bv (nI R0.length) wh rk rv bg bt sc sw sk sv ky2_1 vl2_1 K (xd_dp K (xk_h k)) (xk_h k % 2 ^ xd_dp K (xk_h k)) hM (by first | exact xd_dp_le _ _ | omega) (by omega)) (cwV 2 hts (zg_V zm_492 zm_494 zs_25 zm_7 zm_495) rfl rfl rfl (by decide +kernel) ⟨Nat.le_of_ble_eq_true rfl, Nat.le_of_ble_eq_true rfl⟩) (xp_preV (ci := 5) (q0 := 0) hK hP rfl rfl rfl hZ) rfl rfl hl.1 rfl (lv_room (Nat.le_of_ble_eq_true rfl)) d_M_reads_19 ⟨Nat.zero_le _, Nat.zero_le _⟩) ?_
  refine lv_istore (lv' := [(4, .int (nI (xd_cn K (xd_dp K (xk_h k)) (xk_h k % 2 ^ xd_dp K (xk_h k))))), (3, .int (nI (xd_dp K (xk_h k)))), (2, .int (nI (xk_h k % 2 ^ xd_dp K (xk_h k)))), (0, .ref (q 0)), (1, .int k)]) hx hb d_M_reads_22 hl (Nat.le_of_ble_eq_true rfl) rfl (fun ls hl => ?_)
  refine lv_iconst (v := nI 0) hx hb d_M_reads_24 (by decide +kernel) ?_
  refine lv_istore (lv' := [(5, .int (nI 0)), (4, .int (nI (xd_cn K (xd_dp K (xk_h k)) (xk_h k % 2 ^ xd_dp K (xk_h k))))), (3, .int (nI (xd_dp K (xk_h k)))), (2, .int (nI (xk_h k % 2 ^ xd_dp K (xk_h k)))), (0, .ref (q 0)), (1, .int k)]) hx hb d_M_reads_25 hl (Nat.le_of_ble_eq_true rfl) rfl (fun ls hl => ?_)
  refine lv_iconst (v := nI 0) hx hb d_M_reads_27 (by decide +kernel) ?_
  refine lv_istore (lv' := [(6, .int (nI 0)), (5, .int (nI 0)), (4, .int (nI (xd_cn K (xd_dp K (xk_h k)) (xk_h k % 2 ^ xd_dp K (xk_h k))))), (3, .int (nI (xd_dp K (xk_h k)))), (2, .int (nI (xk_h k % 2 ^ xd_dp K (xk_h k)))), (0, .ref (q 0)), (1, .int k)]) hx hb d_M_reads_28 hl (Nat.le_of_ble_eq_true rfl) rfl (fun ls hl => ?_)
  refine lv_iconst (v := nI 1) hx hb d_M_reads_30 (by decide +kernel) ?_
  refine xa_top (y := xb_i true) xb_t.symm ?_
  refine lv_istore (lv' := [(7, .int (xb_i true)), (6, .int (nI 0)), (5, .int (nI 0)), (4, .int (nI (xd_cn K (xd_dp K (xk_h k)) (xk_h k % 2 ^ xd_dp K (xk_h k))))), (3, .int (nI (xd_dp K (xk_h k)))), (2, .int (nI (xk_h k % 2 ^ xd_dp K (xk_h k)))), (0, .ref (q 0)), (1, .int k)]) hx hb d_M_reads_31 hl (Nat.le_of_ble_eq_true rfl) rfl (fun ls hl => ?_)
  refine lv_iconst (v := nI 0) hx hb d_M_reads_33 (by decide +kernel) ?_
  refine lv_istore (lv' := [(8, .int (nI 0)), (7, .int (xb_i true)), (6, .int (nI 0)), (5, .int (nI 0)), (4, .int (nI (xd_cn K (xd_dp K (xk_h k)) (xk_h k % 2 ^ xd_dp K (xk_h k))))), (3, .int (nI (xd_dp K (xk_h k)))), (2, .int (nI (xk_h k % 2 ^ xd_dp K (xk_h k)))), (0, .ref (q 0)), (1, .int k)]) hx hb d_M_reads_34 hl (Nat.le_of_ble_eq_true rfl) rfl (fun ls hl => ?_)
  have lp36 : ∀ (N : Nat) (i : Nat) (t : Nat) (g : Nat) (mo : Bool) (ls : Array Slot), (i ≤ K.length) → (t = xd_cn (K.take i) (xd_dp K (xk_h k)) (xk_h k % 2 ^ xd_dp K (xk_h k))) → (xo_J K k (xd_dp K (xk_h k)) (xk_h k % 2 ^ xd_dp K (xk_h k)) i g mo) → lv_has ls 10 [(0, .ref (q 0)), (1, .int k), (2, .int (nI (xk_h k % 2 ^ xd_dp K (xk_h k)))), (3, .int (nI (xd_dp K (xk_h k)))), (4, .int (nI (xd_cn K (xd_dp K (xk_h k)) (xk_h k % 2 ^ xd_dp K (xk_h k))))), (5, .int (nI t)), (6, .int (nI g)), (7, .int (xb_i mo)), (8, .int (nI i))] → K.length - i < N → W pJ l eJ (headSpec zw_M_reads ({ frames := 4, cells := 0, slots := 0, locals := 99 } : Room)).room s mJ ([.ref (q 0), .int k] : List Value).toArray below meth cJ H locs 0 0 (MQ below (va_Qi (fun (r : Int32) (u : (Nat → Int32) × (Nat → Int64)) => r = (nI (1 + xo_rd (xs_now B0 R0) k + (if xk_has (xs_now B0 R0) k = true then xv_vp (xk_get (xs_now B0 R0) k) else 0))) ∧ (xm_T u.1 u.2 (xs_now B0 R0))) (fun (u : (Nat → Int32) × (Nat → Int64)) (t : State) => va_P D zz_cl (xw_M q cA lim (nI B0.length) bk bv (nI R0.length) wh rk rv bg bt sc sw sk sv (nI (xs_now B0 R0).length) u.1 u.2) t.heap) A) ([.ref (q 0), .int k] : List Value).toArray s 0 0 A) (F0 mJ 36 ls []) := by
    intro N
    induction N with
    | zero => intro i t g mo ls hi ht hJ hl hm; exact absurd hm (Nat.not_lt_zero _)
    | succ N ih36 =>
      intro i t g mo ls hi ht hJ hl hm
      refine lv_iload hx hb d_M_reads_36 (lv_at hl 8 rfl) ?_
      refine lv_aload_n hx hb d_M_reads_38 rfl (lv_at hl 0 rfl) ?_
      refine va_get (D := D) (ci := 5) (v := .int (nI K.length)) (C := R_M) (T := F_M) (N := 17) hx hb hts (zi_M _) hown hK hP 0 rfl rfl 14 (by decide) (hts _ (List.mem_cons_of_mem _ zm_390)) (fun _ h9 => h9) rfl d_M_reads_39 ?_
      refine lv_icmp_ge (tgt := 155) hx hb d_M_reads_42 (by decide) (fun hc42 => ?_) (fun hc42 => ?_)
      · skip
        rw [nI_leI (by omega) (by omega)] at hc42
        have hend : mo = true → i = K.length := by first | (intro _; omega) | (intro q; rw [hc47] at q; exact absurd q (by decide))
        have htl := xd_cn_sub K (xd_dp K (xk_h k)) (xk_h k % 2 ^ xd_dp K (xk_h k)) i
        refine lv_aload_n hx hb d_M_reads_155 rfl (lv_at hl 0 rfl) ?_
        refine lv_iload_n hx hb d_M_reads_156 rfl (lv_at hl 1 rfl) ?_
        refine xa_cI (va_runV (As := [.int k]) (rest := []) ⟨hx, hb, hml, hown, hts⟩ (c_M_find l D q cA lim (nI B0.length) bk bv (nI R0.length) wh rk rv bg bt sc sw sk sv ky2_1 vl2_1 K k hM) (cwV 1 hts (zg_V zm_452 zm_454 zs_15 zm_7 zm_455) rfl rfl rfl (by decide +kernel) ⟨Nat.le_of_ble_eq_true rfl, Nat.le_of_ble_eq_true rfl⟩) (xp_preV (ci := 5) (q0 := 0) hK hP rfl rfl rfl hZ) rfl rfl hl.1 rfl (lv_room (Nat.le_of_ble_eq_true rfl)) d_M_reads_157 ⟨Nat.zero_le _, Nat.zero_le _⟩) ?_
        refine lv_istore (lv' := [(8, .int (xm_fd K k)), (0, .ref (q 0)), (1, .int k), (2, .int (nI (xk_h k % 2 ^ xd_dp K (xk_h k)))), (3, .int (nI (xd_dp K (xk_h k)))), (4, .int (nI (xd_cn K (xd_dp K (xk_h k)) (xk_h k % 2 ^ xd_dp K (xk_h k))))), (5, .int (nI t)), (6, .int (nI g)), (7, .int (xb_i mo))]) hx hb d_M_reads_160 hl (Nat.le_of_ble_eq_true rfl) rfl (fun ls hl => ?_)
        refine lv_iconst (v := nI 1) hx hb d_M_reads_162 (by decide +kernel) ?_
        refine lv_iload hx hb d_M_reads_163 (lv_at hl 5 rfl) ?_
        refine lv_if_ne (tgt := 172) hx hb d_M_reads_165 (by decide) (fun hc165 => ?_) (fun hc165 => ?_)
        · skip
          rw [xn_ne0 (by omega)] at hc165
          refine lv_iload hx hb d_M_reads_172 (lv_at hl 7 rfl) ?_
          refine xa_top (y := nI (xo_rp K k (xd_dp K (xk_h k)) (xk_h k % 2 ^ xd_dp K (xk_h k)))) (congrArg nI (by rw [← xo_J_end hJ hend]; first | rw [if_pos hc165] | rw [if_neg hc165])) ?_
          refine lv_iadd hx hb d_M_reads_174 ?_
          refine xa_top (y := nI (1 + xo_rp K k (xd_dp K (xk_h k)) (xk_h k % 2 ^ xd_dp K (xk_h k)))) (nI_add _ _) ?_
          refine lv_iload hx hb d_M_reads_175 (lv_at hl 0 rfl) ?_
          refine lv_if_ge (tgt := 184) hx hb d_M_reads_177 (by decide) (fun hc177 => ?_) (fun hc177 => ?_)
          · skip
            have hk := xm_fd_t (xk_nlt2 hc177)
            have hfd := xm_fd_eq hk
            have hhl := xk_has_lt hk
            refine lv_aload_n hx hb d_M_reads_184 rfl (lv_at hl 1 rfl) ?_
            refine lv_aload_n hx hb d_M_reads_185 rfl (lv_at hl 1 rfl) ?_
            refine va_get (D := D) (ci := 5) (v := .ref (q 11)) (C := R_M) (T := F_M) (N := 17) hx hb hts (zi_M _) hown hK hP 0 rfl rfl 16 (by decide) (hts _ (List.mem_cons_of_mem _ zm_392)) (fun _ h9 => h9) rfl d_M_reads_186 ?_
            refine lv_iload hx hb d_M_reads_189 (lv_at hl 0 rfl) ?_
            refine xa_top (y := nI (xk_lo K k)) hfd ?_
            refine xa_lald hx hb hK hP 11 10 rfl rfl (k := xk_lo K k) (by omega) (by decide) d_M_reads_191 ?_
            refine xa_topl (y := xk_get K k) ((xk_tie_f hM.2.2 (xk_has_at hk)).2) ?_
            refine xa_cI (va_runV (As := [.long (xk_get K k)]) (rest := [.int (nI (1 + xo_rp K k (xd_dp K (xk_h k)) (xk_h k % 2 ^ xd_dp K (xk_h k))))]) ⟨hx, hb, hml, hown, hts⟩ (c_M_valp l D q cA lim (nI B0.length) bk bv (nI R0.length) wh rk rv bg bt sc sw sk sv (nI K.length) ky2_1 vl2_1 (xk_get K k)) (cwV 1 hts (zg_V zm_496 zm_498 zs_26 zm_7 zm_499) rfl rfl rfl (by decide +kernel) ⟨Nat.le_of_ble_eq_true rfl, Nat.le_of_ble_eq_true rfl⟩) (xp_preV (ci := 5) (q0 := 0) hK hP rfl rfl rfl hZ) rfl rfl hl.1 rfl (lv_room (Nat.le_of_ble_eq_true rfl)) d_M_reads_192 ⟨Nat.zero_le _, Nat.zero_le _⟩) ?_
            refine xa_top (y := nI (if xk_has K k = true then xv_vp (xk_get K k) else 0)) (congrArg nI (by first | rw [if_pos hk] | rw [if_neg (by rw [hk]; decide)])) ?_
            refine lv_iadd hx hb d_M_reads_195 ?_
            refine xa_top (y := nI (1 + xo_rp K k (xd_dp K (xk_h k)) (xk_h k % 2 ^ xd_dp K (xk_h k)) + if xk_has K k = true then xv_vp (xk_get K k) else 0)) (nI_add _ _) ?_
            exact W.iret (v := nI (1 + xo_rp K k (xd_dp K (xk_h k)) (xk_h k % 2 ^ xd_dp K (xk_h k)) + if xk_has K k = true then xv_vp (xk_get K k) else 0)) hx hb hr (fun tJ htJ hWJ => ⟨⟨_, (ky2_1, vl2_1), rfl, ⟨by rw [← hK9]; first | done | rfl, by rw [← hK9]; exact hM⟩, by dsimp only; rw [htJ]; rw [← hK9]; exact hP⟩, hS.F htJ⟩) hS.2.2 d_M_reads_196
          · skip
            have hk := xm_fd_f hM.1 (xk_nle hc177)
            refine lv_iconst (v := nI 0) hx hb d_M_reads_180 (by decide +kernel) ?_
            refine lv_goto (tgt := 195) hx hb d_M_reads_181 (by decide) ?_
            refine xa_top (y := nI (if xk_has K k = true then xv_vp (xk_get K k) else 0)) (congrArg nI (by first | rw [if_pos hk] | rw [if_neg (by rw [hk]; decide)])) ?_
            refine lv_iadd hx hb d_M_reads_195 ?_
            refine xa_top (y := nI (1 + xo_rp K k (xd_dp K (xk_h k)) (xk_h k % 2 ^ xd_dp K (xk_h k)) + if xk_has K k = true then xv_vp (xk_get K k) else 0)) (nI_add _ _) ?_
            exact W.iret (v := nI (1 + xo_rp K k (xd_dp K (xk_h k)) (xk_h k % 2 ^ xd_dp K (xk_h k)) + if xk_has K k = true then xv_vp (xk_get K k) else 0)) hx hb hr (fun tJ htJ hWJ => ⟨⟨_, (ky2_1, vl2_1), rfl, ⟨by rw [← hK9]; first | done | rfl, by rw [← hK9]; exact hM⟩, by dsimp only; rw [htJ]; rw [← hK9]; exact hP⟩, hS.F htJ⟩) hS.2.2 d_M_reads_196
        · skip
          rw [xn_ne0 (by omega)] at hc165
          refine lv_iconst (v := nI 1) hx hb d_M_reads_168 (by decide +kernel) ?_
          refine lv_goto (tgt := 174) hx hb d_M_reads_169 (by decide) ?_
          refine xa_top (y := nI (xo_rp K k (xd_dp K (xk_h k)) (xk_h k % 2 ^ xd_dp K (xk_h k)))) (congrArg nI (by rw [← xo_J_end hJ hend]; first | rw [if_pos hc165] | rw [if_neg hc165])) ?_
          refine lv_iadd hx hb d_M_reads_174 ?_
          refine xa_top (y := nI (1 + xo_rp K k (xd_dp K (xk_h k)) (xk_h k % 2 ^ xd_dp K (xk_h k)))) (nI_add _ _) ?_
          refine lv_iload hx hb d_M_reads_175 (lv_at hl 0 rfl) ?_
          refine lv_if_ge (tgt := 184) hx hb d_M_reads_177 (by decide) (fun hc177 => ?_) (fun hc177 => ?_)
          · skip
            have hk := xm_fd_t (xk_nlt2 hc177)
            have hfd := xm_fd_eq hk
            have hhl := xk_has_lt hk
            refine lv_aload_n hx hb d_M_reads_184 rfl (lv_at hl 1 rfl) ?_
            refine lv_aload_n hx hb d_M_reads_185 rfl (lv_at hl 1 rfl) ?_
            refine va_get (D := D) (ci := 5) (v := .ref (q 11)) (C := R_M) (T := F_M) (N := 17) hx hb hts (zi_M _) hown hK hP 0 rfl rfl 16 (by decide) (hts _ (List.mem_cons_of_mem _ zm_392)) (fun _ h9 => h9) rfl d_M_reads_186 ?_
            refine lv_iload hx hb d_M_reads_189 (lv_at hl 0 rfl) ?_
            refine xa_top (y := nI (xk_lo K k)) hfd ?_
            refine xa_lald hx hb hK hP 11 10 rfl rfl (k := xk_lo K k) (by omega) (by decide) d_M_reads_191 ?_
            refine xa_topl (y := xk_get K k) ((xk_tie_f hM.2.2 (xk_has_at hk)).2) ?_
            refine xa_cI (va_runV (As := [.long (xk_get K k)]) (rest := [.int (nI (1 + xo_rp K k (xd_dp K (xk_h k)) (xk_h k % 2 ^ xd_dp K (xk_h k))))]) ⟨hx, hb, hml, hown, hts⟩ (c_M_valp l D q cA lim (nI B0.length) bk bv (nI R0.length) wh rk rv bg bt sc sw sk sv (nI K.length) ky2_1 vl2_1 (xk_get K k)) (cwV 1 hts (zg_V zm_496 zm_498 zs_26 zm_7 zm_499) rfl rfl rfl (by decide +kernel) ⟨Nat.le_of_ble_eq_true rfl, Nat.le_of_ble_eq_true rfl⟩) (xp_preV (ci := 5) (q0 := 0) hK hP rfl rfl rfl hZ) rfl rfl hl.1 rfl (lv_room (Nat.le_of_ble_eq_true rfl)) d_M_reads_192 ⟨Nat.zero_le _, Nat.zero_le _⟩) ?_
            refine xa_top (y := nI (if xk_has K k = true then xv_vp (xk_get K k) else 0)) (congrArg nI (by first | rw [if_pos hk] | rw [if_neg (by rw [hk]; decide)])) ?_
            refine lv_iadd hx hb d_M_reads_195 ?_
            refine xa_top (y := nI (1 + xo_rp K k (xd_dp K (xk_h k)) (xk_h k % 2 ^ xd_dp K (xk_h k)) + if xk_has K k = true then xv_vp (xk_get K k) else 0)) (nI_add _ _) ?_
            exact W.iret (v := nI (1 + xo_rp K k (xd_dp K (xk_h k)) (xk_h k % 2 ^ xd_dp K (xk_h k)) + if xk_has K k = true then xv_vp (xk_get K k) else 0)) hx hb hr (fun tJ htJ hWJ => ⟨⟨_, (ky2_1, vl2_1), rfl, ⟨by rw [← hK9]; first | done | rfl, by rw [← hK9]; exact hM⟩, by dsimp only; rw [htJ]; rw [← hK9]; exact hP⟩, hS.F htJ⟩) hS.2.2 d_M_reads_196
          · skip
            have hk := xm_fd_f hM.1 (xk_nle hc177)
            refine lv_iconst (v := nI 0) hx hb d_M_reads_180 (by decide +kernel) ?_
            refine lv_goto (tgt := 195) hx hb d_M_reads_181 (by decide) ?_
            refine xa_top (y := nI (if xk_has K k = true then xv_vp (xk_get K k) else 0)) (congrArg nI (by first | rw [if_pos hk] | rw [if_neg (by rw [hk]; decide)])) ?_
            refine lv_iadd hx hb d_M_reads_195 ?_
            refine xa_top (y := nI (1 + xo_rp K k (xd_dp K (xk_h k)) (xk_h k % 2 ^ xd_dp K (xk_h k)) + if xk_has K k = true then xv_vp (xk_get K k) else 0)) (nI_add _ _) ?_
            exact W.iret (v := nI (1 + xo_rp K k (xd_dp K (xk_h k)) (xk_h k % 2 ^ xd_dp K (xk_h k)) + if xk_has K k = true then xv_vp (xk_get K k) else 0)) hx hb hr (fun tJ htJ hWJ => ⟨⟨_, (ky2_1, vl2_1), rfl, ⟨by rw [← hK9]; first | done | rfl, by rw [← hK9]; exact hM⟩, by dsimp only; rw [htJ]; rw [← hK9]; exact hP⟩, hS.F htJ⟩) hS.2.2 d_M_reads_196
      · skip
        rw [nI_leI (by omega) (by omega)] at hc42
        refine lv_iload hx hb d_M_reads_45 (lv_at hl 7 rfl) ?_
        refine lv_if_eq (tgt := 155) hx hb d_M_reads_47 (by decide) (fun hc47 => ?_) (fun hc47 => ?_)
        · skip
          rw [xb_0] at hc47
          have hend : mo = true → i = K.length := by first | (intro _; omega) | (intro q; rw [hc47] at q; exact absurd q (by decide))
          have htl := xd_cn_sub K (xd_dp K (xk_h k)) (xk_h k % 2 ^ xd_dp K (xk_h k)) i
          refine lv_aload_n hx hb d_M_reads_155 rfl (lv_at hl 0 rfl) ?_
          refine lv_iload_n hx hb d_M_reads_156 rfl (lv_at hl 1 rfl) ?_
          refine xa_cI (va_runV (As := [.int k]) (rest := []) ⟨hx, hb, hml, hown, hts⟩ (c_M_find l D q cA lim (nI B0.length) bk bv (nI R0.length) wh rk rv bg bt sc sw sk sv ky2_1 vl2_1 K k hM) (cwV 1 hts (zg_V zm_452 zm_454 zs_15 zm_7 zm_455) rfl rfl rfl (by decide +kernel) ⟨Nat.le_of_ble_eq_true rfl, Nat.le_of_ble_eq_true rfl⟩) (xp_preV (ci := 5) (q0 := 0) hK hP rfl rfl rfl hZ) rfl rfl hl.1 rfl (lv_room (Nat.le_of_ble_eq_true rfl)) d_M_reads_157 ⟨Nat.zero_le _, Nat.zero_le _⟩) ?_
          refine lv_istore (lv' := [(8, .int (xm_fd K k)), (0, .ref (q 0)), (1, .int k), (2, .int (nI (xk_h k % 2 ^ xd_dp K (xk_h k)))), (3, .int (nI (xd_dp K (xk_h k)))), (4, .int (nI (xd_cn K (xd_dp K (xk_h k)) (xk_h k % 2 ^ xd_dp K (xk_h k))))), (5, .int (nI t)), (6, .int (nI g)), (7, .int (xb_i mo))]) hx hb d_M_reads_160 hl (Nat.le_of_ble_eq_true rfl) rfl (fun ls hl => ?_)
          refine lv_iconst (v := nI 1) hx hb d_M_reads_162 (by decide +kernel) ?_
          refine lv_iload hx hb d_M_reads_163 (lv_at hl 5 rfl) ?_
          refine lv_if_ne (tgt := 172) hx hb d_M_reads_165 (by decide) (fun hc165 => ?_) (fun hc165 => ?_)
          · skip
            rw [xn_ne0 (by omega)] at hc165
            refine lv_iload hx hb d_M_reads_172 (lv_at hl 7 rfl) ?_
            refine xa_top (y := nI (xo_rp K k (xd_dp K (xk_h k)) (xk_h k % 2 ^ xd_dp K (xk_h k)))) (congrArg nI (by rw [← xo_J_end hJ hend]; first | rw [if_pos hc165] | rw [if_neg hc165])) ?_
            refine lv_iadd hx hb d_M_reads_174 ?_
            refine xa_top (y := nI (1 + xo_rp K k (xd_dp K (xk_h k)) (xk_h k % 2 ^ xd_dp K (xk_h k)))) (nI_add _ _) ?_
            refine lv_iload hx hb d_M_reads_175 (lv_at hl 0 rfl) ?_
            refine lv_if_ge (tgt := 184) hx hb d_M_reads_177 (by decide) (fun hc177 => ?_) (fun hc177 => ?_)
            · skip
              have hk := xm_fd_t (xk_nlt2 hc177)
              have hfd := xm_fd_eq hk
              have hhl := xk_has_lt hk
              refine lv_aload_n hx hb d_M_reads_184 rfl (lv_at hl 1 rfl) ?_
              refine lv_aload_n hx hb d_M_reads_185 rfl (lv_at hl 1 rfl) ?_
              refine va_get (D := D) (ci := 5) (v := .ref (q 11)) (C := R_M) (T := F_M) (N := 17) hx hb hts (zi_M _) hown hK hP 0 rfl rfl 16 (by decide) (hts _ (List.mem_cons_of_mem _ zm_392)) (fun _ h9 => h9) rfl d_M_reads_186 ?_
              refine lv_iload hx hb d_M_reads_189 (lv_at hl 0 rfl) ?_
              refine xa_top (y := nI (xk_lo K k)) hfd ?_
              refine xa_lald hx hb hK hP 11 10 rfl rfl (k := xk_lo K k) (by omega) (by decide) d_M_reads_191 ?_
              refine xa_topl (y := xk_get K k) ((xk_tie_f hM.2.2 (xk_has_at hk)).2) ?_
              refine xa_cI (va_runV (As := [.long (xk_get K k)]) (rest := [.int (nI (1 + xo_rp K k (xd_dp K (xk_h k)) (xk_h k % 2 ^ xd_dp K (xk_h k))))]) ⟨hx, hb, hml, hown, hts⟩ (c_M_valp l D q cA lim (nI B0.length) bk bv (nI R0.length) wh rk rv bg bt sc sw sk sv (nI K.length) ky2_1 vl2_1 (xk_get K k)) (cwV 1 hts (zg_V zm_496 zm_498 zs_26 zm_7 zm_499) rfl rfl rfl (by decide +kernel) ⟨Nat.le_of_ble_eq_true rfl, Nat.le_of_ble_eq_true rfl⟩) (xp_preV (ci := 5) (q0 := 0) hK hP rfl rfl rfl hZ) rfl rfl hl.1 rfl (lv_room (Nat.le_of_ble_eq_true rfl)) d_M_reads_192 ⟨Nat.zero_le _, Nat.zero_le _⟩) ?_
              refine xa_top (y := nI (if xk_has K k = true then xv_vp (xk_get K k) else 0)) (congrArg nI (by first | rw [if_pos hk] | rw [if_neg (by rw [hk]; decide)])) ?_
              refine lv_iadd hx hb d_M_reads_195 ?_
              refine xa_top (y := nI (1 + xo_rp K k (xd_dp K (xk_h k)) (xk_h k % 2 ^ xd_dp K (xk_h k)) + if xk_has K k = true then xv_vp (xk_get K k) else 0)) (nI_add _ _) ?_
              exact W.iret (v := nI (1 + xo_rp K k (xd_dp K (xk_h k)) (xk_h k % 2 ^ xd_dp K (xk_h k)) + if xk_has K k = true then xv_vp (xk_get K k) else 0)) hx hb hr (fun tJ htJ hWJ => ⟨⟨_, (ky2_1, vl2_1), rfl, ⟨by rw [← hK9]; first | done | rfl, by rw [← hK9]; exact hM⟩, by dsimp only; rw [htJ]; rw [← hK9]; exact hP⟩, hS.F htJ⟩) hS.2.2 d_M_reads_196
            · skip
              have hk := xm_fd_f hM.1 (xk_nle hc177)
              refine lv_iconst (v := nI 0) hx hb d_M_reads_180 (by decide +kernel) ?_
              refine lv_goto (tgt := 195) hx hb d_M_reads_181 (by decide) ?_
              refine xa_top (y := nI (if xk_has K k = true then xv_vp (xk_get K k) else 0)) (congrArg nI (by first | rw [if_pos hk] | rw [if_neg (by rw [hk]; decide)])) ?_
              refine lv_iadd hx hb d_M_reads_195 ?_
              refine xa_top (y := nI (1 + xo_rp K k (xd_dp K (xk_h k)) (xk_h k % 2 ^ xd_dp K (xk_h k)) + if xk_has K k = true then xv_vp (xk_get K k) else 0)) (nI_add _ _) ?_
              exact W.iret (v := nI (1 + xo_rp K k (xd_dp K (xk_h k)) (xk_h k % 2 ^ xd_dp K (xk_h k)) + if xk_has K k = true then xv_vp (xk_get K k) else 0)) hx hb hr (fun tJ htJ hWJ => ⟨⟨_, (ky2_1, vl2_1), rfl, ⟨by rw [← hK9]; first | done | rfl, by rw [← hK9]; exact hM⟩, by dsimp only; rw [htJ]; rw [← hK9]; exact hP⟩, hS.F htJ⟩) hS.2.2 d_M_reads_196
          · skip
            rw [xn_ne0 (by omega)] at hc165
            refine lv_iconst (v := nI 1) hx hb d_M_reads_168 (by decide +kernel) ?_
            refine lv_goto (tgt := 174) hx hb d_M_reads_169 (by decide) ?_
            refine xa_top (y := nI (xo_rp K k (xd_dp K (xk_h k)) (xk_h k % 2 ^ xd_dp K (xk_h k)))) (congrArg nI (by rw [← xo_J_end hJ hend]; first | rw [if_pos hc165] | rw [if_neg hc165])) ?_
            refine lv_iadd hx hb d_M_reads_174 ?_
            refine xa_top (y := nI (1 + xo_rp K k (xd_dp K (xk_h k)) (xk_h k % 2 ^ xd_dp K (xk_h k)))) (nI_add _ _) ?_
            refine lv_iload hx hb d_M_reads_175 (lv_at hl 0 rfl) ?_
            refine lv_if_ge (tgt := 184) hx hb d_M_reads_177 (by decide) (fun hc177 => ?_) (fun hc177 => ?_)
            · skip
              have hk := xm_fd_t (xk_nlt2 hc177)
              have hfd := xm_fd_eq hk
              have hhl := xk_has_lt hk
              refine lv_aload_n hx hb d_M_reads_184 rfl (lv_at hl 1 rfl) ?_
              refine lv_aload_n hx hb d_M_reads_185 rfl (lv_at hl 1 rfl) ?_
              refine va_get (D := D) (ci := 5) (v := .ref (q 11)) (C := R_M) (T := F_M) (N := 17) hx hb hts (zi_M _) hown hK hP 0 rfl rfl 16 (by decide) (hts _ (List.mem_cons_of_mem _ zm_392)) (fun _ h9 => h9) rfl d_M_reads_186 ?_
              refine lv_iload hx hb d_M_reads_189 (lv_at hl 0 rfl) ?_
              refine xa_top (y := nI (xk_lo K k)) hfd ?_
              refine xa_lald hx hb hK hP 11 10 rfl rfl (k := xk_lo K k) (by omega) (by decide) d_M_reads_191 ?_
              refine xa_topl (y := xk_get K k) ((xk_tie_f hM.2.2 (xk_has_at hk)).2) ?_
              refine xa_cI (va_runV (As := [.long (xk_get K k)]) (rest := [.int (nI (1 + xo_rp K k (xd_dp K (xk_h k)) (xk_h k % 2 ^ xd_dp K (xk_h k))))]) ⟨hx, hb, hml, hown, hts⟩ (c_M_valp l D q cA lim (nI B0.length) bk bv (nI R0.length) wh rk rv bg bt sc sw sk sv (nI K.length) ky2_1 vl2_1 (xk_get K k)) (cwV 1 hts (zg_V zm_496 zm_498 zs_26 zm_7 zm_499) rfl rfl rfl (by decide +kernel) ⟨Nat.le_of_ble_eq_true rfl, Nat.le_of_ble_eq_true rfl⟩) (xp_preV (ci := 5) (q0 := 0) hK hP rfl rfl rfl hZ) rfl rfl hl.1 rfl (lv_room (Nat.le_of_ble_eq_true rfl)) d_M_reads_192 ⟨Nat.zero_le _, Nat.zero_le _⟩) ?_
              refine xa_top (y := nI (if xk_has K k = true then xv_vp (xk_get K k) else 0)) (congrArg nI (by first | rw [if_pos hk] | rw [if_neg (by rw [hk]; decide)])) ?_
              refine lv_iadd hx hb d_M_reads_195 ?_
              refine xa_top (y := nI (1 + xo_rp K k (xd_dp K (xk_h k)) (xk_h k % 2 ^ xd_dp K (xk_h k)) + if xk_has K k = true then xv_vp (xk_get K k) else 0)) (nI_add _ _) ?_
              exact W.iret (v := nI (1 + xo_rp K k (xd_dp K (xk_h k)) (xk_h k % 2 ^ xd_dp K (xk_h k)) + if xk_has K k = true then xv_vp (xk_get K k) else 0)) hx hb hr (fun tJ htJ hWJ => ⟨⟨_, (ky2_1, vl2_1), rfl, ⟨by rw [← hK9]; first | done | rfl, by rw [← hK9]; exact hM⟩, by dsimp only; rw [htJ]; rw [← hK9]; exact hP⟩, hS.F htJ⟩) hS.2.2 d_M_reads_196
            · skip
              have hk := xm_fd_f hM.1 (xk_nle hc177)
              refine lv_iconst (v := nI 0) hx hb d_M_reads_180 (by decide +kernel) ?_
              refine lv_goto (tgt := 195) hx hb d_M_reads_181 (by decide) ?_
              refine xa_top (y := nI (if xk_has K k = true then xv_vp (xk_get K k) else 0)) (congrArg nI (by first | rw [if_pos hk] | rw [if_neg (by rw [hk]; decide)])) ?_
              refine lv_iadd hx hb d_M_reads_195 ?_
              refine xa_top (y := nI (1 + xo_rp K k (xd_dp K (xk_h k)) (xk_h k % 2 ^ xd_dp K (xk_h k)) + if xk_has K k = true then xv_vp (xk_get K k) else 0)) (nI_add _ _) ?_
              exact W.iret (v := nI (1 + xo_rp K k (xd_dp K (xk_h k)) (xk_h k % 2 ^ xd_dp K (xk_h k)) + if xk_has K k = true then xv_vp (xk_get K k) else 0)) hx hb hr (fun tJ htJ hWJ => ⟨⟨_, (ky2_1, vl2_1), rfl, ⟨by rw [← hK9]; first | done | rfl, by rw [← hK9]; exact hM⟩, by dsimp only; rw [htJ]; rw [← hK9]; exact hP⟩, hS.F htJ⟩) hS.2.2 d_M_reads_196
        · skip
          rw [xb_1] at hc47
          have hJ1 : xo_J K k (xd_dp K (xk_h k)) (xk_h k % 2 ^ xd_dp K (xk_h k)) i g true := by rw [← hc47]; exact hJ
          obtain ⟨e, he⟩ : ∃ e, K[i]? = some e := ⟨_, List.getElem?_eq_getElem (by omega)⟩
          have hfe := (xk_tie_f hM.2.2 he).1
          have htl := xd_cn_sub K (xd_dp K (xk_h k)) (xk_h k % 2 ^ xd_dp K (xk_h k)) i
          refine lv_aload_n hx hb d_M_reads_50 rfl (lv_at hl 0 rfl) ?_
          refine lv_aload_n hx hb d_M_reads_51 rfl (lv_at hl 0 rfl) ?_
          refine lv_aload_n hx hb d_M_reads_52 rfl (lv_at hl 0 rfl) ?_
          refine va_get (D := D) (ci := 5) (v := .ref (q 10)) (C := R_M) (T := F_M) (N := 17) hx hb hts (zi_M _) hown hK hP 0 rfl rfl 15 (by decide) (hts _ (List.mem_cons_of_mem _ zm_391)) (fun _ h9 => h9) rfl d_M_reads_53 ?_
          refine lv_iload hx hb d_M_reads_56 (lv_at hl 8 rfl) ?_
          refine xa_iald hx hb hK hP 10 9 rfl rfl (k := i) (by omega) (by decide) d_M_reads_58 ?_
          refine xa_top (y := e.1) hfe ?_
          refine xa_cI (va_runV (As := [.int e.1]) (rest := [.ref (q 0)]) ⟨hx, hb, hml, hown, hts⟩ (c_M_hash l D q cA lim (nI B0.length) bk bv (nI R0.length) wh rk rv bg bt sc sw sk sv (nI K.length) ky2_1 vl2_1 e.1) (cwV 1 hts (zg_V zm_484 zm_486 zs_23 zm_7 zm_487) rfl rfl rfl (by decide +kernel) ⟨Nat.le_of_ble_eq_true rfl, Nat.le_of_ble_eq_true rfl⟩) (xp_preV (ci := 5) (q0 := 0) hK hP rfl rfl rfl hZ) rfl rfl hl.1 rfl (lv_room (Nat.le_of_ble_eq_true rfl)) d_M_reads_59 ⟨Nat.zero_le _, Nat.zero_le _⟩) ?_
          refine lv_iload_n hx hb d_M_reads_62 rfl (lv_at hl 3 rfl) ?_
          refine lv_iload_n hx hb d_M_reads_63 rfl (lv_at hl 2 rfl) ?_
          refine xa_cI (va_runV (As := [.int (nI (xk_h e.1)), .int (nI (xd_dp K (xk_h k))), .int (nI (xk_h k % 2 ^ xd_dp K (xk_h k)))]) (rest := []) ⟨hx, hb, hml, hown, hts⟩ (c_M_inC l D q cA lim (nI B0.length) bk bv (nI R0.length) wh rk rv bg bt sc sw sk sv (nI K.length) ky2_1 vl2_1 (xk_h e.1) (xd_dp K (xk_h k)) (xk_h k % 2 ^ xd_dp K (xk_h k)) (by first | exact xk_h_lt _ | omega) (by first | exact xd_dp_le _ _ | omega) (by omega)) (cwV 3 hts (zg_V zm_488 zm_490 zs_24 zm_7 zm_491) rfl rfl rfl (by decide +kernel) ⟨Nat.le_of_ble_eq_true rfl, Nat.le_of_ble_eq_true rfl⟩) (xp_preV (ci := 5) (q0 := 0) hK hP rfl rfl rfl hZ) rfl rfl hl.1 rfl (lv_room (Nat.le_of_ble_eq_true rfl)) d_M_reads_64 ⟨Nat.zero_le _, Nat.zero_le _⟩) ?_
          refine lv_if_eq (tgt := 149) hx hb d_M_reads_67 (by decide) (fun hc67 => ?_) (fun hc67 => ?_)
          · skip
            rw [xb_0] at hc67
            refine lv_iinc (k := 8) (v := nI (i + 1)) (lv' := [(8, .int (nI (i + 1))), (0, .ref (q 0)), (1, .int k), (2, .int (nI (xk_h k % 2 ^ xd_dp K (xk_h k)))), (3, .int (nI (xd_dp K (xk_h k)))), (4, .int (nI (xd_cn K (xd_dp K (xk_h k)) (xk_h k % 2 ^ xd_dp K (xk_h k))))), (5, .int (nI t)), (6, .int (nI g)), (7, .int (xb_i mo))]) hx hb d_M_reads_149 hl rfl (xn_inc _) (Nat.le_of_ble_eq_true rfl) rfl (fun ls hl => ?_)
            refine lv_goto (tgt := 36) hx hb d_M_reads_152 (by decide) ?_
            exact ih36 (i + 1) t g mo ls (by omega) (by first | rw [xd_cn_take he, if_pos (by simpa using hc67), ht] | rw [xd_cn_take he, if_neg (by simpa using hc67), ht]) (by first | exact xo_J_in hM.2.1 hJ1 he (by simpa using hc67) (by rw [← ht]) (by rw [← ht]) | (rw [hc47]; exact xo_J_skip hJ1 he (by simpa using hc67))) (lv_sub hl [1, 2, 3, 4, 5, 6, 7, 8, 0] rfl) (by omega)
          · skip
            rw [xb_1] at hc67
            refine lv_iload hx hb d_M_reads_70 (lv_at hl 5 rfl) ?_
            refine lv_iconst (v := nI 4) hx hb d_M_reads_72 (by decide +kernel) ?_
            refine lv_irem hx hb d_M_reads_73 (by decide +kernel) ?_
            refine xa_top (y := nI (t % 4)) (pk_rem (by omega) (by omega) (by omega)) ?_
            refine lv_if_ne (tgt := 84) hx hb d_M_reads_74 (by decide) (fun hc74 => ?_) (fun hc74 => ?_)
            · skip
              rw [xn_ne0 (by omega)] at hc74
              refine lv_iload hx hb d_M_reads_84 (lv_at hl 6 rfl) ?_
              refine xa_top (y := nI (if t % 4 = 0 then g + 1 else g)) (congrArg nI (by first | rw [if_pos hc74] | rw [if_neg hc74])) ?_
              refine lv_istore (lv' := [(6, .int (nI (if t % 4 = 0 then g + 1 else g))), (0, .ref (q 0)), (1, .int k), (2, .int (nI (xk_h k % 2 ^ xd_dp K (xk_h k)))), (3, .int (nI (xd_dp K (xk_h k)))), (4, .int (nI (xd_cn K (xd_dp K (xk_h k)) (xk_h k % 2 ^ xd_dp K (xk_h k))))), (5, .int (nI t)), (7, .int (xb_i mo)), (8, .int (nI i))]) hx hb d_M_reads_86 hl (Nat.le_of_ble_eq_true rfl) rfl (fun ls hl => ?_)
              refine lv_iload hx hb d_M_reads_88 (lv_at hl 6 rfl) ?_
              refine lv_iconst (v := nI 1) hx hb d_M_reads_90 (by decide +kernel) ?_
              refine lv_iadd hx hb d_M_reads_91 ?_
              refine xa_top (y := nI (t + 1)) (nI_add _ _) ?_
              refine lv_istore (lv' := [(5, .int (nI (t + 1))), (6, .int (nI (if t % 4 = 0 then g + 1 else g))), (0, .ref (q 0)), (1, .int k), (2, .int (nI (xk_h k % 2 ^ xd_dp K (xk_h k)))), (3, .int (nI (xd_dp K (xk_h k)))), (4, .int (nI (xd_cn K (xd_dp K (xk_h k)) (xk_h k % 2 ^ xd_dp K (xk_h k))))), (7, .int (xb_i mo)), (8, .int (nI i))]) hx hb d_M_reads_92 hl (Nat.le_of_ble_eq_true rfl) rfl (fun ls hl => ?_)
              refine lv_iload hx hb d_M_reads_94 (lv_at hl 0 rfl) ?_
              refine lv_iconst (v := nI 4) hx hb d_M_reads_96 (by decide +kernel) ?_
              refine lv_irem hx hb d_M_reads_97 (by decide +kernel) ?_
              refine xa_top (y := nI ((t + 1) % 4)) (pk_rem (by omega) (by omega) (by omega)) ?_
              refine lv_if_eq (tgt := 108) hx hb d_M_reads_98 (by decide) (fun hc98 => ?_) (fun hc98 => ?_)
              · skip
                rw [xn_eq0 (by omega)] at hc98
                refine lv_iconst (v := nI 1) hx hb d_M_reads_108 (by decide +kernel) ?_
                refine lv_goto (tgt := 113) hx hb d_M_reads_109 (by decide) ?_
                refine xa_top (y := xb_i (decide ((t + 1) % 4 = 0) || decide (t + 1 = xd_cn K (xd_dp K (xk_h k)) (xk_h k % 2 ^ xd_dp K (xk_h k))))) (by first | exact xg_o1 (Or.inl hc98) | exact xg_o1 (Or.inr hc105) | exact xg_o0 hc98 hc105) ?_
                refine lv_istore (lv' := [(9, .int (xb_i (decide ((t + 1) % 4 = 0) || decide (t + 1 = xd_cn K (xd_dp K (xk_h k)) (xk_h k % 2 ^ xd_dp K (xk_h k)))))), (5, .int (nI (t + 1))), (6, .int (nI (if t % 4 = 0 then g + 1 else g))), (0, .ref (q 0)), (1, .int k), (2, .int (nI (xk_h k % 2 ^ xd_dp K (xk_h k)))), (3, .int (nI (xd_dp K (xk_h k)))), (4, .int (nI (xd_cn K (xd_dp K (xk_h k)) (xk_h k % 2 ^ xd_dp K (xk_h k))))), (7, .int (xb_i mo)), (8, .int (nI i))]) hx hb d_M_reads_113 hl (Nat.le_of_ble_eq_true rfl) rfl (fun ls hl => ?_)
                refine lv_aload_n hx hb d_M_reads_115 rfl (lv_at hl 3 rfl) ?_
                refine va_get (D := D) (ci := 5) (v := .ref (q 10)) (C := R_M) (T := F_M) (N := 17) hx hb hts (zi_M _) hown hK hP 0 rfl rfl 15 (by decide) (hts _ (List.mem_cons_of_mem _ zm_391)) (fun _ h9 => h9) rfl d_M_reads_116 ?_
                refine lv_iload hx hb d_M_reads_119 (lv_at hl 9 rfl) ?_
                refine xa_iald hx hb hK hP 10 9 rfl rfl (k := i) (by omega) (by decide) d_M_reads_121 ?_
                refine xa_top (y := e.1) hfe ?_
                refine lv_iload_n hx hb d_M_reads_122 rfl (lv_at hl 4 rfl) ?_
                refine lv_icmp_eq (tgt := 146) hx hb d_M_reads_123 (by decide) (fun hc123 => ?_) (fun hc123 => ?_)
                · skip
                  refine lv_iconst (v := nI 0) hx hb d_M_reads_146 (by decide +kernel) ?_
                  refine xa_top (y := xb_i (decide (e.1 ≠ k) && !((decide ((t + 1) % 4 = 0) || decide (t + 1 = xd_cn K (xd_dp K (xk_h k)) (xk_h k % 2 ^ xd_dp K (xk_h k)))) && decide (k < e.1)))) (by first | exact xg_m0 hc123 | exact xg_m1 hc128 hc139 | exact xg_m2 hc123 hc128 | exact xg_m3 hc123 hc139) ?_
                  refine lv_istore (lv' := [(7, .int (xb_i (decide (e.1 ≠ k) && !((decide ((t + 1) % 4 = 0) || decide (t + 1 = xd_cn K (xd_dp K (xk_h k)) (xk_h k % 2 ^ xd_dp K (xk_h k)))) && decide (k < e.1))))), (9, .int (xb_i (decide ((t + 1) % 4 = 0) || decide (t + 1 = xd_cn K (xd_dp K (xk_h k)) (xk_h k % 2 ^ xd_dp K (xk_h k)))))), (5, .int (nI (t + 1))), (6, .int (nI (if t % 4 = 0 then g + 1 else g))), (0, .ref (q 0)), (1, .int k), (2, .int (nI (xk_h k % 2 ^ xd_dp K (xk_h k)))), (3, .int (nI (xd_dp K (xk_h k)))), (4, .int (nI (xd_cn K (xd_dp K (xk_h k)) (xk_h k % 2 ^ xd_dp K (xk_h k))))), (8, .int (nI i))]) hx hb d_M_reads_147 hl (Nat.le_of_ble_eq_true rfl) rfl (fun ls hl => ?_)
                  refine lv_iinc (k := 9) (v := nI (i + 1)) (lv' := [(8, .int (nI (i + 1))), (7, .int (xb_i (decide (e.1 ≠ k) && !((decide ((t + 1) % 4 = 0) || decide (t + 1 = xd_cn K (xd_dp K (xk_h k)) (xk_h k % 2 ^ xd_dp K (xk_h k)))) && decide (k < e.1))))), (9, .int (xb_i (decide ((t + 1) % 4 = 0) || decide (t + 1 = xd_cn K (xd_dp K (xk_h k)) (xk_h k % 2 ^ xd_dp K (xk_h k)))))), (5, .int (nI (t + 1))), (6, .int (nI (if t % 4 = 0 then g + 1 else g))), (0, .ref (q 0)), (1, .int k), (2, .int (nI (xk_h k % 2 ^ xd_dp K (xk_h k)))), (3, .int (nI (xd_dp K (xk_h k)))), (4, .int (nI (xd_cn K (xd_dp K (xk_h k)) (xk_h k % 2 ^ xd_dp K (xk_h k)))))]) hx hb d_M_reads_149 hl rfl (xn_inc _) (Nat.le_of_ble_eq_true rfl) rfl (fun ls hl => ?_)
                  refine lv_goto (tgt := 36) hx hb d_M_reads_152 (by decide) ?_
                  exact ih36 (i + 1) (t + 1) (if t % 4 = 0 then g + 1 else g) (decide (e.1 ≠ k) && !((decide ((t + 1) % 4 = 0) || decide (t + 1 = xd_cn K (xd_dp K (xk_h k)) (xk_h k % 2 ^ xd_dp K (xk_h k)))) && decide (k < e.1))) ls (by omega) (by first | rw [xd_cn_take he, if_pos (by simpa using hc67), ht] | rw [xd_cn_take he, if_neg (by simpa using hc67), ht]) (by first | exact xo_J_in hM.2.1 hJ1 he (by simpa using hc67) (by rw [← ht]) (by rw [← ht]) | (rw [hc47]; exact xo_J_skip hJ1 he (by simpa using hc67))) (lv_sub hl [5, 6, 7, 8, 9, 3, 4, 1, 0] rfl) (by omega)
                · skip
                  refine lv_iload hx hb d_M_reads_126 (lv_at hl 0 rfl) ?_
                  refine lv_if_eq (tgt := 142) hx hb d_M_reads_128 (by decide) (fun hc128 => ?_) (fun hc128 => ?_)
                  · skip
                    rw [xb_0] at hc128
                    refine lv_iconst (v := nI 1) hx hb d_M_reads_142 (by decide +kernel) ?_
                    refine lv_goto (tgt := 147) hx hb d_M_reads_143 (by decide) ?_
                    refine xa_top (y := xb_i (decide (e.1 ≠ k) && !((decide ((t + 1) % 4 = 0) || decide (t + 1 = xd_cn K (xd_dp K (xk_h k)) (xk_h k % 2 ^ xd_dp K (xk_h k)))) && decide (k < e.1)))) (by first | exact xg_m0 hc123 | exact xg_m1 hc128 hc139 | exact xg_m2 hc123 hc128 | exact xg_m3 hc123 hc139) ?_
                    refine lv_istore (lv' := [(7, .int (xb_i (decide (e.1 ≠ k) && !((decide ((t + 1) % 4 = 0) || decide (t + 1 = xd_cn K (xd_dp K (xk_h k)) (xk_h k % 2 ^ xd_dp K (xk_h k)))) && decide (k < e.1))))), (9, .int (xb_i (decide ((t + 1) % 4 = 0) || decide (t + 1 = xd_cn K (xd_dp K (xk_h k)) (xk_h k % 2 ^ xd_dp K (xk_h k)))))), (5, .int (nI (t + 1))), (6, .int (nI (if t % 4 = 0 then g + 1 else g))), (0, .ref (q 0)), (1, .int k), (2, .int (nI (xk_h k % 2 ^ xd_dp K (xk_h k)))), (3, .int (nI (xd_dp K (xk_h k)))), (4, .int (nI (xd_cn K (xd_dp K (xk_h k)) (xk_h k % 2 ^ xd_dp K (xk_h k))))), (8, .int (nI i))]) hx hb d_M_reads_147 hl (Nat.le_of_ble_eq_true rfl) rfl (fun ls hl => ?_)
                    refine lv_iinc (k := 9) (v := nI (i + 1)) (lv' := [(8, .int (nI (i + 1))), (7, .int (xb_i (decide (e.1 ≠ k) && !((decide ((t + 1) % 4 = 0) || decide (t + 1 = xd_cn K (xd_dp K (xk_h k)) (xk_h k % 2 ^ xd_dp K (xk_h k)))) && decide (k < e.1))))), (9, .int (xb_i (decide ((t + 1) % 4 = 0) || decide (t + 1 = xd_cn K (xd_dp K (xk_h k)) (xk_h k % 2 ^ xd_dp K (xk_h k)))))), (5, .int (nI (t + 1))), (6, .int (nI (if t % 4 = 0 then g + 1 else g))), (0, .ref (q 0)), (1, .int k), (2, .int (nI (xk_h k % 2 ^ xd_dp K (xk_h k)))), (3, .int (nI (xd_dp K (xk_h k)))), (4, .int (nI (xd_cn K (xd_dp K (xk_h k)) (xk_h k % 2 ^ xd_dp K (xk_h k)))))]) hx hb d_M_reads_149 hl rfl (xn_inc _) (Nat.le_of_ble_eq_true rfl) rfl (fun ls hl => ?_)
                    refine lv_goto (tgt := 36) hx hb d_M_reads_152 (by decide) ?_
                    exact ih36 (i + 1) (t + 1) (if t % 4 = 0 then g + 1 else g) (decide (e.1 ≠ k) && !((decide ((t + 1) % 4 = 0) || decide (t + 1 = xd_cn K (xd_dp K (xk_h k)) (xk_h k % 2 ^ xd_dp K (xk_h k)))) && decide (k < e.1))) ls (by omega) (by first | rw [xd_cn_take he, if_pos (by simpa using hc67), ht] | rw [xd_cn_take he, if_neg (by simpa using hc67), ht]) (by first | exact xo_J_in hM.2.1 hJ1 he (by simpa using hc67) (by rw [← ht]) (by rw [← ht]) | (rw [hc47]; exact xo_J_skip hJ1 he (by simpa using hc67))) (lv_sub hl [5, 6, 7, 8, 9, 3, 4, 1, 0] rfl) (by omega)
                  · skip
                    rw [xb_1] at hc128
                    refine lv_aload_n hx hb d_M_reads_131 rfl (lv_at hl 3 rfl) ?_
                    refine va_get (D := D) (ci := 5) (v := .ref (q 10)) (C := R_M) (T := F_M) (N := 17) hx hb hts (zi_M _) hown hK hP 0 rfl rfl 15 (by decide) (hts _ (List.mem_cons_of_mem _ zm_391)) (fun _ h9 => h9) rfl d_M_reads_132 ?_
                    refine lv_iload hx hb d_M_reads_135 (lv_at hl 9 rfl) ?_
                    refine xa_iald hx hb hK hP 10 9 rfl rfl (k := i) (by omega) (by decide) d_M_reads_137 ?_
                    refine xa_top (y := e.1) hfe ?_
                    refine lv_iload_n hx hb d_M_reads_138 rfl (lv_at hl 4 rfl) ?_
                    refine lv_icmp_gt (tgt := 146) hx hb d_M_reads_139 (by decide) (fun hc139 => ?_) (fun hc139 => ?_)
                    · skip
                      refine lv_iconst (v := nI 0) hx hb d_M_reads_146 (by decide +kernel) ?_
                      refine xa_top (y := xb_i (decide (e.1 ≠ k) && !((decide ((t + 1) % 4 = 0) || decide (t + 1 = xd_cn K (xd_dp K (xk_h k)) (xk_h k % 2 ^ xd_dp K (xk_h k)))) && decide (k < e.1)))) (by first | exact xg_m0 hc123 | exact xg_m1 hc128 hc139 | exact xg_m2 hc123 hc128 | exact xg_m3 hc123 hc139) ?_
                      refine lv_istore (lv' := [(7, .int (xb_i (decide (e.1 ≠ k) && !((decide ((t + 1) % 4 = 0) || decide (t + 1 = xd_cn K (xd_dp K (xk_h k)) (xk_h k % 2 ^ xd_dp K (xk_h k)))) && decide (k < e.1))))), (9, .int (xb_i (decide ((t + 1) % 4 = 0) || decide (t + 1 = xd_cn K (xd_dp K (xk_h k)) (xk_h k % 2 ^ xd_dp K (xk_h k)))))), (5, .int (nI (t + 1))), (6, .int (nI (if t % 4 = 0 then g + 1 else g))), (0, .ref (q 0)), (1, .int k), (2, .int (nI (xk_h k % 2 ^ xd_dp K (xk_h k)))), (3, .int (nI (xd_dp K (xk_h k)))), (4, .int (nI (xd_cn K (xd_dp K (xk_h k)) (xk_h k % 2 ^ xd_dp K (xk_h k))))), (8, .int (nI i))]) hx hb d_M_reads_147 hl (Nat.le_of_ble_eq_true rfl) rfl (fun ls hl => ?_)
                      refine lv_iinc (k := 9) (v := nI (i + 1)) (lv' := [(8, .int (nI (i + 1))), (7, .int (xb_i (decide (e.1 ≠ k) && !((decide ((t + 1) % 4 = 0) || decide (t + 1 = xd_cn K (xd_dp K (xk_h k)) (xk_h k % 2 ^ xd_dp K (xk_h k)))) && decide (k < e.1))))), (9, .int (xb_i (decide ((t + 1) % 4 = 0) || decide (t + 1 = xd_cn K (xd_dp K (xk_h k)) (xk_h k % 2 ^ xd_dp K (xk_h k)))))), (5, .int (nI (t + 1))), (6, .int (nI (if t % 4 = 0 then g + 1 else g))), (0, .ref (q 0)), (1, .int k), (2, .int (nI (xk_h k % 2 ^ xd_dp K (xk_h k)))), (3, .int (nI (xd_dp K (xk_h k)))), (4, .int (nI (xd_cn K (xd_dp K (xk_h k)) (xk_h k % 2 ^ xd_dp K (xk_h k)))))]) hx hb d_M_reads_149 hl rfl (xn_inc _) (Nat.le_of_ble_eq_true rfl) rfl (fun ls hl => ?_)
                      refine lv_goto (tgt := 36) hx hb d_M_reads_152 (by decide) ?_
                      exact ih36 (i + 1) (t + 1) (if t % 4 = 0 then g + 1 else g) (decide (e.1 ≠ k) && !((decide ((t + 1) % 4 = 0) || decide (t + 1 = xd_cn K (xd_dp K (xk_h k)) (xk_h k % 2 ^ xd_dp K (xk_h k)))) && decide (k < e.1))) ls (by omega) (by first | rw [xd_cn_take he, if_pos (by simpa using hc67), ht] | rw [xd_cn_take he, if_neg (by simpa using hc67), ht]) (by first | exact xo_J_in hM.2.1 hJ1 he (by simpa using hc67) (by rw [← ht]) (by rw [← ht]) | (rw [hc47]; exact xo_J_skip hJ1 he (by simpa using hc67))) (lv_sub hl [5, 6, 7, 8, 9, 3, 4, 1, 0] rfl) (by omega)
                    · skip
                      refine lv_iconst (v := nI 1) hx hb d_M_reads_142 (by decide +kernel) ?_
                      refine lv_goto (tgt := 147) hx hb d_M_reads_143 (by decide) ?_
                      refine xa_top (y := xb_i (decide (e.1 ≠ k) && !((decide ((t + 1) % 4 = 0) || decide (t + 1 = xd_cn K (xd_dp K (xk_h k)) (xk_h k % 2 ^ xd_dp K (xk_h k)))) && decide (k < e.1)))) (by first | exact xg_m0 hc123 | exact xg_m1 hc128 hc139 | exact xg_m2 hc123 hc128 | exact xg_m3 hc123 hc139) ?_
                      refine lv_istore (lv' := [(7, .int (xb_i (decide (e.1 ≠ k) && !((decide ((t + 1) % 4 = 0) || decide (t + 1 = xd_cn K (xd_dp K (xk_h k)) (xk_h k % 2 ^ xd_dp K (xk_h k)))) && decide (k < e.1))))), (9, .int (xb_i (decide ((t + 1) % 4 = 0) || decide (t + 1 = xd_cn K (xd_dp K (xk_h k)) (xk_h k % 2 ^ xd_dp K (xk_h k)))))), (5, .int (nI (t + 1))), (6, .int (nI (if t % 4 = 0 then g + 1 else g))), (0, .ref (q 0)), (1, .int k), (2, .int (nI (xk_h k % 2 ^ xd_dp K (xk_h k)))), (3, .int (nI (xd_dp K (xk_h k)))), (4, .int (nI (xd_cn K (xd_dp K (xk_h k)) (xk_h k % 2 ^ xd_dp K (xk_h k))))), (8, .int (nI i))]) hx hb d_M_reads_147 hl (Nat.le_of_ble_eq_true rfl) rfl (fun ls hl => ?_)
                      refine lv_iinc (k := 9) (v := nI (i + 1)) (lv' := [(8, .int (nI (i + 1))), (7, .int (xb_i (decide (e.1 ≠ k) && !((decide ((t + 1) % 4 = 0) || decide (t + 1 = xd_cn K (xd_dp K (xk_h k)) (xk_h k % 2 ^ xd_dp K (xk_h k)))) && decide (k < e.1))))), (9, .int (xb_i (decide ((t + 1) % 4 = 0) || decide (t + 1 = xd_cn K (xd_dp K (xk_h k)) (xk_h k % 2 ^ xd_dp K (xk_h k)))))), (5, .int (nI (t + 1))), (6, .int (nI (if t % 4 = 0 then g + 1 else g))), (0, .ref (q 0)), (1, .int k), (2, .int (nI (xk_h k % 2 ^ xd_dp K (xk_h k)))), (3, .int (nI (xd_dp K (xk_h k)))), (4, .int (nI (xd_cn K (xd_dp K (xk_h k)) (xk_h k % 2 ^ xd_dp K (xk_h k)))))]) hx hb d_M_reads_149 hl rfl (xn_inc _) (Nat.le_of_ble_eq_true rfl) rfl (fun ls hl => ?_)
                      refine lv_goto (tgt := 36) hx hb d_M_reads_152 (by decide) ?_
                      exact ih36 (i + 1) (t + 1) (if t % 4 = 0 then g + 1 else g) (decide (e.1 ≠ k) && !((decide ((t + 1) % 4 = 0) || decide (t + 1 = xd_cn K (xd_dp K (xk_h k)) (xk_h k % 2 ^ xd_dp K (xk_h k)))) && decide (k < e.1))) ls (by omega) (by first | rw [xd_cn_take he, if_pos (by simpa using hc67), ht] | rw [xd_cn_take he, if_neg (by simpa using hc67), ht]) (by first | exact xo_J_in hM.2.1 hJ1 he (by simpa using hc67) (by rw [← ht]) (by rw [← ht]) | (rw [hc47]; exact xo_J_skip hJ1 he (by simpa using hc67))) (lv_sub hl [5, 6, 7, 8, 9, 3, 4, 1, 0] rfl) (by omega)
              · skip
                rw [xn_eq0 (by omega)] at hc98
                refine lv_iload hx hb d_M_reads_101 (lv_at hl 0 rfl) ?_
                refine lv_iload hx hb d_M_reads_103 (lv_at hl 6 rfl) ?_
                refine lv_icmp_ne (tgt := 112) hx hb d_M_reads_105 (by decide) (fun hc105 => ?_) (fun hc105 => ?_)
                · skip
                  rw [nI_eq (by omega) (by omega)] at hc105
                  refine lv_iconst (v := nI 0) hx hb d_M_reads_112 (by decide +kernel) ?_
                  refine xa_top (y := xb_i (decide ((t + 1) % 4 = 0) || decide (t + 1 = xd_cn K (xd_dp K (xk_h k)) (xk_h k % 2 ^ xd_dp K (xk_h k))))) (by first | exact xg_o1 (Or.inl hc98) | exact xg_o1 (Or.inr hc105) | exact xg_o0 hc98 hc105) ?_
                  refine lv_istore (lv' := [(9, .int (xb_i (decide ((t + 1) % 4 = 0) || decide (t + 1 = xd_cn K (xd_dp K (xk_h k)) (xk_h k % 2 ^ xd_dp K (xk_h k)))))), (5, .int (nI (t + 1))), (6, .int (nI (if t % 4 = 0 then g + 1 else g))), (0, .ref (q 0)), (1, .int k), (2, .int (nI (xk_h k % 2 ^ xd_dp K (xk_h k)))), (3, .int (nI (xd_dp K (xk_h k)))), (4, .int (nI (xd_cn K (xd_dp K (xk_h k)) (xk_h k % 2 ^ xd_dp K (xk_h k))))), (7, .int (xb_i mo)), (8, .int (nI i))]) hx hb d_M_reads_113 hl (Nat.le_of_ble_eq_true rfl) rfl (fun ls hl => ?_)
                  refine lv_aload_n hx hb d_M_reads_115 rfl (lv_at hl 3 rfl) ?_
                  refine va_get (D := D) (ci := 5) (v := .ref (q 10)) (C := R_M) (T := F_M) (N := 17) hx hb hts (zi_M _) hown hK hP 0 rfl rfl 15 (by decide) (hts _ (List.mem_cons_of_mem _ zm_391)) (fun _ h9 => h9) rfl d_M_reads_116 ?_
                  refine lv_iload hx hb d_M_reads_119 (lv_at hl 9 rfl) ?_
                  refine xa_iald hx hb hK hP 10 9 rfl rfl (k := i) (by omega) (by decide) d_M_reads_121 ?_
                  refine xa_top (y := e.1) hfe ?_
                  refine lv_iload_n hx hb d_M_reads_122 rfl (lv_at hl 4 rfl) ?_
                  refine lv_icmp_eq (tgt := 146) hx hb d_M_reads_123 (by decide) (fun hc123 => ?_) (fun hc123 => ?_)
                  · skip
                    refine lv_iconst (v := nI 0) hx hb d_M_reads_146 (by decide +kernel) ?_
                    refine xa_top (y := xb_i (decide (e.1 ≠ k) && !((decide ((t + 1) % 4 = 0) || decide (t + 1 = xd_cn K (xd_dp K (xk_h k)) (xk_h k % 2 ^ xd_dp K (xk_h k)))) && decide (k < e.1)))) (by first | exact xg_m0 hc123 | exact xg_m1 hc128 hc139 | exact xg_m2 hc123 hc128 | exact xg_m3 hc123 hc139) ?_
                    refine lv_istore (lv' := [(7, .int (xb_i (decide (e.1 ≠ k) && !((decide ((t + 1) % 4 = 0) || decide (t + 1 = xd_cn K (xd_dp K (xk_h k)) (xk_h k % 2 ^ xd_dp K (xk_h k)))) && decide (k < e.1))))), (9, .int (xb_i (decide ((t + 1) % 4 = 0) || decide (t + 1 = xd_cn K (xd_dp K (xk_h k)) (xk_h k % 2 ^ xd_dp K (xk_h k)))))), (5, .int (nI (t + 1))), (6, .int (nI (if t % 4 = 0 then g + 1 else g))), (0, .ref (q 0)), (1, .int k), (2, .int (nI (xk_h k % 2 ^ xd_dp K (xk_h k)))), (3, .int (nI (xd_dp K (xk_h k)))), (4, .int (nI (xd_cn K (xd_dp K (xk_h k)) (xk_h k % 2 ^ xd_dp K (xk_h k))))), (8, .int (nI i))]) hx hb d_M_reads_147 hl (Nat.le_of_ble_eq_true rfl) rfl (fun ls hl => ?_)
                    refine lv_iinc (k := 9) (v := nI (i + 1)) (lv' := [(8, .int (nI (i + 1))), (7, .int (xb_i (decide (e.1 ≠ k) && !((decide ((t + 1) % 4 = 0) || decide (t + 1 = xd_cn K (xd_dp K (xk_h k)) (xk_h k % 2 ^ xd_dp K (xk_h k)))) && decide (k < e.1))))), (9, .int (xb_i (decide ((t + 1) % 4 = 0) || decide (t + 1 = xd_cn K (xd_dp K (xk_h k)) (xk_h k % 2 ^ xd_dp K (xk_h k)))))), (5, .int (nI (t + 1))), (6, .int (nI (if t % 4 = 0 then g + 1 else g))), (0, .ref (q 0)), (1, .int k), (2, .int (nI (xk_h k % 2 ^ xd_dp K (xk_h k)))), (3, .int (nI (xd_dp K (xk_h k)))), (4, .int (nI (xd_cn K (xd_dp K (xk_h k)) (xk_h k % 2 ^ xd_dp K (xk_h k)))))]) hx hb d_M_reads_149 hl rfl (xn_inc _) (Nat.le_of_ble_eq_true rfl) rfl (fun ls hl => ?_)
                    refine lv_goto (tgt := 36) hx hb d_M_reads_152 (by decide) ?_
                    exact ih36 (i + 1) (t + 1) (if t % 4 = 0 then g + 1 else g) (decide (e.1 ≠ k) && !((decide ((t + 1) % 4 = 0) || decide (t + 1 = xd_cn K (xd_dp K (xk_h k)) (xk_h k % 2 ^ xd_dp K (xk_h k)))) && decide (k < e.1))) ls (by omega) (by first | rw [xd_cn_take he, if_pos (by simpa using hc67), ht] | rw [xd_cn_take he, if_neg (by simpa using hc67), ht]) (by first | exact xo_J_in hM.2.1 hJ1 he (by simpa using hc67) (by rw [← ht]) (by rw [← ht]) | (rw [hc47]; exact xo_J_skip hJ1 he (by simpa using hc67))) (lv_sub hl [5, 6, 7, 8, 9, 3, 4, 1, 0] rfl) (by omega)
                  · skip
                    refine lv_iload hx hb d_M_reads_126 (lv_at hl 0 rfl) ?_
                    refine lv_if_eq (tgt := 142) hx hb d_M_reads_128 (by decide) (fun hc128 => ?_) (fun hc128 => ?_)
                    · skip
                      rw [xb_0] at hc128
                      refine lv_iconst (v := nI 1) hx hb d_M_reads_142 (by decide +kernel) ?_
                      refine lv_goto (tgt := 147) hx hb d_M_reads_143 (by decide) ?_
                      refine xa_top (y := xb_i (decide (e.1 ≠ k) && !((decide ((t + 1) % 4 = 0) || decide (t + 1 = xd_cn K (xd_dp K (xk_h k)) (xk_h k % 2 ^ xd_dp K (xk_h k)))) && decide (k < e.1)))) (by first | exact xg_m0 hc123 | exact xg_m1 hc128 hc139 | exact xg_m2 hc123 hc128 | exact xg_m3 hc123 hc139) ?_
                      refine lv_istore (lv' := [(7, .int (xb_i (decide (e.1 ≠ k) && !((decide ((t + 1) % 4 = 0) || decide (t + 1 = xd_cn K (xd_dp K (xk_h k)) (xk_h k % 2 ^ xd_dp K (xk_h k)))) && decide (k < e.1))))), (9, .int (xb_i (decide ((t + 1) % 4 = 0) || decide (t + 1 = xd_cn K (xd_dp K (xk_h k)) (xk_h k % 2 ^ xd_dp K (xk_h k)))))), (5, .int (nI (t + 1))), (6, .int (nI (if t % 4 = 0 then g + 1 else g))), (0, .ref (q 0)), (1, .int k), (2, .int (nI (xk_h k % 2 ^ xd_dp K (xk_h k)))), (3, .int (nI (xd_dp K (xk_h k)))), (4, .int (nI (xd_cn K (xd_dp K (xk_h k)) (xk_h k % 2 ^ xd_dp K (xk_h k))))), (8, .int (nI i))]) hx hb d_M_reads_147 hl (Nat.le_of_ble_eq_true rfl) rfl (fun ls hl => ?_)
                      refine lv_iinc (k := 9) (v := nI (i + 1)) (lv' := [(8, .int (nI (i + 1))), (7, .int (xb_i (decide (e.1 ≠ k) && !((decide ((t + 1) % 4 = 0) || decide (t + 1 = xd_cn K (xd_dp K (xk_h k)) (xk_h k % 2 ^ xd_dp K (xk_h k)))) && decide (k < e.1))))), (9, .int (xb_i (decide ((t + 1) % 4 = 0) || decide (t + 1 = xd_cn K (xd_dp K (xk_h k)) (xk_h k % 2 ^ xd_dp K (xk_h k)))))), (5, .int (nI (t + 1))), (6, .int (nI (if t % 4 = 0 then g + 1 else g))), (0, .ref (q 0)), (1, .int k), (2, .int (nI (xk_h k % 2 ^ xd_dp K (xk_h k)))), (3, .int (nI (xd_dp K (xk_h k)))), (4, .int (nI (xd_cn K (xd_dp K (xk_h k)) (xk_h k % 2 ^ xd_dp K (xk_h k)))))]) hx hb d_M_reads_149 hl rfl (xn_inc _) (Nat.le_of_ble_eq_true rfl) rfl (fun ls hl => ?_)
                      refine lv_goto (tgt := 36) hx hb d_M_reads_152 (by decide) ?_
                      exact ih36 (i + 1) (t + 1) (if t % 4 = 0 then g + 1 else g) (decide (e.1 ≠ k) && !((decide ((t + 1) % 4 = 0) || decide (t + 1 = xd_cn K (xd_dp K (xk_h k)) (xk_h k % 2 ^ xd_dp K (xk_h k)))) && decide (k < e.1))) ls (by omega) (by first | rw [xd_cn_take he, if_pos (by simpa using hc67), ht] | rw [xd_cn_take he, if_neg (by simpa using hc67), ht]) (by first | exact xo_J_in hM.2.1 hJ1 he (by simpa using hc67) (by rw [← ht]) (by rw [← ht]) | (rw [hc47]; exact xo_J_skip hJ1 he (by simpa using hc67))) (lv_sub hl [5, 6, 7, 8, 9, 3, 4, 1, 0] rfl) (by omega)
                    · skip
                      rw [xb_1] at hc128
                      refine lv_aload_n hx hb d_M_reads_131 rfl (lv_at hl 3 rfl) ?_
                      refine va_get (D := D) (ci := 5) (v := .ref (q 10)) (C := R_M) (T := F_M) (N := 17) hx hb hts (zi_M _) hown hK hP 0 rfl rfl 15 (by decide) (hts _ (List.mem_cons_of_mem _ zm_391)) (fun _ h9 => h9) rfl d_M_reads_132 ?_
                      refine lv_iload hx hb d_M_reads_135 (lv_at hl 9 rfl) ?_
                      refine xa_iald hx hb hK hP 10 9 rfl rfl (k := i) (by omega) (by decide) d_M_reads_137 ?_
                      refine xa_top (y := e.1) hfe ?_
                      refine lv_iload_n hx hb d_M_reads_138 rfl (lv_at hl 4 rfl) ?_
                      refine lv_icmp_gt (tgt := 146) hx hb d_M_reads_139 (by decide) (fun hc139 => ?_) (fun hc139 => ?_)
                      · skip
                        refine lv_iconst (v := nI 0) hx hb d_M_reads_146 (by decide +kernel) ?_
                        refine xa_top (y := xb_i (decide (e.1 ≠ k) && !((decide ((t + 1) % 4 = 0) || decide (t + 1 = xd_cn K (xd_dp K (xk_h k)) (xk_h k % 2 ^ xd_dp K (xk_h k)))) && decide (k < e.1)))) (by first | exact xg_m0 hc123 | exact xg_m1 hc128 hc139 | exact xg_m2 hc123 hc128 | exact xg_m3 hc123 hc139) ?_
                        refine lv_istore (lv' := [(7, .int (xb_i (decide (e.1 ≠ k) && !((decide ((t + 1) % 4 = 0) || decide (t + 1 = xd_cn K (xd_dp K (xk_h k)) (xk_h k % 2 ^ xd_dp K (xk_h k)))) && decide (k < e.1))))), (9, .int (xb_i (decide ((t + 1) % 4 = 0) || decide (t + 1 = xd_cn K (xd_dp K (xk_h k)) (xk_h k % 2 ^ xd_dp K (xk_h k)))))), (5, .int (nI (t + 1))), (6, .int (nI (if t % 4 = 0 then g + 1 else g))), (0, .ref (q 0)), (1, .int k), (2, .int (nI (xk_h k % 2 ^ xd_dp K (xk_h k)))), (3, .int (nI (xd_dp K (xk_h k)))), (4, .int (nI (xd_cn K (xd_dp K (xk_h k)) (xk_h k % 2 ^ xd_dp K (xk_h k))))), (8, .int (nI i))]) hx hb d_M_reads_147 hl (Nat.le_of_ble_eq_true rfl) rfl (fun ls hl => ?_)
                        refine lv_iinc (k := 9) (v := nI (i + 1)) (lv' := [(8, .int (nI (i + 1))), (7, .int (xb_i (decide (e.1 ≠ k) && !((decide ((t + 1) % 4 = 0) || decide (t + 1 = xd_cn K (xd_dp K (xk_h k)) (xk_h k % 2 ^ xd_dp K (xk_h k)))) && decide (k < e.1))))), (9, .int (xb_i (decide ((t + 1) % 4 = 0) || decide (t + 1 = xd_cn K (xd_dp K (xk_h k)) (xk_h k % 2 ^ xd_dp K (xk_h k)))))), (5, .int (nI (t + 1))), (6, .int (nI (if t % 4 = 0 then g + 1 else g))), (0, .ref (q 0)), (1, .int k), (2, .int (nI (xk_h k % 2 ^ xd_dp K (xk_h k)))), (3, .int (nI (xd_dp K (xk_h k)))), (4, .int (nI (xd_cn K (xd_dp K (xk_h k)) (xk_h k % 2 ^ xd_dp K (xk_h k)))))]) hx hb d_M_reads_149 hl rfl (xn_inc _) (Nat.le_of_ble_eq_true rfl) rfl (fun ls hl => ?_)
                        refine lv_goto (tgt := 36) hx hb d_M_reads_152 (by decide) ?_
                        exact ih36 (i + 1) (t + 1) (if t % 4 = 0 then g + 1 else g) (decide (e.1 ≠ k) && !((decide ((t + 1) % 4 = 0) || decide (t + 1 = xd_cn K (xd_dp K (xk_h k)) (xk_h k % 2 ^ xd_dp K (xk_h k)))) && decide (k < e.1))) ls (by omega) (by first | rw [xd_cn_take he, if_pos (by simpa using hc67), ht] | rw [xd_cn_take he, if_neg (by simpa using hc67), ht]) (by first | exact xo_J_in hM.2.1 hJ1 he (by simpa using hc67) (by rw [← ht]) (by rw [← ht]) | (rw [hc47]; exact xo_J_skip hJ1 he (by simpa using hc67))) (lv_sub hl [5, 6, 7, 8, 9, 3, 4, 1, 0] rfl) (by omega)
                      · skip
                        refine lv_iconst (v := nI 1) hx hb d_M_reads_142 (by decide +kernel) ?_
                        refine lv_goto (tgt := 147) hx hb d_M_reads_143 (by decide) ?_
                        refine xa_top (y := xb_i (decide (e.1 ≠ k) && !((decide ((t + 1) % 4 = 0) || decide (t + 1 = xd_cn K (xd_dp K (xk_h k)) (xk_h k % 2 ^ xd_dp K (xk_h k)))) && decide (k < e.1)))) (by first | exact xg_m0 hc123 | exact xg_m1 hc128 hc139 | exact xg_m2 hc123 hc128 | exact xg_m3 hc123 hc139) ?_
                        refine lv_istore (lv' := [(7, .int (xb_i (decide (e.1 ≠ k) && !((decide ((t + 1) % 4 = 0) || decide (t + 1 = xd_cn K (xd_dp K (xk_h k)) (xk_h k % 2 ^ xd_dp K (xk_h k)))) && decide (k < e.1))))), (9, .int (xb_i (decide ((t + 1) % 4 = 0) || decide (t + 1 = xd_cn K (xd_dp K (xk_h k)) (xk_h k % 2 ^ xd_dp K (xk_h k)))))), (5, .int (nI (t + 1))), (6, .int (nI (if t % 4 = 0 then g + 1 else g))), (0, .ref (q 0)), (1, .int k), (2, .int (nI (xk_h k % 2 ^ xd_dp K (xk_h k)))), (3, .int (nI (xd_dp K (xk_h k)))), (4, .int (nI (xd_cn K (xd_dp K (xk_h k)) (xk_h k % 2 ^ xd_dp K (xk_h k))))), (8, .int (nI i))]) hx hb d_M_reads_147 hl (Nat.le_of_ble_eq_true rfl) rfl (fun ls hl => ?_)
                        refine lv_iinc (k := 9) (v := nI (i + 1)) (lv' := [(8, .int (nI (i + 1))), (7, .int (xb_i (decide (e.1 ≠ k) && !((decide ((t + 1) % 4 = 0) || decide (t + 1 = xd_cn K (xd_dp K (xk_h k)) (xk_h k % 2 ^ xd_dp K (xk_h k)))) && decide (k < e.1))))), (9, .int (xb_i (decide ((t + 1) % 4 = 0) || decide (t + 1 = xd_cn K (xd_dp K (xk_h k)) (xk_h k % 2 ^ xd_dp K (xk_h k)))))), (5, .int (nI (t + 1))), (6, .int (nI (if t % 4 = 0 then g + 1 else g))), (0, .ref (q 0)), (1, .int k), (2, .int (nI (xk_h k % 2 ^ xd_dp K (xk_h k)))), (3, .int (nI (xd_dp K (xk_h k)))), (4, .int (nI (xd_cn K (xd_dp K (xk_h k)) (xk_h k % 2 ^ xd_dp K (xk_h k)))))]) hx hb d_M_reads_149 hl rfl (xn_inc _) (Nat.le_of_ble_eq_true rfl) rfl (fun ls hl => ?_)
                        refine lv_goto (tgt := 36) hx hb d_M_reads_152 (by decide) ?_
                        exact ih36 (i + 1) (t + 1) (if t % 4 = 0 then g + 1 else g) (decide (e.1 ≠ k) && !((decide ((t + 1) % 4 = 0) || decide (t + 1 = xd_cn K (xd_dp K (xk_h k)) (xk_h k % 2 ^ xd_dp K (xk_h k)))) && decide (k < e.1))) ls (by omega) (by first | rw [xd_cn_take he, if_pos (by simpa using hc67), ht] | rw [xd_cn_take he, if_neg (by simpa using hc67), ht]) (by first | exact xo_J_in hM.2.1 hJ1 he (by simpa using hc67) (by rw [← ht]) (by rw [← ht]) | (rw [hc47]; exact xo_J_skip hJ1 he (by simpa using hc67))) (lv_sub hl [5, 6, 7, 8, 9, 3, 4, 1, 0] rfl) (by omega)
                · skip
                  rw [nI_eq (by omega) (by omega)] at hc105
                  refine lv_iconst (v := nI 1) hx hb d_M_reads_108 (by decide +kernel) ?_
                  refine lv_goto (tgt := 113) hx hb d_M_reads_109 (by decide) ?_
                  refine xa_top (y := xb_i (decide ((t + 1) % 4 = 0) || decide (t + 1 = xd_cn K (xd_dp K (xk_h k)) (xk_h k % 2 ^ xd_dp K (xk_h k))))) (by first | exact xg_o1 (Or.inl hc98) | exact xg_o1 (Or.inr hc105) | exact xg_o0 hc98 hc105) ?_
                  refine lv_istore (lv' := [(9, .int (xb_i (decide ((t + 1) % 4 = 0) || decide (t + 1 = xd_cn K (xd_dp K (xk_h k)) (xk_h k % 2 ^ xd_dp K (xk_h k)))))), (5, .int (nI (t + 1))), (6, .int (nI (if t % 4 = 0 then g + 1 else g))), (0, .ref (q 0)), (1, .int k), (2, .int (nI (xk_h k % 2 ^ xd_dp K (xk_h k)))), (3, .int (nI (xd_dp K (xk_h k)))), (4, .int (nI (xd_cn K (xd_dp K (xk_h k)) (xk_h k % 2 ^ xd_dp K (xk_h k))))), (7, .int (xb_i mo)), (8, .int (nI i))]) hx hb d_M_reads_113 hl (Nat.le_of_ble_eq_true rfl) rfl (fun ls hl => ?_)
                  refine lv_aload_n hx hb d_M_reads_115 rfl (lv_at hl 3 rfl) ?_
                  refine va_get (D := D) (ci := 5) (v := .ref (q 10)) (C := R_M) (T := F_M) (N := 17) hx hb hts (zi_M _) hown hK hP 0 rfl rfl 15 (by decide) (hts _ (List.mem_cons_of_mem _ zm_391)) (fun _ h9 => h9) rfl d_M_reads_116 ?_
                  refine lv_iload hx hb d_M_reads_119 (lv_at hl 9 rfl) ?_
                  refine xa_iald hx hb hK hP 10 9 rfl rfl (k := i) (by omega) (by decide) d_M_reads_121 ?_
                  refine xa_top (y := e.1) hfe ?_
                  refine lv_iload_n hx hb d_M_reads_122 rfl (lv_at hl 4 rfl) ?_
                  refine lv_icmp_eq (tgt := 146) hx hb d_M_reads_123 (by decide) (fun hc123 => ?_) (fun hc123 => ?_)
                  · skip
                    refine lv_iconst (v := nI 0) hx hb d_M_reads_146 (by decide +kernel) ?_
                    refine xa_top (y := xb_i (decide (e.1 ≠ k) && !((decide ((t + 1) % 4 = 0) || decide (t + 1 = xd_cn K (xd_dp K (xk_h k)) (xk_h k % 2 ^ xd_dp K (xk_h k)))) && decide (k < e.1)))) (by first | exact xg_m0 hc123 | exact xg_m1 hc128 hc139 | exact xg_m2 hc123 hc128 | exact xg_m3 hc123 hc139) ?_
                    refine lv_istore (lv' := [(7, .int (xb_i (decide (e.1 ≠ k) && !((decide ((t + 1) % 4 = 0) || decide (t + 1 = xd_cn K (xd_dp K (xk_h k)) (xk_h k % 2 ^ xd_dp K (xk_h k)))) && decide (k < e.1))))), (9, .int (xb_i (decide ((t + 1) % 4 = 0) || decide (t + 1 = xd_cn K (xd_dp K (xk_h k)) (xk_h k % 2 ^ xd_dp K (xk_h k)))))), (5, .int (nI (t + 1))), (6, .int (nI (if t % 4 = 0 then g + 1 else g))), (0, .ref (q 0)), (1, .int k), (2, .int (nI (xk_h k % 2 ^ xd_dp K (xk_h k)))), (3, .int (nI (xd_dp K (xk_h k)))), (4, .int (nI (xd_cn K (xd_dp K (xk_h k)) (xk_h k % 2 ^ xd_dp K (xk_h k))))), (8, .int (nI i))]) hx hb d_M_reads_147 hl (Nat.le_of_ble_eq_true rfl) rfl (fun ls hl => ?_)
                    refine lv_iinc (k := 9) (v := nI (i + 1)) (lv' := [(8, .int (nI (i + 1))), (7, .int (xb_i (decide (e.1 ≠ k) && !((decide ((t + 1) % 4 = 0) || decide (t + 1 = xd_cn K (xd_dp K (xk_h k)) (xk_h k % 2 ^ xd_dp K (xk_h k)))) && decide (k < e.1))))), (9, .int (xb_i (decide ((t + 1) % 4 = 0) || decide (t + 1 = xd_cn K (xd_dp K (xk_h k)) (xk_h k % 2 ^ xd_dp K (xk_h k)))))), (5, .int (nI (t + 1))), (6, .int (nI (if t % 4 = 0 then g + 1 else g))), (0, .ref (q 0)), (1, .int k), (2, .int (nI (xk_h k % 2 ^ xd_dp K (xk_h k)))), (3, .int (nI (xd_dp K (xk_h k)))), (4, .int (nI (xd_cn K (xd_dp K (xk_h k)) (xk_h k % 2 ^ xd_dp K (xk_h k)))))]) hx hb d_M_reads_149 hl rfl (xn_inc _) (Nat.le_of_ble_eq_true rfl) rfl (fun ls hl => ?_)
                    refine lv_goto (tgt := 36) hx hb d_M_reads_152 (by decide) ?_
                    exact ih36 (i + 1) (t + 1) (if t % 4 = 0 then g + 1 else g) (decide (e.1 ≠ k) && !((decide ((t + 1) % 4 = 0) || decide (t + 1 = xd_cn K (xd_dp K (xk_h k)) (xk_h k % 2 ^ xd_dp K (xk_h k)))) && decide (k < e.1))) ls (by omega) (by first | rw [xd_cn_take he, if_pos (by simpa using hc67), ht] | rw [xd_cn_take he, if_neg (by simpa using hc67), ht]) (by first | exact xo_J_in hM.2.1 hJ1 he (by simpa using hc67) (by rw [← ht]) (by rw [← ht]) | (rw [hc47]; exact xo_J_skip hJ1 he (by simpa using hc67))) (lv_sub hl [5, 6, 7, 8, 9, 3, 4, 1, 0] rfl) (by omega)
                  · skip
                    refine lv_iload hx hb d_M_reads_126 (lv_at hl 0 rfl) ?_
                    refine lv_if_eq (tgt := 142) hx hb d_M_reads_128 (by decide) (fun hc128 => ?_) (fun hc128 => ?_)
                    · skip
                      rw [xb_0] at hc128
                      refine lv_iconst (v := nI 1) hx hb d_M_reads_142 (by decide +kernel) ?_
                      refine lv_goto (tgt := 147) hx hb d_M_reads_143 (by decide) ?_
                      refine xa_top (y := xb_i (decide (e.1 ≠ k) && !((decide ((t + 1) % 4 = 0) || decide (t + 1 = xd_cn K (xd_dp K (xk_h k)) (xk_h k % 2 ^ xd_dp K (xk_h k)))) && decide (k < e.1)))) (by first | exact xg_m0 hc123 | exact xg_m1 hc128 hc139 | exact xg_m2 hc123 hc128 | exact xg_m3 hc123 hc139) ?_
                      refine lv_istore (lv' := [(7, .int (xb_i (decide (e.1 ≠ k) && !((decide ((t + 1) % 4 = 0) || decide (t + 1 = xd_cn K (xd_dp K (xk_h k)) (xk_h k % 2 ^ xd_dp K (xk_h k)))) && decide (k < e.1))))), (9, .int (xb_i (decide ((t + 1) % 4 = 0) || decide (t + 1 = xd_cn K (xd_dp K (xk_h k)) (xk_h k % 2 ^ xd_dp K (xk_h k)))))), (5, .int (nI (t + 1))), (6, .int (nI (if t % 4 = 0 then g + 1 else g))), (0, .ref (q 0)), (1, .int k), (2, .int (nI (xk_h k % 2 ^ xd_dp K (xk_h k)))), (3, .int (nI (xd_dp K (xk_h k)))), (4, .int (nI (xd_cn K (xd_dp K (xk_h k)) (xk_h k % 2 ^ xd_dp K (xk_h k))))), (8, .int (nI i))]) hx hb d_M_reads_147 hl (Nat.le_of_ble_eq_true rfl) rfl (fun ls hl => ?_)
                      refine lv_iinc (k := 9) (v := nI (i + 1)) (lv' := [(8, .int (nI (i + 1))), (7, .int (xb_i (decide (e.1 ≠ k) && !((decide ((t + 1) % 4 = 0) || decide (t + 1 = xd_cn K (xd_dp K (xk_h k)) (xk_h k % 2 ^ xd_dp K (xk_h k)))) && decide (k < e.1))))), (9, .int (xb_i (decide ((t + 1) % 4 = 0) || decide (t + 1 = xd_cn K (xd_dp K (xk_h k)) (xk_h k % 2 ^ xd_dp K (xk_h k)))))), (5, .int (nI (t + 1))), (6, .int (nI (if t % 4 = 0 then g + 1 else g))), (0, .ref (q 0)), (1, .int k), (2, .int (nI (xk_h k % 2 ^ xd_dp K (xk_h k)))), (3, .int (nI (xd_dp K (xk_h k)))), (4, .int (nI (xd_cn K (xd_dp K (xk_h k)) (xk_h k % 2 ^ xd_dp K (xk_h k)))))]) hx hb d_M_reads_149 hl rfl (xn_inc _) (Nat.le_of_ble_eq_true rfl) rfl (fun ls hl => ?_)
                      refine lv_goto (tgt := 36) hx hb d_M_reads_152 (by decide) ?_
                      exact ih36 (i + 1) (t + 1) (if t % 4 = 0 then g + 1 else g) (decide (e.1 ≠ k) && !((decide ((t + 1) % 4 = 0) || decide (t + 1 = xd_cn K (xd_dp K (xk_h k)) (xk_h k % 2 ^ xd_dp K (xk_h k)))) && decide (k < e.1))) ls (by omega) (by first | rw [xd_cn_take he, if_pos (by simpa using hc67), ht] | rw [xd_cn_take he, if_neg (by simpa using hc67), ht]) (by first | exact xo_J_in hM.2.1 hJ1 he (by simpa using hc67) (by rw [← ht]) (by rw [← ht]) | (rw [hc47]; exact xo_J_skip hJ1 he (by simpa using hc67))) (lv_sub hl [5, 6, 7, 8, 9, 3, 4, 1, 0] rfl) (by omega)
                    · skip
                      rw [xb_1] at hc128
                      refine lv_aload_n hx hb d_M_reads_131 rfl (lv_at hl 3 rfl) ?_
                      refine va_get (D := D) (ci := 5) (v := .ref (q 10)) (C := R_M) (T := F_M) (N := 17) hx hb hts (zi_M _) hown hK hP 0 rfl rfl 15 (by decide) (hts _ (List.mem_cons_of_mem _ zm_391)) (fun _ h9 => h9) rfl d_M_reads_132 ?_
                      refine lv_iload hx hb d_M_reads_135 (lv_at hl 9 rfl) ?_
                      refine xa_iald hx hb hK hP 10 9 rfl rfl (k := i) (by omega) (by decide) d_M_reads_137 ?_
                      refine xa_top (y := e.1) hfe ?_
                      refine lv_iload_n hx hb d_M_reads_138 rfl (lv_at hl 4 rfl) ?_
                      refine lv_icmp_gt (tgt := 146) hx hb d_M_reads_139 (by decide) (fun hc139 => ?_) (fun hc139 => ?_)
                      · skip
                        refine lv_iconst (v := nI 0) hx hb d_M_reads_146 (by decide +kernel) ?_
                        refine xa_top (y := xb_i (decide (e.1 ≠ k) && !((decide ((t + 1) % 4 = 0) || decide (t + 1 = xd_cn K (xd_dp K (xk_h k)) (xk_h k % 2 ^ xd_dp K (xk_h k)))) && decide (k < e.1)))) (by first | exact xg_m0 hc123 | exact xg_m1 hc128 hc139 | exact xg_m2 hc123 hc128 | exact xg_m3 hc123 hc139) ?_
                        refine lv_istore (lv' := [(7, .int (xb_i (decide (e.1 ≠ k) && !((decide ((t + 1) % 4 = 0) || decide (t + 1 = xd_cn K (xd_dp K (xk_h k)) (xk_h k % 2 ^ xd_dp K (xk_h k)))) && decide (k < e.1))))), (9, .int (xb_i (decide ((t + 1) % 4 = 0) || decide (t + 1 = xd_cn K (xd_dp K (xk_h k)) (xk_h k % 2 ^ xd_dp K (xk_h k)))))), (5, .int (nI (t + 1))), (6, .int (nI (if t % 4 = 0 then g + 1 else g))), (0, .ref (q 0)), (1, .int k), (2, .int (nI (xk_h k % 2 ^ xd_dp K (xk_h k)))), (3, .int (nI (xd_dp K (xk_h k)))), (4, .int (nI (xd_cn K (xd_dp K (xk_h k)) (xk_h k % 2 ^ xd_dp K (xk_h k))))), (8, .int (nI i))]) hx hb d_M_reads_147 hl (Nat.le_of_ble_eq_true rfl) rfl (fun ls hl => ?_)
                        refine lv_iinc (k := 9) (v := nI (i + 1)) (lv' := [(8, .int (nI (i + 1))), (7, .int (xb_i (decide (e.1 ≠ k) && !((decide ((t + 1) % 4 = 0) || decide (t + 1 = xd_cn K (xd_dp K (xk_h k)) (xk_h k % 2 ^ xd_dp K (xk_h k)))) && decide (k < e.1))))), (9, .int (xb_i (decide ((t + 1) % 4 = 0) || decide (t + 1 = xd_cn K (xd_dp K (xk_h k)) (xk_h k % 2 ^ xd_dp K (xk_h k)))))), (5, .int (nI (t + 1))), (6, .int (nI (if t % 4 = 0 then g + 1 else g))), (0, .ref (q 0)), (1, .int k), (2, .int (nI (xk_h k % 2 ^ xd_dp K (xk_h k)))), (3, .int (nI (xd_dp K (xk_h k)))), (4, .int (nI (xd_cn K (xd_dp K (xk_h k)) (xk_h k % 2 ^ xd_dp K (xk_h k)))))]) hx hb d_M_reads_149 hl rfl (xn_inc _) (Nat.le_of_ble_eq_true rfl) rfl (fun ls hl => ?_)
                        refine lv_goto (tgt := 36) hx hb d_M_reads_152 (by decide) ?_
                        exact ih36 (i + 1) (t + 1) (if t % 4 = 0 then g + 1 else g) (decide (e.1 ≠ k) && !((decide ((t + 1) % 4 = 0) || decide (t + 1 = xd_cn K (xd_dp K (xk_h k)) (xk_h k % 2 ^ xd_dp K (xk_h k)))) && decide (k < e.1))) ls (by omega) (by first | rw [xd_cn_take he, if_pos (by simpa using hc67), ht] | rw [xd_cn_take he, if_neg (by simpa using hc67), ht]) (by first | exact xo_J_in hM.2.1 hJ1 he (by simpa using hc67) (by rw [← ht]) (by rw [← ht]) | (rw [hc47]; exact xo_J_skip hJ1 he (by simpa using hc67))) (lv_sub hl [5, 6, 7, 8, 9, 3, 4, 1, 0] rfl) (by omega)
                      · skip
                        refine lv_iconst (v := nI 1) hx hb d_M_reads_142 (by decide +kernel) ?_
                        refine lv_goto (tgt := 147) hx hb d_M_reads_143 (by decide) ?_
                        refine xa_top (y := xb_i (decide (e.1 ≠ k) && !((decide ((t + 1) % 4 = 0) || decide (t + 1 = xd_cn K (xd_dp K (xk_h k)) (xk_h k % 2 ^ xd_dp K (xk_h k)))) && decide (k < e.1)))) (by first | exact xg_m0 hc123 | exact xg_m1 hc128 hc139 | exact xg_m2 hc123 hc128 | exact xg_m3 hc123 hc139) ?_
                        refine lv_istore (lv' := [(7, .int (xb_i (decide (e.1 ≠ k) && !((decide ((t + 1) % 4 = 0) || decide (t + 1 = xd_cn K (xd_dp K (xk_h k)) (xk_h k % 2 ^ xd_dp K (xk_h k)))) && decide (k < e.1))))), (9, .int (xb_i (decide ((t + 1) % 4 = 0) || decide (t + 1 = xd_cn K (xd_dp K (xk_h k)) (xk_h k % 2 ^ xd_dp K (xk_h k)))))), (5, .int (nI (t + 1))), (6, .int (nI (if t % 4 = 0 then g + 1 else g))), (0, .ref (q 0)), (1, .int k), (2, .int (nI (xk_h k % 2 ^ xd_dp K (xk_h k)))), (3, .int (nI (xd_dp K (xk_h k)))), (4, .int (nI (xd_cn K (xd_dp K (xk_h k)) (xk_h k % 2 ^ xd_dp K (xk_h k))))), (8, .int (nI i))]) hx hb d_M_reads_147 hl (Nat.le_of_ble_eq_true rfl) rfl (fun ls hl => ?_)
                        refine lv_iinc (k := 9) (v := nI (i + 1)) (lv' := [(8, .int (nI (i + 1))), (7, .int (xb_i (decide (e.1 ≠ k) && !((decide ((t + 1) % 4 = 0) || decide (t + 1 = xd_cn K (xd_dp K (xk_h k)) (xk_h k % 2 ^ xd_dp K (xk_h k)))) && decide (k < e.1))))), (9, .int (xb_i (decide ((t + 1) % 4 = 0) || decide (t + 1 = xd_cn K (xd_dp K (xk_h k)) (xk_h k % 2 ^ xd_dp K (xk_h k)))))), (5, .int (nI (t + 1))), (6, .int (nI (if t % 4 = 0 then g + 1 else g))), (0, .ref (q 0)), (1, .int k), (2, .int (nI (xk_h k % 2 ^ xd_dp K (xk_h k)))), (3, .int (nI (xd_dp K (xk_h k)))), (4, .int (nI (xd_cn K (xd_dp K (xk_h k)) (xk_h k % 2 ^ xd_dp K (xk_h k)))))]) hx hb d_M_reads_149 hl rfl (xn_inc _) (Nat.le_of_ble_eq_true rfl) rfl (fun ls hl => ?_)
                        refine lv_goto (tgt := 36) hx hb d_M_reads_152 (by decide) ?_
                        exact ih36 (i + 1) (t + 1) (if t % 4 = 0 then g + 1 else g) (decide (e.1 ≠ k) && !((decide ((t + 1) % 4 = 0) || decide (t + 1 = xd_cn K (xd_dp K (xk_h k)) (xk_h k % 2 ^ xd_dp K (xk_h k)))) && decide (k < e.1))) ls (by omega) (by first | rw [xd_cn_take he, if_pos (by simpa using hc67), ht] | rw [xd_cn_take he, if_neg (by simpa using hc67), ht]) (by first | exact xo_J_in hM.2.1 hJ1 he (by simpa using hc67) (by rw [← ht]) (by rw [← ht]) | (rw [hc47]; exact xo_J_skip hJ1 he (by simpa using hc67))) (lv_sub hl [5, 6, 7, 8, 9, 3, 4, 1, 0] rfl) (by omega)
            · skip
              rw [xn_ne0 (by omega)] at hc74
              refine lv_iload hx hb d_M_reads_77 (lv_at hl 6 rfl) ?_
              refine lv_iconst (v := nI 1) hx hb d_M_reads_79 (by decide +kernel) ?_
              refine lv_iadd hx hb d_M_reads_80 ?_
              refine xa_top (y := nI (g + 1)) (nI_add _ _) ?_
              refine lv_goto (tgt := 86) hx hb d_M_reads_81 (by decide) ?_
              refine xa_top (y := nI (if t % 4 = 0 then g + 1 else g)) (congrArg nI (by first | rw [if_pos hc74] | rw [if_neg hc74])) ?_
              refine lv_istore (lv' := [(6, .int (nI (if t % 4 = 0 then g + 1 else g))), (0, .ref (q 0)), (1, .int k), (2, .int (nI (xk_h k % 2 ^ xd_dp K (xk_h k)))), (3, .int (nI (xd_dp K (xk_h k)))), (4, .int (nI (xd_cn K (xd_dp K (xk_h k)) (xk_h k % 2 ^ xd_dp K (xk_h k))))), (5, .int (nI t)), (7, .int (xb_i mo)), (8, .int (nI i))]) hx hb d_M_reads_86 hl (Nat.le_of_ble_eq_true rfl) rfl (fun ls hl => ?_)
              refine lv_iload hx hb d_M_reads_88 (lv_at hl 6 rfl) ?_
              refine lv_iconst (v := nI 1) hx hb d_M_reads_90 (by decide +kernel) ?_
              refine lv_iadd hx hb d_M_reads_91 ?_
              refine xa_top (y := nI (t + 1)) (nI_add _ _) ?_
              refine lv_istore (lv' := [(5, .int (nI (t + 1))), (6, .int (nI (if t % 4 = 0 then g + 1 else g))), (0, .ref (q 0)), (1, .int k), (2, .int (nI (xk_h k % 2 ^ xd_dp K (xk_h k)))), (3, .int (nI (xd_dp K (xk_h k)))), (4, .int (nI (xd_cn K (xd_dp K (xk_h k)) (xk_h k % 2 ^ xd_dp K (xk_h k))))), (7, .int (xb_i mo)), (8, .int (nI i))]) hx hb d_M_reads_92 hl (Nat.le_of_ble_eq_true rfl) rfl (fun ls hl => ?_)
              refine lv_iload hx hb d_M_reads_94 (lv_at hl 0 rfl) ?_
              refine lv_iconst (v := nI 4) hx hb d_M_reads_96 (by decide +kernel) ?_
              refine lv_irem hx hb d_M_reads_97 (by decide +kernel) ?_
              refine xa_top (y := nI ((t + 1) % 4)) (pk_rem (by omega) (by omega) (by omega)) ?_
              refine lv_if_eq (tgt := 108) hx hb d_M_reads_98 (by decide) (fun hc98 => ?_) (fun hc98 => ?_)
              · skip
                rw [xn_eq0 (by omega)] at hc98
                refine lv_iconst (v := nI 1) hx hb d_M_reads_108 (by decide +kernel) ?_
                refine lv_goto (tgt := 113) hx hb d_M_reads_109 (by decide) ?_
                refine xa_top (y := xb_i (decide ((t + 1) % 4 = 0) || decide (t + 1 = xd_cn K (xd_dp K (xk_h k)) (xk_h k % 2 ^ xd_dp K (xk_h k))))) (by first | exact xg_o1 (Or.inl hc98) | exact xg_o1 (Or.inr hc105) | exact xg_o0 hc98 hc105) ?_
                refine lv_istore (lv' := [(9, .int (xb_i (decide ((t + 1) % 4 = 0) || decide (t + 1 = xd_cn K (xd_dp K (xk_h k)) (xk_h k % 2 ^ xd_dp K (xk_h k)))))), (5, .int (nI (t + 1))), (6, .int (nI (if t % 4 = 0 then g + 1 else g))), (0, .ref (q 0)), (1, .int k), (2, .int (nI (xk_h k % 2 ^ xd_dp K (xk_h k)))), (3, .int (nI (xd_dp K (xk_h k)))), (4, .int (nI (xd_cn K (xd_dp K (xk_h k)) (xk_h k % 2 ^ xd_dp K (xk_h k))))), (7, .int (xb_i mo)), (8, .int (nI i))]) hx hb d_M_reads_113 hl (Nat.le_of_ble_eq_true rfl) rfl (fun ls hl => ?_)
                refine lv_aload_n hx hb d_M_reads_115 rfl (lv_at hl 3 rfl) ?_
                refine va_get (D := D) (ci := 5) (v := .ref (q 10)) (C := R_M) (T := F_M) (N := 17) hx hb hts (zi_M _) hown hK hP 0 rfl rfl 15 (by decide) (hts _ (List.mem_cons_of_mem _ zm_391)) (fun _ h9 => h9) rfl d_M_reads_116 ?_
                refine lv_iload hx hb d_M_reads_119 (lv_at hl 9 rfl) ?_
                refine xa_iald hx hb hK hP 10 9 rfl rfl (k := i) (by omega) (by decide) d_M_reads_121 ?_
                refine xa_top (y := e.1) hfe ?_
                refine lv_iload_n hx hb d_M_reads_122 rfl (lv_at hl 4 rfl) ?_
                refine lv_icmp_eq (tgt := 146) hx hb d_M_reads_123 (by decide) (fun hc123 => ?_) (fun hc123 => ?_)
                · skip
                  refine lv_iconst (v := nI 0) hx hb d_M_reads_146 (by decide +kernel) ?_
                  refine xa_top (y := xb_i (decide (e.1 ≠ k) && !((decide ((t + 1) % 4 = 0) || decide (t + 1 = xd_cn K (xd_dp K (xk_h k)) (xk_h k % 2 ^ xd_dp K (xk_h k)))) && decide (k < e.1)))) (by first | exact xg_m0 hc123 | exact xg_m1 hc128 hc139 | exact xg_m2 hc123 hc128 | exact xg_m3 hc123 hc139) ?_
                  refine lv_istore (lv' := [(7, .int (xb_i (decide (e.1 ≠ k) && !((decide ((t + 1) % 4 = 0) || decide (t + 1 = xd_cn K (xd_dp K (xk_h k)) (xk_h k % 2 ^ xd_dp K (xk_h k)))) && decide (k < e.1))))), (9, .int (xb_i (decide ((t + 1) % 4 = 0) || decide (t + 1 = xd_cn K (xd_dp K (xk_h k)) (xk_h k % 2 ^ xd_dp K (xk_h k)))))), (5, .int (nI (t + 1))), (6, .int (nI (if t % 4 = 0 then g + 1 else g))), (0, .ref (q 0)), (1, .int k), (2, .int (nI (xk_h k % 2 ^ xd_dp K (xk_h k)))), (3, .int (nI (xd_dp K (xk_h k)))), (4, .int (nI (xd_cn K (xd_dp K (xk_h k)) (xk_h k % 2 ^ xd_dp K (xk_h k))))), (8, .int (nI i))]) hx hb d_M_reads_147 hl (Nat.le_of_ble_eq_true rfl) rfl (fun ls hl => ?_)
                  refine lv_iinc (k := 9) (v := nI (i + 1)) (lv' := [(8, .int (nI (i + 1))), (7, .int (xb_i (decide (e.1 ≠ k) && !((decide ((t + 1) % 4 = 0) || decide (t + 1 = xd_cn K (xd_dp K (xk_h k)) (xk_h k % 2 ^ xd_dp K (xk_h k)))) && decide (k < e.1))))), (9, .int (xb_i (decide ((t + 1) % 4 = 0) || decide (t + 1 = xd_cn K (xd_dp K (xk_h k)) (xk_h k % 2 ^ xd_dp K (xk_h k)))))), (5, .int (nI (t + 1))), (6, .int (nI (if t % 4 = 0 then g + 1 else g))), (0, .ref (q 0)), (1, .int k), (2, .int (nI (xk_h k % 2 ^ xd_dp K (xk_h k)))), (3, .int (nI (xd_dp K (xk_h k)))), (4, .int (nI (xd_cn K (xd_dp K (xk_h k)) (xk_h k % 2 ^ xd_dp K (xk_h k)))))]) hx hb d_M_reads_149 hl rfl (xn_inc _) (Nat.le_of_ble_eq_true rfl) rfl (fun ls hl => ?_)
                  refine lv_goto (tgt := 36) hx hb d_M_reads_152 (by decide) ?_
                  exact ih36 (i + 1) (t + 1) (if t % 4 = 0 then g + 1 else g) (decide (e.1 ≠ k) && !((decide ((t + 1) % 4 = 0) || decide (t + 1 = xd_cn K (xd_dp K (xk_h k)) (xk_h k % 2 ^ xd_dp K (xk_h k)))) && decide (k < e.1))) ls (by omega) (by first | rw [xd_cn_take he, if_pos (by simpa using hc67), ht] | rw [xd_cn_take he, if_neg (by simpa using hc67), ht]) (by first | exact xo_J_in hM.2.1 hJ1 he (by simpa using hc67) (by rw [← ht]) (by rw [← ht]) | (rw [hc47]; exact xo_J_skip hJ1 he (by simpa using hc67))) (lv_sub hl [5, 6, 7, 8, 9, 3, 4, 1, 0] rfl) (by omega)
                · skip
                  refine lv_iload hx hb d_M_reads_126 (lv_at hl 0 rfl) ?_
                  refine lv_if_eq (tgt := 142) hx hb d_M_reads_128 (by decide) (fun hc128 => ?_) (fun hc128 => ?_)
                  · skip
                    rw [xb_0] at hc128
                    refine lv_iconst (v := nI 1) hx hb d_M_reads_142 (by decide +kernel) ?_
                    refine lv_goto (tgt := 147) hx hb d_M_reads_143 (by decide) ?_
                    refine xa_top (y := xb_i (decide (e.1 ≠ k) && !((decide ((t + 1) % 4 = 0) || decide (t + 1 = xd_cn K (xd_dp K (xk_h k)) (xk_h k % 2 ^ xd_dp K (xk_h k)))) && decide (k < e.1)))) (by first | exact xg_m0 hc123 | exact xg_m1 hc128 hc139 | exact xg_m2 hc123 hc128 | exact xg_m3 hc123 hc139) ?_
                    refine lv_istore (lv' := [(7, .int (xb_i (decide (e.1 ≠ k) && !((decide ((t + 1) % 4 = 0) || decide (t + 1 = xd_cn K (xd_dp K (xk_h k)) (xk_h k % 2 ^ xd_dp K (xk_h k)))) && decide (k < e.1))))), (9, .int (xb_i (decide ((t + 1) % 4 = 0) || decide (t + 1 = xd_cn K (xd_dp K (xk_h k)) (xk_h k % 2 ^ xd_dp K (xk_h k)))))), (5, .int (nI (t + 1))), (6, .int (nI (if t % 4 = 0 then g + 1 else g))), (0, .ref (q 0)), (1, .int k), (2, .int (nI (xk_h k % 2 ^ xd_dp K (xk_h k)))), (3, .int (nI (xd_dp K (xk_h k)))), (4, .int (nI (xd_cn K (xd_dp K (xk_h k)) (xk_h k % 2 ^ xd_dp K (xk_h k))))), (8, .int (nI i))]) hx hb d_M_reads_147 hl (Nat.le_of_ble_eq_true rfl) rfl (fun ls hl => ?_)
                    refine lv_iinc (k := 9) (v := nI (i + 1)) (lv' := [(8, .int (nI (i + 1))), (7, .int (xb_i (decide (e.1 ≠ k) && !((decide ((t + 1) % 4 = 0) || decide (t + 1 = xd_cn K (xd_dp K (xk_h k)) (xk_h k % 2 ^ xd_dp K (xk_h k)))) && decide (k < e.1))))), (9, .int (xb_i (decide ((t + 1) % 4 = 0) || decide (t + 1 = xd_cn K (xd_dp K (xk_h k)) (xk_h k % 2 ^ xd_dp K (xk_h k)))))), (5, .int (nI (t + 1))), (6, .int (nI (if t % 4 = 0 then g + 1 else g))), (0, .ref (q 0)), (1, .int k), (2, .int (nI (xk_h k % 2 ^ xd_dp K (xk_h k)))), (3, .int (nI (xd_dp K (xk_h k)))), (4, .int (nI (xd_cn K (xd_dp K (xk_h k)) (xk_h k % 2 ^ xd_dp K (xk_h k)))))]) hx hb d_M_reads_149 hl rfl (xn_inc _) (Nat.le_of_ble_eq_true rfl) rfl (fun ls hl => ?_)
                    refine lv_goto (tgt := 36) hx hb d_M_reads_152 (by decide) ?_
                    exact ih36 (i + 1) (t + 1) (if t % 4 = 0 then g + 1 else g) (decide (e.1 ≠ k) && !((decide ((t + 1) % 4 = 0) || decide (t + 1 = xd_cn K (xd_dp K (xk_h k)) (xk_h k % 2 ^ xd_dp K (xk_h k)))) && decide (k < e.1))) ls (by omega) (by first | rw [xd_cn_take he, if_pos (by simpa using hc67), ht] | rw [xd_cn_take he, if_neg (by simpa using hc67), ht]) (by first | exact xo_J_in hM.2.1 hJ1 he (by simpa using hc67) (by rw [← ht]) (by rw [← ht]) | (rw [hc47]; exact xo_J_skip hJ1 he (by simpa using hc67))) (lv_sub hl [5, 6, 7, 8, 9, 3, 4, 1, 0] rfl) (by omega)
                  · skip
                    rw [xb_1] at hc128
                    refine lv_aload_n hx hb d_M_reads_131 rfl (lv_at hl 3 rfl) ?_
                    refine va_get (D := D) (ci := 5) (v := .ref (q 10)) (C := R_M) (T := F_M) (N := 17) hx hb hts (zi_M _) hown hK hP 0 rfl rfl 15 (by decide) (hts _ (List.mem_cons_of_mem _ zm_391)) (fun _ h9 => h9) rfl d_M_reads_132 ?_
                    refine lv_iload hx hb d_M_reads_135 (lv_at hl 9 rfl) ?_
                    refine xa_iald hx hb hK hP 10 9 rfl rfl (k := i) (by omega) (by decide) d_M_reads_137 ?_
                    refine xa_top (y := e.1) hfe ?_
                    refine lv_iload_n hx hb d_M_reads_138 rfl (lv_at hl 4 rfl) ?_
                    refine lv_icmp_gt (tgt := 146) hx hb d_M_reads_139 (by decide) (fun hc139 => ?_) (fun hc139 => ?_)
                    · skip
                      refine lv_iconst (v := nI 0) hx hb d_M_reads_146 (by decide +kernel) ?_
                      refine xa_top (y := xb_i (decide (e.1 ≠ k) && !((decide ((t + 1) % 4 = 0) || decide (t + 1 = xd_cn K (xd_dp K (xk_h k)) (xk_h k % 2 ^ xd_dp K (xk_h k)))) && decide (k < e.1)))) (by first | exact xg_m0 hc123 | exact xg_m1 hc128 hc139 | exact xg_m2 hc123 hc128 | exact xg_m3 hc123 hc139) ?_
                      refine lv_istore (lv' := [(7, .int (xb_i (decide (e.1 ≠ k) && !((decide ((t + 1) % 4 = 0) || decide (t + 1 = xd_cn K (xd_dp K (xk_h k)) (xk_h k % 2 ^ xd_dp K (xk_h k)))) && decide (k < e.1))))), (9, .int (xb_i (decide ((t + 1) % 4 = 0) || decide (t + 1 = xd_cn K (xd_dp K (xk_h k)) (xk_h k % 2 ^ xd_dp K (xk_h k)))))), (5, .int (nI (t + 1))), (6, .int (nI (if t % 4 = 0 then g + 1 else g))), (0, .ref (q 0)), (1, .int k), (2, .int (nI (xk_h k % 2 ^ xd_dp K (xk_h k)))), (3, .int (nI (xd_dp K (xk_h k)))), (4, .int (nI (xd_cn K (xd_dp K (xk_h k)) (xk_h k % 2 ^ xd_dp K (xk_h k))))), (8, .int (nI i))]) hx hb d_M_reads_147 hl (Nat.le_of_ble_eq_true rfl) rfl (fun ls hl => ?_)
                      refine lv_iinc (k := 9) (v := nI (i + 1)) (lv' := [(8, .int (nI (i + 1))), (7, .int (xb_i (decide (e.1 ≠ k) && !((decide ((t + 1) % 4 = 0) || decide (t + 1 = xd_cn K (xd_dp K (xk_h k)) (xk_h k % 2 ^ xd_dp K (xk_h k)))) && decide (k < e.1))))), (9, .int (xb_i (decide ((t + 1) % 4 = 0) || decide (t + 1 = xd_cn K (xd_dp K (xk_h k)) (xk_h k % 2 ^ xd_dp K (xk_h k)))))), (5, .int (nI (t + 1))), (6, .int (nI (if t % 4 = 0 then g + 1 else g))), (0, .ref (q 0)), (1, .int k), (2, .int (nI (xk_h k % 2 ^ xd_dp K (xk_h k)))), (3, .int (nI (xd_dp K (xk_h k)))), (4, .int (nI (xd_cn K (xd_dp K (xk_h k)) (xk_h k % 2 ^ xd_dp K (xk_h k)))))]) hx hb d_M_reads_149 hl rfl (xn_inc _) (Nat.le_of_ble_eq_true rfl) rfl (fun ls hl => ?_)
                      refine lv_goto (tgt := 36) hx hb d_M_reads_152 (by decide) ?_
                      exact ih36 (i + 1) (t + 1) (if t % 4 = 0 then g + 1 else g) (decide (e.1 ≠ k) && !((decide ((t + 1) % 4 = 0) || decide (t + 1 = xd_cn K (xd_dp K (xk_h k)) (xk_h k % 2 ^ xd_dp K (xk_h k)))) && decide (k < e.1))) ls (by omega) (by first | rw [xd_cn_take he, if_pos (by simpa using hc67), ht] | rw [xd_cn_take he, if_neg (by simpa using hc67), ht]) (by first | exact xo_J_in hM.2.1 hJ1 he (by simpa using hc67) (by rw [← ht]) (by rw [← ht]) | (rw [hc47]; exact xo_J_skip hJ1 he (by simpa using hc67))) (lv_sub hl [5, 6, 7, 8, 9, 3, 4, 1, 0] rfl) (by omega)
                    · skip
                      refine lv_iconst (v := nI 1) hx hb d_M_reads_142 (by decide +kernel) ?_
                      refine lv_goto (tgt := 147) hx hb d_M_reads_143 (by decide) ?_
                      refine xa_top (y := xb_i (decide (e.1 ≠ k) && !((decide ((t + 1) % 4 = 0) || decide (t + 1 = xd_cn K (xd_dp K (xk_h k)) (xk_h k % 2 ^ xd_dp K (xk_h k)))) && decide (k < e.1)))) (by first | exact xg_m0 hc123 | exact xg_m1 hc128 hc139 | exact xg_m2 hc123 hc128 | exact xg_m3 hc123 hc139) ?_
                      refine lv_istore (lv' := [(7, .int (xb_i (decide (e.1 ≠ k) && !((decide ((t + 1) % 4 = 0) || decide (t + 1 = xd_cn K (xd_dp K (xk_h k)) (xk_h k % 2 ^ xd_dp K (xk_h k)))) && decide (k < e.1))))), (9, .int (xb_i (decide ((t + 1) % 4 = 0) || decide (t + 1 = xd_cn K (xd_dp K (xk_h k)) (xk_h k % 2 ^ xd_dp K (xk_h k)))))), (5, .int (nI (t + 1))), (6, .int (nI (if t % 4 = 0 then g + 1 else g))), (0, .ref (q 0)), (1, .int k), (2, .int (nI (xk_h k % 2 ^ xd_dp K (xk_h k)))), (3, .int (nI (xd_dp K (xk_h k)))), (4, .int (nI (xd_cn K (xd_dp K (xk_h k)) (xk_h k % 2 ^ xd_dp K (xk_h k))))), (8, .int (nI i))]) hx hb d_M_reads_147 hl (Nat.le_of_ble_eq_true rfl) rfl (fun ls hl => ?_)
                      refine lv_iinc (k := 9) (v := nI (i + 1)) (lv' := [(8, .int (nI (i + 1))), (7, .int (xb_i (decide (e.1 ≠ k) && !((decide ((t + 1) % 4 = 0) || decide (t + 1 = xd_cn K (xd_dp K (xk_h k)) (xk_h k % 2 ^ xd_dp K (xk_h k)))) && decide (k < e.1))))), (9, .int (xb_i (decide ((t + 1) % 4 = 0) || decide (t + 1 = xd_cn K (xd_dp K (xk_h k)) (xk_h k % 2 ^ xd_dp K (xk_h k)))))), (5, .int (nI (t + 1))), (6, .int (nI (if t % 4 = 0 then g + 1 else g))), (0, .ref (q 0)), (1, .int k), (2, .int (nI (xk_h k % 2 ^ xd_dp K (xk_h k)))), (3, .int (nI (xd_dp K (xk_h k)))), (4, .int (nI (xd_cn K (xd_dp K (xk_h k)) (xk_h k % 2 ^ xd_dp K (xk_h k)))))]) hx hb d_M_reads_149 hl rfl (xn_inc _) (Nat.le_of_ble_eq_true rfl) rfl (fun ls hl => ?_)
                      refine lv_goto (tgt := 36) hx hb d_M_reads_152 (by decide) ?_
                      exact ih36 (i + 1) (t + 1) (if t % 4 = 0 then g + 1 else g) (decide (e.1 ≠ k) && !((decide ((t + 1) % 4 = 0) || decide (t + 1 = xd_cn K (xd_dp K (xk_h k)) (xk_h k % 2 ^ xd_dp K (xk_h k)))) && decide (k < e.1))) ls (by omega) (by first | rw [xd_cn_take he, if_pos (by simpa using hc67), ht] | rw [xd_cn_take he, if_neg (by simpa using hc67), ht]) (by first | exact xo_J_in hM.2.1 hJ1 he (by simpa using hc67) (by rw [← ht]) (by rw [← ht]) | (rw [hc47]; exact xo_J_skip hJ1 he (by simpa using hc67))) (lv_sub hl [5, 6, 7, 8, 9, 3, 4, 1, 0] rfl) (by omega)
              · skip
                rw [xn_eq0 (by omega)] at hc98
                refine lv_iload hx hb d_M_reads_101 (lv_at hl 0 rfl) ?_
                refine lv_iload hx hb d_M_reads_103 (lv_at hl 6 rfl) ?_
                refine lv_icmp_ne (tgt := 112) hx hb d_M_reads_105 (by decide) (fun hc105 => ?_) (fun hc105 => ?_)
                · skip
                  rw [nI_eq (by omega) (by omega)] at hc105
                  refine lv_iconst (v := nI 0) hx hb d_M_reads_112 (by decide +kernel) ?_
                  refine xa_top (y := xb_i (decide ((t + 1) % 4 = 0) || decide (t + 1 = xd_cn K (xd_dp K (xk_h k)) (xk_h k % 2 ^ xd_dp K (xk_h k))))) (by first | exact xg_o1 (Or.inl hc98) | exact xg_o1 (Or.inr hc105) | exact xg_o0 hc98 hc105) ?_
                  refine lv_istore (lv' := [(9, .int (xb_i (decide ((t + 1) % 4 = 0) || decide (t + 1 = xd_cn K (xd_dp K (xk_h k)) (xk_h k % 2 ^ xd_dp K (xk_h k)))))), (5, .int (nI (t + 1))), (6, .int (nI (if t % 4 = 0 then g + 1 else g))), (0, .ref (q 0)), (1, .int k), (2, .int (nI (xk_h k % 2 ^ xd_dp K (xk_h k)))), (3, .int (nI (xd_dp K (xk_h k)))), (4, .int (nI (xd_cn K (xd_dp K (xk_h k)) (xk_h k % 2 ^ xd_dp K (xk_h k))))), (7, .int (xb_i mo)), (8, .int (nI i))]) hx hb d_M_reads_113 hl (Nat.le_of_ble_eq_true rfl) rfl (fun ls hl => ?_)
                  refine lv_aload_n hx hb d_M_reads_115 rfl (lv_at hl 3 rfl) ?_
                  refine va_get (D := D) (ci := 5) (v := .ref (q 10)) (C := R_M) (T := F_M) (N := 17) hx hb hts (zi_M _) hown hK hP 0 rfl rfl 15 (by decide) (hts _ (List.mem_cons_of_mem _ zm_391)) (fun _ h9 => h9) rfl d_M_reads_116 ?_
                  refine lv_iload hx hb d_M_reads_119 (lv_at hl 9 rfl) ?_
                  refine xa_iald hx hb hK hP 10 9 rfl rfl (k := i) (by omega) (by decide) d_M_reads_121 ?_
                  refine xa_top (y := e.1) hfe ?_
                  refine lv_iload_n hx hb d_M_reads_122 rfl (lv_at hl 4 rfl) ?_
                  refine lv_icmp_eq (tgt := 146) hx hb d_M_reads_123 (by decide) (fun hc123 => ?_) (fun hc123 => ?_)
                  · skip
                    refine lv_iconst (v := nI 0) hx hb d_M_reads_146 (by decide +kernel) ?_
                    refine xa_top (y := xb_i (decide (e.1 ≠ k) && !((decide ((t + 1) % 4 = 0) || decide (t + 1 = xd_cn K (xd_dp K (xk_h k)) (xk_h k % 2 ^ xd_dp K (xk_h k)))) && decide (k < e.1)))) (by first | exact xg_m0 hc123 | exact xg_m1 hc128 hc139 | exact xg_m2 hc123 hc128 | exact xg_m3 hc123 hc139) ?_
                    refine lv_istore (lv' := [(7, .int (xb_i (decide (e.1 ≠ k) && !((decide ((t + 1) % 4 = 0) || decide (t + 1 = xd_cn K (xd_dp K (xk_h k)) (xk_h k % 2 ^ xd_dp K (xk_h k)))) && decide (k < e.1))))), (9, .int (xb_i (decide ((t + 1) % 4 = 0) || decide (t + 1 = xd_cn K (xd_dp K (xk_h k)) (xk_h k % 2 ^ xd_dp K (xk_h k)))))), (5, .int (nI (t + 1))), (6, .int (nI (if t % 4 = 0 then g + 1 else g))), (0, .ref (q 0)), (1, .int k), (2, .int (nI (xk_h k % 2 ^ xd_dp K (xk_h k)))), (3, .int (nI (xd_dp K (xk_h k)))), (4, .int (nI (xd_cn K (xd_dp K (xk_h k)) (xk_h k % 2 ^ xd_dp K (xk_h k))))), (8, .int (nI i))]) hx hb d_M_reads_147 hl (Nat.le_of_ble_eq_true rfl) rfl (fun ls hl => ?_)
                    refine lv_iinc (k := 9) (v := nI (i + 1)) (lv' := [(8, .int (nI (i + 1))), (7, .int (xb_i (decide (e.1 ≠ k) && !((decide ((t + 1) % 4 = 0) || decide (t + 1 = xd_cn K (xd_dp K (xk_h k)) (xk_h k % 2 ^ xd_dp K (xk_h k)))) && decide (k < e.1))))), (9, .int (xb_i (decide ((t + 1) % 4 = 0) || decide (t + 1 = xd_cn K (xd_dp K (xk_h k)) (xk_h k % 2 ^ xd_dp K (xk_h k)))))), (5, .int (nI (t + 1))), (6, .int (nI (if t % 4 = 0 then g + 1 else g))), (0, .ref (q 0)), (1, .int k), (2, .int (nI (xk_h k % 2 ^ xd_dp K (xk_h k)))), (3, .int (nI (xd_dp K (xk_h k)))), (4, .int (nI (xd_cn K (xd_dp K (xk_h k)) (xk_h k % 2 ^ xd_dp K (xk_h k)))))]) hx hb d_M_reads_149 hl rfl (xn_inc _) (Nat.le_of_ble_eq_true rfl) rfl (fun ls hl => ?_)
                    refine lv_goto (tgt := 36) hx hb d_M_reads_152 (by decide) ?_
                    exact ih36 (i + 1) (t + 1) (if t % 4 = 0 then g + 1 else g) (decide (e.1 ≠ k) && !((decide ((t + 1) % 4 = 0) || decide (t + 1 = xd_cn K (xd_dp K (xk_h k)) (xk_h k % 2 ^ xd_dp K (xk_h k)))) && decide (k < e.1))) ls (by omega) (by first | rw [xd_cn_take he, if_pos (by simpa using hc67), ht] | rw [xd_cn_take he, if_neg (by simpa using hc67), ht]) (by first | exact xo_J_in hM.2.1 hJ1 he (by simpa using hc67) (by rw [← ht]) (by rw [← ht]) | (rw [hc47]; exact xo_J_skip hJ1 he (by simpa using hc67))) (lv_sub hl [5, 6, 7, 8, 9, 3, 4, 1, 0] rfl) (by omega)
                  · skip
                    refine lv_iload hx hb d_M_reads_126 (lv_at hl 0 rfl) ?_
                    refine lv_if_eq (tgt := 142) hx hb d_M_reads_128 (by decide) (fun hc128 => ?_) (fun hc128 => ?_)
                    · skip
                      rw [xb_0] at hc128
                      refine lv_iconst (v := nI 1) hx hb d_M_reads_142 (by decide +kernel) ?_
                      refine lv_goto (tgt := 147) hx hb d_M_reads_143 (by decide) ?_
                      refine xa_top (y := xb_i (decide (e.1 ≠ k) && !((decide ((t + 1) % 4 = 0) || decide (t + 1 = xd_cn K (xd_dp K (xk_h k)) (xk_h k % 2 ^ xd_dp K (xk_h k)))) && decide (k < e.1)))) (by first | exact xg_m0 hc123 | exact xg_m1 hc128 hc139 | exact xg_m2 hc123 hc128 | exact xg_m3 hc123 hc139) ?_
                      refine lv_istore (lv' := [(7, .int (xb_i (decide (e.1 ≠ k) && !((decide ((t + 1) % 4 = 0) || decide (t + 1 = xd_cn K (xd_dp K (xk_h k)) (xk_h k % 2 ^ xd_dp K (xk_h k)))) && decide (k < e.1))))), (9, .int (xb_i (decide ((t + 1) % 4 = 0) || decide (t + 1 = xd_cn K (xd_dp K (xk_h k)) (xk_h k % 2 ^ xd_dp K (xk_h k)))))), (5, .int (nI (t + 1))), (6, .int (nI (if t % 4 = 0 then g + 1 else g))), (0, .ref (q 0)), (1, .int k), (2, .int (nI (xk_h k % 2 ^ xd_dp K (xk_h k)))), (3, .int (nI (xd_dp K (xk_h k)))), (4, .int (nI (xd_cn K (xd_dp K (xk_h k)) (xk_h k % 2 ^ xd_dp K (xk_h k))))), (8, .int (nI i))]) hx hb d_M_reads_147 hl (Nat.le_of_ble_eq_true rfl) rfl (fun ls hl => ?_)
                      refine lv_iinc (k := 9) (v := nI (i + 1)) (lv' := [(8, .int (nI (i + 1))), (7, .int (xb_i (decide (e.1 ≠ k) && !((decide ((t + 1) % 4 = 0) || decide (t + 1 = xd_cn K (xd_dp K (xk_h k)) (xk_h k % 2 ^ xd_dp K (xk_h k)))) && decide (k < e.1))))), (9, .int (xb_i (decide ((t + 1) % 4 = 0) || decide (t + 1 = xd_cn K (xd_dp K (xk_h k)) (xk_h k % 2 ^ xd_dp K (xk_h k)))))), (5, .int (nI (t + 1))), (6, .int (nI (if t % 4 = 0 then g + 1 else g))), (0, .ref (q 0)), (1, .int k), (2, .int (nI (xk_h k % 2 ^ xd_dp K (xk_h k)))), (3, .int (nI (xd_dp K (xk_h k)))), (4, .int (nI (xd_cn K (xd_dp K (xk_h k)) (xk_h k % 2 ^ xd_dp K (xk_h k)))))]) hx hb d_M_reads_149 hl rfl (xn_inc _) (Nat.le_of_ble_eq_true rfl) rfl (fun ls hl => ?_)
                      refine lv_goto (tgt := 36) hx hb d_M_reads_152 (by decide) ?_
                      exact ih36 (i + 1) (t + 1) (if t % 4 = 0 then g + 1 else g) (decide (e.1 ≠ k) && !((decide ((t + 1) % 4 = 0) || decide (t + 1 = xd_cn K (xd_dp K (xk_h k)) (xk_h k % 2 ^ xd_dp K (xk_h k)))) && decide (k < e.1))) ls (by omega) (by first | rw [xd_cn_take he, if_pos (by simpa using hc67), ht] | rw [xd_cn_take he, if_neg (by simpa using hc67), ht]) (by first | exact xo_J_in hM.2.1 hJ1 he (by simpa using hc67) (by rw [← ht]) (by rw [← ht]) | (rw [hc47]; exact xo_J_skip hJ1 he (by simpa using hc67))) (lv_sub hl [5, 6, 7, 8, 9, 3, 4, 1, 0] rfl) (by omega)
                    · skip
                      rw [xb_1] at hc128
                      refine lv_aload_n hx hb d_M_reads_131 rfl (lv_at hl 3 rfl) ?_
                      refine va_get (D := D) (ci := 5) (v := .ref (q 10)) (C := R_M) (T := F_M) (N := 17) hx hb hts (zi_M _) hown hK hP 0 rfl rfl 15 (by decide) (hts _ (List.mem_cons_of_mem _ zm_391)) (fun _ h9 => h9) rfl d_M_reads_132 ?_
                      refine lv_iload hx hb d_M_reads_135 (lv_at hl 9 rfl) ?_
                      refine xa_iald hx hb hK hP 10 9 rfl rfl (k := i) (by omega) (by decide) d_M_reads_137 ?_
                      refine xa_top (y := e.1) hfe ?_
                      refine lv_iload_n hx hb d_M_reads_138 rfl (lv_at hl 4 rfl) ?_
                      refine lv_icmp_gt (tgt := 146) hx hb d_M_reads_139 (by decide) (fun hc139 => ?_) (fun hc139 => ?_)
                      · skip
                        refine lv_iconst (v := nI 0) hx hb d_M_reads_146 (by decide +kernel) ?_
                        refine xa_top (y := xb_i (decide (e.1 ≠ k) && !((decide ((t + 1) % 4 = 0) || decide (t + 1 = xd_cn K (xd_dp K (xk_h k)) (xk_h k % 2 ^ xd_dp K (xk_h k)))) && decide (k < e.1)))) (by first | exact xg_m0 hc123 | exact xg_m1 hc128 hc139 | exact xg_m2 hc123 hc128 | exact xg_m3 hc123 hc139) ?_
                        refine lv_istore (lv' := [(7, .int (xb_i (decide (e.1 ≠ k) && !((decide ((t + 1) % 4 = 0) || decide (t + 1 = xd_cn K (xd_dp K (xk_h k)) (xk_h k % 2 ^ xd_dp K (xk_h k)))) && decide (k < e.1))))), (9, .int (xb_i (decide ((t + 1) % 4 = 0) || decide (t + 1 = xd_cn K (xd_dp K (xk_h k)) (xk_h k % 2 ^ xd_dp K (xk_h k)))))), (5, .int (nI (t + 1))), (6, .int (nI (if t % 4 = 0 then g + 1 else g))), (0, .ref (q 0)), (1, .int k), (2, .int (nI (xk_h k % 2 ^ xd_dp K (xk_h k)))), (3, .int (nI (xd_dp K (xk_h k)))), (4, .int (nI (xd_cn K (xd_dp K (xk_h k)) (xk_h k % 2 ^ xd_dp K (xk_h k))))), (8, .int (nI i))]) hx hb d_M_reads_147 hl (Nat.le_of_ble_eq_true rfl) rfl (fun ls hl => ?_)
                        refine lv_iinc (k := 9) (v := nI (i + 1)) (lv' := [(8, .int (nI (i + 1))), (7, .int (xb_i (decide (e.1 ≠ k) && !((decide ((t + 1) % 4 = 0) || decide (t + 1 = xd_cn K (xd_dp K (xk_h k)) (xk_h k % 2 ^ xd_dp K (xk_h k)))) && decide (k < e.1))))), (9, .int (xb_i (decide ((t + 1) % 4 = 0) || decide (t + 1 = xd_cn K (xd_dp K (xk_h k)) (xk_h k % 2 ^ xd_dp K (xk_h k)))))), (5, .int (nI (t + 1))), (6, .int (nI (if t % 4 = 0 then g + 1 else g))), (0, .ref (q 0)), (1, .int k), (2, .int (nI (xk_h k % 2 ^ xd_dp K (xk_h k)))), (3, .int (nI (xd_dp K (xk_h k)))), (4, .int (nI (xd_cn K (xd_dp K (xk_h k)) (xk_h k % 2 ^ xd_dp K (xk_h k)))))]) hx hb d_M_reads_149 hl rfl (xn_inc _) (Nat.le_of_ble_eq_true rfl) rfl (fun ls hl => ?_)
                        refine lv_goto (tgt := 36) hx hb d_M_reads_152 (by decide) ?_
                        exact ih36 (i + 1) (t + 1) (if t % 4 = 0 then g + 1 else g) (decide (e.1 ≠ k) && !((decide ((t + 1) % 4 = 0) || decide (t + 1 = xd_cn K (xd_dp K (xk_h k)) (xk_h k % 2 ^ xd_dp K (xk_h k)))) && decide (k < e.1))) ls (by omega) (by first | rw [xd_cn_take he, if_pos (by simpa using hc67), ht] | rw [xd_cn_take he, if_neg (by simpa using hc67), ht]) (by first | exact xo_J_in hM.2.1 hJ1 he (by simpa using hc67) (by rw [← ht]) (by rw [← ht]) | (rw [hc47]; exact xo_J_skip hJ1 he (by simpa using hc67))) (lv_sub hl [5, 6, 7, 8, 9, 3, 4, 1, 0] rfl) (by omega)
                      · skip
                        refine lv_iconst (v := nI 1) hx hb d_M_reads_142 (by decide +kernel) ?_
                        refine lv_goto (tgt := 147) hx hb d_M_reads_143 (by decide) ?_
                        refine xa_top (y := xb_i (decide (e.1 ≠ k) && !((decide ((t + 1) % 4 = 0) || decide (t + 1 = xd_cn K (xd_dp K (xk_h k)) (xk_h k % 2 ^ xd_dp K (xk_h k)))) && decide (k < e.1)))) (by first | exact xg_m0 hc123 | exact xg_m1 hc128 hc139 | exact xg_m2 hc123 hc128 | exact xg_m3 hc123 hc139) ?_
                        refine lv_istore (lv' := [(7, .int (xb_i (decide (e.1 ≠ k) && !((decide ((t + 1) % 4 = 0) || decide (t + 1 = xd_cn K (xd_dp K (xk_h k)) (xk_h k % 2 ^ xd_dp K (xk_h k)))) && decide (k < e.1))))), (9, .int (xb_i (decide ((t + 1) % 4 = 0) || decide (t + 1 = xd_cn K (xd_dp K (xk_h k)) (xk_h k % 2 ^ xd_dp K (xk_h k)))))), (5, .int (nI (t + 1))), (6, .int (nI (if t % 4 = 0 then g + 1 else g))), (0, .ref (q 0)), (1, .int k), (2, .int (nI (xk_h k % 2 ^ xd_dp K (xk_h k)))), (3, .int (nI (xd_dp K (xk_h k)))), (4, .int (nI (xd_cn K (xd_dp K (xk_h k)) (xk_h k % 2 ^ xd_dp K (xk_h k))))), (8, .int (nI i))]) hx hb d_M_reads_147 hl (Nat.le_of_ble_eq_true rfl) rfl (fun ls hl => ?_)
                        refine lv_iinc (k := 9) (v := nI (i + 1)) (lv' := [(8, .int (nI (i + 1))), (7, .int (xb_i (decide (e.1 ≠ k) && !((decide ((t + 1) % 4 = 0) || decide (t + 1 = xd_cn K (xd_dp K (xk_h k)) (xk_h k % 2 ^ xd_dp K (xk_h k)))) && decide (k < e.1))))), (9, .int (xb_i (decide ((t + 1) % 4 = 0) || decide (t + 1 = xd_cn K (xd_dp K (xk_h k)) (xk_h k % 2 ^ xd_dp K (xk_h k)))))), (5, .int (nI (t + 1))), (6, .int (nI (if t % 4 = 0 then g + 1 else g))), (0, .ref (q 0)), (1, .int k), (2, .int (nI (xk_h k % 2 ^ xd_dp K (xk_h k)))), (3, .int (nI (xd_dp K (xk_h k)))), (4, .int (nI (xd_cn K (xd_dp K (xk_h k)) (xk_h k % 2 ^ xd_dp K (xk_h k)))))]) hx hb d_M_reads_149 hl rfl (xn_inc _) (Nat.le_of_ble_eq_true rfl) rfl (fun ls hl => ?_)
                        refine lv_goto (tgt := 36) hx hb d_M_reads_152 (by decide) ?_
                        exact ih36 (i + 1) (t + 1) (if t % 4 = 0 then g + 1 else g) (decide (e.1 ≠ k) && !((decide ((t + 1) % 4 = 0) || decide (t + 1 = xd_cn K (xd_dp K (xk_h k)) (xk_h k % 2 ^ xd_dp K (xk_h k)))) && decide (k < e.1))) ls (by omega) (by first | rw [xd_cn_take he, if_pos (by simpa using hc67), ht] | rw [xd_cn_take he, if_neg (by simpa using hc67), ht]) (by first | exact xo_J_in hM.2.1 hJ1 he (by simpa using hc67) (by rw [← ht]) (by rw [← ht]) | (rw [hc47]; exact xo_J_skip hJ1 he (by simpa using hc67))) (lv_sub hl [5, 6, 7, 8, 9, 3, 4, 1, 0] rfl) (by omega)
                · skip
                  rw [nI_eq (by omega) (by omega)] at hc105
                  refine lv_iconst (v := nI 1) hx hb d_M_reads_108 (by decide +kernel) ?_
                  refine lv_goto (tgt := 113) hx hb d_M_reads_109 (by decide) ?_
                  refine xa_top (y := xb_i (decide ((t + 1) % 4 = 0) || decide (t + 1 = xd_cn K (xd_dp K (xk_h k)) (xk_h k % 2 ^ xd_dp K (xk_h k))))) (by first | exact xg_o1 (Or.inl hc98) | exact xg_o1 (Or.inr hc105) | exact xg_o0 hc98 hc105) ?_
                  refine lv_istore (lv' := [(9, .int (xb_i (decide ((t + 1) % 4 = 0) || decide (t + 1 = xd_cn K (xd_dp K (xk_h k)) (xk_h k % 2 ^ xd_dp K (xk_h k)))))), (5, .int (nI (t + 1))), (6, .int (nI (if t % 4 = 0 then g + 1 else g))), (0, .ref (q 0)), (1, .int k), (2, .int (nI (xk_h k % 2 ^ xd_dp K (xk_h k)))), (3, .int (nI (xd_dp K (xk_h k)))), (4, .int (nI (xd_cn K (xd_dp K (xk_h k)) (xk_h k % 2 ^ xd_dp K (xk_h k))))), (7, .int (xb_i mo)), (8, .int (nI i))]) hx hb d_M_reads_113 hl (Nat.le_of_ble_eq_true rfl) rfl (fun ls hl => ?_)
                  refine lv_aload_n hx hb d_M_reads_115 rfl (lv_at hl 3 rfl) ?_
                  refine va_get (D := D) (ci := 5) (v := .ref (q 10)) (C := R_M) (T := F_M) (N := 17) hx hb hts (zi_M _) hown hK hP 0 rfl rfl 15 (by decide) (hts _ (List.mem_cons_of_mem _ zm_391)) (fun _ h9 => h9) rfl d_M_reads_116 ?_
                  refine lv_iload hx hb d_M_reads_119 (lv_at hl 9 rfl) ?_
                  refine xa_iald hx hb hK hP 10 9 rfl rfl (k := i) (by omega) (by decide) d_M_reads_121 ?_
                  refine xa_top (y := e.1) hfe ?_
                  refine lv_iload_n hx hb d_M_reads_122 rfl (lv_at hl 4 rfl) ?_
                  refine lv_icmp_eq (tgt := 146) hx hb d_M_reads_123 (by decide) (fun hc123 => ?_) (fun hc123 => ?_)
                  · skip
                    refine lv_iconst (v := nI 0) hx hb d_M_reads_146 (by decide +kernel) ?_
                    refine xa_top (y := xb_i (decide (e.1 ≠ k) && !((decide ((t + 1) % 4 = 0) || decide (t + 1 = xd_cn K (xd_dp K (xk_h k)) (xk_h k % 2 ^ xd_dp K (xk_h k)))) && decide (k < e.1)))) (by first | exact xg_m0 hc123 | exact xg_m1 hc128 hc139 | exact xg_m2 hc123 hc128 | exact xg_m3 hc123 hc139) ?_
                    refine lv_istore (lv' := [(7, .int (xb_i (decide (e.1 ≠ k) && !((decide ((t + 1) % 4 = 0) || decide (t + 1 = xd_cn K (xd_dp K (xk_h k)) (xk_h k % 2 ^ xd_dp K (xk_h k)))) && decide (k < e.1))))), (9, .int (xb_i (decide ((t + 1) % 4 = 0) || decide (t + 1 = xd_cn K (xd_dp K (xk_h k)) (xk_h k % 2 ^ xd_dp K (xk_h k)))))), (5, .int (nI (t + 1))), (6, .int (nI (if t % 4 = 0 then g + 1 else g))), (0, .ref (q 0)), (1, .int k), (2, .int (nI (xk_h k % 2 ^ xd_dp K (xk_h k)))), (3, .int (nI (xd_dp K (xk_h k)))), (4, .int (nI (xd_cn K (xd_dp K (xk_h k)) (xk_h k % 2 ^ xd_dp K (xk_h k))))), (8, .int (nI i))]) hx hb d_M_reads_147 hl (Nat.le_of_ble_eq_true rfl) rfl (fun ls hl => ?_)
                    refine lv_iinc (k := 9) (v := nI (i + 1)) (lv' := [(8, .int (nI (i + 1))), (7, .int (xb_i (decide (e.1 ≠ k) && !((decide ((t + 1) % 4 = 0) || decide (t + 1 = xd_cn K (xd_dp K (xk_h k)) (xk_h k % 2 ^ xd_dp K (xk_h k)))) && decide (k < e.1))))), (9, .int (xb_i (decide ((t + 1) % 4 = 0) || decide (t + 1 = xd_cn K (xd_dp K (xk_h k)) (xk_h k % 2 ^ xd_dp K (xk_h k)))))), (5, .int (nI (t + 1))), (6, .int (nI (if t % 4 = 0 then g + 1 else g))), (0, .ref (q 0)), (1, .int k), (2, .int (nI (xk_h k % 2 ^ xd_dp K (xk_h k)))), (3, .int (nI (xd_dp K (xk_h k)))), (4, .int (nI (xd_cn K (xd_dp K (xk_h k)) (xk_h k % 2 ^ xd_dp K (xk_h k)))))]) hx hb d_M_reads_149 hl rfl (xn_inc _) (Nat.le_of_ble_eq_true rfl) rfl (fun ls hl => ?_)
                    refine lv_goto (tgt := 36) hx hb d_M_reads_152 (by decide) ?_
                    exact ih36 (i + 1) (t + 1) (if t % 4 = 0 then g + 1 else g) (decide (e.1 ≠ k) && !((decide ((t + 1) % 4 = 0) || decide (t + 1 = xd_cn K (xd_dp K (xk_h k)) (xk_h k % 2 ^ xd_dp K (xk_h k)))) && decide (k < e.1))) ls (by omega) (by first | rw [xd_cn_take he, if_pos (by simpa using hc67), ht] | rw [xd_cn_take he, if_neg (by simpa using hc67), ht]) (by first | exact xo_J_in hM.2.1 hJ1 he (by simpa using hc67) (by rw [← ht]) (by rw [← ht]) | (rw [hc47]; exact xo_J_skip hJ1 he (by simpa using hc67))) (lv_sub hl [5, 6, 7, 8, 9, 3, 4, 1, 0] rfl) (by omega)
                  · skip
                    refine lv_iload hx hb d_M_reads_126 (lv_at hl 0 rfl) ?_
                    refine lv_if_eq (tgt := 142) hx hb d_M_reads_128 (by decide) (fun hc128 => ?_) (fun hc128 => ?_)
                    · skip
                      rw [xb_0] at hc128
                      refine lv_iconst (v := nI 1) hx hb d_M_reads_142 (by decide +kernel) ?_
                      refine lv_goto (tgt := 147) hx hb d_M_reads_143 (by decide) ?_
                      refine xa_top (y := xb_i (decide (e.1 ≠ k) && !((decide ((t + 1) % 4 = 0) || decide (t + 1 = xd_cn K (xd_dp K (xk_h k)) (xk_h k % 2 ^ xd_dp K (xk_h k)))) && decide (k < e.1)))) (by first | exact xg_m0 hc123 | exact xg_m1 hc128 hc139 | exact xg_m2 hc123 hc128 | exact xg_m3 hc123 hc139) ?_
                      refine lv_istore (lv' := [(7, .int (xb_i (decide (e.1 ≠ k) && !((decide ((t + 1) % 4 = 0) || decide (t + 1 = xd_cn K (xd_dp K (xk_h k)) (xk_h k % 2 ^ xd_dp K (xk_h k)))) && decide (k < e.1))))), (9, .int (xb_i (decide ((t + 1) % 4 = 0) || decide (t + 1 = xd_cn K (xd_dp K (xk_h k)) (xk_h k % 2 ^ xd_dp K (xk_h k)))))), (5, .int (nI (t + 1))), (6, .int (nI (if t % 4 = 0 then g + 1 else g))), (0, .ref (q 0)), (1, .int k), (2, .int (nI (xk_h k % 2 ^ xd_dp K (xk_h k)))), (3, .int (nI (xd_dp K (xk_h k)))), (4, .int (nI (xd_cn K (xd_dp K (xk_h k)) (xk_h k % 2 ^ xd_dp K (xk_h k))))), (8, .int (nI i))]) hx hb d_M_reads_147 hl (Nat.le_of_ble_eq_true rfl) rfl (fun ls hl => ?_)
                      refine lv_iinc (k := 9) (v := nI (i + 1)) (lv' := [(8, .int (nI (i + 1))), (7, .int (xb_i (decide (e.1 ≠ k) && !((decide ((t + 1) % 4 = 0) || decide (t + 1 = xd_cn K (xd_dp K (xk_h k)) (xk_h k % 2 ^ xd_dp K (xk_h k)))) && decide (k < e.1))))), (9, .int (xb_i (decide ((t + 1) % 4 = 0) || decide (t + 1 = xd_cn K (xd_dp K (xk_h k)) (xk_h k % 2 ^ xd_dp K (xk_h k)))))), (5, .int (nI (t + 1))), (6, .int (nI (if t % 4 = 0 then g + 1 else g))), (0, .ref (q 0)), (1, .int k), (2, .int (nI (xk_h k % 2 ^ xd_dp K (xk_h k)))), (3, .int (nI (xd_dp K (xk_h k)))), (4, .int (nI (xd_cn K (xd_dp K (xk_h k)) (xk_h k % 2 ^ xd_dp K (xk_h k)))))]) hx hb d_M_reads_149 hl rfl (xn_inc _) (Nat.le_of_ble_eq_true rfl) rfl (fun ls hl => ?_)
                      refine lv_goto (tgt := 36) hx hb d_M_reads_152 (by decide) ?_
                      exact ih36 (i + 1) (t + 1) (if t % 4 = 0 then g + 1 else g) (decide (e.1 ≠ k) && !((decide ((t + 1) % 4 = 0) || decide (t + 1 = xd_cn K (xd_dp K (xk_h k)) (xk_h k % 2 ^ xd_dp K (xk_h k)))) && decide (k < e.1))) ls (by omega) (by first | rw [xd_cn_take he, if_pos (by simpa using hc67), ht] | rw [xd_cn_take he, if_neg (by simpa using hc67), ht]) (by first | exact xo_J_in hM.2.1 hJ1 he (by simpa using hc67) (by rw [← ht]) (by rw [← ht]) | (rw [hc47]; exact xo_J_skip hJ1 he (by simpa using hc67))) (lv_sub hl [5, 6, 7, 8, 9, 3, 4, 1, 0] rfl) (by omega)
                    · skip
                      rw [xb_1] at hc128
                      refine lv_aload_n hx hb d_M_reads_131 rfl (lv_at hl 3 rfl) ?_
                      refine va_get (D := D) (ci := 5) (v := .ref (q 10)) (C := R_M) (T := F_M) (N := 17) hx hb hts (zi_M _) hown hK hP 0 rfl rfl 15 (by decide) (hts _ (List.mem_cons_of_mem _ zm_391)) (fun _ h9 => h9) rfl d_M_reads_132 ?_
                      refine lv_iload hx hb d_M_reads_135 (lv_at hl 9 rfl) ?_
                      refine xa_iald hx hb hK hP 10 9 rfl rfl (k := i) (by omega) (by decide) d_M_reads_137 ?_
                      refine xa_top (y := e.1) hfe ?_
                      refine lv_iload_n hx hb d_M_reads_138 rfl (lv_at hl 4 rfl) ?_
                      refine lv_icmp_gt (tgt := 146) hx hb d_M_reads_139 (by decide) (fun hc139 => ?_) (fun hc139 => ?_)
                      · skip
                        refine lv_iconst (v := nI 0) hx hb d_M_reads_146 (by decide +kernel) ?_
                        refine xa_top (y := xb_i (decide (e.1 ≠ k) && !((decide ((t + 1) % 4 = 0) || decide (t + 1 = xd_cn K (xd_dp K (xk_h k)) (xk_h k % 2 ^ xd_dp K (xk_h k)))) && decide (k < e.1)))) (by first | exact xg_m0 hc123 | exact xg_m1 hc128 hc139 | exact xg_m2 hc123 hc128 | exact xg_m3 hc123 hc139) ?_
                        refine lv_istore (lv' := [(7, .int (xb_i (decide (e.1 ≠ k) && !((decide ((t + 1) % 4 = 0) || decide (t + 1 = xd_cn K (xd_dp K (xk_h k)) (xk_h k % 2 ^ xd_dp K (xk_h k)))) && decide (k < e.1))))), (9, .int (xb_i (decide ((t + 1) % 4 = 0) || decide (t + 1 = xd_cn K (xd_dp K (xk_h k)) (xk_h k % 2 ^ xd_dp K (xk_h k)))))), (5, .int (nI (t + 1))), (6, .int (nI (if t % 4 = 0 then g + 1 else g))), (0, .ref (q 0)), (1, .int k), (2, .int (nI (xk_h k % 2 ^ xd_dp K (xk_h k)))), (3, .int (nI (xd_dp K (xk_h k)))), (4, .int (nI (xd_cn K (xd_dp K (xk_h k)) (xk_h k % 2 ^ xd_dp K (xk_h k))))), (8, .int (nI i))]) hx hb d_M_reads_147 hl (Nat.le_of_ble_eq_true rfl) rfl (fun ls hl => ?_)
                        refine lv_iinc (k := 9) (v := nI (i + 1)) (lv' := [(8, .int (nI (i + 1))), (7, .int (xb_i (decide (e.1 ≠ k) && !((decide ((t + 1) % 4 = 0) || decide (t + 1 = xd_cn K (xd_dp K (xk_h k)) (xk_h k % 2 ^ xd_dp K (xk_h k)))) && decide (k < e.1))))), (9, .int (xb_i (decide ((t + 1) % 4 = 0) || decide (t + 1 = xd_cn K (xd_dp K (xk_h k)) (xk_h k % 2 ^ xd_dp K (xk_h k)))))), (5, .int (nI (t + 1))), (6, .int (nI (if t % 4 = 0 then g + 1 else g))), (0, .ref (q 0)), (1, .int k), (2, .int (nI (xk_h k % 2 ^ xd_dp K (xk_h k)))), (3, .int (nI (xd_dp K (xk_h k)))), (4, .int (nI (xd_cn K (xd_dp K (xk_h k)) (xk_h k % 2 ^ xd_dp K (xk_h k)))))]) hx hb d_M_reads_149 hl rfl (xn_inc _) (Nat.le_of_ble_eq_true rfl) rfl (fun ls hl => ?_)
                        refine lv_goto (tgt := 36) hx hb d_M_reads_152 (by decide) ?_
                        exact ih36 (i + 1) (t + 1) (if t % 4 = 0 then g + 1 else g) (decide (e.1 ≠ k) && !((decide ((t + 1) % 4 = 0) || decide (t + 1 = xd_cn K (xd_dp K (xk_h k)) (xk_h k % 2 ^ xd_dp K (xk_h k)))) && decide (k < e.1))) ls (by omega) (by first | rw [xd_cn_take he, if_pos (by simpa using hc67), ht] | rw [xd_cn_take he, if_neg (by simpa using hc67), ht]) (by first | exact xo_J_in hM.2.1 hJ1 he (by simpa using hc67) (by rw [← ht]) (by rw [← ht]) | (rw [hc47]; exact xo_J_skip hJ1 he (by simpa using hc67))) (lv_sub hl [5, 6, 7, 8, 9, 3, 4, 1, 0] rfl) (by omega)
                      · skip
                        refine lv_iconst (v := nI 1) hx hb d_M_reads_142 (by decide +kernel) ?_
                        refine lv_goto (tgt := 147) hx hb d_M_reads_143 (by decide) ?_
                        refine xa_top (y := xb_i (decide (e.1 ≠ k) && !((decide ((t + 1) % 4 = 0) || decide (t + 1 = xd_cn K (xd_dp K (xk_h k)) (xk_h k % 2 ^ xd_dp K (xk_h k)))) && decide (k < e.1)))) (by first | exact xg_m0 hc123 | exact xg_m1 hc128 hc139 | exact xg_m2 hc123 hc128 | exact xg_m3 hc123 hc139) ?_
                        refine lv_istore (lv' := [(7, .int (xb_i (decide (e.1 ≠ k) && !((decide ((t + 1) % 4 = 0) || decide (t + 1 = xd_cn K (xd_dp K (xk_h k)) (xk_h k % 2 ^ xd_dp K (xk_h k)))) && decide (k < e.1))))), (9, .int (xb_i (decide ((t + 1) % 4 = 0) || decide (t + 1 = xd_cn K (xd_dp K (xk_h k)) (xk_h k % 2 ^ xd_dp K (xk_h k)))))), (5, .int (nI (t + 1))), (6, .int (nI (if t % 4 = 0 then g + 1 else g))), (0, .ref (q 0)), (1, .int k), (2, .int (nI (xk_h k % 2 ^ xd_dp K (xk_h k)))), (3, .int (nI (xd_dp K (xk_h k)))), (4, .int (nI (xd_cn K (xd_dp K (xk_h k)) (xk_h k % 2 ^ xd_dp K (xk_h k))))), (8, .int (nI i))]) hx hb d_M_reads_147 hl (Nat.le_of_ble_eq_true rfl) rfl (fun ls hl => ?_)
                        refine lv_iinc (k := 9) (v := nI (i + 1)) (lv' := [(8, .int (nI (i + 1))), (7, .int (xb_i (decide (e.1 ≠ k) && !((decide ((t + 1) % 4 = 0) || decide (t + 1 = xd_cn K (xd_dp K (xk_h k)) (xk_h k % 2 ^ xd_dp K (xk_h k)))) && decide (k < e.1))))), (9, .int (xb_i (decide ((t + 1) % 4 = 0) || decide (t + 1 = xd_cn K (xd_dp K (xk_h k)) (xk_h k % 2 ^ xd_dp K (xk_h k)))))), (5, .int (nI (t + 1))), (6, .int (nI (if t % 4 = 0 then g + 1 else g))), (0, .ref (q 0)), (1, .int k), (2, .int (nI (xk_h k % 2 ^ xd_dp K (xk_h k)))), (3, .int (nI (xd_dp K (xk_h k)))), (4, .int (nI (xd_cn K (xd_dp K (xk_h k)) (xk_h k % 2 ^ xd_dp K (xk_h k)))))]) hx hb d_M_reads_149 hl rfl (xn_inc _) (Nat.le_of_ble_eq_true rfl) rfl (fun ls hl => ?_)
                        refine lv_goto (tgt := 36) hx hb d_M_reads_152 (by decide) ?_
                        exact ih36 (i + 1) (t + 1) (if t % 4 = 0 then g + 1 else g) (decide (e.1 ≠ k) && !((decide ((t + 1) % 4 = 0) || decide (t + 1 = xd_cn K (xd_dp K (xk_h k)) (xk_h k % 2 ^ xd_dp K (xk_h k)))) && decide (k < e.1))) ls (by omega) (by first | rw [xd_cn_take he, if_pos (by simpa using hc67), ht] | rw [xd_cn_take he, if_neg (by simpa using hc67), ht]) (by first | exact xo_J_in hM.2.1 hJ1 he (by simpa using hc67) (by rw [← ht]) (by rw [← ht]) | (rw [hc47]; exact xo_J_skip hJ1 he (by simpa using hc67))) (lv_sub hl [5, 6, 7, 8, 9, 3, 4, 1, 0] rfl) (by omega)
  exact lp36 _ 0 0 0 true ls (Nat.zero_le _) (by simp [xd_cn]) (xo_J_0 K k _ _) (lv_sub hl [7, 8, 6, 5, 4, 3, 2, 1, 0] rfl) (Nat.lt_succ_self _)
set_option maxHeartbeats 4000000 in
set_option maxRecDepth 100000 in
theorem c_M_unfl (l : Launch) (D : va_G) (q : Nat → Nat) (cA : Nat → ClassId) (lim : Int32) (bs : Int32) (bk : Nat → Int32) (bv : Nat → Int64) (wh : Nat → Int32) (rk : Nat → Int32) (rv : Nat → Int64) (bg : Nat → Int32) (bt : Int32) (sc : Int32) (sw : Nat → Int32) (sk : Nat → Int32) (sv : Nat → Int64) (kp : Int32) (ky : Nat → Int32) (vl : Nat → Int64) (n : Nat)  : Met l y_M_unflushed zw_M_unflushed ({ frames := 0, cells := 0, slots := 0, locals := 0 } : Room) (va_Pc [.ref (q 0)] (xp_R D zz_cl (xw_tM cA) (xw_M q cA lim bs bk bv (nI n) wh rk rv bg bt sc sw sk sv kp ky vl))) (vp_Si (fun r : Int32 => r = (nI n))) 0 0 (fun _ => False) := by
  refine Met.ofW (cc := b_M_unflushed) (maxL := 1) (ret := (some .int)) (by decide) rfl ?_
  intro pJ eJ s mJ args below meth cJ s₁ B hml hv
  obtain ⟨rfl, hP, hK, hZ⟩ := hv
  have hx := B.exec
  have hb := B.bytes
  have hr := B.returns
  have hts := atoms_spec (ws := zw_M_unflushed) B.pre
  have hown : s.vm.findClass R_M = some mJ.cls := findClass_of_methodNamed B.named
  have hlocks := B.notSynchronized
  have hl := lv_entry ([.ref (q 0)]) (n := 1) (Nat.le_of_ble_eq_true rfl)
  rw [lg_entry_eq]
  generalize (lg_sl ([.ref (q 0)]) ++ List.replicate (1 - (lg_sl ([.ref (q 0)])).length) Slot.unset).toArray = ls at hl ⊢
  have hl : lv_has ls 1 [(0, .ref (q 0))] := hl
  refine lv_aload_n hx hb d_M_unflushed_0 rfl (lv_at hl 0 rfl) ?_
  refine va_get (D := D) (ci := 5) (v := .int (nI n)) (C := R_M) (T := F_M) (N := 17) hx hb hts (zi_M _) hown hK hP 0 rfl rfl 4 (by decide) (hts _ (List.mem_cons_of_mem _ zm_380)) (fun _ h9 => h9) rfl d_M_unflushed_1 ?_
  exact W.iret (v := nI n) hx hb hr (fun tJ htJ hWJ => ⟨_, rfl, rfl, htJ⟩) (fun _ h => by cases h) d_M_unflushed_4
set_option maxHeartbeats 4000000 in
set_option maxRecDepth 100000 in
theorem c_M_steps (l : Launch) (D : va_G) (q : Nat → Nat) (cA : Nat → ClassId) (lim : Int32) (bs : Int32) (bk : Nat → Int32) (bv : Nat → Int64) (rn : Int32) (wh : Nat → Int32) (rk : Nat → Int32) (rv : Nat → Int64) (bg : Nat → Int32) (sw : Nat → Int32) (sk : Nat → Int32) (sv : Nat → Int64) (kp : Int32) (ky : Nat → Int32) (vl : Nat → Int64) (n : Nat) (bb : Bool)  : Met l y_M_steps zw_M_steps ({ frames := 0, cells := 0, slots := 0, locals := 0 } : Room) (va_Pc [.ref (q 0)] (xp_R D zz_cl (xw_tM cA) (xw_M q cA lim bs bk bv rn wh rk rv bg (xb_i bb) (nI n) sw sk sv kp ky vl))) (vp_Si (fun r : Int32 => r = (if bb = true then nI n else (-1)))) 0 0 (fun _ => False) := by
  refine Met.ofW (cc := b_M_steps) (maxL := 1) (ret := (some .int)) (by decide) rfl ?_
  intro pJ eJ s mJ args below meth cJ s₁ B hml hv
  obtain ⟨rfl, hP, hK, hZ⟩ := hv
  have hx := B.exec
  have hb := B.bytes
  have hr := B.returns
  have hts := atoms_spec (ws := zw_M_steps) B.pre
  have hown : s.vm.findClass R_M = some mJ.cls := findClass_of_methodNamed B.named
  have hlocks := B.notSynchronized
  have hl := lv_entry ([.ref (q 0)]) (n := 1) (Nat.le_of_ble_eq_true rfl)
  rw [lg_entry_eq]
  generalize (lg_sl ([.ref (q 0)]) ++ List.replicate (1 - (lg_sl ([.ref (q 0)])).length) Slot.unset).toArray = ls at hl ⊢
  have hl : lv_has ls 1 [(0, .ref (q 0))] := hl
  refine lv_aload_n hx hb d_M_steps_0 rfl (lv_at hl 0 rfl) ?_
  refine va_get (D := D) (ci := 5) (v := .int (xb_i bb)) (C := R_M) (T := F_M) (N := 17) hx hb hts (zi_M _) hown hK hP 0 rfl rfl 9 (by decide) (hts _ (List.mem_cons_of_mem _ zm_385)) (fun _ h9 => h9) rfl d_M_steps_1 ?_
  refine lv_if_eq (tgt := 14) hx hb d_M_steps_4 (by decide) (fun hc4 => ?_) (fun hc4 => ?_)
  · skip
    rw [xb_0] at hc4
    refine lv_iconst (v := (-1)) hx hb d_M_steps_14 (by decide +kernel) ?_
    exact W.iret (v := (-1)) hx hb hr (fun tJ htJ hWJ => ⟨_, rfl, by first | rw [if_pos hc4] | rw [if_neg (by simp [hc4])], htJ⟩) (fun _ h => by cases h) d_M_steps_15
  · skip
    rw [xb_1] at hc4
    refine lv_aload_n hx hb d_M_steps_7 rfl (lv_at hl 0 rfl) ?_
    refine va_get (D := D) (ci := 5) (v := .int (nI n)) (C := R_M) (T := F_M) (N := 17) hx hb hts (zi_M _) hown hK hP 0 rfl rfl 10 (by decide) (hts _ (List.mem_cons_of_mem _ zm_386)) (fun _ h9 => h9) rfl d_M_steps_8 ?_
    refine lv_goto (tgt := 15) hx hb d_M_steps_11 (by decide) ?_
    exact W.iret (v := nI n) hx hb hr (fun tJ htJ hWJ => ⟨_, rfl, by first | rw [if_pos hc4] | rw [if_neg (by simp [hc4])], htJ⟩) (fun _ h => by cases h) d_M_steps_15
set_option maxHeartbeats 4000000 in
set_option maxRecDepth 100000 in
theorem c_M_put (l : Launch) (D : va_G) (q : Nat → Nat) (cA : Nat → ClassId) (bk : Nat → Int32) (bv : Nat → Int64) (wh : Nat → Int32) (rk : Nat → Int32) (rv : Nat → Int64) (bg : Nat → Int32) (sw : Nat → Int32) (sk : Nat → Int32) (sv : Nat → Int64) (kp : Int32) (ky : Nat → Int32) (vl : Nat → Int64) (sz : Nat) (lm : Nat) (B0 : List xk_E) (R0 : List xs_R) (bb : Bool) (ST : List xs_O) (k : Int32) (v : Int64) (hMT : xm_MT B0 R0 ST bk bv wh rk rv bg sw sk sv) (hok : xs_ok lm B0 R0) (hlm : lm ≤ 200) (hst : ST.length ≤ 5) : Met l y_M_put zw_M_put ({ frames := 6, cells := 0, slots := 0, locals := 143 } : Room) (va_Pc [.ref (q 0), .int k, .long v] (xp_Q D zz_cl (xw_tM cA) sz (xw_M q cA (nI lm) (nI B0.length) bk bv (nI R0.length) wh rk rv bg (xb_i bb) (nI ST.length) sw sk sv kp ky vl))) (va_Qi (fun (r : Int32) (u : (Nat → Int32) × (Nat → Int64) × (Nat → Int32) × (Nat → Int32) × (Nat → Int64) × (Nat → Int32) × (Nat → Int32) × (Nat → Int32) × (Nat → Int64) × (Nat → Int32) × (Nat → Int64) × Int32) => r = (if bb = true then (if ST.length < 5 then nI 3 else nI 0) else if xs_bad lm (xs_now B0 (xs_new B0 R0 [((0, k, v) : xs_O)])) = true then nI 0 else if xk_has (xs_now B0 R0) k = true then nI 2 else nI 1) ∧ (xm_MT (xs_pB lm B0 R0 bb [((0, k, v) : xs_O)]) (xs_pR lm B0 R0 bb [((0, k, v) : xs_O)]) (xs_pS bb ST ((0, k, v) : xs_O)) u.1 u.2.1 u.2.2.1 u.2.2.2.1 u.2.2.2.2.1 u.2.2.2.2.2.1 u.2.2.2.2.2.2.1 u.2.2.2.2.2.2.2.1 u.2.2.2.2.2.2.2.2.1)) (fun (u : (Nat → Int32) × (Nat → Int64) × (Nat → Int32) × (Nat → Int32) × (Nat → Int64) × (Nat → Int32) × (Nat → Int32) × (Nat → Int32) × (Nat → Int64) × (Nat → Int32) × (Nat → Int64) × Int32) (t : State) => va_P D zz_cl (xw_M q cA (nI lm) (nI (xs_pB lm B0 R0 bb [((0, k, v) : xs_O)]).length) u.1 u.2.1 (nI (xs_pR lm B0 R0 bb [((0, k, v) : xs_O)]).length) u.2.2.1 u.2.2.2.1 u.2.2.2.2.1 u.2.2.2.2.2.1 (xb_i bb) (nI (xs_pS bb ST ((0, k, v) : xs_O)).length) u.2.2.2.2.2.2.1 u.2.2.2.2.2.2.2.1 u.2.2.2.2.2.2.2.2.1 u.2.2.2.2.2.2.2.2.2.2.2 u.2.2.2.2.2.2.2.2.2.1 u.2.2.2.2.2.2.2.2.2.2.1) t.heap) (va_A (xw_M q cA (nI lm) (nI B0.length) bk bv (nI R0.length) wh rk rv bg (xb_i bb) (nI ST.length) sw sk sv kp ky vl) sz)) 0 0 (va_A (xw_M q cA (nI lm) (nI B0.length) bk bv (nI R0.length) wh rk rv bg (xb_i bb) (nI ST.length) sw sk sv kp ky vl) sz) := by
  refine Met.ofW (cc := b_M_put) (maxL := 5) (ret := (some .int)) (by decide) rfl ?_
  intro pJ eJ s mJ args below meth cJ s₁ B hml hv
  obtain ⟨rfl, hsz, hP, hK, hD0, hZ⟩ := hv
  have hx := B.exec
  have hb := B.bytes
  have hr := B.returns
  have hts := atoms_spec (ws := zw_M_put) B.pre
  have hown : s.vm.findClass R_M = some mJ.cls := findClass_of_methodNamed B.named
  have hlocks := B.notSynchronized
  subst hsz
  have hD := hD0.self (sz := s.heap.size)
  generalize hAe : va_A (xw_M q cA (nI lm) (nI B0.length) bk bv (nI R0.length) wh rk rv bg (xb_i bb) (nI ST.length) sw sk sv kp ky vl) s.heap.size = A at hD ⊢
  have hA : ∀ q : Nat, s.heap.size ≤ q → A q := fun q h => by rw [← hAe]; exact Or.inr h
  have hS : va_S A s.heap s.heap [] := va_S.rf
  have hl := lv_entry ([.ref (q 0), .int k, .long v]) (n := 5) (Nat.le_of_ble_eq_true rfl)
  rw [lg_entry_eq]
  generalize (lg_sl ([.ref (q 0), .int k, .long v]) ++ List.replicate (5 - (lg_sl ([.ref (q 0), .int k, .long v])).length) Slot.unset).toArray = ls at hl ⊢
  have hl : lv_has ls 5 [(0, .ref (q 0)), (1, .int k), (2, .long v)] := hl
  have h64 := hok.2.2.1
  have h60 : (xs_now B0 R0).length ≤ 60 := hok.2.2.2.2.2.1
  refine lv_aload_n hx hb d_M_put_0 rfl (lv_at hl 0 rfl) ?_
  refine va_get (D := D) (ci := 5) (v := .int (xb_i bb)) (C := R_M) (T := F_M) (N := 17) hx hb hts (zi_M _) hown hK hP 0 rfl rfl 9 (by decide) (hts _ (List.mem_cons_of_mem _ zm_385)) (fun _ h9 => h9) rfl d_M_put_1 ?_
  refine lv_if_eq (tgt := 15) hx hb d_M_put_4 (by decide) (fun hc4 => ?_) (fun hc4 => ?_)
  · skip
    rw [xb_0] at hc4
    refine lv_aload_n hx hb d_M_put_15 rfl (lv_at hl 0 rfl) ?_
    refine lv_iload_n hx hb d_M_put_16 rfl (lv_at hl 1 rfl) ?_
    refine xa_cMI (va_runV (As := [.int k]) (rest := []) ⟨hx, hb, hml, hown, hts⟩ (c_M_has l D q cA (nI lm) bk bv wh rk rv bg (xb_i bb) (nI ST.length) sw sk sv kp ky vl s.heap.size lm B0 R0 ST k hMT hok) (cwV 1 hts (zg_V zm_436 zm_437 zm_438 zm_7 zm_439) rfl rfl rfl (by decide +kernel) ⟨Nat.le_of_ble_eq_true rfl, Nat.le_of_ble_eq_true rfl⟩) (xp_preVQ (ci := 5) (q0 := 0) hK hP hD rfl rfl rfl hZ) rfl rfl hl.1 rfl (lv_room (Nat.le_of_ble_eq_true rfl)) d_M_put_17 ⟨Nat.zero_le _, Nat.zero_le _⟩) hS (xa_F hD hS hA) (fun r u H locs hp17 hP hS => ?_)
    obtain ⟨ky2_17, vl2_17⟩ := u
    obtain ⟨rfl, hp17⟩ := hp17
    have hP : va_P D zz_cl (xw_M q cA (nI lm) (nI B0.length) bk bv (nI R0.length) wh rk rv bg (xb_i bb) (nI ST.length) sw sk sv (nI (xs_now B0 R0).length) ky2_17 vl2_17) H := hP
    have hD : va_D A (xw_M q cA (nI lm) (nI B0.length) bk bv (nI R0.length) wh rk rv bg (xb_i bb) (nI ST.length) sw sk sv (nI (xs_now B0 R0).length) ky2_17 vl2_17) := xa_E hD rfl
    have hp17 : xm_T ky2_17 vl2_17 (xs_now B0 R0) := hp17
    refine lv_istore (lv' := [(4, .int (xb_i (xk_has (xs_now B0 R0) k))), (0, .ref (q 0)), (1, .int k), (2, .long v)]) hx hb d_M_put_20 hl (Nat.le_of_ble_eq_true rfl) rfl (fun ls hl => ?_)
    refine lv_aload_n hx hb d_M_put_22 rfl (lv_at hl 1 rfl) ?_
    refine lv_iconst (v := nI 0) hx hb d_M_put_23 (by decide +kernel) ?_
    refine lv_iload_n hx hb d_M_put_24 rfl (lv_at hl 2 rfl) ?_
    refine lv_lload_n hx hb d_M_put_25 rfl (lv_at hl 3 rfl) ?_
    refine lv_aload_n hx hb d_M_put_26 rfl (lv_at hl 1 rfl) ?_
    refine va_get (D := D) (ci := 5) (v := .int (nI R0.length)) (C := R_M) (T := F_M) (N := 17) hx hb hts (zi_M _) hown hK hP 0 rfl rfl 4 (by decide) (hts _ (List.mem_cons_of_mem _ zm_380)) (fun _ h9 => h9) rfl d_M_put_27 ?_
    refine xa_cMV (va_runV (As := [.int (nI 0), .int k, .long v, .int (nI R0.length)]) (rest := []) ⟨hx, hb, hml, hown, hts⟩ (c_M_write l D q cA (nI lm) (nI B0.length) bk bv wh rk rv bg (xb_i bb) (nI ST.length) sw sk sv (nI (xs_now B0 R0).length) ky2_17 vl2_17 H.size R0.length (nI 0) k v (nI R0.length) (by omega)) (cwV 4 hts (zg_V zm_460 zm_462 zs_17 zm_7 zm_463) rfl rfl rfl (by decide +kernel) ⟨Nat.le_of_ble_eq_true rfl, Nat.le_of_ble_eq_true rfl⟩) (xp_preVQ (ci := 5) (q0 := 0) hK hP hD rfl rfl rfl hZ) rfl rfl hl.1 rfl (lv_room (Nat.le_of_ble_eq_true rfl)) d_M_put_30 ⟨Nat.zero_le _, Nat.zero_le _⟩) hS (xa_F hD hS hA) (fun u H locs hp30 hP hS => ?_)
    have hP : va_P D zz_cl (xw_M q cA (nI lm) (nI B0.length) bk bv (nI (R0.length + 1)) (upd wh R0.length (nI 0)) (upd rk R0.length k) (vp_updL rv R0.length v) (upd bg R0.length (nI R0.length)) (xb_i bb) (nI ST.length) sw sk sv (nI (xs_now B0 R0).length) ky2_17 vl2_17) H := hP
    have hD : va_D A (xw_M q cA (nI lm) (nI B0.length) bk bv (nI (R0.length + 1)) (upd wh R0.length (nI 0)) (upd rk R0.length k) (vp_updL rv R0.length v) (upd bg R0.length (nI R0.length)) (xb_i bb) (nI ST.length) sw sk sv (nI (xs_now B0 R0).length) ky2_17 vl2_17) := xa_E hD rfl
    have hr9 : xm_rt (xs_new B0 R0 [((0, k, v) : xs_O)]) (upd wh R0.length (nI 0)) (upd rk R0.length k) (vp_updL rv R0.length v) (upd bg R0.length (nI R0.length)) := xm_one hMT.2.1 ((0, k, v) : xs_O) rfl rfl rfl
    refine lv_aload_n hx hb d_M_put_33 rfl (lv_at hl 1 rfl) ?_
    refine lv_aload_n hx hb d_M_put_34 rfl (lv_at hl 1 rfl) ?_
    refine va_get (D := D) (ci := 5) (v := .int (nI (R0.length + 1))) (C := R_M) (T := F_M) (N := 17) hx hb hts (zi_M _) hown hK hP 0 rfl rfl 4 (by decide) (hts _ (List.mem_cons_of_mem _ zm_380)) (fun _ h9 => h9) rfl d_M_put_35 ?_
    refine lv_iconst (v := nI 1) hx hb d_M_put_38 (by decide +kernel) ?_
    refine lv_isub hx hb d_M_put_39 ?_
    refine xa_top (y := nI R0.length) ((pk_sub (by omega)).trans (congrArg nI (by omega))) ?_
    rw [show nI (R0.length + 1) = nI (xs_new B0 R0 [((0, k, v) : xs_O)]).length from by rw [xs_new_len]; rfl] at hP hD
    refine xa_cMI (va_runV (As := [.int (nI R0.length)]) (rest := []) ⟨hx, hb, hml, hown, hts⟩ (c_M_stays l D q cA bk bv (upd wh R0.length (nI 0)) (upd rk R0.length k) (vp_updL rv R0.length v) (upd bg R0.length (nI R0.length)) (xb_i bb) (nI ST.length) sw sk sv (nI (xs_now B0 R0).length) ky2_17 vl2_17 H.size lm B0 R0 ([((0, k, v) : xs_O)]) hMT.1 hok hr9 hlm (by simp) (fun q => by simp at q) (fun o ho => by rw [List.mem_singleton.mp ho]; exact Nat.zero_le _)) (cwV 1 hts (zg_V zm_464 zm_466 zs_18 zm_7 zm_467) rfl rfl rfl (by decide +kernel) ⟨Nat.le_of_ble_eq_true rfl, Nat.le_of_ble_eq_true rfl⟩) (xp_preVQ (ci := 5) (q0 := 0) hK hP hD rfl rfl rfl hZ) rfl rfl hl.1 rfl (lv_room (Nat.le_of_ble_eq_true rfl)) d_M_put_40 ⟨Nat.zero_le _, Nat.zero_le _⟩) hS (xa_F hD hS hA) (fun r u H locs hp40 hP hS => ?_)
    obtain ⟨bk2_40, bv2_40, wh2_40, rk2_40, rv2_40, bg2_40, ky2_40, vl2_40, kp2_40⟩ := u
    obtain ⟨rfl, hp40⟩ := hp40
    have hP : va_P D zz_cl (xw_M q cA (nI lm) (nI (xs_pB lm B0 R0 false ([((0, k, v) : xs_O)])).length) bk2_40 bv2_40 (nI (xs_pR lm B0 R0 false ([((0, k, v) : xs_O)])).length) wh2_40 rk2_40 rv2_40 bg2_40 (xb_i bb) (nI ST.length) sw sk sv kp2_40 ky2_40 vl2_40) H := hP
    have hD : va_D A (xw_M q cA (nI lm) (nI (xs_pB lm B0 R0 false ([((0, k, v) : xs_O)])).length) bk2_40 bv2_40 (nI (xs_pR lm B0 R0 false ([((0, k, v) : xs_O)])).length) wh2_40 rk2_40 rv2_40 bg2_40 (xb_i bb) (nI ST.length) sw sk sv kp2_40 ky2_40 vl2_40) := xa_E hD rfl
    have hp40 : xk_tie bk2_40 bv2_40 (xs_pB lm B0 R0 false ([((0, k, v) : xs_O)])) ∧ xm_rt (xs_pR lm B0 R0 false ([((0, k, v) : xs_O)])) wh2_40 rk2_40 rv2_40 bg2_40 := hp40
    have e1 : xs_pB lm B0 R0 bb [((0, k, v) : xs_O)] = xs_pB lm B0 R0 false [((0, k, v) : xs_O)] := by rw [hc4]
    have e2 : xs_pR lm B0 R0 bb [((0, k, v) : xs_O)] = xs_pR lm B0 R0 false [((0, k, v) : xs_O)] := by rw [hc4]
    have e3 : xs_pS bb ST ((0, k, v) : xs_O) = ST := xs_pS_no hc4 _ _
    refine lv_if_ne (tgt := 48) hx hb d_M_put_43 (by decide) (fun hc43 => ?_) (fun hc43 => ?_)
    · skip
      rw [xb_1] at hc43
      refine lv_iload hx hb d_M_put_48 (lv_at hl 0 rfl) ?_
      refine lv_if_eq (tgt := 57) hx hb d_M_put_50 (by decide) (fun hc50 => ?_) (fun hc50 => ?_)
      · skip
        rw [xb_0] at hc50
        refine lv_iconst (v := nI 1) hx hb d_M_put_57 (by decide +kernel) ?_
        exact W.iret (v := nI 1) hx hb hr (fun tJ htJ hWJ => ⟨⟨_, (bk2_40, bv2_40, wh2_40, rk2_40, rv2_40, bg2_40, sw, sk, sv, ky2_40, vl2_40, kp2_40), rfl, ⟨by rw [if_neg (by rw [hc4]; decide), if_neg (by simpa using hc43)]; first | rw [if_pos hc50] | rw [if_neg (by rw [hc50]; decide)], by rw [e1, e2, e3]; exact ⟨hp40.1, hp40.2, hMT.2.2⟩⟩, by dsimp only; rw [htJ]; rw [e1, e2, e3]; exact hP⟩, hS.F htJ⟩) hS.2.2 d_M_put_58
      · skip
        rw [xb_1] at hc50
        refine lv_iconst (v := nI 2) hx hb d_M_put_53 (by decide +kernel) ?_
        refine lv_goto (tgt := 58) hx hb d_M_put_54 (by decide) ?_
        exact W.iret (v := nI 2) hx hb hr (fun tJ htJ hWJ => ⟨⟨_, (bk2_40, bv2_40, wh2_40, rk2_40, rv2_40, bg2_40, sw, sk, sv, ky2_40, vl2_40, kp2_40), rfl, ⟨by rw [if_neg (by rw [hc4]; decide), if_neg (by simpa using hc43)]; first | rw [if_pos hc50] | rw [if_neg (by rw [hc50]; decide)], by rw [e1, e2, e3]; exact ⟨hp40.1, hp40.2, hMT.2.2⟩⟩, by dsimp only; rw [htJ]; rw [e1, e2, e3]; exact hP⟩, hS.F htJ⟩) hS.2.2 d_M_put_58
    · skip
      rw [xb_0] at hc43
      refine lv_iconst (v := nI 0) hx hb d_M_put_46 (by decide +kernel) ?_
      exact W.iret (v := nI 0) hx hb hr (fun tJ htJ hWJ => ⟨⟨_, (bk2_40, bv2_40, wh2_40, rk2_40, rv2_40, bg2_40, sw, sk, sv, ky2_40, vl2_40, kp2_40), rfl, ⟨by rw [if_neg (by rw [hc4]; decide), if_pos (by simpa using hc43)], by rw [e1, e2, e3]; exact ⟨hp40.1, hp40.2, hMT.2.2⟩⟩, by dsimp only; rw [htJ]; rw [e1, e2, e3]; exact hP⟩, hS.F htJ⟩) hS.2.2 d_M_put_47
  · skip
    rw [xb_1] at hc4
    refine lv_aload_n hx hb d_M_put_7 rfl (lv_at hl 0 rfl) ?_
    refine lv_iconst (v := nI 0) hx hb d_M_put_8 (by decide +kernel) ?_
    refine lv_iload_n hx hb d_M_put_9 rfl (lv_at hl 1 rfl) ?_
    refine lv_lload_n hx hb d_M_put_10 rfl (lv_at hl 2 rfl) ?_
    refine xa_cMI (va_runV (As := [.int (nI 0), .int k, .long v]) (rest := []) ⟨hx, hb, hml, hown, hts⟩ (c_M_step l D q cA (nI lm) (nI B0.length) bk bv (nI R0.length) wh rk rv bg (xb_i bb) sw sk sv kp ky vl s.heap.size ST.length (nI 0) k v (by omega)) (cwV 3 hts (zg_V zm_432 zm_434 zs_11 zm_7 zm_435) rfl rfl rfl (by decide +kernel) ⟨Nat.le_of_ble_eq_true rfl, Nat.le_of_ble_eq_true rfl⟩) (xp_preVQ (ci := 5) (q0 := 0) hK hP hD rfl rfl rfl hZ) rfl rfl hl.1 rfl (lv_room (Nat.le_of_ble_eq_true rfl)) d_M_put_11 ⟨Nat.zero_le _, Nat.zero_le _⟩) hS (xa_F hD hS hA) (fun r u H locs hp11 hP hS => ?_)
    obtain ⟨rfl, hp11⟩ := hp11
    have hP : va_P D zz_cl (xw_M q cA (nI lm) (nI B0.length) bk bv (nI R0.length) wh rk rv bg (xb_i bb) (nI (if ST.length < 5 then ST.length + 1 else ST.length)) (if ST.length < 5 then upd sw ST.length (nI 0) else sw) (if ST.length < 5 then upd sk ST.length k else sk) (if ST.length < 5 then vp_updL sv ST.length v else sv) kp ky vl) H := hP
    have hD : va_D A (xw_M q cA (nI lm) (nI B0.length) bk bv (nI R0.length) wh rk rv bg (xb_i bb) (nI (if ST.length < 5 then ST.length + 1 else ST.length)) (if ST.length < 5 then upd sw ST.length (nI 0) else sw) (if ST.length < 5 then upd sk ST.length k else sk) (if ST.length < 5 then vp_updL sv ST.length v else sv) kp ky vl) := xa_E hD rfl
    have e1 : xs_pB lm B0 R0 bb [((0, k, v) : xs_O)] = B0 := by unfold xs_pB; rw [if_pos (Or.inl hc4)]
    have e2 : xs_pR lm B0 R0 bb [((0, k, v) : xs_O)] = R0 := by unfold xs_pR; rw [if_pos (Or.inl hc4)]
    exact W.iret (v := if ST.length < 5 then nI 3 else nI 0) hx hb hr (fun tJ htJ hWJ => ⟨⟨_, (bk, bv, wh, rk, rv, bg, if ST.length < 5 then upd sw ST.length (nI 0) else sw, if ST.length < 5 then upd sk ST.length k else sk, if ST.length < 5 then vp_updL sv ST.length v else sv, ky, vl, kp), rfl, ⟨by rw [if_pos hc4], by rw [e1, e2]; exact ⟨hMT.1, hMT.2.1, xm_sx_take hMT.2.2 hc4 (Nat.zero_le _) rfl rfl rfl⟩⟩, by dsimp only; rw [htJ]; rw [e1, e2, xs_pS_len hc4]; exact hP⟩, hS.F htJ⟩) hS.2.2 d_M_put_14
set_option maxHeartbeats 4000000 in
set_option maxRecDepth 100000 in
theorem c_M_del (l : Launch) (D : va_G) (q : Nat → Nat) (cA : Nat → ClassId) (bk : Nat → Int32) (bv : Nat → Int64) (wh : Nat → Int32) (rk : Nat → Int32) (rv : Nat → Int64) (bg : Nat → Int32) (sw : Nat → Int32) (sk : Nat → Int32) (sv : Nat → Int64) (kp : Int32) (ky : Nat → Int32) (vl : Nat → Int64) (sz : Nat) (lm : Nat) (B0 : List xk_E) (R0 : List xs_R) (bb : Bool) (ST : List xs_O) (k : Int32) (hMT : xm_MT B0 R0 ST bk bv wh rk rv bg sw sk sv) (hok : xs_ok lm B0 R0) (hlm : lm ≤ 200) (hst : ST.length ≤ 5) : Met l y_M_delete zw_M_delete ({ frames := 6, cells := 0, slots := 0, locals := 143 } : Room) (va_Pc [.ref (q 0), .int k] (xp_Q D zz_cl (xw_tM cA) sz (xw_M q cA (nI lm) (nI B0.length) bk bv (nI R0.length) wh rk rv bg (xb_i bb) (nI ST.length) sw sk sv kp ky vl))) (va_Qi (fun (r : Int32) (u : (Nat → Int32) × (Nat → Int64) × (Nat → Int32) × (Nat → Int32) × (Nat → Int64) × (Nat → Int32) × (Nat → Int32) × (Nat → Int32) × (Nat → Int64) × (Nat → Int32) × (Nat → Int64) × Int32) => r = (if bb = true then (if ST.length < 5 then nI 3 else nI 0) else if xk_has (xs_now B0 R0) k = true then nI 1 else nI 0) ∧ (xm_MT (xs_dB B0 R0 bb k) (xs_dR B0 R0 bb k) (xs_pS bb ST ((1, k, 0) : xs_O)) u.1 u.2.1 u.2.2.1 u.2.2.2.1 u.2.2.2.2.1 u.2.2.2.2.2.1 u.2.2.2.2.2.2.1 u.2.2.2.2.2.2.2.1 u.2.2.2.2.2.2.2.2.1)) (fun (u : (Nat → Int32) × (Nat → Int64) × (Nat → Int32) × (Nat → Int32) × (Nat → Int64) × (Nat → Int32) × (Nat → Int32) × (Nat → Int32) × (Nat → Int64) × (Nat → Int32) × (Nat → Int64) × Int32) (t : State) => va_P D zz_cl (xw_M q cA (nI lm) (nI (xs_dB B0 R0 bb k).length) u.1 u.2.1 (nI (xs_dR B0 R0 bb k).length) u.2.2.1 u.2.2.2.1 u.2.2.2.2.1 u.2.2.2.2.2.1 (xb_i bb) (nI (xs_pS bb ST ((1, k, 0) : xs_O)).length) u.2.2.2.2.2.2.1 u.2.2.2.2.2.2.2.1 u.2.2.2.2.2.2.2.2.1 u.2.2.2.2.2.2.2.2.2.2.2 u.2.2.2.2.2.2.2.2.2.1 u.2.2.2.2.2.2.2.2.2.2.1) t.heap) (va_A (xw_M q cA (nI lm) (nI B0.length) bk bv (nI R0.length) wh rk rv bg (xb_i bb) (nI ST.length) sw sk sv kp ky vl) sz)) 0 0 (va_A (xw_M q cA (nI lm) (nI B0.length) bk bv (nI R0.length) wh rk rv bg (xb_i bb) (nI ST.length) sw sk sv kp ky vl) sz) := by
  refine Met.ofW (cc := b_M_delete) (maxL := 2) (ret := (some .int)) (by decide) rfl ?_
  intro pJ eJ s mJ args below meth cJ s₁ B hml hv
  obtain ⟨rfl, hsz, hP, hK, hD0, hZ⟩ := hv
  have hx := B.exec
  have hb := B.bytes
  have hr := B.returns
  have hts := atoms_spec (ws := zw_M_delete) B.pre
  have hown : s.vm.findClass R_M = some mJ.cls := findClass_of_methodNamed B.named
  have hlocks := B.notSynchronized
  subst hsz
  have hD := hD0.self (sz := s.heap.size)
  generalize hAe : va_A (xw_M q cA (nI lm) (nI B0.length) bk bv (nI R0.length) wh rk rv bg (xb_i bb) (nI ST.length) sw sk sv kp ky vl) s.heap.size = A at hD ⊢
  have hA : ∀ q : Nat, s.heap.size ≤ q → A q := fun q h => by rw [← hAe]; exact Or.inr h
  have hS : va_S A s.heap s.heap [] := va_S.rf
  have hl := lv_entry ([.ref (q 0), .int k]) (n := 2) (Nat.le_of_ble_eq_true rfl)
  rw [lg_entry_eq]
  generalize (lg_sl ([.ref (q 0), .int k]) ++ List.replicate (2 - (lg_sl ([.ref (q 0), .int k])).length) Slot.unset).toArray = ls at hl ⊢
  have hl : lv_has ls 2 [(0, .ref (q 0)), (1, .int k)] := hl
  have h64 := hok.2.2.1
  have h60 : (xs_now B0 R0).length ≤ 60 := hok.2.2.2.2.2.1
  refine lv_aload_n hx hb d_M_delete_0 rfl (lv_at hl 0 rfl) ?_
  refine va_get (D := D) (ci := 5) (v := .int (xb_i bb)) (C := R_M) (T := F_M) (N := 17) hx hb hts (zi_M _) hown hK hP 0 rfl rfl 9 (by decide) (hts _ (List.mem_cons_of_mem _ zm_385)) (fun _ h9 => h9) rfl d_M_delete_1 ?_
  refine lv_if_eq (tgt := 15) hx hb d_M_delete_4 (by decide) (fun hc4 => ?_) (fun hc4 => ?_)
  · skip
    rw [xb_0] at hc4
    refine lv_aload_n hx hb d_M_delete_15 rfl (lv_at hl 0 rfl) ?_
    refine lv_iload_n hx hb d_M_delete_16 rfl (lv_at hl 1 rfl) ?_
    refine xa_cMI (va_runV (As := [.int k]) (rest := []) ⟨hx, hb, hml, hown, hts⟩ (c_M_has l D q cA (nI lm) bk bv wh rk rv bg (xb_i bb) (nI ST.length) sw sk sv kp ky vl s.heap.size lm B0 R0 ST k hMT hok) (cwV 1 hts (zg_V zm_436 zm_437 zm_438 zm_7 zm_439) rfl rfl rfl (by decide +kernel) ⟨Nat.le_of_ble_eq_true rfl, Nat.le_of_ble_eq_true rfl⟩) (xp_preVQ (ci := 5) (q0 := 0) hK hP hD rfl rfl rfl hZ) rfl rfl hl.1 rfl (lv_room (Nat.le_of_ble_eq_true rfl)) d_M_delete_17 ⟨Nat.zero_le _, Nat.zero_le _⟩) hS (xa_F hD hS hA) (fun r u H locs hp17 hP hS => ?_)
    obtain ⟨ky2_17, vl2_17⟩ := u
    obtain ⟨rfl, hp17⟩ := hp17
    have hP : va_P D zz_cl (xw_M q cA (nI lm) (nI B0.length) bk bv (nI R0.length) wh rk rv bg (xb_i bb) (nI ST.length) sw sk sv (nI (xs_now B0 R0).length) ky2_17 vl2_17) H := hP
    have hD : va_D A (xw_M q cA (nI lm) (nI B0.length) bk bv (nI R0.length) wh rk rv bg (xb_i bb) (nI ST.length) sw sk sv (nI (xs_now B0 R0).length) ky2_17 vl2_17) := xa_E hD rfl
    have hp17 : xm_T ky2_17 vl2_17 (xs_now B0 R0) := hp17
    refine lv_if_ne (tgt := 25) hx hb d_M_delete_20 (by decide) (fun hc20 => ?_) (fun hc20 => ?_)
    · skip
      rw [xb_1] at hc20
      refine lv_aload_n hx hb d_M_delete_25 rfl (lv_at hl 0 rfl) ?_
      refine lv_iconst (v := nI 1) hx hb d_M_delete_26 (by decide +kernel) ?_
      refine lv_iload_n hx hb d_M_delete_27 rfl (lv_at hl 1 rfl) ?_
      refine lv_lconst (v := 0) hx hb d_M_delete_28 (by decide +kernel) ?_
      refine lv_aload_n hx hb d_M_delete_29 rfl (lv_at hl 0 rfl) ?_
      refine va_get (D := D) (ci := 5) (v := .int (nI R0.length)) (C := R_M) (T := F_M) (N := 17) hx hb hts (zi_M _) hown hK hP 0 rfl rfl 4 (by decide) (hts _ (List.mem_cons_of_mem _ zm_380)) (fun _ h9 => h9) rfl d_M_delete_30 ?_
      refine xa_cMV (va_runV (As := [.int (nI 1), .int k, .long 0, .int (nI R0.length)]) (rest := []) ⟨hx, hb, hml, hown, hts⟩ (c_M_write l D q cA (nI lm) (nI B0.length) bk bv wh rk rv bg (xb_i bb) (nI ST.length) sw sk sv (nI (xs_now B0 R0).length) ky2_17 vl2_17 H.size R0.length (nI 1) k 0 (nI R0.length) (by omega)) (cwV 4 hts (zg_V zm_460 zm_462 zs_17 zm_7 zm_463) rfl rfl rfl (by decide +kernel) ⟨Nat.le_of_ble_eq_true rfl, Nat.le_of_ble_eq_true rfl⟩) (xp_preVQ (ci := 5) (q0 := 0) hK hP hD rfl rfl rfl hZ) rfl rfl hl.1 rfl (lv_room (Nat.le_of_ble_eq_true rfl)) d_M_delete_33 ⟨Nat.zero_le _, Nat.zero_le _⟩) hS (xa_F hD hS hA) (fun u H locs hp33 hP hS => ?_)
      have hP : va_P D zz_cl (xw_M q cA (nI lm) (nI B0.length) bk bv (nI (R0.length + 1)) (upd wh R0.length (nI 1)) (upd rk R0.length k) (vp_updL rv R0.length 0) (upd bg R0.length (nI R0.length)) (xb_i bb) (nI ST.length) sw sk sv (nI (xs_now B0 R0).length) ky2_17 vl2_17) H := hP
      have hD : va_D A (xw_M q cA (nI lm) (nI B0.length) bk bv (nI (R0.length + 1)) (upd wh R0.length (nI 1)) (upd rk R0.length k) (vp_updL rv R0.length 0) (upd bg R0.length (nI R0.length)) (xb_i bb) (nI ST.length) sw sk sv (nI (xs_now B0 R0).length) ky2_17 vl2_17) := xa_E hD rfl
      have hr9 : xm_rt (xs_new B0 R0 [((1, k, 0) : xs_O)]) (upd wh R0.length (nI 1)) (upd rk R0.length k) (vp_updL rv R0.length 0) (upd bg R0.length (nI R0.length)) := xm_one hMT.2.1 ((1, k, 0) : xs_O) rfl rfl rfl
      refine lv_aload_n hx hb d_M_delete_36 rfl (lv_at hl 0 rfl) ?_
      refine lv_aload_n hx hb d_M_delete_37 rfl (lv_at hl 0 rfl) ?_
      refine va_get (D := D) (ci := 5) (v := .int (nI (R0.length + 1))) (C := R_M) (T := F_M) (N := 17) hx hb hts (zi_M _) hown hK hP 0 rfl rfl 4 (by decide) (hts _ (List.mem_cons_of_mem _ zm_380)) (fun _ h9 => h9) rfl d_M_delete_38 ?_
      refine lv_iconst (v := nI 1) hx hb d_M_delete_41 (by decide +kernel) ?_
      refine lv_isub hx hb d_M_delete_42 ?_
      refine xa_top (y := nI R0.length) ((pk_sub (by omega)).trans (congrArg nI (by omega))) ?_
      rw [show nI (R0.length + 1) = nI (xs_new B0 R0 [((1, k, 0) : xs_O)]).length from by rw [xs_new_len]; rfl] at hP hD
      refine xa_cMI (va_runV (As := [.int (nI R0.length)]) (rest := []) ⟨hx, hb, hml, hown, hts⟩ (c_M_stays l D q cA bk bv (upd wh R0.length (nI 1)) (upd rk R0.length k) (vp_updL rv R0.length 0) (upd bg R0.length (nI R0.length)) (xb_i bb) (nI ST.length) sw sk sv (nI (xs_now B0 R0).length) ky2_17 vl2_17 H.size lm B0 R0 ([((1, k, 0) : xs_O)]) hMT.1 hok hr9 hlm (by simp) (fun q => by simp at q) (fun o ho => by rw [List.mem_singleton.mp ho]; exact (by decide : (1 : Nat) ≤ 2))) (cwV 1 hts (zg_V zm_464 zm_466 zs_18 zm_7 zm_467) rfl rfl rfl (by decide +kernel) ⟨Nat.le_of_ble_eq_true rfl, Nat.le_of_ble_eq_true rfl⟩) (xp_preVQ (ci := 5) (q0 := 0) hK hP hD rfl rfl rfl hZ) rfl rfl hl.1 rfl (lv_room (Nat.le_of_ble_eq_true rfl)) d_M_delete_43 ⟨Nat.zero_le _, Nat.zero_le _⟩) hS (xa_F hD hS hA) (fun r u H locs hp43 hP hS => ?_)
      obtain ⟨bk2_43, bv2_43, wh2_43, rk2_43, rv2_43, bg2_43, ky2_43, vl2_43, kp2_43⟩ := u
      obtain ⟨rfl, hp43⟩ := hp43
      have hP : va_P D zz_cl (xw_M q cA (nI lm) (nI (xs_pB lm B0 R0 false ([((1, k, 0) : xs_O)])).length) bk2_43 bv2_43 (nI (xs_pR lm B0 R0 false ([((1, k, 0) : xs_O)])).length) wh2_43 rk2_43 rv2_43 bg2_43 (xb_i bb) (nI ST.length) sw sk sv kp2_43 ky2_43 vl2_43) H := hP
      have hD : va_D A (xw_M q cA (nI lm) (nI (xs_pB lm B0 R0 false ([((1, k, 0) : xs_O)])).length) bk2_43 bv2_43 (nI (xs_pR lm B0 R0 false ([((1, k, 0) : xs_O)])).length) wh2_43 rk2_43 rv2_43 bg2_43 (xb_i bb) (nI ST.length) sw sk sv kp2_43 ky2_43 vl2_43) := xa_E hD rfl
      have hp43 : xk_tie bk2_43 bv2_43 (xs_pB lm B0 R0 false ([((1, k, 0) : xs_O)])) ∧ xm_rt (xs_pR lm B0 R0 false ([((1, k, 0) : xs_O)])) wh2_43 rk2_43 rv2_43 bg2_43 := hp43
      have eb := xs_rem_ok hok k
      have e0 : ¬ (bb = true ∨ xk_has (xs_now B0 R0) k = false) := by rw [hc4, hc20]; decide
      have e1 : xs_dB B0 R0 bb k = xs_pB lm B0 R0 false [((1, k, 0) : xs_O)] := by unfold xs_dB xs_pB; rw [if_neg e0, if_neg (by rw [eb]; decide)]
      have e2 : xs_dR B0 R0 bb k = xs_pR lm B0 R0 false [((1, k, 0) : xs_O)] := by unfold xs_dR xs_pR; rw [if_neg e0, if_neg (by rw [eb]; decide)]
      have e3 : xs_pS bb ST ((1, k, 0) : xs_O) = ST := xs_pS_no hc4 _ _
      refine lv_if_eq (tgt := 53) hx hb d_M_delete_46 (by decide) (fun hc46 => ?_) (fun hc46 => ?_)
      · skip
        rw [xb_0] at hc46
        exfalso
        (rw [eb] at hc46; exact absurd hc46 (by decide))
      · skip
        rw [xb_1] at hc46
        refine lv_iconst (v := nI 1) hx hb d_M_delete_49 (by decide +kernel) ?_
        refine lv_goto (tgt := 54) hx hb d_M_delete_50 (by decide) ?_
        exact W.iret (v := nI 1) hx hb hr (fun tJ htJ hWJ => ⟨⟨_, (bk2_43, bv2_43, wh2_43, rk2_43, rv2_43, bg2_43, sw, sk, sv, ky2_43, vl2_43, kp2_43), rfl, ⟨by rw [if_neg (by rw [hc4]; decide), if_pos hc20], by rw [e1, e2, e3]; exact ⟨hp43.1, hp43.2, hMT.2.2⟩⟩, by dsimp only; rw [htJ]; rw [e1, e2, e3]; exact hP⟩, hS.F htJ⟩) hS.2.2 d_M_delete_54
    · skip
      rw [xb_0] at hc20
      have e1 : xs_dB B0 R0 bb k = B0 := by unfold xs_dB; rw [if_pos (Or.inr hc20)]
      have e2 : xs_dR B0 R0 bb k = R0 := by unfold xs_dR; rw [if_pos (Or.inr hc20)]
      have e3 : xs_pS bb ST ((1, k, 0) : xs_O) = ST := xs_pS_no hc4 _ _
      refine lv_iconst (v := nI 0) hx hb d_M_delete_23 (by decide +kernel) ?_
      exact W.iret (v := nI 0) hx hb hr (fun tJ htJ hWJ => ⟨⟨_, (bk, bv, wh, rk, rv, bg, sw, sk, sv, ky2_17, vl2_17, nI (xs_now B0 R0).length), rfl, ⟨by rw [if_neg (by rw [hc4]; decide), if_neg (by rw [hc20]; decide)], by rw [e1, e2, e3]; exact hMT⟩, by dsimp only; rw [htJ]; rw [e1, e2, e3]; exact hP⟩, hS.F htJ⟩) hS.2.2 d_M_delete_24
  · skip
    rw [xb_1] at hc4
    refine lv_aload_n hx hb d_M_delete_7 rfl (lv_at hl 0 rfl) ?_
    refine lv_iconst (v := nI 1) hx hb d_M_delete_8 (by decide +kernel) ?_
    refine lv_iload_n hx hb d_M_delete_9 rfl (lv_at hl 1 rfl) ?_
    refine lv_lconst (v := 0) hx hb d_M_delete_10 (by decide +kernel) ?_
    refine xa_cMI (va_runV (As := [.int (nI 1), .int k, .long 0]) (rest := []) ⟨hx, hb, hml, hown, hts⟩ (c_M_step l D q cA (nI lm) (nI B0.length) bk bv (nI R0.length) wh rk rv bg (xb_i bb) sw sk sv kp ky vl s.heap.size ST.length (nI 1) k 0 (by omega)) (cwV 3 hts (zg_V zm_432 zm_434 zs_11 zm_7 zm_435) rfl rfl rfl (by decide +kernel) ⟨Nat.le_of_ble_eq_true rfl, Nat.le_of_ble_eq_true rfl⟩) (xp_preVQ (ci := 5) (q0 := 0) hK hP hD rfl rfl rfl hZ) rfl rfl hl.1 rfl (lv_room (Nat.le_of_ble_eq_true rfl)) d_M_delete_11 ⟨Nat.zero_le _, Nat.zero_le _⟩) hS (xa_F hD hS hA) (fun r u H locs hp11 hP hS => ?_)
    obtain ⟨rfl, hp11⟩ := hp11
    have hP : va_P D zz_cl (xw_M q cA (nI lm) (nI B0.length) bk bv (nI R0.length) wh rk rv bg (xb_i bb) (nI (if ST.length < 5 then ST.length + 1 else ST.length)) (if ST.length < 5 then upd sw ST.length (nI 1) else sw) (if ST.length < 5 then upd sk ST.length k else sk) (if ST.length < 5 then vp_updL sv ST.length 0 else sv) kp ky vl) H := hP
    have hD : va_D A (xw_M q cA (nI lm) (nI B0.length) bk bv (nI R0.length) wh rk rv bg (xb_i bb) (nI (if ST.length < 5 then ST.length + 1 else ST.length)) (if ST.length < 5 then upd sw ST.length (nI 1) else sw) (if ST.length < 5 then upd sk ST.length k else sk) (if ST.length < 5 then vp_updL sv ST.length 0 else sv) kp ky vl) := xa_E hD rfl
    have e1 : xs_dB B0 R0 bb k = B0 := by unfold xs_dB; rw [if_pos (Or.inl hc4)]
    have e2 : xs_dR B0 R0 bb k = R0 := by unfold xs_dR; rw [if_pos (Or.inl hc4)]
    exact W.iret (v := if ST.length < 5 then nI 3 else nI 0) hx hb hr (fun tJ htJ hWJ => ⟨⟨_, (bk, bv, wh, rk, rv, bg, if ST.length < 5 then upd sw ST.length (nI 1) else sw, if ST.length < 5 then upd sk ST.length k else sk, if ST.length < 5 then vp_updL sv ST.length 0 else sv, ky, vl, kp), rfl, ⟨by rw [if_pos hc4], by rw [e1, e2]; exact ⟨hMT.1, hMT.2.1, xm_sx_take hMT.2.2 hc4 (Nat.le_refl _) rfl rfl rfl⟩⟩, by dsimp only; rw [htJ]; rw [e1, e2, xs_pS_len hc4]; exact hP⟩, hS.F htJ⟩) hS.2.2 d_M_delete_14
set_option maxHeartbeats 4000000 in
set_option maxRecDepth 100000 in
theorem c_M_open (l : Launch) (D : va_G) (q : Nat → Nat) (cA : Nat → ClassId) (bk : Nat → Int32) (bv : Nat → Int64) (wh : Nat → Int32) (rk : Nat → Int32) (rv : Nat → Int64) (bg : Nat → Int32) (sw : Nat → Int32) (sk : Nat → Int32) (sv : Nat → Int64) (kp : Int32) (ky : Nat → Int32) (vl : Nat → Int64) (sz : Nat) (lm : Nat) (B0 : List xk_E) (R0 : List xs_R) (bb : Bool) (ST : List xs_O) (hMT : xm_MT B0 R0 ST bk bv wh rk rv bg sw sk sv) (hok : xs_ok lm B0 R0) (hlm : lm ≤ 200) (hst : ST.length ≤ 5) : Met l y_M_open zw_M_open ({ frames := 0, cells := 0, slots := 0, locals := 0 } : Room) (va_Pc [.ref (q 0)] (xp_Q D zz_cl (xw_tM cA) sz (xw_M q cA (nI lm) (nI B0.length) bk bv (nI R0.length) wh rk rv bg (xb_i bb) (nI ST.length) sw sk sv kp ky vl))) (va_Qi (fun (r : Int32) (u : (Nat → Int32) × (Nat → Int64) × (Nat → Int32) × (Nat → Int32) × (Nat → Int64) × (Nat → Int32) × (Nat → Int32) × (Nat → Int32) × (Nat → Int64) × (Nat → Int32) × (Nat → Int64) × Int32) => r = (xb_i (!bb)) ∧ (xm_MT B0 R0 (if bb = true then ST else []) u.1 u.2.1 u.2.2.1 u.2.2.2.1 u.2.2.2.2.1 u.2.2.2.2.2.1 u.2.2.2.2.2.2.1 u.2.2.2.2.2.2.2.1 u.2.2.2.2.2.2.2.2.1)) (fun (u : (Nat → Int32) × (Nat → Int64) × (Nat → Int32) × (Nat → Int32) × (Nat → Int64) × (Nat → Int32) × (Nat → Int32) × (Nat → Int32) × (Nat → Int64) × (Nat → Int32) × (Nat → Int64) × Int32) (t : State) => va_P D zz_cl (xw_M q cA (nI lm) (nI (B0).length) u.1 u.2.1 (nI (R0).length) u.2.2.1 u.2.2.2.1 u.2.2.2.2.1 u.2.2.2.2.2.1 (xb_i true) (nI (if bb = true then ST else []).length) u.2.2.2.2.2.2.1 u.2.2.2.2.2.2.2.1 u.2.2.2.2.2.2.2.2.1 u.2.2.2.2.2.2.2.2.2.2.2 u.2.2.2.2.2.2.2.2.2.1 u.2.2.2.2.2.2.2.2.2.2.1) t.heap) (va_A (xw_M q cA (nI lm) (nI B0.length) bk bv (nI R0.length) wh rk rv bg (xb_i bb) (nI ST.length) sw sk sv kp ky vl) sz)) 0 0 (va_A (xw_M q cA (nI lm) (nI B0.length) bk bv (nI R0.length) wh rk rv bg (xb_i bb) (nI ST.length) sw sk sv kp ky vl) sz) := by
  refine Met.ofW (cc := b_M_open) (maxL := 1) (ret := (some .boolean)) (by decide) rfl ?_
  intro pJ eJ s mJ args below meth cJ s₁ B hml hv
  obtain ⟨rfl, hsz, hP, hK, hD0, hZ⟩ := hv
  have hx := B.exec
  have hb := B.bytes
  have hr := B.returns
  have hts := atoms_spec (ws := zw_M_open) B.pre
  have hown : s.vm.findClass R_M = some mJ.cls := findClass_of_methodNamed B.named
  have hlocks := B.notSynchronized
  subst hsz
  have hD := hD0.self (sz := s.heap.size)
  generalize hAe : va_A (xw_M q cA (nI lm) (nI B0.length) bk bv (nI R0.length) wh rk rv bg (xb_i bb) (nI ST.length) sw sk sv kp ky vl) s.heap.size = A at hD ⊢
  have hA : ∀ q : Nat, s.heap.size ≤ q → A q := fun q h => by rw [← hAe]; exact Or.inr h
  have hS : va_S A s.heap s.heap [] := va_S.rf
  have hl := lv_entry ([.ref (q 0)]) (n := 1) (Nat.le_of_ble_eq_true rfl)
  rw [lg_entry_eq]
  generalize (lg_sl ([.ref (q 0)]) ++ List.replicate (1 - (lg_sl ([.ref (q 0)])).length) Slot.unset).toArray = ls at hl ⊢
  have hl : lv_has ls 1 [(0, .ref (q 0))] := hl
  have h64 := hok.2.2.1
  have h60 : (xs_now B0 R0).length ≤ 60 := hok.2.2.2.2.2.1
  refine lv_aload_n hx hb d_M_open_0 rfl (lv_at hl 0 rfl) ?_
  refine va_get (D := D) (ci := 5) (v := .int (xb_i bb)) (C := R_M) (T := F_M) (N := 17) hx hb hts (zi_M _) hown hK hP 0 rfl rfl 9 (by decide) (hts _ (List.mem_cons_of_mem _ zm_385)) (fun _ h9 => h9) rfl d_M_open_1 ?_
  refine lv_if_eq (tgt := 9) hx hb d_M_open_4 (by decide) (fun hc4 => ?_) (fun hc4 => ?_)
  · skip
    rw [xb_0] at hc4
    refine lv_aload_n hx hb d_M_open_9 rfl (lv_at hl 0 rfl) ?_
    refine lv_iconst (v := nI 1) hx hb d_M_open_10 (by decide +kernel) ?_
    refine xa_top (y := xb_i true) xb_t.symm ?_
    refine xa_put (ws' := (xw_M q cA (nI lm) (nI B0.length) bk bv (nI R0.length) wh rk rv bg (xb_i true) (nI ST.length) sw sk sv kp ky vl)) (ci := 5) (v := .int (xb_i true)) (ty := .boolean) (C := R_M) (T := F_M) (N := 17) hx hb hts (zi_M _) t_M t_M_ok n_M hown hK hP hD hS 0 rfl rfl 9 (by decide) (hts _ (List.mem_cons_of_mem _ zm_385)) (fun _ h9 => h9) rfl (by decide +kernel) (xb_nar _) (xb_fit _) (Nat.le_of_ble_eq_true rfl) rfl d_M_open_11 (fun H locs hP hD hS => ?_)
    refine lv_aload_n hx hb d_M_open_14 rfl (lv_at hl 0 rfl) ?_
    refine lv_iconst (v := nI 0) hx hb d_M_open_15 (by decide +kernel) ?_
    refine xa_put (ws' := (xw_M q cA (nI lm) (nI B0.length) bk bv (nI R0.length) wh rk rv bg (xb_i true) (nI 0) sw sk sv kp ky vl)) (ci := 5) (v := .int (nI 0)) (ty := .int) (C := R_M) (T := F_M) (N := 17) hx hb hts (zi_M _) t_M t_M_ok n_M hown hK hP hD hS 0 rfl rfl 10 (by decide) (hts _ (List.mem_cons_of_mem _ zm_386)) (fun _ h9 => h9) rfl (by decide +kernel) (rfl) (rfl) (Nat.le_of_ble_eq_true rfl) rfl d_M_open_16 (fun H locs hP hD hS => ?_)
    refine lv_iconst (v := nI 1) hx hb d_M_open_19 (by decide +kernel) ?_
    exact W.zret (ty := .boolean) (v := nI 1) hx hb hr (by decide +kernel) (fun tJ htJ hWJ => ⟨⟨_, (bk, bv, wh, rk, rv, bg, sw, sk, sv, ky, vl, kp), rfl, ⟨by rw [hc4]; rfl, by rw [if_neg (by rw [hc4]; decide)]; exact ⟨hMT.1, hMT.2.1, xm_sx_nil _ _ _⟩⟩, by dsimp only; rw [htJ]; rw [if_neg (by rw [hc4]; decide)]; exact hP⟩, hS.F htJ⟩) hS.2.2 d_M_open_20
  · skip
    rw [xb_1] at hc4
    refine lv_iconst (v := nI 0) hx hb d_M_open_7 (by decide +kernel) ?_
    exact W.zret (ty := .boolean) (v := nI 0) hx hb hr (by decide +kernel) (fun tJ htJ hWJ => ⟨⟨_, (bk, bv, wh, rk, rv, bg, sw, sk, sv, ky, vl, kp), rfl, ⟨by rw [hc4]; rfl, by rw [if_pos hc4]; exact hMT⟩, by dsimp only; rw [htJ]; rw [if_pos hc4, ← hc4]; exact hP⟩, hS.F htJ⟩) hS.2.2 d_M_open_8
set_option maxHeartbeats 4000000 in
set_option maxRecDepth 100000 in
theorem c_M_aban (l : Launch) (D : va_G) (q : Nat → Nat) (cA : Nat → ClassId) (bk : Nat → Int32) (bv : Nat → Int64) (wh : Nat → Int32) (rk : Nat → Int32) (rv : Nat → Int64) (bg : Nat → Int32) (sw : Nat → Int32) (sk : Nat → Int32) (sv : Nat → Int64) (kp : Int32) (ky : Nat → Int32) (vl : Nat → Int64) (sz : Nat) (lm : Nat) (B0 : List xk_E) (R0 : List xs_R) (bb : Bool) (ST : List xs_O) (hMT : xm_MT B0 R0 ST bk bv wh rk rv bg sw sk sv) (hok : xs_ok lm B0 R0) (hlm : lm ≤ 200) (hst : ST.length ≤ 5) : Met l y_M_abandon zw_M_abandon ({ frames := 0, cells := 0, slots := 0, locals := 0 } : Room) (va_Pc [.ref (q 0)] (xp_Q D zz_cl (xw_tM cA) sz (xw_M q cA (nI lm) (nI B0.length) bk bv (nI R0.length) wh rk rv bg (xb_i bb) (nI ST.length) sw sk sv kp ky vl))) (va_Qi (fun (r : Int32) (u : (Nat → Int32) × (Nat → Int64) × (Nat → Int32) × (Nat → Int32) × (Nat → Int64) × (Nat → Int32) × (Nat → Int32) × (Nat → Int32) × (Nat → Int64) × (Nat → Int32) × (Nat → Int64) × Int32) => r = (if bb = true then nI ST.length else (-1)) ∧ (xm_MT B0 R0 ST u.1 u.2.1 u.2.2.1 u.2.2.2.1 u.2.2.2.2.1 u.2.2.2.2.2.1 u.2.2.2.2.2.2.1 u.2.2.2.2.2.2.2.1 u.2.2.2.2.2.2.2.2.1)) (fun (u : (Nat → Int32) × (Nat → Int64) × (Nat → Int32) × (Nat → Int32) × (Nat → Int64) × (Nat → Int32) × (Nat → Int32) × (Nat → Int32) × (Nat → Int64) × (Nat → Int32) × (Nat → Int64) × Int32) (t : State) => va_P D zz_cl (xw_M q cA (nI lm) (nI (B0).length) u.1 u.2.1 (nI (R0).length) u.2.2.1 u.2.2.2.1 u.2.2.2.2.1 u.2.2.2.2.2.1 (xb_i false) (nI (ST).length) u.2.2.2.2.2.2.1 u.2.2.2.2.2.2.2.1 u.2.2.2.2.2.2.2.2.1 u.2.2.2.2.2.2.2.2.2.2.2 u.2.2.2.2.2.2.2.2.2.1 u.2.2.2.2.2.2.2.2.2.2.1) t.heap) (va_A (xw_M q cA (nI lm) (nI B0.length) bk bv (nI R0.length) wh rk rv bg (xb_i bb) (nI ST.length) sw sk sv kp ky vl) sz)) 0 0 (va_A (xw_M q cA (nI lm) (nI B0.length) bk bv (nI R0.length) wh rk rv bg (xb_i bb) (nI ST.length) sw sk sv kp ky vl) sz) := by
  refine Met.ofW (cc := b_M_abandon) (maxL := 1) (ret := (some .int)) (by decide) rfl ?_
  intro pJ eJ s mJ args below meth cJ s₁ B hml hv
  obtain ⟨rfl, hsz, hP, hK, hD0, hZ⟩ := hv
  have hx := B.exec
  have hb := B.bytes
  have hr := B.returns
  have hts := atoms_spec (ws := zw_M_abandon) B.pre
  have hown : s.vm.findClass R_M = some mJ.cls := findClass_of_methodNamed B.named
  have hlocks := B.notSynchronized
  subst hsz
  have hD := hD0.self (sz := s.heap.size)
  generalize hAe : va_A (xw_M q cA (nI lm) (nI B0.length) bk bv (nI R0.length) wh rk rv bg (xb_i bb) (nI ST.length) sw sk sv kp ky vl) s.heap.size = A at hD ⊢
  have hA : ∀ q : Nat, s.heap.size ≤ q → A q := fun q h => by rw [← hAe]; exact Or.inr h
  have hS : va_S A s.heap s.heap [] := va_S.rf
  have hl := lv_entry ([.ref (q 0)]) (n := 1) (Nat.le_of_ble_eq_true rfl)
  rw [lg_entry_eq]
  generalize (lg_sl ([.ref (q 0)]) ++ List.replicate (1 - (lg_sl ([.ref (q 0)])).length) Slot.unset).toArray = ls at hl ⊢
  have hl : lv_has ls 1 [(0, .ref (q 0))] := hl
  have h64 := hok.2.2.1
  have h60 : (xs_now B0 R0).length ≤ 60 := hok.2.2.2.2.2.1
  refine lv_aload_n hx hb d_M_abandon_0 rfl (lv_at hl 0 rfl) ?_
  refine va_get (D := D) (ci := 5) (v := .int (xb_i bb)) (C := R_M) (T := F_M) (N := 17) hx hb hts (zi_M _) hown hK hP 0 rfl rfl 9 (by decide) (hts _ (List.mem_cons_of_mem _ zm_385)) (fun _ h9 => h9) rfl d_M_abandon_1 ?_
  refine lv_if_ne (tgt := 9) hx hb d_M_abandon_4 (by decide) (fun hc4 => ?_) (fun hc4 => ?_)
  · skip
    rw [xb_1] at hc4
    refine lv_aload_n hx hb d_M_abandon_9 rfl (lv_at hl 0 rfl) ?_
    refine lv_iconst (v := nI 0) hx hb d_M_abandon_10 (by decide +kernel) ?_
    refine xa_top (y := xb_i false) xb_f.symm ?_
    refine xa_put (ws' := (xw_M q cA (nI lm) (nI B0.length) bk bv (nI R0.length) wh rk rv bg (xb_i false) (nI ST.length) sw sk sv kp ky vl)) (ci := 5) (v := .int (xb_i false)) (ty := .boolean) (C := R_M) (T := F_M) (N := 17) hx hb hts (zi_M _) t_M t_M_ok n_M hown hK hP hD hS 0 rfl rfl 9 (by decide) (hts _ (List.mem_cons_of_mem _ zm_385)) (fun _ h9 => h9) rfl (by decide +kernel) (xb_nar _) (xb_fit _) (Nat.le_of_ble_eq_true rfl) rfl d_M_abandon_11 (fun H locs hP hD hS => ?_)
    refine lv_aload_n hx hb d_M_abandon_14 rfl (lv_at hl 0 rfl) ?_
    refine va_get (D := D) (ci := 5) (v := .int (nI ST.length)) (C := R_M) (T := F_M) (N := 17) hx hb hts (zi_M _) hown hK hP 0 rfl rfl 10 (by decide) (hts _ (List.mem_cons_of_mem _ zm_386)) (fun _ h9 => h9) rfl d_M_abandon_15 ?_
    exact W.iret (v := nI ST.length) hx hb hr (fun tJ htJ hWJ => ⟨⟨_, (bk, bv, wh, rk, rv, bg, sw, sk, sv, ky, vl, kp), rfl, ⟨by rw [if_pos hc4], hMT⟩, by dsimp only; rw [htJ]; exact hP⟩, hS.F htJ⟩) hS.2.2 d_M_abandon_18
  · skip
    rw [xb_0] at hc4
    refine lv_iconst (v := (-1)) hx hb d_M_abandon_7 (by decide +kernel) ?_
    exact W.iret (v := (-1)) hx hb hr (fun tJ htJ hWJ => ⟨⟨_, (bk, bv, wh, rk, rv, bg, sw, sk, sv, ky, vl, kp), rfl, ⟨by rw [if_neg (by rw [hc4]; decide)], hMT⟩, by dsimp only; rw [htJ]; rw [← hc4]; exact hP⟩, hS.F htJ⟩) hS.2.2 d_M_abandon_8
set_option maxHeartbeats 4000000 in
set_option maxRecDepth 100000 in
theorem c_M_flush (l : Launch) (D : va_G) (q : Nat → Nat) (cA : Nat → ClassId) (bk : Nat → Int32) (bv : Nat → Int64) (wh : Nat → Int32) (rk : Nat → Int32) (rv : Nat → Int64) (bg : Nat → Int32) (sw : Nat → Int32) (sk : Nat → Int32) (sv : Nat → Int64) (kp : Int32) (ky : Nat → Int32) (vl : Nat → Int64) (sz : Nat) (lm : Nat) (B0 : List xk_E) (R0 : List xs_R) (bb : Bool) (ST : List xs_O) (hMT : xm_MT B0 R0 ST bk bv wh rk rv bg sw sk sv) (hok : xs_ok lm B0 R0) (hlm : lm ≤ 200) (hst : ST.length ≤ 5) : Met l y_M_flush zw_M_flush ({ frames := 4, cells := 0, slots := 0, locals := 93 } : Room) (va_Pc [.ref (q 0)] (xp_Q D zz_cl (xw_tM cA) sz (xw_M q cA (nI lm) (nI B0.length) bk bv (nI R0.length) wh rk rv bg (xb_i bb) (nI ST.length) sw sk sv kp ky vl))) (va_Qi (fun (r : Int32) (u : (Nat → Int32) × (Nat → Int64) × (Nat → Int32) × (Nat → Int32) × (Nat → Int64) × (Nat → Int32) × (Nat → Int32) × (Nat → Int32) × (Nat → Int64) × (Nat → Int32) × (Nat → Int64) × Int32) => r = (nI R0.length) ∧ (xm_MT (xs_now B0 R0) (([] : List xs_R)) ST u.1 u.2.1 u.2.2.1 u.2.2.2.1 u.2.2.2.2.1 u.2.2.2.2.2.1 u.2.2.2.2.2.2.1 u.2.2.2.2.2.2.2.1 u.2.2.2.2.2.2.2.2.1)) (fun (u : (Nat → Int32) × (Nat → Int64) × (Nat → Int32) × (Nat → Int32) × (Nat → Int64) × (Nat → Int32) × (Nat → Int32) × (Nat → Int32) × (Nat → Int64) × (Nat → Int32) × (Nat → Int64) × Int32) (t : State) => va_P D zz_cl (xw_M q cA (nI lm) (nI (xs_now B0 R0).length) u.1 u.2.1 (nI (([] : List xs_R)).length) u.2.2.1 u.2.2.2.1 u.2.2.2.2.1 u.2.2.2.2.2.1 (xb_i bb) (nI (ST).length) u.2.2.2.2.2.2.1 u.2.2.2.2.2.2.2.1 u.2.2.2.2.2.2.2.2.1 u.2.2.2.2.2.2.2.2.2.2.2 u.2.2.2.2.2.2.2.2.2.1 u.2.2.2.2.2.2.2.2.2.2.1) t.heap) (va_A (xw_M q cA (nI lm) (nI B0.length) bk bv (nI R0.length) wh rk rv bg (xb_i bb) (nI ST.length) sw sk sv kp ky vl) sz)) 0 0 (va_A (xw_M q cA (nI lm) (nI B0.length) bk bv (nI R0.length) wh rk rv bg (xb_i bb) (nI ST.length) sw sk sv kp ky vl) sz) := by
  refine Met.ofW (cc := b_M_flush) (maxL := 2) (ret := (some .int)) (by decide) rfl ?_
  intro pJ eJ s mJ args below meth cJ s₁ B hml hv
  obtain ⟨rfl, hsz, hP, hK, hD0, hZ⟩ := hv
  have hx := B.exec
  have hb := B.bytes
  have hr := B.returns
  have hts := atoms_spec (ws := zw_M_flush) B.pre
  have hown : s.vm.findClass R_M = some mJ.cls := findClass_of_methodNamed B.named
  have hlocks := B.notSynchronized
  subst hsz
  have hD := hD0.self (sz := s.heap.size)
  generalize hAe : va_A (xw_M q cA (nI lm) (nI B0.length) bk bv (nI R0.length) wh rk rv bg (xb_i bb) (nI ST.length) sw sk sv kp ky vl) s.heap.size = A at hD ⊢
  have hA : ∀ q : Nat, s.heap.size ≤ q → A q := fun q h => by rw [← hAe]; exact Or.inr h
  have hS : va_S A s.heap s.heap [] := va_S.rf
  have hl := lv_entry ([.ref (q 0)]) (n := 2) (Nat.le_of_ble_eq_true rfl)
  rw [lg_entry_eq]
  generalize (lg_sl ([.ref (q 0)]) ++ List.replicate (2 - (lg_sl ([.ref (q 0)])).length) Slot.unset).toArray = ls at hl ⊢
  have hl : lv_has ls 2 [(0, .ref (q 0))] := hl
  have h64 := hok.2.2.1
  have h60 : (xs_now B0 R0).length ≤ 60 := hok.2.2.2.2.2.1
  refine lv_aload_n hx hb d_M_flush_0 rfl (lv_at hl 0 rfl) ?_
  refine va_get (D := D) (ci := 5) (v := .int (nI R0.length)) (C := R_M) (T := F_M) (N := 17) hx hb hts (zi_M _) hown hK hP 0 rfl rfl 4 (by decide) (hts _ (List.mem_cons_of_mem _ zm_380)) (fun _ h9 => h9) rfl d_M_flush_1 ?_
  refine lv_istore_n (lv' := [(1, .int (nI R0.length)), (0, .ref (q 0))]) hx hb d_M_flush_4 rfl hl (Nat.le_of_ble_eq_true rfl) rfl (fun ls hl => ?_)
  refine lv_aload_n hx hb d_M_flush_5 rfl (lv_at hl 1 rfl) ?_
  refine lv_iload_n hx hb d_M_flush_6 rfl (lv_at hl 0 rfl) ?_
  refine xa_cMV (va_runV (As := [.int (nI R0.length)]) (rest := []) ⟨hx, hb, hml, hown, hts⟩ (c_M_settle l D q cA (nI lm) bk bv wh rk rv bg (xb_i bb) (nI ST.length) sw sk sv kp ky vl s.heap.size B0 R0 R0.length hMT.1 hok.1 hok.2.1 hMT.2.1 (by omega) (xs_ok_w hok) (Nat.le_refl _) hok.2.2.2.1 h60) (cwV 1 hts (zg_V zm_504 zm_506 zs_28 zm_7 zm_507) rfl rfl rfl (by decide +kernel) ⟨Nat.le_of_ble_eq_true rfl, Nat.le_of_ble_eq_true rfl⟩) (xp_preVQ (ci := 5) (q0 := 0) hK hP hD rfl rfl rfl hZ) rfl rfl hl.1 rfl (lv_room (Nat.le_of_ble_eq_true rfl)) d_M_flush_7 ⟨Nat.zero_le _, Nat.zero_le _⟩) hS (xa_F hD hS hA) (fun u H locs hp7 hP hS => ?_)
  obtain ⟨bk2_7, bv2_7, ky2_7, vl2_7⟩ := u
  have hP : va_P D zz_cl (xw_M q cA (nI lm) (nI (xs_S B0 R0 R0.length).length) bk2_7 bv2_7 (nI ((R0).length - R0.length)) (xw_mv wh R0.length ((R0).length - R0.length)) (xw_mv rk R0.length ((R0).length - R0.length)) (xw_mv rv R0.length ((R0).length - R0.length)) (xm_mb bg R0.length ((R0).length - R0.length)) (xb_i bb) (nI ST.length) sw sk sv (nI (xs_S B0 R0 R0.length).length) ky2_7 vl2_7) H := hP
  have hD : va_D A (xw_M q cA (nI lm) (nI (xs_S B0 R0 R0.length).length) bk2_7 bv2_7 (nI ((R0).length - R0.length)) (xw_mv wh R0.length ((R0).length - R0.length)) (xw_mv rk R0.length ((R0).length - R0.length)) (xw_mv rv R0.length ((R0).length - R0.length)) (xm_mb bg R0.length ((R0).length - R0.length)) (xb_i bb) (nI ST.length) sw sk sv (nI (xs_S B0 R0 R0.length).length) ky2_7 vl2_7) := xa_E hD rfl
  have hp7 : xk_tie bk2_7 bv2_7 (xs_S B0 R0 R0.length) := hp7
  rw [show nI ((R0).length - R0.length) = nI 0 from by rw [Nat.sub_self]] at hP hD
  refine lv_iload_n hx hb d_M_flush_10 rfl (lv_at hl 0 rfl) ?_
  exact W.iret (v := nI R0.length) hx hb hr (fun tJ htJ hWJ => ⟨⟨_, (bk2_7, bv2_7, xw_mv wh R0.length ((R0).length - R0.length), xw_mv rk R0.length ((R0).length - R0.length), xw_mv rv R0.length ((R0).length - R0.length), xm_mb bg R0.length ((R0).length - R0.length), sw, sk, sv, ky2_7, vl2_7, nI (xs_S B0 R0 R0.length).length), rfl, ⟨rfl, hp7, xm_rt_nil _ _ _ _, hMT.2.2⟩, by dsimp only; rw [htJ]; exact hP⟩, hS.F htJ⟩) hS.2.2 d_M_flush_11
set_option maxHeartbeats 4000000 in
set_option maxRecDepth 100000 in
theorem c_M_crash (l : Launch) (D : va_G) (q : Nat → Nat) (cA : Nat → ClassId) (bk : Nat → Int32) (bv : Nat → Int64) (wh : Nat → Int32) (rk : Nat → Int32) (rv : Nat → Int64) (bg : Nat → Int32) (sw : Nat → Int32) (sk : Nat → Int32) (sv : Nat → Int64) (kp : Int32) (ky : Nat → Int32) (vl : Nat → Int64) (sz : Nat) (lm : Nat) (B0 : List xk_E) (R0 : List xs_R) (bb : Bool) (ST : List xs_O) (x : Int32) (hMT : xm_MT B0 R0 ST bk bv wh rk rv bg sw sk sv) (hok : xs_ok lm B0 R0) (hlm : lm ≤ 200) (hst : ST.length ≤ 5) : Met l y_M_crash zw_M_crash ({ frames := 4, cells := 0, slots := 0, locals := 93 } : Room) (va_Pc [.ref (q 0), .int x] (xp_Q D zz_cl (xw_tM cA) sz (xw_M q cA (nI lm) (nI B0.length) bk bv (nI R0.length) wh rk rv bg (xb_i bb) (nI ST.length) sw sk sv kp ky vl))) (va_Qi (fun (r : Int32) (u : (Nat → Int32) × (Nat → Int64) × (Nat → Int32) × (Nat → Int32) × (Nat → Int64) × (Nat → Int32) × (Nat → Int32) × (Nat → Int32) × (Nat → Int64) × (Nat → Int32) × (Nat → Int64) × Int32) => r = (nI (R0.length - xs_cut R0 x)) ∧ (xm_MT (xs_S B0 R0 (xs_cut R0 x)) (([] : List xs_R)) ST u.1 u.2.1 u.2.2.1 u.2.2.2.1 u.2.2.2.2.1 u.2.2.2.2.2.1 u.2.2.2.2.2.2.1 u.2.2.2.2.2.2.2.1 u.2.2.2.2.2.2.2.2.1)) (fun (u : (Nat → Int32) × (Nat → Int64) × (Nat → Int32) × (Nat → Int32) × (Nat → Int64) × (Nat → Int32) × (Nat → Int32) × (Nat → Int32) × (Nat → Int64) × (Nat → Int32) × (Nat → Int64) × Int32) (t : State) => va_P D zz_cl (xw_M q cA (nI lm) (nI (xs_S B0 R0 (xs_cut R0 x)).length) u.1 u.2.1 (nI (([] : List xs_R)).length) u.2.2.1 u.2.2.2.1 u.2.2.2.2.1 u.2.2.2.2.2.1 (xb_i false) (nI (ST).length) u.2.2.2.2.2.2.1 u.2.2.2.2.2.2.2.1 u.2.2.2.2.2.2.2.2.1 u.2.2.2.2.2.2.2.2.2.2.2 u.2.2.2.2.2.2.2.2.2.1 u.2.2.2.2.2.2.2.2.2.2.1) t.heap) (va_A (xw_M q cA (nI lm) (nI B0.length) bk bv (nI R0.length) wh rk rv bg (xb_i bb) (nI ST.length) sw sk sv kp ky vl) sz)) 0 0 (va_A (xw_M q cA (nI lm) (nI B0.length) bk bv (nI R0.length) wh rk rv bg (xb_i bb) (nI ST.length) sw sk sv kp ky vl) sz) := by
  refine Met.ofW (cc := b_M_crash) (maxL := 5) (ret := (some .int)) (by decide) rfl ?_
  intro pJ eJ s mJ args below meth cJ s₁ B hml hv
  obtain ⟨rfl, hsz, hP, hK, hD0, hZ⟩ := hv
  have hx := B.exec
  have hb := B.bytes
  have hr := B.returns
  have hts := atoms_spec (ws := zw_M_crash) B.pre
  have hown : s.vm.findClass R_M = some mJ.cls := findClass_of_methodNamed B.named
  have hlocks := B.notSynchronized
  subst hsz
  have hD := hD0.self (sz := s.heap.size)
  generalize hAe : va_A (xw_M q cA (nI lm) (nI B0.length) bk bv (nI R0.length) wh rk rv bg (xb_i bb) (nI ST.length) sw sk sv kp ky vl) s.heap.size = A at hD ⊢
  have hA : ∀ q : Nat, s.heap.size ≤ q → A q := fun q h => by rw [← hAe]; exact Or.inr h
  have hS : va_S A s.heap s.heap [] := va_S.rf
  have hl := lv_entry ([.ref (q 0), .int x]) (n := 5) (Nat.le_of_ble_eq_true rfl)
  rw [lg_entry_eq]
  generalize (lg_sl ([.ref (q 0), .int x]) ++ List.replicate (5 - (lg_sl ([.ref (q 0), .int x])).length) Slot.unset).toArray = ls at hl ⊢
  have hl : lv_has ls 5 [(0, .ref (q 0)), (1, .int x)] := hl
  have h64 := hok.2.2.1
  have h60 : (xs_now B0 R0).length ≤ 60 := hok.2.2.2.2.2.1
  have hcl := xw_cl_le x R0.length
  obtain ⟨hcut, hcV⟩ := xs_cut_le hok x
  have htk : (R0.take (xs_cut R0 x)).length = xs_cut R0 x := by rw [List.length_take]; omega
  refine lv_aload_n hx hb d_M_crash_0 rfl (lv_at hl 0 rfl) ?_
  refine lv_iconst (v := nI 0) hx hb d_M_crash_1 (by decide +kernel) ?_
  refine xa_top (y := xb_i false) xb_f.symm ?_
  refine xa_put (ws' := (xw_M q cA (nI lm) (nI B0.length) bk bv (nI R0.length) wh rk rv bg (xb_i false) (nI ST.length) sw sk sv kp ky vl)) (ci := 5) (v := .int (xb_i false)) (ty := .boolean) (C := R_M) (T := F_M) (N := 17) hx hb hts (zi_M _) t_M t_M_ok n_M hown hK hP hD hS 0 rfl rfl 9 (by decide) (hts _ (List.mem_cons_of_mem _ zm_385)) (fun _ h9 => h9) rfl (by decide +kernel) (xb_nar _) (xb_fit _) (Nat.le_of_ble_eq_true rfl) rfl d_M_crash_2 (fun H locs hP hD hS => ?_)
  refine lv_iload_n hx hb d_M_crash_5 rfl (lv_at hl 1 rfl) ?_
  refine lv_if_ge (tgt := 13) hx hb d_M_crash_6 (by decide) (fun hc6 => ?_) (fun hc6 => ?_)
  · skip
    refine lv_iload_n hx hb d_M_crash_13 rfl (lv_at hl 1 rfl) ?_
    refine lv_aload_n hx hb d_M_crash_14 rfl (lv_at hl 0 rfl) ?_
    refine va_get (D := D) (ci := 5) (v := .int (nI R0.length)) (C := R_M) (T := F_M) (N := 17) hx hb hts (zi_M _) hown hK hP 0 rfl rfl 4 (by decide) (hts _ (List.mem_cons_of_mem _ zm_380)) (fun _ h9 => h9) rfl d_M_crash_15 ?_
    refine lv_icmp_le (tgt := 28) hx hb d_M_crash_18 (by decide) (fun hc18 => ?_) (fun hc18 => ?_)
    · skip
      refine lv_iload_n hx hb d_M_crash_28 rfl (lv_at hl 1 rfl) ?_
      refine xa_top (y := nI (xw_cl x R0.length)) (by first | exact xm_c0 (xk_nle hc6) | exact xm_c1 (by omega) hc6 hc18 | exact xm_c2 (by omega) hc6 hc18) ?_
      refine lv_istore_n (lv' := [(2, .int (nI (xw_cl x R0.length))), (0, .ref (q 0)), (1, .int x)]) hx hb d_M_crash_29 rfl hl (Nat.le_of_ble_eq_true rfl) rfl (fun ls hl => ?_)
      refine lv_iload_n hx hb d_M_crash_30 rfl (lv_at hl 0 rfl) ?_
      refine lv_aload_n hx hb d_M_crash_31 rfl (lv_at hl 1 rfl) ?_
      refine va_get (D := D) (ci := 5) (v := .int (nI R0.length)) (C := R_M) (T := F_M) (N := 17) hx hb hts (zi_M _) hown hK hP 0 rfl rfl 4 (by decide) (hts _ (List.mem_cons_of_mem _ zm_380)) (fun _ h9 => h9) rfl d_M_crash_32 ?_
      refine lv_icmp_ge (tgt := 47) hx hb d_M_crash_35 (by decide) (fun hc35 => ?_) (fun hc35 => ?_)
      · skip
        rw [nI_leI (by omega) (by omega)] at hc35
        refine lv_aload_n hx hb d_M_crash_47 rfl (lv_at hl 1 rfl) ?_
        refine va_get (D := D) (ci := 5) (v := .int (nI R0.length)) (C := R_M) (T := F_M) (N := 17) hx hb hts (zi_M _) hown hK hP 0 rfl rfl 4 (by decide) (hts _ (List.mem_cons_of_mem _ zm_380)) (fun _ h9 => h9) rfl d_M_crash_48 ?_
        refine xa_top (y := nI (xs_cut R0 x)) (by first | exact xm_cut1 (xm_rt_st hMT.2.1) (by omega) | exact xm_cut2 (xm_rt_st hMT.2.1) (by omega)) ?_
        refine lv_istore_n (lv' := [(3, .int (nI (xs_cut R0 x))), (2, .int (nI (xw_cl x R0.length))), (0, .ref (q 0)), (1, .int x)]) hx hb d_M_crash_51 rfl hl (Nat.le_of_ble_eq_true rfl) rfl (fun ls hl => ?_)
        refine lv_aload_n hx hb d_M_crash_52 rfl (lv_at hl 2 rfl) ?_
        refine va_get (D := D) (ci := 5) (v := .int (nI R0.length)) (C := R_M) (T := F_M) (N := 17) hx hb hts (zi_M _) hown hK hP 0 rfl rfl 4 (by decide) (hts _ (List.mem_cons_of_mem _ zm_380)) (fun _ h9 => h9) rfl d_M_crash_53 ?_
        refine lv_iload_n hx hb d_M_crash_56 rfl (lv_at hl 0 rfl) ?_
        refine lv_isub hx hb d_M_crash_57 ?_
        refine xa_top (y := nI (R0.length - (xs_cut R0 x))) (pk_sub (by omega)) ?_
        refine lv_istore (lv' := [(4, .int (nI (R0.length - (xs_cut R0 x)))), (3, .int (nI (xs_cut R0 x))), (2, .int (nI (xw_cl x R0.length))), (0, .ref (q 0)), (1, .int x)]) hx hb d_M_crash_58 hl (Nat.le_of_ble_eq_true rfl) rfl (fun ls hl => ?_)
        refine lv_aload_n hx hb d_M_crash_60 rfl (lv_at hl 3 rfl) ?_
        refine lv_iload_n hx hb d_M_crash_61 rfl (lv_at hl 1 rfl) ?_
        refine xa_put (ws' := (xw_M q cA (nI lm) (nI B0.length) bk bv (nI (xs_cut R0 x)) wh rk rv bg (xb_i false) (nI ST.length) sw sk sv kp ky vl)) (ci := 5) (v := .int (nI (xs_cut R0 x))) (ty := .int) (C := R_M) (T := F_M) (N := 17) hx hb hts (zi_M _) t_M t_M_ok n_M hown hK hP hD hS 0 rfl rfl 4 (by decide) (hts _ (List.mem_cons_of_mem _ zm_380)) (fun _ h9 => h9) rfl (by decide +kernel) (rfl) (rfl) (Nat.le_of_ble_eq_true rfl) rfl d_M_crash_62 (fun H locs hP hD hS => ?_)
        rw [show nI (xs_cut R0 x) = nI (R0.take (xs_cut R0 x)).length from by rw [htk]] at hP hD
        refine lv_aload_n hx hb d_M_crash_65 rfl (lv_at hl 3 rfl) ?_
        refine lv_iload_n hx hb d_M_crash_66 rfl (lv_at hl 1 rfl) ?_
        refine xa_cMV (va_runV (As := [.int (nI (xs_cut R0 x))]) (rest := []) ⟨hx, hb, hml, hown, hts⟩ (c_M_settle l D q cA (nI lm) bk bv wh rk rv bg (xb_i false) (nI ST.length) sw sk sv kp ky vl H.size B0 (R0.take (xs_cut R0 x)) (xs_cut R0 x) hMT.1 hok.1 hok.2.1 (xm_rt_take hMT.2.1 _) (by omega) (fun r hr => xs_ok_w hok r (List.mem_of_mem_take hr)) (by omega) (fun i hi => by rw [xm_S_take B0 R0 hi]; exact hok.2.2.2.1 i (by omega)) (by rw [xm_S_take B0 R0 (Nat.le_refl _)]; exact hcV.1)) (cwV 1 hts (zg_V zm_504 zm_506 zs_28 zm_7 zm_507) rfl rfl rfl (by decide +kernel) ⟨Nat.le_of_ble_eq_true rfl, Nat.le_of_ble_eq_true rfl⟩) (xp_preVQ (ci := 5) (q0 := 0) hK hP hD rfl rfl rfl hZ) rfl rfl hl.1 rfl (lv_room (Nat.le_of_ble_eq_true rfl)) d_M_crash_67 ⟨Nat.zero_le _, Nat.zero_le _⟩) hS (xa_F hD hS hA) (fun u H locs hp67 hP hS => ?_)
        obtain ⟨bk2_67, bv2_67, ky2_67, vl2_67⟩ := u
        have hP : va_P D zz_cl (xw_M q cA (nI lm) (nI (xs_S B0 (R0.take (xs_cut R0 x)) (xs_cut R0 x)).length) bk2_67 bv2_67 (nI ((R0.take (xs_cut R0 x)).length - (xs_cut R0 x))) (xw_mv wh (xs_cut R0 x) ((R0.take (xs_cut R0 x)).length - (xs_cut R0 x))) (xw_mv rk (xs_cut R0 x) ((R0.take (xs_cut R0 x)).length - (xs_cut R0 x))) (xw_mv rv (xs_cut R0 x) ((R0.take (xs_cut R0 x)).length - (xs_cut R0 x))) (xm_mb bg (xs_cut R0 x) ((R0.take (xs_cut R0 x)).length - (xs_cut R0 x))) (xb_i false) (nI ST.length) sw sk sv (nI (xs_S B0 (R0.take (xs_cut R0 x)) (xs_cut R0 x)).length) ky2_67 vl2_67) H := hP
        have hD : va_D A (xw_M q cA (nI lm) (nI (xs_S B0 (R0.take (xs_cut R0 x)) (xs_cut R0 x)).length) bk2_67 bv2_67 (nI ((R0.take (xs_cut R0 x)).length - (xs_cut R0 x))) (xw_mv wh (xs_cut R0 x) ((R0.take (xs_cut R0 x)).length - (xs_cut R0 x))) (xw_mv rk (xs_cut R0 x) ((R0.take (xs_cut R0 x)).length - (xs_cut R0 x))) (xw_mv rv (xs_cut R0 x) ((R0.take (xs_cut R0 x)).length - (xs_cut R0 x))) (xm_mb bg (xs_cut R0 x) ((R0.take (xs_cut R0 x)).length - (xs_cut R0 x))) (xb_i false) (nI ST.length) sw sk sv (nI (xs_S B0 (R0.take (xs_cut R0 x)) (xs_cut R0 x)).length) ky2_67 vl2_67) := xa_E hD rfl
        have hp67 : xk_tie bk2_67 bv2_67 (xs_S B0 (R0.take (xs_cut R0 x)) (xs_cut R0 x)) := hp67
        rw [show nI ((R0.take (xs_cut R0 x)).length - (xs_cut R0 x)) = nI 0 from by rw [htk, Nat.sub_self]] at hP hD
        rw [show nI (xs_S B0 (R0.take (xs_cut R0 x)) (xs_cut R0 x)).length = nI (xs_S B0 R0 (xs_cut R0 x)).length from by rw [xm_S_take B0 R0 (Nat.le_refl _)]] at hP hD
        refine lv_iload hx hb d_M_crash_70 (lv_at hl 0 rfl) ?_
        exact W.iret (v := nI (R0.length - (xs_cut R0 x))) hx hb hr (fun tJ htJ hWJ => ⟨⟨_, (bk2_67, bv2_67, xw_mv wh (xs_cut R0 x) ((R0.take (xs_cut R0 x)).length - (xs_cut R0 x)), xw_mv rk (xs_cut R0 x) ((R0.take (xs_cut R0 x)).length - (xs_cut R0 x)), xw_mv rv (xs_cut R0 x) ((R0.take (xs_cut R0 x)).length - (xs_cut R0 x)), xm_mb bg (xs_cut R0 x) ((R0.take (xs_cut R0 x)).length - (xs_cut R0 x)), sw, sk, sv, ky2_67, vl2_67, nI (xs_S B0 R0 (xs_cut R0 x)).length), rfl, ⟨rfl, by rw [← xm_S_take B0 R0 (Nat.le_refl _)]; exact hp67, xm_rt_nil _ _ _ _, hMT.2.2⟩, by dsimp only; rw [htJ]; exact hP⟩, hS.F htJ⟩) hS.2.2 d_M_crash_72
      · skip
        rw [nI_leI (by omega) (by omega)] at hc35
        refine lv_aload_n hx hb d_M_crash_38 rfl (lv_at hl 1 rfl) ?_
        refine va_get (D := D) (ci := 5) (v := .ref (q 6)) (C := R_M) (T := F_M) (N := 17) hx hb hts (zi_M _) hown hK hP 0 rfl rfl 8 (by decide) (hts _ (List.mem_cons_of_mem _ zm_384)) (fun _ h9 => h9) rfl d_M_crash_39 ?_
        refine lv_iload_n hx hb d_M_crash_42 rfl (lv_at hl 0 rfl) ?_
        refine xa_iald hx hb hK hP 6 5 rfl rfl (k := xw_cl x R0.length) (by omega) (by decide) d_M_crash_43 ?_
        refine lv_goto (tgt := 51) hx hb d_M_crash_44 (by decide) ?_
        refine xa_top (y := nI (xs_cut R0 x)) (by first | exact xm_cut1 (xm_rt_st hMT.2.1) (by omega) | exact xm_cut2 (xm_rt_st hMT.2.1) (by omega)) ?_
        refine lv_istore_n (lv' := [(3, .int (nI (xs_cut R0 x))), (2, .int (nI (xw_cl x R0.length))), (0, .ref (q 0)), (1, .int x)]) hx hb d_M_crash_51 rfl hl (Nat.le_of_ble_eq_true rfl) rfl (fun ls hl => ?_)
        refine lv_aload_n hx hb d_M_crash_52 rfl (lv_at hl 2 rfl) ?_
        refine va_get (D := D) (ci := 5) (v := .int (nI R0.length)) (C := R_M) (T := F_M) (N := 17) hx hb hts (zi_M _) hown hK hP 0 rfl rfl 4 (by decide) (hts _ (List.mem_cons_of_mem _ zm_380)) (fun _ h9 => h9) rfl d_M_crash_53 ?_
        refine lv_iload_n hx hb d_M_crash_56 rfl (lv_at hl 0 rfl) ?_
        refine lv_isub hx hb d_M_crash_57 ?_
        refine xa_top (y := nI (R0.length - (xs_cut R0 x))) (pk_sub (by omega)) ?_
        refine lv_istore (lv' := [(4, .int (nI (R0.length - (xs_cut R0 x)))), (3, .int (nI (xs_cut R0 x))), (2, .int (nI (xw_cl x R0.length))), (0, .ref (q 0)), (1, .int x)]) hx hb d_M_crash_58 hl (Nat.le_of_ble_eq_true rfl) rfl (fun ls hl => ?_)
        refine lv_aload_n hx hb d_M_crash_60 rfl (lv_at hl 3 rfl) ?_
        refine lv_iload_n hx hb d_M_crash_61 rfl (lv_at hl 1 rfl) ?_
        refine xa_put (ws' := (xw_M q cA (nI lm) (nI B0.length) bk bv (nI (xs_cut R0 x)) wh rk rv bg (xb_i false) (nI ST.length) sw sk sv kp ky vl)) (ci := 5) (v := .int (nI (xs_cut R0 x))) (ty := .int) (C := R_M) (T := F_M) (N := 17) hx hb hts (zi_M _) t_M t_M_ok n_M hown hK hP hD hS 0 rfl rfl 4 (by decide) (hts _ (List.mem_cons_of_mem _ zm_380)) (fun _ h9 => h9) rfl (by decide +kernel) (rfl) (rfl) (Nat.le_of_ble_eq_true rfl) rfl d_M_crash_62 (fun H locs hP hD hS => ?_)
        rw [show nI (xs_cut R0 x) = nI (R0.take (xs_cut R0 x)).length from by rw [htk]] at hP hD
        refine lv_aload_n hx hb d_M_crash_65 rfl (lv_at hl 3 rfl) ?_
        refine lv_iload_n hx hb d_M_crash_66 rfl (lv_at hl 1 rfl) ?_
        refine xa_cMV (va_runV (As := [.int (nI (xs_cut R0 x))]) (rest := []) ⟨hx, hb, hml, hown, hts⟩ (c_M_settle l D q cA (nI lm) bk bv wh rk rv bg (xb_i false) (nI ST.length) sw sk sv kp ky vl H.size B0 (R0.take (xs_cut R0 x)) (xs_cut R0 x) hMT.1 hok.1 hok.2.1 (xm_rt_take hMT.2.1 _) (by omega) (fun r hr => xs_ok_w hok r (List.mem_of_mem_take hr)) (by omega) (fun i hi => by rw [xm_S_take B0 R0 hi]; exact hok.2.2.2.1 i (by omega)) (by rw [xm_S_take B0 R0 (Nat.le_refl _)]; exact hcV.1)) (cwV 1 hts (zg_V zm_504 zm_506 zs_28 zm_7 zm_507) rfl rfl rfl (by decide +kernel) ⟨Nat.le_of_ble_eq_true rfl, Nat.le_of_ble_eq_true rfl⟩) (xp_preVQ (ci := 5) (q0 := 0) hK hP hD rfl rfl rfl hZ) rfl rfl hl.1 rfl (lv_room (Nat.le_of_ble_eq_true rfl)) d_M_crash_67 ⟨Nat.zero_le _, Nat.zero_le _⟩) hS (xa_F hD hS hA) (fun u H locs hp67 hP hS => ?_)
        obtain ⟨bk2_67, bv2_67, ky2_67, vl2_67⟩ := u
        have hP : va_P D zz_cl (xw_M q cA (nI lm) (nI (xs_S B0 (R0.take (xs_cut R0 x)) (xs_cut R0 x)).length) bk2_67 bv2_67 (nI ((R0.take (xs_cut R0 x)).length - (xs_cut R0 x))) (xw_mv wh (xs_cut R0 x) ((R0.take (xs_cut R0 x)).length - (xs_cut R0 x))) (xw_mv rk (xs_cut R0 x) ((R0.take (xs_cut R0 x)).length - (xs_cut R0 x))) (xw_mv rv (xs_cut R0 x) ((R0.take (xs_cut R0 x)).length - (xs_cut R0 x))) (xm_mb bg (xs_cut R0 x) ((R0.take (xs_cut R0 x)).length - (xs_cut R0 x))) (xb_i false) (nI ST.length) sw sk sv (nI (xs_S B0 (R0.take (xs_cut R0 x)) (xs_cut R0 x)).length) ky2_67 vl2_67) H := hP
        have hD : va_D A (xw_M q cA (nI lm) (nI (xs_S B0 (R0.take (xs_cut R0 x)) (xs_cut R0 x)).length) bk2_67 bv2_67 (nI ((R0.take (xs_cut R0 x)).length - (xs_cut R0 x))) (xw_mv wh (xs_cut R0 x) ((R0.take (xs_cut R0 x)).length - (xs_cut R0 x))) (xw_mv rk (xs_cut R0 x) ((R0.take (xs_cut R0 x)).length - (xs_cut R0 x))) (xw_mv rv (xs_cut R0 x) ((R0.take (xs_cut R0 x)).length - (xs_cut R0 x))) (xm_mb bg (xs_cut R0 x) ((R0.take (xs_cut R0 x)).length - (xs_cut R0 x))) (xb_i false) (nI ST.length) sw sk sv (nI (xs_S B0 (R0.take (xs_cut R0 x)) (xs_cut R0 x)).length) ky2_67 vl2_67) := xa_E hD rfl
        have hp67 : xk_tie bk2_67 bv2_67 (xs_S B0 (R0.take (xs_cut R0 x)) (xs_cut R0 x)) := hp67
        rw [show nI ((R0.take (xs_cut R0 x)).length - (xs_cut R0 x)) = nI 0 from by rw [htk, Nat.sub_self]] at hP hD
        rw [show nI (xs_S B0 (R0.take (xs_cut R0 x)) (xs_cut R0 x)).length = nI (xs_S B0 R0 (xs_cut R0 x)).length from by rw [xm_S_take B0 R0 (Nat.le_refl _)]] at hP hD
        refine lv_iload hx hb d_M_crash_70 (lv_at hl 0 rfl) ?_
        exact W.iret (v := nI (R0.length - (xs_cut R0 x))) hx hb hr (fun tJ htJ hWJ => ⟨⟨_, (bk2_67, bv2_67, xw_mv wh (xs_cut R0 x) ((R0.take (xs_cut R0 x)).length - (xs_cut R0 x)), xw_mv rk (xs_cut R0 x) ((R0.take (xs_cut R0 x)).length - (xs_cut R0 x)), xw_mv rv (xs_cut R0 x) ((R0.take (xs_cut R0 x)).length - (xs_cut R0 x)), xm_mb bg (xs_cut R0 x) ((R0.take (xs_cut R0 x)).length - (xs_cut R0 x)), sw, sk, sv, ky2_67, vl2_67, nI (xs_S B0 R0 (xs_cut R0 x)).length), rfl, ⟨rfl, by rw [← xm_S_take B0 R0 (Nat.le_refl _)]; exact hp67, xm_rt_nil _ _ _ _, hMT.2.2⟩, by dsimp only; rw [htJ]; exact hP⟩, hS.F htJ⟩) hS.2.2 d_M_crash_72
    · skip
      refine lv_aload_n hx hb d_M_crash_21 rfl (lv_at hl 0 rfl) ?_
      refine va_get (D := D) (ci := 5) (v := .int (nI R0.length)) (C := R_M) (T := F_M) (N := 17) hx hb hts (zi_M _) hown hK hP 0 rfl rfl 4 (by decide) (hts _ (List.mem_cons_of_mem _ zm_380)) (fun _ h9 => h9) rfl d_M_crash_22 ?_
      refine lv_goto (tgt := 29) hx hb d_M_crash_25 (by decide) ?_
      refine xa_top (y := nI (xw_cl x R0.length)) (by first | exact xm_c0 (xk_nle hc6) | exact xm_c1 (by omega) hc6 hc18 | exact xm_c2 (by omega) hc6 hc18) ?_
      refine lv_istore_n (lv' := [(2, .int (nI (xw_cl x R0.length))), (0, .ref (q 0)), (1, .int x)]) hx hb d_M_crash_29 rfl hl (Nat.le_of_ble_eq_true rfl) rfl (fun ls hl => ?_)
      refine lv_iload_n hx hb d_M_crash_30 rfl (lv_at hl 0 rfl) ?_
      refine lv_aload_n hx hb d_M_crash_31 rfl (lv_at hl 1 rfl) ?_
      refine va_get (D := D) (ci := 5) (v := .int (nI R0.length)) (C := R_M) (T := F_M) (N := 17) hx hb hts (zi_M _) hown hK hP 0 rfl rfl 4 (by decide) (hts _ (List.mem_cons_of_mem _ zm_380)) (fun _ h9 => h9) rfl d_M_crash_32 ?_
      refine lv_icmp_ge (tgt := 47) hx hb d_M_crash_35 (by decide) (fun hc35 => ?_) (fun hc35 => ?_)
      · skip
        rw [nI_leI (by omega) (by omega)] at hc35
        refine lv_aload_n hx hb d_M_crash_47 rfl (lv_at hl 1 rfl) ?_
        refine va_get (D := D) (ci := 5) (v := .int (nI R0.length)) (C := R_M) (T := F_M) (N := 17) hx hb hts (zi_M _) hown hK hP 0 rfl rfl 4 (by decide) (hts _ (List.mem_cons_of_mem _ zm_380)) (fun _ h9 => h9) rfl d_M_crash_48 ?_
        refine xa_top (y := nI (xs_cut R0 x)) (by first | exact xm_cut1 (xm_rt_st hMT.2.1) (by omega) | exact xm_cut2 (xm_rt_st hMT.2.1) (by omega)) ?_
        refine lv_istore_n (lv' := [(3, .int (nI (xs_cut R0 x))), (2, .int (nI (xw_cl x R0.length))), (0, .ref (q 0)), (1, .int x)]) hx hb d_M_crash_51 rfl hl (Nat.le_of_ble_eq_true rfl) rfl (fun ls hl => ?_)
        refine lv_aload_n hx hb d_M_crash_52 rfl (lv_at hl 2 rfl) ?_
        refine va_get (D := D) (ci := 5) (v := .int (nI R0.length)) (C := R_M) (T := F_M) (N := 17) hx hb hts (zi_M _) hown hK hP 0 rfl rfl 4 (by decide) (hts _ (List.mem_cons_of_mem _ zm_380)) (fun _ h9 => h9) rfl d_M_crash_53 ?_
        refine lv_iload_n hx hb d_M_crash_56 rfl (lv_at hl 0 rfl) ?_
        refine lv_isub hx hb d_M_crash_57 ?_
        refine xa_top (y := nI (R0.length - (xs_cut R0 x))) (pk_sub (by omega)) ?_
        refine lv_istore (lv' := [(4, .int (nI (R0.length - (xs_cut R0 x)))), (3, .int (nI (xs_cut R0 x))), (2, .int (nI (xw_cl x R0.length))), (0, .ref (q 0)), (1, .int x)]) hx hb d_M_crash_58 hl (Nat.le_of_ble_eq_true rfl) rfl (fun ls hl => ?_)
        refine lv_aload_n hx hb d_M_crash_60 rfl (lv_at hl 3 rfl) ?_
        refine lv_iload_n hx hb d_M_crash_61 rfl (lv_at hl 1 rfl) ?_
        refine xa_put (ws' := (xw_M q cA (nI lm) (nI B0.length) bk bv (nI (xs_cut R0 x)) wh rk rv bg (xb_i false) (nI ST.length) sw sk sv kp ky vl)) (ci := 5) (v := .int (nI (xs_cut R0 x))) (ty := .int) (C := R_M) (T := F_M) (N := 17) hx hb hts (zi_M _) t_M t_M_ok n_M hown hK hP hD hS 0 rfl rfl 4 (by decide) (hts _ (List.mem_cons_of_mem _ zm_380)) (fun _ h9 => h9) rfl (by decide +kernel) (rfl) (rfl) (Nat.le_of_ble_eq_true rfl) rfl d_M_crash_62 (fun H locs hP hD hS => ?_)
        rw [show nI (xs_cut R0 x) = nI (R0.take (xs_cut R0 x)).length from by rw [htk]] at hP hD
        refine lv_aload_n hx hb d_M_crash_65 rfl (lv_at hl 3 rfl) ?_
        refine lv_iload_n hx hb d_M_crash_66 rfl (lv_at hl 1 rfl) ?_
        refine xa_cMV (va_runV (As := [.int (nI (xs_cut R0 x))]) (rest := []) ⟨hx, hb, hml, hown, hts⟩ (c_M_settle l D q cA (nI lm) bk bv wh rk rv bg (xb_i false) (nI ST.length) sw sk sv kp ky vl H.size B0 (R0.take (xs_cut R0 x)) (xs_cut R0 x) hMT.1 hok.1 hok.2.1 (xm_rt_take hMT.2.1 _) (by omega) (fun r hr => xs_ok_w hok r (List.mem_of_mem_take hr)) (by omega) (fun i hi => by rw [xm_S_take B0 R0 hi]; exact hok.2.2.2.1 i (by omega)) (by rw [xm_S_take B0 R0 (Nat.le_refl _)]; exact hcV.1)) (cwV 1 hts (zg_V zm_504 zm_506 zs_28 zm_7 zm_507) rfl rfl rfl (by decide +kernel) ⟨Nat.le_of_ble_eq_true rfl, Nat.le_of_ble_eq_true rfl⟩) (xp_preVQ (ci := 5) (q0 := 0) hK hP hD rfl rfl rfl hZ) rfl rfl hl.1 rfl (lv_room (Nat.le_of_ble_eq_true rfl)) d_M_crash_67 ⟨Nat.zero_le _, Nat.zero_le _⟩) hS (xa_F hD hS hA) (fun u H locs hp67 hP hS => ?_)
        obtain ⟨bk2_67, bv2_67, ky2_67, vl2_67⟩ := u
        have hP : va_P D zz_cl (xw_M q cA (nI lm) (nI (xs_S B0 (R0.take (xs_cut R0 x)) (xs_cut R0 x)).length) bk2_67 bv2_67 (nI ((R0.take (xs_cut R0 x)).length - (xs_cut R0 x))) (xw_mv wh (xs_cut R0 x) ((R0.take (xs_cut R0 x)).length - (xs_cut R0 x))) (xw_mv rk (xs_cut R0 x) ((R0.take (xs_cut R0 x)).length - (xs_cut R0 x))) (xw_mv rv (xs_cut R0 x) ((R0.take (xs_cut R0 x)).length - (xs_cut R0 x))) (xm_mb bg (xs_cut R0 x) ((R0.take (xs_cut R0 x)).length - (xs_cut R0 x))) (xb_i false) (nI ST.length) sw sk sv (nI (xs_S B0 (R0.take (xs_cut R0 x)) (xs_cut R0 x)).length) ky2_67 vl2_67) H := hP
        have hD : va_D A (xw_M q cA (nI lm) (nI (xs_S B0 (R0.take (xs_cut R0 x)) (xs_cut R0 x)).length) bk2_67 bv2_67 (nI ((R0.take (xs_cut R0 x)).length - (xs_cut R0 x))) (xw_mv wh (xs_cut R0 x) ((R0.take (xs_cut R0 x)).length - (xs_cut R0 x))) (xw_mv rk (xs_cut R0 x) ((R0.take (xs_cut R0 x)).length - (xs_cut R0 x))) (xw_mv rv (xs_cut R0 x) ((R0.take (xs_cut R0 x)).length - (xs_cut R0 x))) (xm_mb bg (xs_cut R0 x) ((R0.take (xs_cut R0 x)).length - (xs_cut R0 x))) (xb_i false) (nI ST.length) sw sk sv (nI (xs_S B0 (R0.take (xs_cut R0 x)) (xs_cut R0 x)).length) ky2_67 vl2_67) := xa_E hD rfl
        have hp67 : xk_tie bk2_67 bv2_67 (xs_S B0 (R0.take (xs_cut R0 x)) (xs_cut R0 x)) := hp67
        rw [show nI ((R0.take (xs_cut R0 x)).length - (xs_cut R0 x)) = nI 0 from by rw [htk, Nat.sub_self]] at hP hD
        rw [show nI (xs_S B0 (R0.take (xs_cut R0 x)) (xs_cut R0 x)).length = nI (xs_S B0 R0 (xs_cut R0 x)).length from by rw [xm_S_take B0 R0 (Nat.le_refl _)]] at hP hD
        refine lv_iload hx hb d_M_crash_70 (lv_at hl 0 rfl) ?_
        exact W.iret (v := nI (R0.length - (xs_cut R0 x))) hx hb hr (fun tJ htJ hWJ => ⟨⟨_, (bk2_67, bv2_67, xw_mv wh (xs_cut R0 x) ((R0.take (xs_cut R0 x)).length - (xs_cut R0 x)), xw_mv rk (xs_cut R0 x) ((R0.take (xs_cut R0 x)).length - (xs_cut R0 x)), xw_mv rv (xs_cut R0 x) ((R0.take (xs_cut R0 x)).length - (xs_cut R0 x)), xm_mb bg (xs_cut R0 x) ((R0.take (xs_cut R0 x)).length - (xs_cut R0 x)), sw, sk, sv, ky2_67, vl2_67, nI (xs_S B0 R0 (xs_cut R0 x)).length), rfl, ⟨rfl, by rw [← xm_S_take B0 R0 (Nat.le_refl _)]; exact hp67, xm_rt_nil _ _ _ _, hMT.2.2⟩, by dsimp only; rw [htJ]; exact hP⟩, hS.F htJ⟩) hS.2.2 d_M_crash_72
      · skip
        rw [nI_leI (by omega) (by omega)] at hc35
        refine lv_aload_n hx hb d_M_crash_38 rfl (lv_at hl 1 rfl) ?_
        refine va_get (D := D) (ci := 5) (v := .ref (q 6)) (C := R_M) (T := F_M) (N := 17) hx hb hts (zi_M _) hown hK hP 0 rfl rfl 8 (by decide) (hts _ (List.mem_cons_of_mem _ zm_384)) (fun _ h9 => h9) rfl d_M_crash_39 ?_
        refine lv_iload_n hx hb d_M_crash_42 rfl (lv_at hl 0 rfl) ?_
        refine xa_iald hx hb hK hP 6 5 rfl rfl (k := xw_cl x R0.length) (by omega) (by decide) d_M_crash_43 ?_
        refine lv_goto (tgt := 51) hx hb d_M_crash_44 (by decide) ?_
        refine xa_top (y := nI (xs_cut R0 x)) (by first | exact xm_cut1 (xm_rt_st hMT.2.1) (by omega) | exact xm_cut2 (xm_rt_st hMT.2.1) (by omega)) ?_
        refine lv_istore_n (lv' := [(3, .int (nI (xs_cut R0 x))), (2, .int (nI (xw_cl x R0.length))), (0, .ref (q 0)), (1, .int x)]) hx hb d_M_crash_51 rfl hl (Nat.le_of_ble_eq_true rfl) rfl (fun ls hl => ?_)
        refine lv_aload_n hx hb d_M_crash_52 rfl (lv_at hl 2 rfl) ?_
        refine va_get (D := D) (ci := 5) (v := .int (nI R0.length)) (C := R_M) (T := F_M) (N := 17) hx hb hts (zi_M _) hown hK hP 0 rfl rfl 4 (by decide) (hts _ (List.mem_cons_of_mem _ zm_380)) (fun _ h9 => h9) rfl d_M_crash_53 ?_
        refine lv_iload_n hx hb d_M_crash_56 rfl (lv_at hl 0 rfl) ?_
        refine lv_isub hx hb d_M_crash_57 ?_
        refine xa_top (y := nI (R0.length - (xs_cut R0 x))) (pk_sub (by omega)) ?_
        refine lv_istore (lv' := [(4, .int (nI (R0.length - (xs_cut R0 x)))), (3, .int (nI (xs_cut R0 x))), (2, .int (nI (xw_cl x R0.length))), (0, .ref (q 0)), (1, .int x)]) hx hb d_M_crash_58 hl (Nat.le_of_ble_eq_true rfl) rfl (fun ls hl => ?_)
        refine lv_aload_n hx hb d_M_crash_60 rfl (lv_at hl 3 rfl) ?_
        refine lv_iload_n hx hb d_M_crash_61 rfl (lv_at hl 1 rfl) ?_
        refine xa_put (ws' := (xw_M q cA (nI lm) (nI B0.length) bk bv (nI (xs_cut R0 x)) wh rk rv bg (xb_i false) (nI ST.length) sw sk sv kp ky vl)) (ci := 5) (v := .int (nI (xs_cut R0 x))) (ty := .int) (C := R_M) (T := F_M) (N := 17) hx hb hts (zi_M _) t_M t_M_ok n_M hown hK hP hD hS 0 rfl rfl 4 (by decide) (hts _ (List.mem_cons_of_mem _ zm_380)) (fun _ h9 => h9) rfl (by decide +kernel) (rfl) (rfl) (Nat.le_of_ble_eq_true rfl) rfl d_M_crash_62 (fun H locs hP hD hS => ?_)
        rw [show nI (xs_cut R0 x) = nI (R0.take (xs_cut R0 x)).length from by rw [htk]] at hP hD
        refine lv_aload_n hx hb d_M_crash_65 rfl (lv_at hl 3 rfl) ?_
        refine lv_iload_n hx hb d_M_crash_66 rfl (lv_at hl 1 rfl) ?_
        refine xa_cMV (va_runV (As := [.int (nI (xs_cut R0 x))]) (rest := []) ⟨hx, hb, hml, hown, hts⟩ (c_M_settle l D q cA (nI lm) bk bv wh rk rv bg (xb_i false) (nI ST.length) sw sk sv kp ky vl H.size B0 (R0.take (xs_cut R0 x)) (xs_cut R0 x) hMT.1 hok.1 hok.2.1 (xm_rt_take hMT.2.1 _) (by omega) (fun r hr => xs_ok_w hok r (List.mem_of_mem_take hr)) (by omega) (fun i hi => by rw [xm_S_take B0 R0 hi]; exact hok.2.2.2.1 i (by omega)) (by rw [xm_S_take B0 R0 (Nat.le_refl _)]; exact hcV.1)) (cwV 1 hts (zg_V zm_504 zm_506 zs_28 zm_7 zm_507) rfl rfl rfl (by decide +kernel) ⟨Nat.le_of_ble_eq_true rfl, Nat.le_of_ble_eq_true rfl⟩) (xp_preVQ (ci := 5) (q0 := 0) hK hP hD rfl rfl rfl hZ) rfl rfl hl.1 rfl (lv_room (Nat.le_of_ble_eq_true rfl)) d_M_crash_67 ⟨Nat.zero_le _, Nat.zero_le _⟩) hS (xa_F hD hS hA) (fun u H locs hp67 hP hS => ?_)
        obtain ⟨bk2_67, bv2_67, ky2_67, vl2_67⟩ := u
        have hP : va_P D zz_cl (xw_M q cA (nI lm) (nI (xs_S B0 (R0.take (xs_cut R0 x)) (xs_cut R0 x)).length) bk2_67 bv2_67 (nI ((R0.take (xs_cut R0 x)).length - (xs_cut R0 x))) (xw_mv wh (xs_cut R0 x) ((R0.take (xs_cut R0 x)).length - (xs_cut R0 x))) (xw_mv rk (xs_cut R0 x) ((R0.take (xs_cut R0 x)).length - (xs_cut R0 x))) (xw_mv rv (xs_cut R0 x) ((R0.take (xs_cut R0 x)).length - (xs_cut R0 x))) (xm_mb bg (xs_cut R0 x) ((R0.take (xs_cut R0 x)).length - (xs_cut R0 x))) (xb_i false) (nI ST.length) sw sk sv (nI (xs_S B0 (R0.take (xs_cut R0 x)) (xs_cut R0 x)).length) ky2_67 vl2_67) H := hP
        have hD : va_D A (xw_M q cA (nI lm) (nI (xs_S B0 (R0.take (xs_cut R0 x)) (xs_cut R0 x)).length) bk2_67 bv2_67 (nI ((R0.take (xs_cut R0 x)).length - (xs_cut R0 x))) (xw_mv wh (xs_cut R0 x) ((R0.take (xs_cut R0 x)).length - (xs_cut R0 x))) (xw_mv rk (xs_cut R0 x) ((R0.take (xs_cut R0 x)).length - (xs_cut R0 x))) (xw_mv rv (xs_cut R0 x) ((R0.take (xs_cut R0 x)).length - (xs_cut R0 x))) (xm_mb bg (xs_cut R0 x) ((R0.take (xs_cut R0 x)).length - (xs_cut R0 x))) (xb_i false) (nI ST.length) sw sk sv (nI (xs_S B0 (R0.take (xs_cut R0 x)) (xs_cut R0 x)).length) ky2_67 vl2_67) := xa_E hD rfl
        have hp67 : xk_tie bk2_67 bv2_67 (xs_S B0 (R0.take (xs_cut R0 x)) (xs_cut R0 x)) := hp67
        rw [show nI ((R0.take (xs_cut R0 x)).length - (xs_cut R0 x)) = nI 0 from by rw [htk, Nat.sub_self]] at hP hD
        rw [show nI (xs_S B0 (R0.take (xs_cut R0 x)) (xs_cut R0 x)).length = nI (xs_S B0 R0 (xs_cut R0 x)).length from by rw [xm_S_take B0 R0 (Nat.le_refl _)]] at hP hD
        refine lv_iload hx hb d_M_crash_70 (lv_at hl 0 rfl) ?_
        exact W.iret (v := nI (R0.length - (xs_cut R0 x))) hx hb hr (fun tJ htJ hWJ => ⟨⟨_, (bk2_67, bv2_67, xw_mv wh (xs_cut R0 x) ((R0.take (xs_cut R0 x)).length - (xs_cut R0 x)), xw_mv rk (xs_cut R0 x) ((R0.take (xs_cut R0 x)).length - (xs_cut R0 x)), xw_mv rv (xs_cut R0 x) ((R0.take (xs_cut R0 x)).length - (xs_cut R0 x)), xm_mb bg (xs_cut R0 x) ((R0.take (xs_cut R0 x)).length - (xs_cut R0 x)), sw, sk, sv, ky2_67, vl2_67, nI (xs_S B0 R0 (xs_cut R0 x)).length), rfl, ⟨rfl, by rw [← xm_S_take B0 R0 (Nat.le_refl _)]; exact hp67, xm_rt_nil _ _ _ _, hMT.2.2⟩, by dsimp only; rw [htJ]; exact hP⟩, hS.F htJ⟩) hS.2.2 d_M_crash_72
  · skip
    refine lv_iconst (v := nI 0) hx hb d_M_crash_9 (by decide +kernel) ?_
    refine lv_goto (tgt := 29) hx hb d_M_crash_10 (by decide) ?_
    refine xa_top (y := nI (xw_cl x R0.length)) (by first | exact xm_c0 (xk_nle hc6) | exact xm_c1 (by omega) hc6 hc18 | exact xm_c2 (by omega) hc6 hc18) ?_
    refine lv_istore_n (lv' := [(2, .int (nI (xw_cl x R0.length))), (0, .ref (q 0)), (1, .int x)]) hx hb d_M_crash_29 rfl hl (Nat.le_of_ble_eq_true rfl) rfl (fun ls hl => ?_)
    refine lv_iload_n hx hb d_M_crash_30 rfl (lv_at hl 0 rfl) ?_
    refine lv_aload_n hx hb d_M_crash_31 rfl (lv_at hl 1 rfl) ?_
    refine va_get (D := D) (ci := 5) (v := .int (nI R0.length)) (C := R_M) (T := F_M) (N := 17) hx hb hts (zi_M _) hown hK hP 0 rfl rfl 4 (by decide) (hts _ (List.mem_cons_of_mem _ zm_380)) (fun _ h9 => h9) rfl d_M_crash_32 ?_
    refine lv_icmp_ge (tgt := 47) hx hb d_M_crash_35 (by decide) (fun hc35 => ?_) (fun hc35 => ?_)
    · skip
      rw [nI_leI (by omega) (by omega)] at hc35
      refine lv_aload_n hx hb d_M_crash_47 rfl (lv_at hl 1 rfl) ?_
      refine va_get (D := D) (ci := 5) (v := .int (nI R0.length)) (C := R_M) (T := F_M) (N := 17) hx hb hts (zi_M _) hown hK hP 0 rfl rfl 4 (by decide) (hts _ (List.mem_cons_of_mem _ zm_380)) (fun _ h9 => h9) rfl d_M_crash_48 ?_
      refine xa_top (y := nI (xs_cut R0 x)) (by first | exact xm_cut1 (xm_rt_st hMT.2.1) (by omega) | exact xm_cut2 (xm_rt_st hMT.2.1) (by omega)) ?_
      refine lv_istore_n (lv' := [(3, .int (nI (xs_cut R0 x))), (2, .int (nI (xw_cl x R0.length))), (0, .ref (q 0)), (1, .int x)]) hx hb d_M_crash_51 rfl hl (Nat.le_of_ble_eq_true rfl) rfl (fun ls hl => ?_)
      refine lv_aload_n hx hb d_M_crash_52 rfl (lv_at hl 2 rfl) ?_
      refine va_get (D := D) (ci := 5) (v := .int (nI R0.length)) (C := R_M) (T := F_M) (N := 17) hx hb hts (zi_M _) hown hK hP 0 rfl rfl 4 (by decide) (hts _ (List.mem_cons_of_mem _ zm_380)) (fun _ h9 => h9) rfl d_M_crash_53 ?_
      refine lv_iload_n hx hb d_M_crash_56 rfl (lv_at hl 0 rfl) ?_
      refine lv_isub hx hb d_M_crash_57 ?_
      refine xa_top (y := nI (R0.length - (xs_cut R0 x))) (pk_sub (by omega)) ?_
      refine lv_istore (lv' := [(4, .int (nI (R0.length - (xs_cut R0 x)))), (3, .int (nI (xs_cut R0 x))), (2, .int (nI (xw_cl x R0.length))), (0, .ref (q 0)), (1, .int x)]) hx hb d_M_crash_58 hl (Nat.le_of_ble_eq_true rfl) rfl (fun ls hl => ?_)
      refine lv_aload_n hx hb d_M_crash_60 rfl (lv_at hl 3 rfl) ?_
      refine lv_iload_n hx hb d_M_crash_61 rfl (lv_at hl 1 rfl) ?_
      refine xa_put (ws' := (xw_M q cA (nI lm) (nI B0.length) bk bv (nI (xs_cut R0 x)) wh rk rv bg (xb_i false) (nI ST.length) sw sk sv kp ky vl)) (ci := 5) (v := .int (nI (xs_cut R0 x))) (ty := .int) (C := R_M) (T := F_M) (N := 17) hx hb hts (zi_M _) t_M t_M_ok n_M hown hK hP hD hS 0 rfl rfl 4 (by decide) (hts _ (List.mem_cons_of_mem _ zm_380)) (fun _ h9 => h9) rfl (by decide +kernel) (rfl) (rfl) (Nat.le_of_ble_eq_true rfl) rfl d_M_crash_62 (fun H locs hP hD hS => ?_)
      rw [show nI (xs_cut R0 x) = nI (R0.take (xs_cut R0 x)).length from by rw [htk]] at hP hD
      refine lv_aload_n hx hb d_M_crash_65 rfl (lv_at hl 3 rfl) ?_
      refine lv_iload_n hx hb d_M_crash_66 rfl (lv_at hl 1 rfl) ?_
      refine xa_cMV (va_runV (As := [.int (nI (xs_cut R0 x))]) (rest := []) ⟨hx, hb, hml, hown, hts⟩ (c_M_settle l D q cA (nI lm) bk bv wh rk rv bg (xb_i false) (nI ST.length) sw sk sv kp ky vl H.size B0 (R0.take (xs_cut R0 x)) (xs_cut R0 x) hMT.1 hok.1 hok.2.1 (xm_rt_take hMT.2.1 _) (by omega) (fun r hr => xs_ok_w hok r (List.mem_of_mem_take hr)) (by omega) (fun i hi => by rw [xm_S_take B0 R0 hi]; exact hok.2.2.2.1 i (by omega)) (by rw [xm_S_take B0 R0 (Nat.le_refl _)]; exact hcV.1)) (cwV 1 hts (zg_V zm_504 zm_506 zs_28 zm_7 zm_507) rfl rfl rfl (by decide +kernel) ⟨Nat.le_of_ble_eq_true rfl, Nat.le_of_ble_eq_true rfl⟩) (xp_preVQ (ci := 5) (q0 := 0) hK hP hD rfl rfl rfl hZ) rfl rfl hl.1 rfl (lv_room (Nat.le_of_ble_eq_true rfl)) d_M_crash_67 ⟨Nat.zero_le _, Nat.zero_le _⟩) hS (xa_F hD hS hA) (fun u H locs hp67 hP hS => ?_)
      obtain ⟨bk2_67, bv2_67, ky2_67, vl2_67⟩ := u
      have hP : va_P D zz_cl (xw_M q cA (nI lm) (nI (xs_S B0 (R0.take (xs_cut R0 x)) (xs_cut R0 x)).length) bk2_67 bv2_67 (nI ((R0.take (xs_cut R0 x)).length - (xs_cut R0 x))) (xw_mv wh (xs_cut R0 x) ((R0.take (xs_cut R0 x)).length - (xs_cut R0 x))) (xw_mv rk (xs_cut R0 x) ((R0.take (xs_cut R0 x)).length - (xs_cut R0 x))) (xw_mv rv (xs_cut R0 x) ((R0.take (xs_cut R0 x)).length - (xs_cut R0 x))) (xm_mb bg (xs_cut R0 x) ((R0.take (xs_cut R0 x)).length - (xs_cut R0 x))) (xb_i false) (nI ST.length) sw sk sv (nI (xs_S B0 (R0.take (xs_cut R0 x)) (xs_cut R0 x)).length) ky2_67 vl2_67) H := hP
      have hD : va_D A (xw_M q cA (nI lm) (nI (xs_S B0 (R0.take (xs_cut R0 x)) (xs_cut R0 x)).length) bk2_67 bv2_67 (nI ((R0.take (xs_cut R0 x)).length - (xs_cut R0 x))) (xw_mv wh (xs_cut R0 x) ((R0.take (xs_cut R0 x)).length - (xs_cut R0 x))) (xw_mv rk (xs_cut R0 x) ((R0.take (xs_cut R0 x)).length - (xs_cut R0 x))) (xw_mv rv (xs_cut R0 x) ((R0.take (xs_cut R0 x)).length - (xs_cut R0 x))) (xm_mb bg (xs_cut R0 x) ((R0.take (xs_cut R0 x)).length - (xs_cut R0 x))) (xb_i false) (nI ST.length) sw sk sv (nI (xs_S B0 (R0.take (xs_cut R0 x)) (xs_cut R0 x)).length) ky2_67 vl2_67) := xa_E hD rfl
      have hp67 : xk_tie bk2_67 bv2_67 (xs_S B0 (R0.take (xs_cut R0 x)) (xs_cut R0 x)) := hp67
      rw [show nI ((R0.take (xs_cut R0 x)).length - (xs_cut R0 x)) = nI 0 from by rw [htk, Nat.sub_self]] at hP hD
      rw [show nI (xs_S B0 (R0.take (xs_cut R0 x)) (xs_cut R0 x)).length = nI (xs_S B0 R0 (xs_cut R0 x)).length from by rw [xm_S_take B0 R0 (Nat.le_refl _)]] at hP hD
      refine lv_iload hx hb d_M_crash_70 (lv_at hl 0 rfl) ?_
      exact W.iret (v := nI (R0.length - (xs_cut R0 x))) hx hb hr (fun tJ htJ hWJ => ⟨⟨_, (bk2_67, bv2_67, xw_mv wh (xs_cut R0 x) ((R0.take (xs_cut R0 x)).length - (xs_cut R0 x)), xw_mv rk (xs_cut R0 x) ((R0.take (xs_cut R0 x)).length - (xs_cut R0 x)), xw_mv rv (xs_cut R0 x) ((R0.take (xs_cut R0 x)).length - (xs_cut R0 x)), xm_mb bg (xs_cut R0 x) ((R0.take (xs_cut R0 x)).length - (xs_cut R0 x)), sw, sk, sv, ky2_67, vl2_67, nI (xs_S B0 R0 (xs_cut R0 x)).length), rfl, ⟨rfl, by rw [← xm_S_take B0 R0 (Nat.le_refl _)]; exact hp67, xm_rt_nil _ _ _ _, hMT.2.2⟩, by dsimp only; rw [htJ]; exact hP⟩, hS.F htJ⟩) hS.2.2 d_M_crash_72
    · skip
      rw [nI_leI (by omega) (by omega)] at hc35
      refine lv_aload_n hx hb d_M_crash_38 rfl (lv_at hl 1 rfl) ?_
      refine va_get (D := D) (ci := 5) (v := .ref (q 6)) (C := R_M) (T := F_M) (N := 17) hx hb hts (zi_M _) hown hK hP 0 rfl rfl 8 (by decide) (hts _ (List.mem_cons_of_mem _ zm_384)) (fun _ h9 => h9) rfl d_M_crash_39 ?_
      refine lv_iload_n hx hb d_M_crash_42 rfl (lv_at hl 0 rfl) ?_
      refine xa_iald hx hb hK hP 6 5 rfl rfl (k := xw_cl x R0.length) (by omega) (by decide) d_M_crash_43 ?_
      refine lv_goto (tgt := 51) hx hb d_M_crash_44 (by decide) ?_
      refine xa_top (y := nI (xs_cut R0 x)) (by first | exact xm_cut1 (xm_rt_st hMT.2.1) (by omega) | exact xm_cut2 (xm_rt_st hMT.2.1) (by omega)) ?_
      refine lv_istore_n (lv' := [(3, .int (nI (xs_cut R0 x))), (2, .int (nI (xw_cl x R0.length))), (0, .ref (q 0)), (1, .int x)]) hx hb d_M_crash_51 rfl hl (Nat.le_of_ble_eq_true rfl) rfl (fun ls hl => ?_)
      refine lv_aload_n hx hb d_M_crash_52 rfl (lv_at hl 2 rfl) ?_
      refine va_get (D := D) (ci := 5) (v := .int (nI R0.length)) (C := R_M) (T := F_M) (N := 17) hx hb hts (zi_M _) hown hK hP 0 rfl rfl 4 (by decide) (hts _ (List.mem_cons_of_mem _ zm_380)) (fun _ h9 => h9) rfl d_M_crash_53 ?_
      refine lv_iload_n hx hb d_M_crash_56 rfl (lv_at hl 0 rfl) ?_
      refine lv_isub hx hb d_M_crash_57 ?_
      refine xa_top (y := nI (R0.length - (xs_cut R0 x))) (pk_sub (by omega)) ?_
      refine lv_istore (lv' := [(4, .int (nI (R0.length - (xs_cut R0 x)))), (3, .int (nI (xs_cut R0 x))), (2, .int (nI (xw_cl x R0.length))), (0, .ref (q 0)), (1, .int x)]) hx hb d_M_crash_58 hl (Nat.le_of_ble_eq_true rfl) rfl (fun ls hl => ?_)
      refine lv_aload_n hx hb d_M_crash_60 rfl (lv_at hl 3 rfl) ?_
      refine lv_iload_n hx hb d_M_crash_61 rfl (lv_at hl 1 rfl) ?_
      refine xa_put (ws' := (xw_M q cA (nI lm) (nI B0.length) bk bv (nI (xs_cut R0 x)) wh rk rv bg (xb_i false) (nI ST.length) sw sk sv kp ky vl)) (ci := 5) (v := .int (nI (xs_cut R0 x))) (ty := .int) (C := R_M) (T := F_M) (N := 17) hx hb hts (zi_M _) t_M t_M_ok n_M hown hK hP hD hS 0 rfl rfl 4 (by decide) (hts _ (List.mem_cons_of_mem _ zm_380)) (fun _ h9 => h9) rfl (by decide +kernel) (rfl) (rfl) (Nat.le_of_ble_eq_true rfl) rfl d_M_crash_62 (fun H locs hP hD hS => ?_)
      rw [show nI (xs_cut R0 x) = nI (R0.take (xs_cut R0 x)).length from by rw [htk]] at hP hD
      refine lv_aload_n hx hb d_M_crash_65 rfl (lv_at hl 3 rfl) ?_
      refine lv_iload_n hx hb d_M_crash_66 rfl (lv_at hl 1 rfl) ?_
      refine xa_cMV (va_runV (As := [.int (nI (xs_cut R0 x))]) (rest := []) ⟨hx, hb, hml, hown, hts⟩ (c_M_settle l D q cA (nI lm) bk bv wh rk rv bg (xb_i false) (nI ST.length) sw sk sv kp ky vl H.size B0 (R0.take (xs_cut R0 x)) (xs_cut R0 x) hMT.1 hok.1 hok.2.1 (xm_rt_take hMT.2.1 _) (by omega) (fun r hr => xs_ok_w hok r (List.mem_of_mem_take hr)) (by omega) (fun i hi => by rw [xm_S_take B0 R0 hi]; exact hok.2.2.2.1 i (by omega)) (by rw [xm_S_take B0 R0 (Nat.le_refl _)]; exact hcV.1)) (cwV 1 hts (zg_V zm_504 zm_506 zs_28 zm_7 zm_507) rfl rfl rfl (by decide +kernel) ⟨Nat.le_of_ble_eq_true rfl, Nat.le_of_ble_eq_true rfl⟩) (xp_preVQ (ci := 5) (q0 := 0) hK hP hD rfl rfl rfl hZ) rfl rfl hl.1 rfl (lv_room (Nat.le_of_ble_eq_true rfl)) d_M_crash_67 ⟨Nat.zero_le _, Nat.zero_le _⟩) hS (xa_F hD hS hA) (fun u H locs hp67 hP hS => ?_)
      obtain ⟨bk2_67, bv2_67, ky2_67, vl2_67⟩ := u
      have hP : va_P D zz_cl (xw_M q cA (nI lm) (nI (xs_S B0 (R0.take (xs_cut R0 x)) (xs_cut R0 x)).length) bk2_67 bv2_67 (nI ((R0.take (xs_cut R0 x)).length - (xs_cut R0 x))) (xw_mv wh (xs_cut R0 x) ((R0.take (xs_cut R0 x)).length - (xs_cut R0 x))) (xw_mv rk (xs_cut R0 x) ((R0.take (xs_cut R0 x)).length - (xs_cut R0 x))) (xw_mv rv (xs_cut R0 x) ((R0.take (xs_cut R0 x)).length - (xs_cut R0 x))) (xm_mb bg (xs_cut R0 x) ((R0.take (xs_cut R0 x)).length - (xs_cut R0 x))) (xb_i false) (nI ST.length) sw sk sv (nI (xs_S B0 (R0.take (xs_cut R0 x)) (xs_cut R0 x)).length) ky2_67 vl2_67) H := hP
      have hD : va_D A (xw_M q cA (nI lm) (nI (xs_S B0 (R0.take (xs_cut R0 x)) (xs_cut R0 x)).length) bk2_67 bv2_67 (nI ((R0.take (xs_cut R0 x)).length - (xs_cut R0 x))) (xw_mv wh (xs_cut R0 x) ((R0.take (xs_cut R0 x)).length - (xs_cut R0 x))) (xw_mv rk (xs_cut R0 x) ((R0.take (xs_cut R0 x)).length - (xs_cut R0 x))) (xw_mv rv (xs_cut R0 x) ((R0.take (xs_cut R0 x)).length - (xs_cut R0 x))) (xm_mb bg (xs_cut R0 x) ((R0.take (xs_cut R0 x)).length - (xs_cut R0 x))) (xb_i false) (nI ST.length) sw sk sv (nI (xs_S B0 (R0.take (xs_cut R0 x)) (xs_cut R0 x)).length) ky2_67 vl2_67) := xa_E hD rfl
      have hp67 : xk_tie bk2_67 bv2_67 (xs_S B0 (R0.take (xs_cut R0 x)) (xs_cut R0 x)) := hp67
      rw [show nI ((R0.take (xs_cut R0 x)).length - (xs_cut R0 x)) = nI 0 from by rw [htk, Nat.sub_self]] at hP hD
      rw [show nI (xs_S B0 (R0.take (xs_cut R0 x)) (xs_cut R0 x)).length = nI (xs_S B0 R0 (xs_cut R0 x)).length from by rw [xm_S_take B0 R0 (Nat.le_refl _)]] at hP hD
      refine lv_iload hx hb d_M_crash_70 (lv_at hl 0 rfl) ?_
      exact W.iret (v := nI (R0.length - (xs_cut R0 x))) hx hb hr (fun tJ htJ hWJ => ⟨⟨_, (bk2_67, bv2_67, xw_mv wh (xs_cut R0 x) ((R0.take (xs_cut R0 x)).length - (xs_cut R0 x)), xw_mv rk (xs_cut R0 x) ((R0.take (xs_cut R0 x)).length - (xs_cut R0 x)), xw_mv rv (xs_cut R0 x) ((R0.take (xs_cut R0 x)).length - (xs_cut R0 x)), xm_mb bg (xs_cut R0 x) ((R0.take (xs_cut R0 x)).length - (xs_cut R0 x)), sw, sk, sv, ky2_67, vl2_67, nI (xs_S B0 R0 (xs_cut R0 x)).length), rfl, ⟨rfl, by rw [← xm_S_take B0 R0 (Nat.le_refl _)]; exact hp67, xm_rt_nil _ _ _ _, hMT.2.2⟩, by dsimp only; rw [htJ]; exact hP⟩, hS.F htJ⟩) hS.2.2 d_M_crash_72
set_option maxHeartbeats 4000000 in
set_option maxRecDepth 100000 in
theorem c_M_commit (l : Launch) (D : va_G) (q : Nat → Nat) (cA : Nat → ClassId) (bk : Nat → Int32) (bv : Nat → Int64) (wh : Nat → Int32) (rk : Nat → Int32) (rv : Nat → Int64) (bg : Nat → Int32) (sw : Nat → Int32) (sk : Nat → Int32) (sv : Nat → Int64) (kp : Int32) (ky : Nat → Int32) (vl : Nat → Int64) (sz : Nat) (lm : Nat) (B0 : List xk_E) (R0 : List xs_R) (bb : Bool) (ST : List xs_O) (hMT : xm_MT B0 R0 ST bk bv wh rk rv bg sw sk sv) (hok : xs_ok lm B0 R0) (hlm : lm ≤ 200) (hst : ST.length ≤ 5) : Met l y_M_commit zw_M_commit ({ frames := 6, cells := 0, slots := 0, locals := 143 } : Room) (va_Pc [.ref (q 0)] (xp_Q D zz_cl (xw_tM cA) sz (xw_M q cA (nI lm) (nI B0.length) bk bv (nI R0.length) wh rk rv bg (xb_i bb) (nI ST.length) sw sk sv kp ky vl))) (va_Qi (fun (r : Int32) (u : (Nat → Int32) × (Nat → Int64) × (Nat → Int32) × (Nat → Int32) × (Nat → Int64) × (Nat → Int32) × (Nat → Int32) × (Nat → Int32) × (Nat → Int64) × (Nat → Int32) × (Nat → Int64) × Int32) => r = (if bb = true then (if xs_bad lm (xs_now B0 (xs_new B0 R0 (xs_N ST))) = true then nI 0 else nI (ST.length + 1)) else (-1)) ∧ (xm_MT (if bb = true then xs_pB lm B0 R0 false (xs_N ST) else B0) (if bb = true then xs_pR lm B0 R0 false (xs_N ST) else R0) ST u.1 u.2.1 u.2.2.1 u.2.2.2.1 u.2.2.2.2.1 u.2.2.2.2.2.1 u.2.2.2.2.2.2.1 u.2.2.2.2.2.2.2.1 u.2.2.2.2.2.2.2.2.1)) (fun (u : (Nat → Int32) × (Nat → Int64) × (Nat → Int32) × (Nat → Int32) × (Nat → Int64) × (Nat → Int32) × (Nat → Int32) × (Nat → Int32) × (Nat → Int64) × (Nat → Int32) × (Nat → Int64) × Int32) (t : State) => va_P D zz_cl (xw_M q cA (nI lm) (nI (if bb = true then xs_pB lm B0 R0 false (xs_N ST) else B0).length) u.1 u.2.1 (nI (if bb = true then xs_pR lm B0 R0 false (xs_N ST) else R0).length) u.2.2.1 u.2.2.2.1 u.2.2.2.2.1 u.2.2.2.2.2.1 (xb_i false) (nI (ST).length) u.2.2.2.2.2.2.1 u.2.2.2.2.2.2.2.1 u.2.2.2.2.2.2.2.2.1 u.2.2.2.2.2.2.2.2.2.2.2 u.2.2.2.2.2.2.2.2.2.1 u.2.2.2.2.2.2.2.2.2.2.1) t.heap) (va_A (xw_M q cA (nI lm) (nI B0.length) bk bv (nI R0.length) wh rk rv bg (xb_i bb) (nI ST.length) sw sk sv kp ky vl) sz)) 0 0 (va_A (xw_M q cA (nI lm) (nI B0.length) bk bv (nI R0.length) wh rk rv bg (xb_i bb) (nI ST.length) sw sk sv kp ky vl) sz) := by
  refine Met.ofW (cc := b_M_commit) (maxL := 3) (ret := (some .int)) (by decide) rfl ?_
  intro pJ eJ s mJ args below meth cJ s₁ B hml hv
  obtain ⟨rfl, hsz, hP, hK, hD0, hZ⟩ := hv
  have hx := B.exec
  have hb := B.bytes
  have hr := B.returns
  have hts := atoms_spec (ws := zw_M_commit) B.pre
  have hown : s.vm.findClass R_M = some mJ.cls := findClass_of_methodNamed B.named
  have hlocks := B.notSynchronized
  subst hsz
  have hD := hD0.self (sz := s.heap.size)
  generalize hAe : va_A (xw_M q cA (nI lm) (nI B0.length) bk bv (nI R0.length) wh rk rv bg (xb_i bb) (nI ST.length) sw sk sv kp ky vl) s.heap.size = A at hD ⊢
  have hA : ∀ q : Nat, s.heap.size ≤ q → A q := fun q h => by rw [← hAe]; exact Or.inr h
  have hS : va_S A s.heap s.heap [] := va_S.rf
  have hl := lv_entry ([.ref (q 0)]) (n := 3) (Nat.le_of_ble_eq_true rfl)
  rw [lg_entry_eq]
  generalize (lg_sl ([.ref (q 0)]) ++ List.replicate (3 - (lg_sl ([.ref (q 0)])).length) Slot.unset).toArray = ls at hl ⊢
  have hl : lv_has ls 3 [(0, .ref (q 0))] := hl
  have h64 := hok.2.2.1
  have h60 : (xs_now B0 R0).length ≤ 60 := hok.2.2.2.2.2.1
  refine lv_aload_n hx hb d_M_commit_0 rfl (lv_at hl 0 rfl) ?_
  refine va_get (D := D) (ci := 5) (v := .int (xb_i bb)) (C := R_M) (T := F_M) (N := 17) hx hb hts (zi_M _) hown hK hP 0 rfl rfl 9 (by decide) (hts _ (List.mem_cons_of_mem _ zm_385)) (fun _ h9 => h9) rfl d_M_commit_1 ?_
  refine lv_if_ne (tgt := 9) hx hb d_M_commit_4 (by decide) (fun hc4 => ?_) (fun hc4 => ?_)
  · skip
    rw [xb_1] at hc4
    refine lv_aload_n hx hb d_M_commit_9 rfl (lv_at hl 0 rfl) ?_
    refine lv_iconst (v := nI 0) hx hb d_M_commit_10 (by decide +kernel) ?_
    refine xa_top (y := xb_i false) xb_f.symm ?_
    refine xa_put (ws' := (xw_M q cA (nI lm) (nI B0.length) bk bv (nI R0.length) wh rk rv bg (xb_i false) (nI ST.length) sw sk sv kp ky vl)) (ci := 5) (v := .int (xb_i false)) (ty := .boolean) (C := R_M) (T := F_M) (N := 17) hx hb hts (zi_M _) t_M t_M_ok n_M hown hK hP hD hS 0 rfl rfl 9 (by decide) (hts _ (List.mem_cons_of_mem _ zm_385)) (fun _ h9 => h9) rfl (by decide +kernel) (xb_nar _) (xb_fit _) (Nat.le_of_ble_eq_true rfl) rfl d_M_commit_11 (fun H locs hP hD hS => ?_)
    refine lv_aload_n hx hb d_M_commit_14 rfl (lv_at hl 0 rfl) ?_
    refine va_get (D := D) (ci := 5) (v := .int (nI R0.length)) (C := R_M) (T := F_M) (N := 17) hx hb hts (zi_M _) hown hK hP 0 rfl rfl 4 (by decide) (hts _ (List.mem_cons_of_mem _ zm_380)) (fun _ h9 => h9) rfl d_M_commit_15 ?_
    refine lv_istore_n (lv' := [(1, .int (nI R0.length)), (0, .ref (q 0))]) hx hb d_M_commit_18 rfl hl (Nat.le_of_ble_eq_true rfl) rfl (fun ls hl => ?_)
    refine lv_iconst (v := nI 0) hx hb d_M_commit_19 (by decide +kernel) ?_
    refine lv_istore_n (lv' := [(2, .int (nI 0)), (1, .int (nI R0.length)), (0, .ref (q 0))]) hx hb d_M_commit_20 rfl hl (Nat.le_of_ble_eq_true rfl) rfl (fun ls hl => ?_)
    have lp21 : ∀ (N : Nat) (i : Nat) (wh1 : Nat → Int32) (rk1 : Nat → Int32) (rv1 : Nat → Int64) (bg1 : Nat → Int32) (ls : Array Slot) (H : Heap) (locs : List Loc), (i ≤ ST.length) → (xm_rn (xs_new B0 R0 (xs_N ST)) (R0.length + i) wh1 rk1 rv1 bg1) → lv_has ls 3 [(0, .ref (q 0)), (1, .int (nI R0.length)), (2, .int (nI i))] → va_P D zz_cl (xw_M q cA (nI lm) (nI B0.length) bk bv (nI (R0.length + i)) wh1 rk1 rv1 bg1 (xb_i false) (nI ST.length) sw sk sv kp ky vl) H → va_D A (xw_M q cA (nI lm) (nI B0.length) bk bv (nI (R0.length + i)) wh1 rk1 rv1 bg1 (xb_i false) (nI ST.length) sw sk sv kp ky vl) → va_S A s.heap H locs → ST.length - i < N → W pJ l eJ (headSpec zw_M_commit ({ frames := 6, cells := 0, slots := 0, locals := 143 } : Room)).room s mJ ([.ref (q 0)] : List Value).toArray below meth cJ H locs 0 0 (MQ below (va_Qi (fun (r : Int32) (u : (Nat → Int32) × (Nat → Int64) × (Nat → Int32) × (Nat → Int32) × (Nat → Int64) × (Nat → Int32) × (Nat → Int32) × (Nat → Int32) × (Nat → Int64) × (Nat → Int32) × (Nat → Int64) × Int32) => r = (if bb = true then (if xs_bad lm (xs_now B0 (xs_new B0 R0 (xs_N ST))) = true then nI 0 else nI (ST.length + 1)) else (-1)) ∧ (xm_MT (if bb = true then xs_pB lm B0 R0 false (xs_N ST) else B0) (if bb = true then xs_pR lm B0 R0 false (xs_N ST) else R0) ST u.1 u.2.1 u.2.2.1 u.2.2.2.1 u.2.2.2.2.1 u.2.2.2.2.2.1 u.2.2.2.2.2.2.1 u.2.2.2.2.2.2.2.1 u.2.2.2.2.2.2.2.2.1)) (fun (u : (Nat → Int32) × (Nat → Int64) × (Nat → Int32) × (Nat → Int32) × (Nat → Int64) × (Nat → Int32) × (Nat → Int32) × (Nat → Int32) × (Nat → Int64) × (Nat → Int32) × (Nat → Int64) × Int32) (t : State) => va_P D zz_cl (xw_M q cA (nI lm) (nI (if bb = true then xs_pB lm B0 R0 false (xs_N ST) else B0).length) u.1 u.2.1 (nI (if bb = true then xs_pR lm B0 R0 false (xs_N ST) else R0).length) u.2.2.1 u.2.2.2.1 u.2.2.2.2.1 u.2.2.2.2.2.1 (xb_i false) (nI (ST).length) u.2.2.2.2.2.2.1 u.2.2.2.2.2.2.2.1 u.2.2.2.2.2.2.2.2.1 u.2.2.2.2.2.2.2.2.2.2.2 u.2.2.2.2.2.2.2.2.2.1 u.2.2.2.2.2.2.2.2.2.2.1) t.heap) A) ([.ref (q 0)] : List Value).toArray s 0 0 A) (F0 mJ 21 ls []) := by
      intro N
      induction N with
      | zero => intro i wh1 rk1 rv1 bg1 ls H locs hi hr1 hl hP hD hS hm; exact absurd hm (Nat.not_lt_zero _)
      | succ N ih21 =>
        intro i wh1 rk1 rv1 bg1 ls H locs hi hr1 hl hP hD hS hm
        refine lv_iload_n hx hb d_M_commit_21 rfl (lv_at hl 2 rfl) ?_
        refine lv_aload_n hx hb d_M_commit_22 rfl (lv_at hl 0 rfl) ?_
        refine va_get (D := D) (ci := 5) (v := .int (nI ST.length)) (C := R_M) (T := F_M) (N := 17) hx hb hts (zi_M _) hown hK hP 0 rfl rfl 10 (by decide) (hts _ (List.mem_cons_of_mem _ zm_386)) (fun _ h9 => h9) rfl d_M_commit_23 ?_
        refine lv_icmp_ge (tgt := 58) hx hb d_M_commit_26 (by decide) (fun hc26 => ?_) (fun hc26 => ?_)
        · skip
          rw [nI_leI (by omega) (by omega)] at hc26
          have e9 : i = ST.length := by omega
          rw [e9] at hr1
          rw [show nI (R0.length + i) = nI (R0.length + ST.length) from by rw [e9]] at hP hD
          refine lv_aload_n hx hb d_M_commit_58 rfl (lv_at hl 0 rfl) ?_
          refine lv_iconst (v := nI 2) hx hb d_M_commit_59 (by decide +kernel) ?_
          refine lv_iconst (v := nI 0) hx hb d_M_commit_60 (by decide +kernel) ?_
          refine lv_lconst (v := 0) hx hb d_M_commit_61 (by decide +kernel) ?_
          refine lv_iload_n hx hb d_M_commit_62 rfl (lv_at hl 1 rfl) ?_
          refine xa_cMV (va_runV (As := [.int (nI 2), .int (nI 0), .long 0, .int (nI R0.length)]) (rest := []) ⟨hx, hb, hml, hown, hts⟩ (c_M_write l D q cA (nI lm) (nI B0.length) bk bv wh1 rk1 rv1 bg1 (xb_i false) (nI ST.length) sw sk sv kp ky vl H.size (R0.length + ST.length) (nI 2) (nI 0) 0 (nI R0.length) (by omega)) (cwV 4 hts (zg_V zm_460 zm_462 zs_17 zm_7 zm_463) rfl rfl rfl (by decide +kernel) ⟨Nat.le_of_ble_eq_true rfl, Nat.le_of_ble_eq_true rfl⟩) (xp_preVQ (ci := 5) (q0 := 0) hK hP hD rfl rfl rfl hZ) rfl rfl hl.1 rfl (lv_room (Nat.le_of_ble_eq_true rfl)) d_M_commit_63 ⟨Nat.zero_le _, Nat.zero_le _⟩) hS (xa_F hD hS hA) (fun u H locs hp63 hP hS => ?_)
          have hP : va_P D zz_cl (xw_M q cA (nI lm) (nI B0.length) bk bv (nI (R0.length + ST.length + 1)) (upd wh1 (R0.length + ST.length) (nI 2)) (upd rk1 (R0.length + ST.length) (nI 0)) (vp_updL rv1 (R0.length + ST.length) 0) (upd bg1 (R0.length + ST.length) (nI R0.length)) (xb_i false) (nI ST.length) sw sk sv kp ky vl) H := hP
          have hD : va_D A (xw_M q cA (nI lm) (nI B0.length) bk bv (nI (R0.length + ST.length + 1)) (upd wh1 (R0.length + ST.length) (nI 2)) (upd rk1 (R0.length + ST.length) (nI 0)) (vp_updL rv1 (R0.length + ST.length) 0) (upd bg1 (R0.length + ST.length) (nI R0.length)) (xb_i false) (nI ST.length) sw sk sv kp ky vl) := xa_E hD rfl
          have hr9 : xm_rt (xs_new B0 R0 (xs_N ST)) (upd wh1 (R0.length + ST.length) (nI 2)) (upd rk1 (R0.length + ST.length) (nI 0)) (vp_updL rv1 (R0.length + ST.length) 0) (upd bg1 (R0.length + ST.length) (nI R0.length)) := xm_rn_rt (by rw [xs_new_len, xs_N_len]; exact xm_rn_up hr1 (xs_new_at (xs_N_last ST)) rfl (show nI 0 = (0 : Int32) from by decide) rfl rfl)
          rw [show nI (R0.length + ST.length + 1) = nI (xs_new B0 R0 (xs_N ST)).length from by rw [xs_new_len, xs_N_len]; rfl] at hP hD
          refine lv_aload_n hx hb d_M_commit_66 rfl (lv_at hl 0 rfl) ?_
          refine lv_iload_n hx hb d_M_commit_67 rfl (lv_at hl 1 rfl) ?_
          refine xa_cMI (va_runV (As := [.int (nI R0.length)]) (rest := []) ⟨hx, hb, hml, hown, hts⟩ (c_M_stays l D q cA bk bv (upd wh1 (R0.length + ST.length) (nI 2)) (upd rk1 (R0.length + ST.length) (nI 0)) (vp_updL rv1 (R0.length + ST.length) 0) (upd bg1 (R0.length + ST.length) (nI R0.length)) (xb_i false) (nI ST.length) sw sk sv kp ky vl H.size lm B0 R0 (xs_N ST) hMT.1 hok hr9 hlm ((xs_N_six hst).1) ((xs_N_six hst).2) (xm_sx_w hMT.2.2)) (cwV 1 hts (zg_V zm_464 zm_466 zs_18 zm_7 zm_467) rfl rfl rfl (by decide +kernel) ⟨Nat.le_of_ble_eq_true rfl, Nat.le_of_ble_eq_true rfl⟩) (xp_preVQ (ci := 5) (q0 := 0) hK hP hD rfl rfl rfl hZ) rfl rfl hl.1 rfl (lv_room (Nat.le_of_ble_eq_true rfl)) d_M_commit_68 ⟨Nat.zero_le _, Nat.zero_le _⟩) hS (xa_F hD hS hA) (fun r u H locs hp68 hP hS => ?_)
          obtain ⟨bk2_68, bv2_68, wh2_68, rk2_68, rv2_68, bg2_68, ky2_68, vl2_68, kp2_68⟩ := u
          obtain ⟨rfl, hp68⟩ := hp68
          have hP : va_P D zz_cl (xw_M q cA (nI lm) (nI (xs_pB lm B0 R0 false (xs_N ST)).length) bk2_68 bv2_68 (nI (xs_pR lm B0 R0 false (xs_N ST)).length) wh2_68 rk2_68 rv2_68 bg2_68 (xb_i false) (nI ST.length) sw sk sv kp2_68 ky2_68 vl2_68) H := hP
          have hD : va_D A (xw_M q cA (nI lm) (nI (xs_pB lm B0 R0 false (xs_N ST)).length) bk2_68 bv2_68 (nI (xs_pR lm B0 R0 false (xs_N ST)).length) wh2_68 rk2_68 rv2_68 bg2_68 (xb_i false) (nI ST.length) sw sk sv kp2_68 ky2_68 vl2_68) := xa_E hD rfl
          have hp68 : xk_tie bk2_68 bv2_68 (xs_pB lm B0 R0 false (xs_N ST)) ∧ xm_rt (xs_pR lm B0 R0 false (xs_N ST)) wh2_68 rk2_68 rv2_68 bg2_68 := hp68
          refine lv_if_eq (tgt := 83) hx hb d_M_commit_71 (by decide) (fun hc71 => ?_) (fun hc71 => ?_)
          · skip
            rw [xb_0] at hc71
            refine lv_iconst (v := nI 0) hx hb d_M_commit_83 (by decide +kernel) ?_
            exact W.iret (v := nI 0) hx hb hr (fun tJ htJ hWJ => ⟨⟨_, (bk2_68, bv2_68, wh2_68, rk2_68, rv2_68, bg2_68, sw, sk, sv, ky2_68, vl2_68, kp2_68), rfl, ⟨by rw [if_pos hc4]; first | rw [if_neg (by simpa using hc71)] | rw [if_pos (by simpa using hc71)], by rw [if_pos hc4, if_pos hc4]; exact ⟨hp68.1, hp68.2, hMT.2.2⟩⟩, by dsimp only; rw [htJ]; rw [if_pos hc4, if_pos hc4]; exact hP⟩, hS.F htJ⟩) hS.2.2 d_M_commit_84
          · skip
            rw [xb_1] at hc71
            refine lv_aload_n hx hb d_M_commit_74 rfl (lv_at hl 0 rfl) ?_
            refine va_get (D := D) (ci := 5) (v := .int (nI ST.length)) (C := R_M) (T := F_M) (N := 17) hx hb hts (zi_M _) hown hK hP 0 rfl rfl 10 (by decide) (hts _ (List.mem_cons_of_mem _ zm_386)) (fun _ h9 => h9) rfl d_M_commit_75 ?_
            refine lv_iconst (v := nI 1) hx hb d_M_commit_78 (by decide +kernel) ?_
            refine lv_iadd hx hb d_M_commit_79 ?_
            refine xa_top (y := nI (ST.length + 1)) (nI_add _ _) ?_
            refine lv_goto (tgt := 84) hx hb d_M_commit_80 (by decide) ?_
            exact W.iret (v := nI (ST.length + 1)) hx hb hr (fun tJ htJ hWJ => ⟨⟨_, (bk2_68, bv2_68, wh2_68, rk2_68, rv2_68, bg2_68, sw, sk, sv, ky2_68, vl2_68, kp2_68), rfl, ⟨by rw [if_pos hc4]; first | rw [if_neg (by simpa using hc71)] | rw [if_pos (by simpa using hc71)], by rw [if_pos hc4, if_pos hc4]; exact ⟨hp68.1, hp68.2, hMT.2.2⟩⟩, by dsimp only; rw [htJ]; rw [if_pos hc4, if_pos hc4]; exact hP⟩, hS.F htJ⟩) hS.2.2 d_M_commit_84
        · skip
          rw [nI_leI (by omega) (by omega)] at hc26
          obtain ⟨o, ho⟩ : ∃ o, ST[i]? = some o := ⟨_, List.getElem?_eq_getElem (by omega)⟩
          obtain ⟨ho1, ho2, ho3, ho4⟩ := hMT.2.2 i o ho
          have hri : (xs_new B0 R0 (xs_N ST))[R0.length + i]? = some (xs_rec R0.length o) := xs_new_at (xs_N_at ho)
          refine lv_aload_n hx hb d_M_commit_29 rfl (lv_at hl 0 rfl) ?_
          refine lv_aload_n hx hb d_M_commit_30 rfl (lv_at hl 0 rfl) ?_
          refine va_get (D := D) (ci := 5) (v := .ref (q 7)) (C := R_M) (T := F_M) (N := 17) hx hb hts (zi_M _) hown hK hP 0 rfl rfl 11 (by decide) (hts _ (List.mem_cons_of_mem _ zm_387)) (fun _ h9 => h9) rfl d_M_commit_31 ?_
          refine lv_iload_n hx hb d_M_commit_34 rfl (lv_at hl 2 rfl) ?_
          refine xa_iald hx hb hK hP 7 6 rfl rfl (k := i) (by omega) (by decide) d_M_commit_35 ?_
          refine xa_top (y := nI o.1) ho2 ?_
          refine lv_aload_n hx hb d_M_commit_36 rfl (lv_at hl 0 rfl) ?_
          refine va_get (D := D) (ci := 5) (v := .ref (q 8)) (C := R_M) (T := F_M) (N := 17) hx hb hts (zi_M _) hown hK hP 0 rfl rfl 12 (by decide) (hts _ (List.mem_cons_of_mem _ zm_388)) (fun _ h9 => h9) rfl d_M_commit_37 ?_
          refine lv_iload_n hx hb d_M_commit_40 rfl (lv_at hl 2 rfl) ?_
          refine xa_iald hx hb hK hP 8 7 rfl rfl (k := i) (by omega) (by decide) d_M_commit_41 ?_
          refine xa_top (y := o.2.1) ho3 ?_
          refine lv_aload_n hx hb d_M_commit_42 rfl (lv_at hl 0 rfl) ?_
          refine va_get (D := D) (ci := 5) (v := .ref (q 9)) (C := R_M) (T := F_M) (N := 17) hx hb hts (zi_M _) hown hK hP 0 rfl rfl 13 (by decide) (hts _ (List.mem_cons_of_mem _ zm_389)) (fun _ h9 => h9) rfl d_M_commit_43 ?_
          refine lv_iload_n hx hb d_M_commit_46 rfl (lv_at hl 2 rfl) ?_
          refine xa_lald hx hb hK hP 9 8 rfl rfl (k := i) (by omega) (by decide) d_M_commit_47 ?_
          refine xa_topl (y := o.2.2) ho4 ?_
          refine lv_iload_n hx hb d_M_commit_48 rfl (lv_at hl 1 rfl) ?_
          refine xa_cMV (va_runV (As := [.int (nI o.1), .int o.2.1, .long o.2.2, .int (nI R0.length)]) (rest := []) ⟨hx, hb, hml, hown, hts⟩ (c_M_write l D q cA (nI lm) (nI B0.length) bk bv wh1 rk1 rv1 bg1 (xb_i false) (nI ST.length) sw sk sv kp ky vl H.size (R0.length + i) (nI o.1) o.2.1 o.2.2 (nI R0.length) (by omega)) (cwV 4 hts (zg_V zm_460 zm_462 zs_17 zm_7 zm_463) rfl rfl rfl (by decide +kernel) ⟨Nat.le_of_ble_eq_true rfl, Nat.le_of_ble_eq_true rfl⟩) (xp_preVQ (ci := 5) (q0 := 0) hK hP hD rfl rfl rfl hZ) rfl rfl hl.1 rfl (lv_room (Nat.le_of_ble_eq_true rfl)) d_M_commit_49 ⟨Nat.zero_le _, Nat.zero_le _⟩) hS (xa_F hD hS hA) (fun u H locs hp49 hP hS => ?_)
          have hP : va_P D zz_cl (xw_M q cA (nI lm) (nI B0.length) bk bv (nI (R0.length + i + 1)) (upd wh1 (R0.length + i) (nI o.1)) (upd rk1 (R0.length + i) o.2.1) (vp_updL rv1 (R0.length + i) o.2.2) (upd bg1 (R0.length + i) (nI R0.length)) (xb_i false) (nI ST.length) sw sk sv kp ky vl) H := hP
          have hD : va_D A (xw_M q cA (nI lm) (nI B0.length) bk bv (nI (R0.length + i + 1)) (upd wh1 (R0.length + i) (nI o.1)) (upd rk1 (R0.length + i) o.2.1) (vp_updL rv1 (R0.length + i) o.2.2) (upd bg1 (R0.length + i) (nI R0.length)) (xb_i false) (nI ST.length) sw sk sv kp ky vl) := xa_E hD rfl
          refine lv_iinc (k := 2) (v := nI (i + 1)) (lv' := [(2, .int (nI (i + 1))), (0, .ref (q 0)), (1, .int (nI R0.length))]) hx hb d_M_commit_52 hl rfl (xn_inc _) (Nat.le_of_ble_eq_true rfl) rfl (fun ls hl => ?_)
          refine lv_goto (tgt := 21) hx hb d_M_commit_55 (by decide) ?_
          exact ih21 (i + 1) (upd wh1 (R0.length + i) (nI o.1)) (upd rk1 (R0.length + i) o.2.1) (vp_updL rv1 (R0.length + i) o.2.2) (upd bg1 (R0.length + i) (nI R0.length)) ls _ _ (by omega) (xm_rn_up hr1 hri rfl rfl rfl rfl) (lv_sub hl [1, 2, 0] rfl) hP hD hS (by omega)
    exact lp21 _ 0 wh rk rv bg ls _ _ (Nat.zero_le _) (xm_rn_new hMT.2.1 _) (lv_sub hl [2, 1, 0] rfl) hP hD hS (Nat.lt_succ_self _)
  · skip
    rw [xb_0] at hc4
    refine lv_iconst (v := (-1)) hx hb d_M_commit_7 (by decide +kernel) ?_
    exact W.iret (v := (-1)) hx hb hr (fun tJ htJ hWJ => ⟨⟨_, (bk, bv, wh, rk, rv, bg, sw, sk, sv, ky, vl, kp), rfl, ⟨by rw [if_neg (by rw [hc4]; decide)], by rw [if_neg (by rw [hc4]; decide), if_neg (by rw [hc4]; decide)]; exact hMT⟩, by dsimp only; rw [htJ]; rw [if_neg (by rw [hc4]; decide), if_neg (by rw [hc4]; decide), ← hc4]; exact hP⟩, hS.F htJ⟩) hS.2.2 d_M_commit_8
