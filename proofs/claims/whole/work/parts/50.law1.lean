/-! The cases of the law. (printed by law.py) -/
section XO
variable {pJ : Program} {l : Launch} {eJ : Env} {s : State} {mJ : MethodId} {below : List Frame} {meth : Method} {cJ : Code} {b L : Nat} {xs : Nat → Int32} {A : Nat → Prop} {D : va_G} {qc qm : Nat → Nat} {ca cm : Nat → ClassId} {lm : Nat} {Q : State → Prop}
set_option maxHeartbeats 4000000 in
set_option maxRecDepth 100000 in
theorem o_put (X : xl_X pJ s mJ cJ b L xs A D qc ca qm cm lm) {i : Nat} (hi : i + 4 ≤ L) {ls : Array Slot} (hl : lv_has ls 4 [(0, .ref b), (1, .ref (qc 0)), (2, .ref (qm 0)), (3, .int (nI i))]) {H : Heap} {locs : List Loc} (hS : va_S A s.heap H locs) (hI : xl_I D qc ca qm cm lm H) (kk : ∀ (H : Heap) (locs : List Loc), va_S A s.heap H locs → xl_I D qc ca qm cm lm H → W pJ l eJ room_1 s mJ #[Value.ref b] below meth cJ H locs 28 1265 Q (F0 mJ 510 ls [])) : W pJ l eJ room_1 s mJ #[Value.ref b] below meth cJ H locs 28 1265 Q (F0 mJ 132 ls []) := by
  obtain ⟨hx, hb, hml, hown, hts, hZ, hX, hbl, hbA, hA, hKc, hKm, hDc, hDm, hdis, hL, hlm⟩ := X
  obtain ⟨B0, R0, bt, ST, SM, kf, kg, af, bf, rk, rv, rm, rs, bp, bk, bv, mbk, mbv, mwh, mrk, mrv, mbg, msw, msk, msv, mkp, mky, mvl, hPc, hPm, hC, hMT, hok, hst, hsm, hSM⟩ := hI
  refine lv_aload_n hx hb d_L_law_132 rfl (lv_at hl 1 rfl) ?_
  refine lv_aload_n hx hb d_L_law_133 rfl (lv_at hl 0 rfl) ?_
  refine lv_iload_n hx hb d_L_law_134 rfl (lv_at hl 3 rfl) ?_
  refine lv_iconst (v := nI 1) hx hb d_L_law_135 (by decide +kernel) ?_
  refine lv_iadd hx hb d_L_law_136 ?_
  refine xa_top (y := nI (i + 1)) (nI_add _ _) ?_
  refine xl_sld hx hb hX hbl hbA hS (k := i + 1) (by omega) (by omega) d_L_law_137 ?_
  refine lv_aload_n hx hb d_L_law_138 rfl (lv_at hl 0 rfl) ?_
  refine lv_iload_n hx hb d_L_law_139 rfl (lv_at hl 3 rfl) ?_
  refine lv_iconst (v := nI 2) hx hb d_L_law_140 (by decide +kernel) ?_
  refine lv_iadd hx hb d_L_law_141 ?_
  refine xa_top (y := nI (i + 2)) (nI_add _ _) ?_
  refine xl_sld hx hb hX hbl hbA hS (k := i + 2) (by omega) (by omega) d_L_law_142 ?_
  refine lv_i2l (v := (xs (i + 2)).toInt64) hx hb d_L_law_143 rfl ?_
  refine lv_bipush (v := nI 32) hx hb d_L_law_144 (by decide +kernel) ?_
  refine lv_lshl (v := ((xs (i + 2)).toInt64) <<< ((nI 32).toInt64 &&& 63)) hx hb d_L_law_146 rfl ?_
  refine lv_aload_n hx hb d_L_law_147 rfl (lv_at hl 0 rfl) ?_
  refine lv_iload_n hx hb d_L_law_148 rfl (lv_at hl 3 rfl) ?_
  refine lv_iconst (v := nI 3) hx hb d_L_law_149 (by decide +kernel) ?_
  refine lv_iadd hx hb d_L_law_150 ?_
  refine xa_top (y := nI (i + 3)) (nI_add _ _) ?_
  refine xl_sld hx hb hX hbl hbA hS (k := i + 3) (by omega) (by omega) d_L_law_151 ?_
  refine lv_i2l (v := (xs (i + 3)).toInt64) hx hb d_L_law_152 rfl ?_
  refine lv_ldc2 (v := 4294967295) hx hb hown (hts _ (List.mem_cons_of_mem _ zm_581)) d_L_law_153 ?_
  refine lv_land hx hb d_L_law_156 ?_
  refine lv_lor hx hb d_L_law_157 ?_
  have hF := xa_F (H := H) (locs := locs) (xa_E (ws' := (xw_C qc ca (nI lm) kf kg (nI (xs_now B0 R0).length) af bf rk rv rm rs (nI R0.length) bp bk bv (xb_i bt) (nI ST.length))) hDc rfl) hS hA
  refine va_calli (va_runV (As := [.int (xs (i + 1)), .long ((((xs (i + 2)).toInt64) <<< ((nI 32).toInt64 &&& 63)) ||| (((xs (i + 3)).toInt64) &&& 4294967295))]) (rest := []) ⟨hx, hb, hml, hown, hts⟩ (c_E_put l D qc ca kf kg af bf rk rv rm rs bp bk bv H.size lm B0 R0 bt ST (xs (i + 1)) ((((xs (i + 2)).toInt64) <<< ((nI 32).toInt64 &&& 63)) ||| (((xs (i + 3)).toInt64) &&& 4294967295)) hC hok hlm hst) (cwV 2 hts (zg_V zm_126 zm_127 zm_128 zm_1 zm_129) rfl rfl rfl (by decide +kernel) ⟨Nat.le_of_ble_eq_true rfl, Nat.le_of_ble_eq_true rfl⟩) (xp_preVQ (ci := 0) (q0 := 0) hKc hPc (xa_E hDc rfl) rfl rfl rfl hZ) rfl rfl hl.1 rfl (lv_room (Nat.le_of_ble_eq_true rfl)) d_L_law_158 ⟨Nat.le_refl _, Nat.le_refl _⟩) hS (fun q _ h => hF q h) hF (fun r u tJ H1 locs1 htJ _ hp hBJ _ hkJ hS => ?_)
  obtain ⟨rfl, hp⟩ := hp
  have hPm : va_P D zz_cl (xw_M qm cm (nI lm) (nI B0.length) mbk mbv (nI R0.length) mwh mrk mrv mbg (xb_i bt) (nI SM.length) msw msk msv mkp mky mvl) H1 := xl_keep (wc := (xw_C qc ca (nI lm) kf kg (nI (xs_now B0 R0).length) af bf rk rv rm rs (nI R0.length) bp bk bv (xb_i bt) (nI ST.length))) hPm hdis hkJ
  obtain ⟨ckf2, ckg2, caf2, cbf2, crk2, crv2, crm2, crs2, cbp2, cbk2, cbv2⟩ := u
  have hPc : va_P D zz_cl (xw_C qc ca (nI lm) ckf2 ckg2 (nI (xs_now (xs_pB lm B0 R0 bt [((0, ((xs (i + 1))), (((((xs (i + 2)).toInt64) <<< ((nI 32).toInt64 &&& 63)) ||| (((xs (i + 3)).toInt64) &&& 4294967295)))) : xs_O)]) (xs_pR lm B0 R0 bt [((0, ((xs (i + 1))), (((((xs (i + 2)).toInt64) <<< ((nI 32).toInt64 &&& 63)) ||| (((xs (i + 3)).toInt64) &&& 4294967295)))) : xs_O)])).length) caf2 cbf2 crk2 crv2 crm2 crs2 (nI (xs_pR lm B0 R0 bt [((0, ((xs (i + 1))), (((((xs (i + 2)).toInt64) <<< ((nI 32).toInt64 &&& 63)) ||| (((xs (i + 3)).toInt64) &&& 4294967295)))) : xs_O)]).length) cbp2 cbk2 cbv2 (xb_i bt) (nI (xs_pS bt ST ((0, ((xs (i + 1))), (((((xs (i + 2)).toInt64) <<< ((nI 32).toInt64 &&& 63)) ||| (((xs (i + 3)).toInt64) &&& 4294967295)))) : xs_O)).length)) H1 := by rw [← htJ]; exact hBJ
  have hC2 : xs_CT (xs_pB lm B0 R0 bt [((0, ((xs (i + 1))), (((((xs (i + 2)).toInt64) <<< ((nI 32).toInt64 &&& 63)) ||| (((xs (i + 3)).toInt64) &&& 4294967295)))) : xs_O)]) (xs_pR lm B0 R0 bt [((0, ((xs (i + 1))), (((((xs (i + 2)).toInt64) <<< ((nI 32).toInt64 &&& 63)) ||| (((xs (i + 3)).toInt64) &&& 4294967295)))) : xs_O)]) (xs_pS bt ST ((0, ((xs (i + 1))), (((((xs (i + 2)).toInt64) <<< ((nI 32).toInt64 &&& 63)) ||| (((xs (i + 3)).toInt64) &&& 4294967295)))) : xs_O)) ckf2 ckg2 caf2 cbf2 crk2 crv2 crm2 crs2 cbp2 cbk2 cbv2 := hp
  generalize H1 = H at hPc hPm hS ⊢
  generalize locs1 = locs at hS ⊢
  refine lv_aload_n hx hb d_L_law_161 rfl (lv_at hl 2 rfl) ?_
  refine lv_aload_n hx hb d_L_law_162 rfl (lv_at hl 0 rfl) ?_
  refine lv_iload_n hx hb d_L_law_163 rfl (lv_at hl 3 rfl) ?_
  refine lv_iconst (v := nI 1) hx hb d_L_law_164 (by decide +kernel) ?_
  refine lv_iadd hx hb d_L_law_165 ?_
  refine xa_top (y := nI (i + 1)) (nI_add _ _) ?_
  refine xl_sld hx hb hX hbl hbA hS (k := i + 1) (by omega) (by omega) d_L_law_166 ?_
  refine lv_aload_n hx hb d_L_law_167 rfl (lv_at hl 0 rfl) ?_
  refine lv_iload_n hx hb d_L_law_168 rfl (lv_at hl 3 rfl) ?_
  refine lv_iconst (v := nI 2) hx hb d_L_law_169 (by decide +kernel) ?_
  refine lv_iadd hx hb d_L_law_170 ?_
  refine xa_top (y := nI (i + 2)) (nI_add _ _) ?_
  refine xl_sld hx hb hX hbl hbA hS (k := i + 2) (by omega) (by omega) d_L_law_171 ?_
  refine lv_i2l (v := (xs (i + 2)).toInt64) hx hb d_L_law_172 rfl ?_
  refine lv_bipush (v := nI 32) hx hb d_L_law_173 (by decide +kernel) ?_
  refine lv_lshl (v := ((xs (i + 2)).toInt64) <<< ((nI 32).toInt64 &&& 63)) hx hb d_L_law_175 rfl ?_
  refine lv_aload_n hx hb d_L_law_176 rfl (lv_at hl 0 rfl) ?_
  refine lv_iload_n hx hb d_L_law_177 rfl (lv_at hl 3 rfl) ?_
  refine lv_iconst (v := nI 3) hx hb d_L_law_178 (by decide +kernel) ?_
  refine lv_iadd hx hb d_L_law_179 ?_
  refine xa_top (y := nI (i + 3)) (nI_add _ _) ?_
  refine xl_sld hx hb hX hbl hbA hS (k := i + 3) (by omega) (by omega) d_L_law_180 ?_
  refine lv_i2l (v := (xs (i + 3)).toInt64) hx hb d_L_law_181 rfl ?_
  refine lv_ldc2 (v := 4294967295) hx hb hown (hts _ (List.mem_cons_of_mem _ zm_581)) d_L_law_182 ?_
  refine lv_land hx hb d_L_law_185 ?_
  refine lv_lor hx hb d_L_law_186 ?_
  have hF := xa_F (H := H) (locs := locs) (xa_E (ws' := (xw_M qm cm (nI lm) (nI B0.length) mbk mbv (nI R0.length) mwh mrk mrv mbg (xb_i bt) (nI SM.length) msw msk msv mkp mky mvl)) hDm rfl) hS hA
  refine va_calli (va_runV (As := [.int (xs (i + 1)), .long ((((xs (i + 2)).toInt64) <<< ((nI 32).toInt64 &&& 63)) ||| (((xs (i + 3)).toInt64) &&& 4294967295))]) (rest := [.int (if bt = true then (if ST.length < 5 then nI 3 else nI 0) else if xs_bad lm (xs_now B0 (xs_new B0 R0 [((0, ((xs (i + 1))), (((((xs (i + 2)).toInt64) <<< ((nI 32).toInt64 &&& 63)) ||| (((xs (i + 3)).toInt64) &&& 4294967295)))) : xs_O)])) = true then nI 0 else if xk_has (xs_now B0 R0) ((xs (i + 1))) = true then nI 2 else nI 1)]) ⟨hx, hb, hml, hown, hts⟩ (c_M_put l D qm cm mbk mbv mwh mrk mrv mbg msw msk msv mkp mky mvl H.size lm B0 R0 bt SM (xs (i + 1)) ((((xs (i + 2)).toInt64) <<< ((nI 32).toInt64 &&& 63)) ||| (((xs (i + 3)).toInt64) &&& 4294967295)) hMT hok hlm hsm) (cwV 2 hts (zg_V zm_428 zm_429 zm_430 zm_7 zm_431) rfl rfl rfl (by decide +kernel) ⟨Nat.le_of_ble_eq_true rfl, Nat.le_of_ble_eq_true rfl⟩) (xp_preVQ (ci := 5) (q0 := 0) hKm hPm (xa_E hDm rfl) rfl rfl rfl hZ) rfl rfl hl.1 rfl (lv_room (Nat.le_of_ble_eq_true rfl)) d_L_law_187 ⟨Nat.le_refl _, Nat.le_refl _⟩) hS (fun q _ h => hF q h) hF (fun r u tJ H1 locs1 htJ _ hp hBJ _ hkJ hS => ?_)
  obtain ⟨rfl, hp⟩ := hp
  have hPc : va_P D zz_cl (xw_C qc ca (nI lm) ckf2 ckg2 (nI (xs_now (xs_pB lm B0 R0 bt [((0, ((xs (i + 1))), (((((xs (i + 2)).toInt64) <<< ((nI 32).toInt64 &&& 63)) ||| (((xs (i + 3)).toInt64) &&& 4294967295)))) : xs_O)]) (xs_pR lm B0 R0 bt [((0, ((xs (i + 1))), (((((xs (i + 2)).toInt64) <<< ((nI 32).toInt64 &&& 63)) ||| (((xs (i + 3)).toInt64) &&& 4294967295)))) : xs_O)])).length) caf2 cbf2 crk2 crv2 crm2 crs2 (nI (xs_pR lm B0 R0 bt [((0, ((xs (i + 1))), (((((xs (i + 2)).toInt64) <<< ((nI 32).toInt64 &&& 63)) ||| (((xs (i + 3)).toInt64) &&& 4294967295)))) : xs_O)]).length) cbp2 cbk2 cbv2 (xb_i bt) (nI (xs_pS bt ST ((0, ((xs (i + 1))), (((((xs (i + 2)).toInt64) <<< ((nI 32).toInt64 &&& 63)) ||| (((xs (i + 3)).toInt64) &&& 4294967295)))) : xs_O)).length)) H1 := xl_keep (wc := (xw_M qm cm (nI lm) (nI B0.length) mbk mbv (nI R0.length) mwh mrk mrv mbg (xb_i bt) (nI SM.length) msw msk msv mkp mky mvl)) hPc (xl_sw hdis) hkJ
  obtain ⟨nbk2, nbv2, nwh2, nrk2, nrv2, nbg2, nsw2, nsk2, nsv2, nky2, nvl2, nkp2⟩ := u
  have hPm : va_P D zz_cl (xw_M qm cm (nI lm) (nI (xs_pB lm B0 R0 bt [((0, ((xs (i + 1))), (((((xs (i + 2)).toInt64) <<< ((nI 32).toInt64 &&& 63)) ||| (((xs (i + 3)).toInt64) &&& 4294967295)))) : xs_O)]).length) nbk2 nbv2 (nI (xs_pR lm B0 R0 bt [((0, ((xs (i + 1))), (((((xs (i + 2)).toInt64) <<< ((nI 32).toInt64 &&& 63)) ||| (((xs (i + 3)).toInt64) &&& 4294967295)))) : xs_O)]).length) nwh2 nrk2 nrv2 nbg2 (xb_i bt) (nI (xs_pS bt SM ((0, ((xs (i + 1))), (((((xs (i + 2)).toInt64) <<< ((nI 32).toInt64 &&& 63)) ||| (((xs (i + 3)).toInt64) &&& 4294967295)))) : xs_O)).length) nsw2 nsk2 nsv2 nkp2 nky2 nvl2) H1 := by rw [← htJ]; exact hBJ
  have hM2 : xm_MT (xs_pB lm B0 R0 bt [((0, ((xs (i + 1))), (((((xs (i + 2)).toInt64) <<< ((nI 32).toInt64 &&& 63)) ||| (((xs (i + 3)).toInt64) &&& 4294967295)))) : xs_O)]) (xs_pR lm B0 R0 bt [((0, ((xs (i + 1))), (((((xs (i + 2)).toInt64) <<< ((nI 32).toInt64 &&& 63)) ||| (((xs (i + 3)).toInt64) &&& 4294967295)))) : xs_O)]) (xs_pS bt SM ((0, ((xs (i + 1))), (((((xs (i + 2)).toInt64) <<< ((nI 32).toInt64 &&& 63)) ||| (((xs (i + 3)).toInt64) &&& 4294967295)))) : xs_O)) nbk2 nbv2 nwh2 nrk2 nrv2 nbg2 nsw2 nsk2 nsv2 := hp
  generalize H1 = H at hPc hPm hS ⊢
  generalize locs1 = locs at hS ⊢
  refine lv_icmp_eq (tgt := 510) hx hb d_L_law_190 (by decide) (fun _ => ?_) (fun hne => (hne (Classical.byCases (fun hq : bt = true => by rw [if_pos hq, if_pos hq, hSM hq]) (fun hq : ¬ bt = true => by rw [if_neg hq, if_neg hq]))).elim)
  exact kk _ _ hS ⟨xs_pB lm B0 R0 bt [((0, xs (i + 1), ((xs (i + 2)).toInt64 <<< ((nI 32).toInt64 &&& 63)) ||| ((xs (i + 3)).toInt64 &&& 4294967295)) : xs_O)], xs_pR lm B0 R0 bt [((0, xs (i + 1), ((xs (i + 2)).toInt64 <<< ((nI 32).toInt64 &&& 63)) ||| ((xs (i + 3)).toInt64 &&& 4294967295)) : xs_O)], bt, xs_pS bt ST ((0, xs (i + 1), ((xs (i + 2)).toInt64 <<< ((nI 32).toInt64 &&& 63)) ||| ((xs (i + 3)).toInt64 &&& 4294967295)) : xs_O), xs_pS bt SM ((0, xs (i + 1), ((xs (i + 2)).toInt64 <<< ((nI 32).toInt64 &&& 63)) ||| ((xs (i + 3)).toInt64 &&& 4294967295)) : xs_O), ckf2, ckg2, caf2, cbf2, crk2, crv2, crm2, crs2, cbp2, cbk2, cbv2, nbk2, nbv2, nwh2, nrk2, nrv2, nbg2, nsw2, nsk2, nsv2, nkp2, nky2, nvl2, hPc, hPm, hC2, hM2, xl_ok_p hok bt (by simp) (fun q => by simp at q) (fun o ho => by rw [List.mem_singleton.mp ho]; exact Nat.zero_le _), xl_pS5 hst _, xl_pS5 hsm _, fun hq => by rw [hSM hq]⟩
set_option maxHeartbeats 4000000 in
set_option maxRecDepth 100000 in
theorem o_delete (X : xl_X pJ s mJ cJ b L xs A D qc ca qm cm lm) {i : Nat} (hi : i + 4 ≤ L) {ls : Array Slot} (hl : lv_has ls 4 [(0, .ref b), (1, .ref (qc 0)), (2, .ref (qm 0)), (3, .int (nI i))]) {H : Heap} {locs : List Loc} (hS : va_S A s.heap H locs) (hI : xl_I D qc ca qm cm lm H) (kk : ∀ (H : Heap) (locs : List Loc), va_S A s.heap H locs → xl_I D qc ca qm cm lm H → W pJ l eJ room_1 s mJ #[Value.ref b] below meth cJ H locs 28 1265 Q (F0 mJ 510 ls [])) : W pJ l eJ room_1 s mJ #[Value.ref b] below meth cJ H locs 28 1265 Q (F0 mJ 195 ls []) := by
  obtain ⟨hx, hb, hml, hown, hts, hZ, hX, hbl, hbA, hA, hKc, hKm, hDc, hDm, hdis, hL, hlm⟩ := X
  obtain ⟨B0, R0, bt, ST, SM, kf, kg, af, bf, rk, rv, rm, rs, bp, bk, bv, mbk, mbv, mwh, mrk, mrv, mbg, msw, msk, msv, mkp, mky, mvl, hPc, hPm, hC, hMT, hok, hst, hsm, hSM⟩ := hI
  refine lv_aload_n hx hb d_L_law_195 rfl (lv_at hl 1 rfl) ?_
  refine lv_aload_n hx hb d_L_law_196 rfl (lv_at hl 0 rfl) ?_
  refine lv_iload_n hx hb d_L_law_197 rfl (lv_at hl 3 rfl) ?_
  refine lv_iconst (v := nI 1) hx hb d_L_law_198 (by decide +kernel) ?_
  refine lv_iadd hx hb d_L_law_199 ?_
  refine xa_top (y := nI (i + 1)) (nI_add _ _) ?_
  refine xl_sld hx hb hX hbl hbA hS (k := i + 1) (by omega) (by omega) d_L_law_200 ?_
  have hF := xa_F (H := H) (locs := locs) (xa_E (ws' := (xw_C qc ca (nI lm) kf kg (nI (xs_now B0 R0).length) af bf rk rv rm rs (nI R0.length) bp bk bv (xb_i bt) (nI ST.length))) hDc rfl) hS hA
  refine va_calli (va_runV (As := [.int (xs (i + 1))]) (rest := []) ⟨hx, hb, hml, hown, hts⟩ (c_E_del l D qc ca kf kg af bf rk rv rm rs bp bk bv H.size lm B0 R0 bt ST (xs (i + 1)) hC hok hlm hst) (cwV 1 hts (zg_V zm_245 zm_246 zm_247 zm_1 zm_248) rfl rfl rfl (by decide +kernel) ⟨Nat.le_of_ble_eq_true rfl, Nat.le_of_ble_eq_true rfl⟩) (xp_preVQ (ci := 0) (q0 := 0) hKc hPc (xa_E hDc rfl) rfl rfl rfl hZ) rfl rfl hl.1 rfl (lv_room (Nat.le_of_ble_eq_true rfl)) d_L_law_201 ⟨Nat.le_refl _, Nat.le_refl _⟩) hS (fun q _ h => hF q h) hF (fun r u tJ H1 locs1 htJ _ hp hBJ _ hkJ hS => ?_)
  obtain ⟨rfl, hp⟩ := hp
  have hPm : va_P D zz_cl (xw_M qm cm (nI lm) (nI B0.length) mbk mbv (nI R0.length) mwh mrk mrv mbg (xb_i bt) (nI SM.length) msw msk msv mkp mky mvl) H1 := xl_keep (wc := (xw_C qc ca (nI lm) kf kg (nI (xs_now B0 R0).length) af bf rk rv rm rs (nI R0.length) bp bk bv (xb_i bt) (nI ST.length))) hPm hdis hkJ
  obtain ⟨ckf2, ckg2, caf2, cbf2, crk2, crv2, crm2, crs2, cbp2, cbk2, cbv2⟩ := u
  have hPc : va_P D zz_cl (xw_C qc ca (nI lm) ckf2 ckg2 (nI (xs_now (xs_dB B0 R0 bt ((xs (i + 1)))) (xs_dR B0 R0 bt ((xs (i + 1))))).length) caf2 cbf2 crk2 crv2 crm2 crs2 (nI (xs_dR B0 R0 bt ((xs (i + 1)))).length) cbp2 cbk2 cbv2 (xb_i bt) (nI (xs_pS bt ST ((1, ((xs (i + 1))), 0) : xs_O)).length)) H1 := by rw [← htJ]; exact hBJ
  have hC2 : xs_CT (xs_dB B0 R0 bt ((xs (i + 1)))) (xs_dR B0 R0 bt ((xs (i + 1)))) (xs_pS bt ST ((1, ((xs (i + 1))), 0) : xs_O)) ckf2 ckg2 caf2 cbf2 crk2 crv2 crm2 crs2 cbp2 cbk2 cbv2 := hp
  generalize H1 = H at hPc hPm hS ⊢
  generalize locs1 = locs at hS ⊢
  refine lv_aload_n hx hb d_L_law_204 rfl (lv_at hl 2 rfl) ?_
  refine lv_aload_n hx hb d_L_law_205 rfl (lv_at hl 0 rfl) ?_
  refine lv_iload_n hx hb d_L_law_206 rfl (lv_at hl 3 rfl) ?_
  refine lv_iconst (v := nI 1) hx hb d_L_law_207 (by decide +kernel) ?_
  refine lv_iadd hx hb d_L_law_208 ?_
  refine xa_top (y := nI (i + 1)) (nI_add _ _) ?_
  refine xl_sld hx hb hX hbl hbA hS (k := i + 1) (by omega) (by omega) d_L_law_209 ?_
  have hF := xa_F (H := H) (locs := locs) (xa_E (ws' := (xw_M qm cm (nI lm) (nI B0.length) mbk mbv (nI R0.length) mwh mrk mrv mbg (xb_i bt) (nI SM.length) msw msk msv mkp mky mvl)) hDm rfl) hS hA
  refine va_calli (va_runV (As := [.int (xs (i + 1))]) (rest := [.int (if bt = true then (if ST.length < 5 then nI 3 else nI 0) else if xk_has (xs_now B0 R0) ((xs (i + 1))) = true then nI 1 else nI 0)]) ⟨hx, hb, hml, hown, hts⟩ (c_M_del l D qm cm mbk mbv mwh mrk mrv mbg msw msk msv mkp mky mvl H.size lm B0 R0 bt SM (xs (i + 1)) hMT hok hlm hsm) (cwV 1 hts (zg_V zm_508 zm_509 zm_510 zm_7 zm_511) rfl rfl rfl (by decide +kernel) ⟨Nat.le_of_ble_eq_true rfl, Nat.le_of_ble_eq_true rfl⟩) (xp_preVQ (ci := 5) (q0 := 0) hKm hPm (xa_E hDm rfl) rfl rfl rfl hZ) rfl rfl hl.1 rfl (lv_room (Nat.le_of_ble_eq_true rfl)) d_L_law_210 ⟨Nat.le_refl _, Nat.le_refl _⟩) hS (fun q _ h => hF q h) hF (fun r u tJ H1 locs1 htJ _ hp hBJ _ hkJ hS => ?_)
  obtain ⟨rfl, hp⟩ := hp
  have hPc : va_P D zz_cl (xw_C qc ca (nI lm) ckf2 ckg2 (nI (xs_now (xs_dB B0 R0 bt ((xs (i + 1)))) (xs_dR B0 R0 bt ((xs (i + 1))))).length) caf2 cbf2 crk2 crv2 crm2 crs2 (nI (xs_dR B0 R0 bt ((xs (i + 1)))).length) cbp2 cbk2 cbv2 (xb_i bt) (nI (xs_pS bt ST ((1, ((xs (i + 1))), 0) : xs_O)).length)) H1 := xl_keep (wc := (xw_M qm cm (nI lm) (nI B0.length) mbk mbv (nI R0.length) mwh mrk mrv mbg (xb_i bt) (nI SM.length) msw msk msv mkp mky mvl)) hPc (xl_sw hdis) hkJ
  obtain ⟨nbk2, nbv2, nwh2, nrk2, nrv2, nbg2, nsw2, nsk2, nsv2, nky2, nvl2, nkp2⟩ := u
  have hPm : va_P D zz_cl (xw_M qm cm (nI lm) (nI (xs_dB B0 R0 bt ((xs (i + 1)))).length) nbk2 nbv2 (nI (xs_dR B0 R0 bt ((xs (i + 1)))).length) nwh2 nrk2 nrv2 nbg2 (xb_i bt) (nI (xs_pS bt SM ((1, ((xs (i + 1))), 0) : xs_O)).length) nsw2 nsk2 nsv2 nkp2 nky2 nvl2) H1 := by rw [← htJ]; exact hBJ
  have hM2 : xm_MT (xs_dB B0 R0 bt ((xs (i + 1)))) (xs_dR B0 R0 bt ((xs (i + 1)))) (xs_pS bt SM ((1, ((xs (i + 1))), 0) : xs_O)) nbk2 nbv2 nwh2 nrk2 nrv2 nbg2 nsw2 nsk2 nsv2 := hp
  generalize H1 = H at hPc hPm hS ⊢
  generalize locs1 = locs at hS ⊢
  refine lv_icmp_eq (tgt := 510) hx hb d_L_law_213 (by decide) (fun _ => ?_) (fun hne => (hne (Classical.byCases (fun hq : bt = true => by rw [if_pos hq, if_pos hq, hSM hq]) (fun hq : ¬ bt = true => by rw [if_neg hq, if_neg hq]))).elim)
  exact kk _ _ hS ⟨xs_dB B0 R0 bt (xs (i + 1)), xs_dR B0 R0 bt (xs (i + 1)), bt, xs_pS bt ST ((1, xs (i + 1), 0) : xs_O), xs_pS bt SM ((1, xs (i + 1), 0) : xs_O), ckf2, ckg2, caf2, cbf2, crk2, crv2, crm2, crs2, cbp2, cbk2, cbv2, nbk2, nbv2, nwh2, nrk2, nrv2, nbg2, nsw2, nsk2, nsv2, nkp2, nky2, nvl2, hPc, hPm, hC2, hM2, xl_ok_d hok bt _, xl_pS5 hst _, xl_pS5 hsm _, fun hq => by rw [hSM hq]⟩
set_option maxHeartbeats 4000000 in
set_option maxRecDepth 100000 in
theorem o_has (X : xl_X pJ s mJ cJ b L xs A D qc ca qm cm lm) {i : Nat} (hi : i + 4 ≤ L) {ls : Array Slot} (hl : lv_has ls 4 [(0, .ref b), (1, .ref (qc 0)), (2, .ref (qm 0)), (3, .int (nI i))]) {H : Heap} {locs : List Loc} (hS : va_S A s.heap H locs) (hI : xl_I D qc ca qm cm lm H) (kk : ∀ (H : Heap) (locs : List Loc), va_S A s.heap H locs → xl_I D qc ca qm cm lm H → W pJ l eJ room_1 s mJ #[Value.ref b] below meth cJ H locs 28 1265 Q (F0 mJ 510 ls [])) : W pJ l eJ room_1 s mJ #[Value.ref b] below meth cJ H locs 28 1265 Q (F0 mJ 218 ls []) := by
  obtain ⟨hx, hb, hml, hown, hts, hZ, hX, hbl, hbA, hA, hKc, hKm, hDc, hDm, hdis, hL, hlm⟩ := X
  obtain ⟨B0, R0, bt, ST, SM, kf, kg, af, bf, rk, rv, rm, rs, bp, bk, bv, mbk, mbv, mwh, mrk, mrv, mbg, msw, msk, msv, mkp, mky, mvl, hPc, hPm, hC, hMT, hok, hst, hsm, hSM⟩ := hI
  refine lv_aload_n hx hb d_L_law_218 rfl (lv_at hl 1 rfl) ?_
  refine lv_aload_n hx hb d_L_law_219 rfl (lv_at hl 0 rfl) ?_
  refine lv_iload_n hx hb d_L_law_220 rfl (lv_at hl 3 rfl) ?_
  refine lv_iconst (v := nI 1) hx hb d_L_law_221 (by decide +kernel) ?_
  refine lv_iadd hx hb d_L_law_222 ?_
  refine xa_top (y := nI (i + 1)) (nI_add _ _) ?_
  refine xl_sld hx hb hX hbl hbA hS (k := i + 1) (by omega) (by omega) d_L_law_223 ?_
  refine xa_cI (va_runV (As := [.int (xs (i + 1))]) (rest := []) ⟨hx, hb, hml, hown, hts⟩ (c_E_has l D qc ca (nI lm) kf kg af bf rk rv rm rs (nI R0.length) bp bk bv (xb_i bt) (nI ST.length) (xs_now B0 R0) (xs (i + 1)) hC.1) (cwV 1 hts (zg_V zm_253 zm_254 zm_255 zm_1 zm_256) rfl rfl rfl (by decide +kernel) ⟨Nat.le_of_ble_eq_true rfl, Nat.le_of_ble_eq_true rfl⟩) (xp_preV (ci := 0) (q0 := 0) hKc hPc rfl rfl rfl hZ) rfl rfl hl.1 rfl (lv_room (Nat.le_of_ble_eq_true rfl)) d_L_law_224 ⟨Nat.le_refl _, Nat.le_refl _⟩) ?_
  refine lv_aload_n hx hb d_L_law_227 rfl (lv_at hl 2 rfl) ?_
  refine lv_aload_n hx hb d_L_law_228 rfl (lv_at hl 0 rfl) ?_
  refine lv_iload_n hx hb d_L_law_229 rfl (lv_at hl 3 rfl) ?_
  refine lv_iconst (v := nI 1) hx hb d_L_law_230 (by decide +kernel) ?_
  refine lv_iadd hx hb d_L_law_231 ?_
  refine xa_top (y := nI (i + 1)) (nI_add _ _) ?_
  refine xl_sld hx hb hX hbl hbA hS (k := i + 1) (by omega) (by omega) d_L_law_232 ?_
  have hF := xa_F (H := H) (locs := locs) (xa_E (ws' := (xw_M qm cm (nI lm) (nI B0.length) mbk mbv (nI R0.length) mwh mrk mrv mbg (xb_i bt) (nI SM.length) msw msk msv mkp mky mvl)) hDm rfl) hS hA
  refine va_calli (va_runV (As := [.int (xs (i + 1))]) (rest := [.int (xb_i (xk_has ((xs_now B0 R0)) ((xs (i + 1)))))]) ⟨hx, hb, hml, hown, hts⟩ (c_M_has l D qm cm (nI lm) mbk mbv mwh mrk mrv mbg (xb_i bt) (nI SM.length) msw msk msv mkp mky mvl H.size lm B0 R0 SM (xs (i + 1)) hMT hok) (cwV 1 hts (zg_V zm_532 zm_437 zm_438 zm_7 zm_439) rfl rfl rfl (by decide +kernel) ⟨Nat.le_of_ble_eq_true rfl, Nat.le_of_ble_eq_true rfl⟩) (xp_preVQ (ci := 5) (q0 := 0) hKm hPm (xa_E hDm rfl) rfl rfl rfl hZ) rfl rfl hl.1 rfl (lv_room (Nat.le_of_ble_eq_true rfl)) d_L_law_233 ⟨Nat.le_refl _, Nat.le_refl _⟩) hS (fun q _ h => hF q h) hF (fun r u tJ H1 locs1 htJ _ hp hBJ _ hkJ hS => ?_)
  obtain ⟨rfl, hp⟩ := hp
  have hPc : va_P D zz_cl (xw_C qc ca (nI lm) kf kg (nI (xs_now B0 R0).length) af bf rk rv rm rs (nI R0.length) bp bk bv (xb_i bt) (nI ST.length)) H1 := xl_keep (wc := (xw_M qm cm (nI lm) (nI B0.length) mbk mbv (nI R0.length) mwh mrk mrv mbg (xb_i bt) (nI SM.length) msw msk msv mkp mky mvl)) hPc (xl_sw hdis) hkJ
  obtain ⟨nky2, nvl2⟩ := u
  have hPm : va_P D zz_cl (xw_M qm cm (nI lm) (nI B0.length) mbk mbv (nI R0.length) mwh mrk mrv mbg (xb_i bt) (nI SM.length) msw msk msv (nI (xs_now B0 R0).length) nky2 nvl2) H1 := by rw [← htJ]; exact hBJ
  have hM2 : xm_T nky2 nvl2 (xs_now B0 R0) := hp
  generalize H1 = H at hPc hPm hS ⊢
  generalize locs1 = locs at hS ⊢
  refine lv_icmp_eq (tgt := 510) hx hb d_L_law_236 (by decide) (fun _ => ?_) (fun hne => (hne (rfl)).elim)
  exact kk _ _ hS ⟨B0, R0, bt, ST, SM, kf, kg, af, bf, rk, rv, rm, rs, bp, bk, bv, mbk, mbv, mwh, mrk, mrv, mbg, msw, msk, msv, nI (xs_now B0 R0).length, nky2, nvl2, hPc, hPm, hC, hMT, hok, hst, hsm, hSM⟩
set_option maxHeartbeats 4000000 in
set_option maxRecDepth 100000 in
theorem o_get (X : xl_X pJ s mJ cJ b L xs A D qc ca qm cm lm) {i : Nat} (hi : i + 4 ≤ L) {ls : Array Slot} (hl : lv_has ls 4 [(0, .ref b), (1, .ref (qc 0)), (2, .ref (qm 0)), (3, .int (nI i))]) {H : Heap} {locs : List Loc} (hS : va_S A s.heap H locs) (hI : xl_I D qc ca qm cm lm H) (kk : ∀ (H : Heap) (locs : List Loc), va_S A s.heap H locs → xl_I D qc ca qm cm lm H → W pJ l eJ room_1 s mJ #[Value.ref b] below meth cJ H locs 28 1265 Q (F0 mJ 510 ls [])) : W pJ l eJ room_1 s mJ #[Value.ref b] below meth cJ H locs 28 1265 Q (F0 mJ 241 ls []) := by
  obtain ⟨hx, hb, hml, hown, hts, hZ, hX, hbl, hbA, hA, hKc, hKm, hDc, hDm, hdis, hL, hlm⟩ := X
  obtain ⟨B0, R0, bt, ST, SM, kf, kg, af, bf, rk, rv, rm, rs, bp, bk, bv, mbk, mbv, mwh, mrk, mrv, mbg, msw, msk, msv, mkp, mky, mvl, hPc, hPm, hC, hMT, hok, hst, hsm, hSM⟩ := hI
  refine lv_aload_n hx hb d_L_law_241 rfl (lv_at hl 1 rfl) ?_
  refine lv_aload_n hx hb d_L_law_242 rfl (lv_at hl 0 rfl) ?_
  refine lv_iload_n hx hb d_L_law_243 rfl (lv_at hl 3 rfl) ?_
  refine lv_iconst (v := nI 1) hx hb d_L_law_244 (by decide +kernel) ?_
  refine lv_iadd hx hb d_L_law_245 ?_
  refine xa_top (y := nI (i + 1)) (nI_add _ _) ?_
  refine xl_sld hx hb hX hbl hbA hS (k := i + 1) (by omega) (by omega) d_L_law_246 ?_
  refine xa_cJ (va_runV (As := [.int (xs (i + 1))]) (rest := []) ⟨hx, hb, hml, hown, hts⟩ (c_E_get l D qc ca (nI lm) kf kg af bf rk rv rm rs (nI R0.length) bp bk bv (xb_i bt) (nI ST.length) (xs_now B0 R0) (xs (i + 1)) hC.1) (cwV 1 hts (zg_V zm_257 zm_258 zm_259 zm_1 zm_260) rfl rfl rfl (by decide +kernel) ⟨Nat.le_of_ble_eq_true rfl, Nat.le_of_ble_eq_true rfl⟩) (xp_preV (ci := 0) (q0 := 0) hKc hPc rfl rfl rfl hZ) rfl rfl hl.1 rfl (lv_room (Nat.le_of_ble_eq_true rfl)) d_L_law_247 ⟨Nat.le_refl _, Nat.le_refl _⟩) ?_
  refine lv_aload_n hx hb d_L_law_250 rfl (lv_at hl 2 rfl) ?_
  refine lv_aload_n hx hb d_L_law_251 rfl (lv_at hl 0 rfl) ?_
  refine lv_iload_n hx hb d_L_law_252 rfl (lv_at hl 3 rfl) ?_
  refine lv_iconst (v := nI 1) hx hb d_L_law_253 (by decide +kernel) ?_
  refine lv_iadd hx hb d_L_law_254 ?_
  refine xa_top (y := nI (i + 1)) (nI_add _ _) ?_
  refine xl_sld hx hb hX hbl hbA hS (k := i + 1) (by omega) (by omega) d_L_law_255 ?_
  have hF := xa_F (H := H) (locs := locs) (xa_E (ws' := (xw_M qm cm (nI lm) (nI B0.length) mbk mbv (nI R0.length) mwh mrk mrv mbg (xb_i bt) (nI SM.length) msw msk msv mkp mky mvl)) hDm rfl) hS hA
  refine va_calll (va_runV (As := [.int (xs (i + 1))]) (rest := [.long (xk_get ((xs_now B0 R0)) ((xs (i + 1))))]) ⟨hx, hb, hml, hown, hts⟩ (c_M_get l D qm cm (nI lm) mbk mbv mwh mrk mrv mbg (xb_i bt) (nI SM.length) msw msk msv mkp mky mvl H.size lm B0 R0 SM (xs (i + 1)) hMT hok) (cwV 1 hts (zg_V zm_533 zm_534 zm_535 zm_7 zm_536) rfl rfl rfl (by decide +kernel) ⟨Nat.le_of_ble_eq_true rfl, Nat.le_of_ble_eq_true rfl⟩) (xp_preVQ (ci := 5) (q0 := 0) hKm hPm (xa_E hDm rfl) rfl rfl rfl hZ) rfl rfl hl.1 rfl (lv_room (Nat.le_of_ble_eq_true rfl)) d_L_law_256 ⟨Nat.le_refl _, Nat.le_refl _⟩) hS (fun q _ h => hF q h) hF (fun r u tJ H1 locs1 htJ _ hp hBJ _ hkJ hS => ?_)
  obtain ⟨rfl, hp⟩ := hp
  have hPc : va_P D zz_cl (xw_C qc ca (nI lm) kf kg (nI (xs_now B0 R0).length) af bf rk rv rm rs (nI R0.length) bp bk bv (xb_i bt) (nI ST.length)) H1 := xl_keep (wc := (xw_M qm cm (nI lm) (nI B0.length) mbk mbv (nI R0.length) mwh mrk mrv mbg (xb_i bt) (nI SM.length) msw msk msv mkp mky mvl)) hPc (xl_sw hdis) hkJ
  obtain ⟨nky2, nvl2⟩ := u
  have hPm : va_P D zz_cl (xw_M qm cm (nI lm) (nI B0.length) mbk mbv (nI R0.length) mwh mrk mrv mbg (xb_i bt) (nI SM.length) msw msk msv (nI (xs_now B0 R0).length) nky2 nvl2) H1 := by rw [← htJ]; exact hBJ
  have hM2 : xm_T nky2 nvl2 (xs_now B0 R0) := hp
  generalize H1 = H at hPc hPm hS ⊢
  generalize locs1 = locs at hS ⊢
  refine W.lcmp hx hb d_L_law_259 ?_
  refine lv_if_eq (tgt := 510) hx hb d_L_law_260 (by decide) (fun _ => ?_) (fun hne => (hne (xl_eq.mpr (rfl))).elim)
  exact kk _ _ hS ⟨B0, R0, bt, ST, SM, kf, kg, af, bf, rk, rv, rm, rs, bp, bk, bv, mbk, mbv, mwh, mrk, mrv, mbg, msw, msk, msv, nI (xs_now B0 R0).length, nky2, nvl2, hPc, hPm, hC, hMT, hok, hst, hsm, hSM⟩
set_option maxHeartbeats 4000000 in
set_option maxRecDepth 100000 in
theorem o_reads (X : xl_X pJ s mJ cJ b L xs A D qc ca qm cm lm) {i : Nat} (hi : i + 4 ≤ L) {ls : Array Slot} (hl : lv_has ls 4 [(0, .ref b), (1, .ref (qc 0)), (2, .ref (qm 0)), (3, .int (nI i))]) {H : Heap} {locs : List Loc} (hS : va_S A s.heap H locs) (hI : xl_I D qc ca qm cm lm H) (kk : ∀ (H : Heap) (locs : List Loc), va_S A s.heap H locs → xl_I D qc ca qm cm lm H → W pJ l eJ room_1 s mJ #[Value.ref b] below meth cJ H locs 28 1265 Q (F0 mJ 510 ls [])) : W pJ l eJ room_1 s mJ #[Value.ref b] below meth cJ H locs 28 1265 Q (F0 mJ 265 ls []) := by
  obtain ⟨hx, hb, hml, hown, hts, hZ, hX, hbl, hbA, hA, hKc, hKm, hDc, hDm, hdis, hL, hlm⟩ := X
  obtain ⟨B0, R0, bt, ST, SM, kf, kg, af, bf, rk, rv, rm, rs, bp, bk, bv, mbk, mbv, mwh, mrk, mrv, mbg, msw, msk, msv, mkp, mky, mvl, hPc, hPm, hC, hMT, hok, hst, hsm, hSM⟩ := hI
  refine lv_aload_n hx hb d_L_law_265 rfl (lv_at hl 1 rfl) ?_
  refine lv_aload_n hx hb d_L_law_266 rfl (lv_at hl 0 rfl) ?_
  refine lv_iload_n hx hb d_L_law_267 rfl (lv_at hl 3 rfl) ?_
  refine lv_iconst (v := nI 1) hx hb d_L_law_268 (by decide +kernel) ?_
  refine lv_iadd hx hb d_L_law_269 ?_
  refine xa_top (y := nI (i + 1)) (nI_add _ _) ?_
  refine xl_sld hx hb hX hbl hbA hS (k := i + 1) (by omega) (by omega) d_L_law_270 ?_
  refine xa_cI (va_runV (As := [.int (xs (i + 1))]) (rest := []) ⟨hx, hb, hml, hown, hts⟩ (c_E_reads l D qc ca (nI lm) kf kg af bf rk rv rm rs (nI R0.length) bp bk bv (xb_i bt) (nI ST.length) (xs_now B0 R0) (xs (i + 1)) hC.1) (cwV 1 hts (zg_V zm_261 zm_262 zm_263 zm_1 zm_264) rfl rfl rfl (by decide +kernel) ⟨Nat.le_of_ble_eq_true rfl, Nat.le_of_ble_eq_true rfl⟩) (xp_preV (ci := 0) (q0 := 0) hKc hPc rfl rfl rfl hZ) rfl rfl hl.1 rfl (lv_room (Nat.le_of_ble_eq_true rfl)) d_L_law_271 ⟨Nat.le_refl _, Nat.le_refl _⟩) ?_
  refine lv_aload_n hx hb d_L_law_274 rfl (lv_at hl 2 rfl) ?_
  refine lv_aload_n hx hb d_L_law_275 rfl (lv_at hl 0 rfl) ?_
  refine lv_iload_n hx hb d_L_law_276 rfl (lv_at hl 3 rfl) ?_
  refine lv_iconst (v := nI 1) hx hb d_L_law_277 (by decide +kernel) ?_
  refine lv_iadd hx hb d_L_law_278 ?_
  refine xa_top (y := nI (i + 1)) (nI_add _ _) ?_
  refine xl_sld hx hb hX hbl hbA hS (k := i + 1) (by omega) (by omega) d_L_law_279 ?_
  have hF := xa_F (H := H) (locs := locs) (xa_E (ws' := (xw_M qm cm (nI lm) (nI B0.length) mbk mbv (nI R0.length) mwh mrk mrv mbg (xb_i bt) (nI SM.length) msw msk msv mkp mky mvl)) hDm rfl) hS hA
  refine va_calli (va_runV (As := [.int (xs (i + 1))]) (rest := [.int (nI (1 + xo_rd ((xs_now B0 R0)) ((xs (i + 1))) + (if xk_has ((xs_now B0 R0)) ((xs (i + 1))) = true then xv_vp (xk_get ((xs_now B0 R0)) ((xs (i + 1)))) else 0)))]) ⟨hx, hb, hml, hown, hts⟩ (c_M_reads l D qm cm (nI lm) mbk mbv mwh mrk mrv mbg (xb_i bt) (nI SM.length) msw msk msv mkp mky mvl H.size lm B0 R0 SM (xs (i + 1)) hMT hok) (cwV 1 hts (zg_V zm_537 zm_538 zm_539 zm_7 zm_540) rfl rfl rfl (by decide +kernel) ⟨Nat.le_of_ble_eq_true rfl, Nat.le_of_ble_eq_true rfl⟩) (xp_preVQ (ci := 5) (q0 := 0) hKm hPm (xa_E hDm rfl) rfl rfl rfl hZ) rfl rfl hl.1 rfl (lv_room (Nat.le_of_ble_eq_true rfl)) d_L_law_280 ⟨Nat.le_refl _, Nat.le_refl _⟩) hS (fun q _ h => hF q h) hF (fun r u tJ H1 locs1 htJ _ hp hBJ _ hkJ hS => ?_)
  obtain ⟨rfl, hp⟩ := hp
  have hPc : va_P D zz_cl (xw_C qc ca (nI lm) kf kg (nI (xs_now B0 R0).length) af bf rk rv rm rs (nI R0.length) bp bk bv (xb_i bt) (nI ST.length)) H1 := xl_keep (wc := (xw_M qm cm (nI lm) (nI B0.length) mbk mbv (nI R0.length) mwh mrk mrv mbg (xb_i bt) (nI SM.length) msw msk msv mkp mky mvl)) hPc (xl_sw hdis) hkJ
  obtain ⟨nky2, nvl2⟩ := u
  have hPm : va_P D zz_cl (xw_M qm cm (nI lm) (nI B0.length) mbk mbv (nI R0.length) mwh mrk mrv mbg (xb_i bt) (nI SM.length) msw msk msv (nI (xs_now B0 R0).length) nky2 nvl2) H1 := by rw [← htJ]; exact hBJ
  have hM2 : xm_T nky2 nvl2 (xs_now B0 R0) := hp
  generalize H1 = H at hPc hPm hS ⊢
  generalize locs1 = locs at hS ⊢
  refine lv_icmp_eq (tgt := 510) hx hb d_L_law_283 (by decide) (fun _ => ?_) (fun hne => (hne (rfl)).elim)
  exact kk _ _ hS ⟨B0, R0, bt, ST, SM, kf, kg, af, bf, rk, rv, rm, rs, bp, bk, bv, mbk, mbv, mwh, mrk, mrv, mbg, msw, msk, msv, nI (xs_now B0 R0).length, nky2, nvl2, hPc, hPm, hC, hMT, hok, hst, hsm, hSM⟩
set_option maxHeartbeats 4000000 in
set_option maxRecDepth 100000 in
theorem o_open (X : xl_X pJ s mJ cJ b L xs A D qc ca qm cm lm) {i : Nat} (hi : i + 4 ≤ L) {ls : Array Slot} (hl : lv_has ls 4 [(0, .ref b), (1, .ref (qc 0)), (2, .ref (qm 0)), (3, .int (nI i))]) {H : Heap} {locs : List Loc} (hS : va_S A s.heap H locs) (hI : xl_I D qc ca qm cm lm H) (kk : ∀ (H : Heap) (locs : List Loc), va_S A s.heap H locs → xl_I D qc ca qm cm lm H → W pJ l eJ room_1 s mJ #[Value.ref b] below meth cJ H locs 28 1265 Q (F0 mJ 510 ls [])) : W pJ l eJ room_1 s mJ #[Value.ref b] below meth cJ H locs 28 1265 Q (F0 mJ 288 ls []) := by
  obtain ⟨hx, hb, hml, hown, hts, hZ, hX, hbl, hbA, hA, hKc, hKm, hDc, hDm, hdis, hL, hlm⟩ := X
  obtain ⟨B0, R0, bt, ST, SM, kf, kg, af, bf, rk, rv, rm, rs, bp, bk, bv, mbk, mbv, mwh, mrk, mrv, mbg, msw, msk, msv, mkp, mky, mvl, hPc, hPm, hC, hMT, hok, hst, hsm, hSM⟩ := hI
  refine lv_aload_n hx hb d_L_law_288 rfl (lv_at hl 1 rfl) ?_
  have hF := xa_F (H := H) (locs := locs) (xa_E (ws' := (xw_C qc ca (nI lm) kf kg (nI (xs_now B0 R0).length) af bf rk rv rm rs (nI R0.length) bp bk bv (xb_i bt) (nI ST.length))) hDc rfl) hS hA
  refine va_calli (va_runV (As := []) (rest := []) ⟨hx, hb, hml, hown, hts⟩ (c_E_open l D qc ca kf kg af bf rk rv rm rs bp bk bv H.size lm B0 R0 bt ST hC hok hlm hst) (cwV 0 hts (zg_V zm_273 zm_274 zm_275 zm_1 zm_276) rfl rfl rfl (by decide +kernel) ⟨Nat.le_of_ble_eq_true rfl, Nat.le_of_ble_eq_true rfl⟩) (xp_preVQ (ci := 0) (q0 := 0) hKc hPc (xa_E hDc rfl) rfl rfl rfl hZ) rfl rfl hl.1 rfl (lv_room (Nat.le_of_ble_eq_true rfl)) d_L_law_289 ⟨Nat.le_refl _, Nat.le_refl _⟩) hS (fun q _ h => hF q h) hF (fun r u tJ H1 locs1 htJ _ hp hBJ _ hkJ hS => ?_)
  obtain ⟨rfl, hp⟩ := hp
  have hPm : va_P D zz_cl (xw_M qm cm (nI lm) (nI B0.length) mbk mbv (nI R0.length) mwh mrk mrv mbg (xb_i bt) (nI SM.length) msw msk msv mkp mky mvl) H1 := xl_keep (wc := (xw_C qc ca (nI lm) kf kg (nI (xs_now B0 R0).length) af bf rk rv rm rs (nI R0.length) bp bk bv (xb_i bt) (nI ST.length))) hPm hdis hkJ
  obtain ⟨ckf2, ckg2, caf2, cbf2, crk2, crv2, crm2, crs2, cbp2, cbk2, cbv2⟩ := u
  have hPc : va_P D zz_cl (xw_C qc ca (nI lm) ckf2 ckg2 (nI (xs_now B0 R0).length) caf2 cbf2 crk2 crv2 crm2 crs2 (nI (R0).length) cbp2 cbk2 cbv2 (xb_i true) (nI (if bt = true then ST else []).length)) H1 := by rw [← htJ]; exact hBJ
  have hC2 : xs_CT B0 R0 (if bt = true then ST else []) ckf2 ckg2 caf2 cbf2 crk2 crv2 crm2 crs2 cbp2 cbk2 cbv2 := hp
  generalize H1 = H at hPc hPm hS ⊢
  generalize locs1 = locs at hS ⊢
  refine lv_aload_n hx hb d_L_law_292 rfl (lv_at hl 2 rfl) ?_
  have hF := xa_F (H := H) (locs := locs) (xa_E (ws' := (xw_M qm cm (nI lm) (nI B0.length) mbk mbv (nI R0.length) mwh mrk mrv mbg (xb_i bt) (nI SM.length) msw msk msv mkp mky mvl)) hDm rfl) hS hA
  refine va_calli (va_runV (As := []) (rest := [.int (xb_i (!bt))]) ⟨hx, hb, hml, hown, hts⟩ (c_M_open l D qm cm mbk mbv mwh mrk mrv mbg msw msk msv mkp mky mvl H.size lm B0 R0 bt SM hMT hok hlm hsm) (cwV 0 hts (zg_V zm_512 zm_513 zm_514 zm_7 zm_515) rfl rfl rfl (by decide +kernel) ⟨Nat.le_of_ble_eq_true rfl, Nat.le_of_ble_eq_true rfl⟩) (xp_preVQ (ci := 5) (q0 := 0) hKm hPm (xa_E hDm rfl) rfl rfl rfl hZ) rfl rfl hl.1 rfl (lv_room (Nat.le_of_ble_eq_true rfl)) d_L_law_293 ⟨Nat.le_refl _, Nat.le_refl _⟩) hS (fun q _ h => hF q h) hF (fun r u tJ H1 locs1 htJ _ hp hBJ _ hkJ hS => ?_)
  obtain ⟨rfl, hp⟩ := hp
  have hPc : va_P D zz_cl (xw_C qc ca (nI lm) ckf2 ckg2 (nI (xs_now B0 R0).length) caf2 cbf2 crk2 crv2 crm2 crs2 (nI (R0).length) cbp2 cbk2 cbv2 (xb_i true) (nI (if bt = true then ST else []).length)) H1 := xl_keep (wc := (xw_M qm cm (nI lm) (nI B0.length) mbk mbv (nI R0.length) mwh mrk mrv mbg (xb_i bt) (nI SM.length) msw msk msv mkp mky mvl)) hPc (xl_sw hdis) hkJ
  obtain ⟨nbk2, nbv2, nwh2, nrk2, nrv2, nbg2, nsw2, nsk2, nsv2, nky2, nvl2, nkp2⟩ := u
  have hPm : va_P D zz_cl (xw_M qm cm (nI lm) (nI (B0).length) nbk2 nbv2 (nI (R0).length) nwh2 nrk2 nrv2 nbg2 (xb_i true) (nI (if bt = true then SM else []).length) nsw2 nsk2 nsv2 nkp2 nky2 nvl2) H1 := by rw [← htJ]; exact hBJ
  have hM2 : xm_MT B0 R0 (if bt = true then SM else []) nbk2 nbv2 nwh2 nrk2 nrv2 nbg2 nsw2 nsk2 nsv2 := hp
  generalize H1 = H at hPc hPm hS ⊢
  generalize locs1 = locs at hS ⊢
  refine lv_icmp_eq (tgt := 510) hx hb d_L_law_296 (by decide) (fun _ => ?_) (fun hne => (hne (rfl)).elim)
  exact kk _ _ hS ⟨B0, R0, true, if bt = true then ST else [], if bt = true then SM else [], ckf2, ckg2, caf2, cbf2, crk2, crv2, crm2, crs2, cbp2, cbk2, cbv2, nbk2, nbv2, nwh2, nrk2, nrv2, nbg2, nsw2, nsk2, nsv2, nkp2, nky2, nvl2, hPc, hPm, hC2, hM2, hok, xl_i5 hst (Nat.zero_le _), xl_i5 hsm (Nat.zero_le _), fun _ => Classical.byCases (fun hq : bt = true => by rw [if_pos hq, if_pos hq, hSM hq]) (fun hq : ¬ bt = true => by rw [if_neg hq, if_neg hq])⟩
set_option maxHeartbeats 4000000 in
set_option maxRecDepth 100000 in
theorem o_commit (X : xl_X pJ s mJ cJ b L xs A D qc ca qm cm lm) {i : Nat} (hi : i + 4 ≤ L) {ls : Array Slot} (hl : lv_has ls 4 [(0, .ref b), (1, .ref (qc 0)), (2, .ref (qm 0)), (3, .int (nI i))]) {H : Heap} {locs : List Loc} (hS : va_S A s.heap H locs) (hI : xl_I D qc ca qm cm lm H) (kk : ∀ (H : Heap) (locs : List Loc), va_S A s.heap H locs → xl_I D qc ca qm cm lm H → W pJ l eJ room_1 s mJ #[Value.ref b] below meth cJ H locs 28 1265 Q (F0 mJ 510 ls [])) : W pJ l eJ room_1 s mJ #[Value.ref b] below meth cJ H locs 28 1265 Q (F0 mJ 301 ls []) := by
  obtain ⟨hx, hb, hml, hown, hts, hZ, hX, hbl, hbA, hA, hKc, hKm, hDc, hDm, hdis, hL, hlm⟩ := X
  obtain ⟨B0, R0, bt, ST, SM, kf, kg, af, bf, rk, rv, rm, rs, bp, bk, bv, mbk, mbv, mwh, mrk, mrv, mbg, msw, msk, msv, mkp, mky, mvl, hPc, hPm, hC, hMT, hok, hst, hsm, hSM⟩ := hI
  refine lv_aload_n hx hb d_L_law_301 rfl (lv_at hl 1 rfl) ?_
  have hF := xa_F (H := H) (locs := locs) (xa_E (ws' := (xw_C qc ca (nI lm) kf kg (nI (xs_now B0 R0).length) af bf rk rv rm rs (nI R0.length) bp bk bv (xb_i bt) (nI ST.length))) hDc rfl) hS hA
  refine va_calli (va_runV (As := []) (rest := []) ⟨hx, hb, hml, hown, hts⟩ (c_E_commit l D qc ca kf kg af bf rk rv rm rs bp bk bv H.size lm B0 R0 bt ST hC hok hlm hst) (cwV 0 hts (zg_V zm_281 zm_282 zm_283 zm_1 zm_284) rfl rfl rfl (by decide +kernel) ⟨Nat.le_of_ble_eq_true rfl, Nat.le_of_ble_eq_true rfl⟩) (xp_preVQ (ci := 0) (q0 := 0) hKc hPc (xa_E hDc rfl) rfl rfl rfl hZ) rfl rfl hl.1 rfl (lv_room (Nat.le_of_ble_eq_true rfl)) d_L_law_302 ⟨Nat.le_refl _, Nat.le_refl _⟩) hS (fun q _ h => hF q h) hF (fun r u tJ H1 locs1 htJ _ hp hBJ _ hkJ hS => ?_)
  obtain ⟨rfl, hp⟩ := hp
  have hPm : va_P D zz_cl (xw_M qm cm (nI lm) (nI B0.length) mbk mbv (nI R0.length) mwh mrk mrv mbg (xb_i bt) (nI SM.length) msw msk msv mkp mky mvl) H1 := xl_keep (wc := (xw_C qc ca (nI lm) kf kg (nI (xs_now B0 R0).length) af bf rk rv rm rs (nI R0.length) bp bk bv (xb_i bt) (nI ST.length))) hPm hdis hkJ
  obtain ⟨ckf2, ckg2, caf2, cbf2, crk2, crv2, crm2, crs2, cbp2, cbk2, cbv2⟩ := u
  have hPc : va_P D zz_cl (xw_C qc ca (nI lm) ckf2 ckg2 (nI (xs_now (if bt = true then xs_pB lm B0 R0 false (xs_N ST) else B0) (if bt = true then xs_pR lm B0 R0 false (xs_N ST) else R0)).length) caf2 cbf2 crk2 crv2 crm2 crs2 (nI (if bt = true then xs_pR lm B0 R0 false (xs_N ST) else R0).length) cbp2 cbk2 cbv2 (xb_i false) (nI (if bt = true then [] else ST).length)) H1 := by rw [← htJ]; exact hBJ
  have hC2 : xs_CT (if bt = true then xs_pB lm B0 R0 false (xs_N ST) else B0) (if bt = true then xs_pR lm B0 R0 false (xs_N ST) else R0) (if bt = true then [] else ST) ckf2 ckg2 caf2 cbf2 crk2 crv2 crm2 crs2 cbp2 cbk2 cbv2 := hp
  generalize H1 = H at hPc hPm hS ⊢
  generalize locs1 = locs at hS ⊢
  refine lv_aload_n hx hb d_L_law_305 rfl (lv_at hl 2 rfl) ?_
  have hF := xa_F (H := H) (locs := locs) (xa_E (ws' := (xw_M qm cm (nI lm) (nI B0.length) mbk mbv (nI R0.length) mwh mrk mrv mbg (xb_i bt) (nI SM.length) msw msk msv mkp mky mvl)) hDm rfl) hS hA
  refine va_calli (va_runV (As := []) (rest := [.int (if bt = true then (if xs_bad lm (xs_now B0 (xs_new B0 R0 (xs_N ST))) = true then nI 0 else nI (ST.length + 1)) else (-1))]) ⟨hx, hb, hml, hown, hts⟩ (c_M_commit l D qm cm mbk mbv mwh mrk mrv mbg msw msk msv mkp mky mvl H.size lm B0 R0 bt SM hMT hok hlm hsm) (cwV 0 hts (zg_V zm_516 zm_517 zm_518 zm_7 zm_519) rfl rfl rfl (by decide +kernel) ⟨Nat.le_of_ble_eq_true rfl, Nat.le_of_ble_eq_true rfl⟩) (xp_preVQ (ci := 5) (q0 := 0) hKm hPm (xa_E hDm rfl) rfl rfl rfl hZ) rfl rfl hl.1 rfl (lv_room (Nat.le_of_ble_eq_true rfl)) d_L_law_306 ⟨Nat.le_refl _, Nat.le_refl _⟩) hS (fun q _ h => hF q h) hF (fun r u tJ H1 locs1 htJ _ hp hBJ _ hkJ hS => ?_)
  obtain ⟨rfl, hp⟩ := hp
  have hPc : va_P D zz_cl (xw_C qc ca (nI lm) ckf2 ckg2 (nI (xs_now (if bt = true then xs_pB lm B0 R0 false (xs_N ST) else B0) (if bt = true then xs_pR lm B0 R0 false (xs_N ST) else R0)).length) caf2 cbf2 crk2 crv2 crm2 crs2 (nI (if bt = true then xs_pR lm B0 R0 false (xs_N ST) else R0).length) cbp2 cbk2 cbv2 (xb_i false) (nI (if bt = true then [] else ST).length)) H1 := xl_keep (wc := (xw_M qm cm (nI lm) (nI B0.length) mbk mbv (nI R0.length) mwh mrk mrv mbg (xb_i bt) (nI SM.length) msw msk msv mkp mky mvl)) hPc (xl_sw hdis) hkJ
  obtain ⟨nbk2, nbv2, nwh2, nrk2, nrv2, nbg2, nsw2, nsk2, nsv2, nky2, nvl2, nkp2⟩ := u
  have hPm : va_P D zz_cl (xw_M qm cm (nI lm) (nI (if bt = true then xs_pB lm B0 R0 false (xs_N SM) else B0).length) nbk2 nbv2 (nI (if bt = true then xs_pR lm B0 R0 false (xs_N SM) else R0).length) nwh2 nrk2 nrv2 nbg2 (xb_i false) (nI (SM).length) nsw2 nsk2 nsv2 nkp2 nky2 nvl2) H1 := by rw [← htJ]; exact hBJ
  have hM2 : xm_MT (if bt = true then xs_pB lm B0 R0 false (xs_N SM) else B0) (if bt = true then xs_pR lm B0 R0 false (xs_N SM) else R0) SM nbk2 nbv2 nwh2 nrk2 nrv2 nbg2 nsw2 nsk2 nsv2 := hp
  generalize H1 = H at hPc hPm hS ⊢
  generalize locs1 = locs at hS ⊢
  refine lv_icmp_eq (tgt := 510) hx hb d_L_law_309 (by decide) (fun _ => ?_) (fun hne => (hne (Classical.byCases (fun hq : bt = true => by rw [if_pos hq, if_pos hq, hSM hq]) (fun hq : ¬ bt = true => by rw [if_neg hq, if_neg hq]))).elim)
  have eB : (if bt = true then xs_pB lm B0 R0 false (xs_N SM) else B0) = (if bt = true then xs_pB lm B0 R0 false (xs_N ST) else B0) := Classical.byCases (fun hq : bt = true => by rw [hSM hq]) (fun hq : ¬ bt = true => by rw [if_neg hq, if_neg hq])
  have eR : (if bt = true then xs_pR lm B0 R0 false (xs_N SM) else R0) = (if bt = true then xs_pR lm B0 R0 false (xs_N ST) else R0) := Classical.byCases (fun hq : bt = true => by rw [hSM hq]) (fun hq : ¬ bt = true => by rw [if_neg hq, if_neg hq])
  rw [eB, eR] at hPm hM2
  exact kk _ _ hS ⟨if bt = true then xs_pB lm B0 R0 false (xs_N ST) else B0, if bt = true then xs_pR lm B0 R0 false (xs_N ST) else R0, false, if bt = true then [] else ST, SM, ckf2, ckg2, caf2, cbf2, crk2, crv2, crm2, crs2, cbp2, cbk2, cbv2, nbk2, nbv2, nwh2, nrk2, nrv2, nbg2, nsw2, nsk2, nsv2, nkp2, nky2, nvl2, hPc, hPm, hC2, hM2, xl_ok_c hok bt hst (xs_N_w hC.2.2.2), xl_i5 (Nat.zero_le _) hst, hsm, fun q => absurd q (by decide)⟩
set_option maxHeartbeats 4000000 in
set_option maxRecDepth 100000 in
theorem o_abandon (X : xl_X pJ s mJ cJ b L xs A D qc ca qm cm lm) {i : Nat} (hi : i + 4 ≤ L) {ls : Array Slot} (hl : lv_has ls 4 [(0, .ref b), (1, .ref (qc 0)), (2, .ref (qm 0)), (3, .int (nI i))]) {H : Heap} {locs : List Loc} (hS : va_S A s.heap H locs) (hI : xl_I D qc ca qm cm lm H) (kk : ∀ (H : Heap) (locs : List Loc), va_S A s.heap H locs → xl_I D qc ca qm cm lm H → W pJ l eJ room_1 s mJ #[Value.ref b] below meth cJ H locs 28 1265 Q (F0 mJ 510 ls [])) : W pJ l eJ room_1 s mJ #[Value.ref b] below meth cJ H locs 28 1265 Q (F0 mJ 314 ls []) := by
  obtain ⟨hx, hb, hml, hown, hts, hZ, hX, hbl, hbA, hA, hKc, hKm, hDc, hDm, hdis, hL, hlm⟩ := X
  obtain ⟨B0, R0, bt, ST, SM, kf, kg, af, bf, rk, rv, rm, rs, bp, bk, bv, mbk, mbv, mwh, mrk, mrv, mbg, msw, msk, msv, mkp, mky, mvl, hPc, hPm, hC, hMT, hok, hst, hsm, hSM⟩ := hI
  refine lv_aload_n hx hb d_L_law_314 rfl (lv_at hl 1 rfl) ?_
  have hF := xa_F (H := H) (locs := locs) (xa_E (ws' := (xw_C qc ca (nI lm) kf kg (nI (xs_now B0 R0).length) af bf rk rv rm rs (nI R0.length) bp bk bv (xb_i bt) (nI ST.length))) hDc rfl) hS hA
  refine va_calli (va_runV (As := []) (rest := []) ⟨hx, hb, hml, hown, hts⟩ (c_E_aban l D qc ca kf kg af bf rk rv rm rs bp bk bv H.size lm B0 R0 bt ST hC hok hlm hst) (cwV 0 hts (zg_V zm_297 zm_298 zm_299 zm_1 zm_300) rfl rfl rfl (by decide +kernel) ⟨Nat.le_of_ble_eq_true rfl, Nat.le_of_ble_eq_true rfl⟩) (xp_preVQ (ci := 0) (q0 := 0) hKc hPc (xa_E hDc rfl) rfl rfl rfl hZ) rfl rfl hl.1 rfl (lv_room (Nat.le_of_ble_eq_true rfl)) d_L_law_315 ⟨Nat.le_refl _, Nat.le_refl _⟩) hS (fun q _ h => hF q h) hF (fun r u tJ H1 locs1 htJ _ hp hBJ _ hkJ hS => ?_)
  obtain ⟨rfl, hp⟩ := hp
  have hPm : va_P D zz_cl (xw_M qm cm (nI lm) (nI B0.length) mbk mbv (nI R0.length) mwh mrk mrv mbg (xb_i bt) (nI SM.length) msw msk msv mkp mky mvl) H1 := xl_keep (wc := (xw_C qc ca (nI lm) kf kg (nI (xs_now B0 R0).length) af bf rk rv rm rs (nI R0.length) bp bk bv (xb_i bt) (nI ST.length))) hPm hdis hkJ
  obtain ⟨ckf2, ckg2, caf2, cbf2, crk2, crv2, crm2, crs2, cbp2, cbk2, cbv2⟩ := u
  have hPc : va_P D zz_cl (xw_C qc ca (nI lm) ckf2 ckg2 (nI (xs_now B0 R0).length) caf2 cbf2 crk2 crv2 crm2 crs2 (nI (R0).length) cbp2 cbk2 cbv2 (xb_i false) (nI (if bt = true then [] else ST).length)) H1 := by rw [← htJ]; exact hBJ
  have hC2 : xs_CT B0 R0 (if bt = true then [] else ST) ckf2 ckg2 caf2 cbf2 crk2 crv2 crm2 crs2 cbp2 cbk2 cbv2 := hp
  generalize H1 = H at hPc hPm hS ⊢
  generalize locs1 = locs at hS ⊢
  refine lv_aload_n hx hb d_L_law_318 rfl (lv_at hl 2 rfl) ?_
  have hF := xa_F (H := H) (locs := locs) (xa_E (ws' := (xw_M qm cm (nI lm) (nI B0.length) mbk mbv (nI R0.length) mwh mrk mrv mbg (xb_i bt) (nI SM.length) msw msk msv mkp mky mvl)) hDm rfl) hS hA
  refine va_calli (va_runV (As := []) (rest := [.int (if bt = true then nI ST.length else (-1))]) ⟨hx, hb, hml, hown, hts⟩ (c_M_aban l D qm cm mbk mbv mwh mrk mrv mbg msw msk msv mkp mky mvl H.size lm B0 R0 bt SM hMT hok hlm hsm) (cwV 0 hts (zg_V zm_520 zm_521 zm_522 zm_7 zm_523) rfl rfl rfl (by decide +kernel) ⟨Nat.le_of_ble_eq_true rfl, Nat.le_of_ble_eq_true rfl⟩) (xp_preVQ (ci := 5) (q0 := 0) hKm hPm (xa_E hDm rfl) rfl rfl rfl hZ) rfl rfl hl.1 rfl (lv_room (Nat.le_of_ble_eq_true rfl)) d_L_law_319 ⟨Nat.le_refl _, Nat.le_refl _⟩) hS (fun q _ h => hF q h) hF (fun r u tJ H1 locs1 htJ _ hp hBJ _ hkJ hS => ?_)
  obtain ⟨rfl, hp⟩ := hp
  have hPc : va_P D zz_cl (xw_C qc ca (nI lm) ckf2 ckg2 (nI (xs_now B0 R0).length) caf2 cbf2 crk2 crv2 crm2 crs2 (nI (R0).length) cbp2 cbk2 cbv2 (xb_i false) (nI (if bt = true then [] else ST).length)) H1 := xl_keep (wc := (xw_M qm cm (nI lm) (nI B0.length) mbk mbv (nI R0.length) mwh mrk mrv mbg (xb_i bt) (nI SM.length) msw msk msv mkp mky mvl)) hPc (xl_sw hdis) hkJ
  obtain ⟨nbk2, nbv2, nwh2, nrk2, nrv2, nbg2, nsw2, nsk2, nsv2, nky2, nvl2, nkp2⟩ := u
  have hPm : va_P D zz_cl (xw_M qm cm (nI lm) (nI (B0).length) nbk2 nbv2 (nI (R0).length) nwh2 nrk2 nrv2 nbg2 (xb_i false) (nI (SM).length) nsw2 nsk2 nsv2 nkp2 nky2 nvl2) H1 := by rw [← htJ]; exact hBJ
  have hM2 : xm_MT B0 R0 SM nbk2 nbv2 nwh2 nrk2 nrv2 nbg2 nsw2 nsk2 nsv2 := hp
  generalize H1 = H at hPc hPm hS ⊢
  generalize locs1 = locs at hS ⊢
  refine lv_icmp_eq (tgt := 510) hx hb d_L_law_322 (by decide) (fun _ => ?_) (fun hne => (hne (Classical.byCases (fun hq : bt = true => by rw [if_pos hq, if_pos hq, hSM hq]) (fun hq : ¬ bt = true => by rw [if_neg hq, if_neg hq]))).elim)
  exact kk _ _ hS ⟨B0, R0, false, if bt = true then [] else ST, SM, ckf2, ckg2, caf2, cbf2, crk2, crv2, crm2, crs2, cbp2, cbk2, cbv2, nbk2, nbv2, nwh2, nrk2, nrv2, nbg2, nsw2, nsk2, nsv2, nkp2, nky2, nvl2, hPc, hPm, hC2, hM2, hok, xl_i5 (Nat.zero_le _) hst, hsm, fun q => absurd q (by decide)⟩
set_option maxHeartbeats 4000000 in
set_option maxRecDepth 100000 in
theorem o_flush (X : xl_X pJ s mJ cJ b L xs A D qc ca qm cm lm) {i : Nat} (hi : i + 4 ≤ L) {ls : Array Slot} (hl : lv_has ls 4 [(0, .ref b), (1, .ref (qc 0)), (2, .ref (qm 0)), (3, .int (nI i))]) {H : Heap} {locs : List Loc} (hS : va_S A s.heap H locs) (hI : xl_I D qc ca qm cm lm H) (kk : ∀ (H : Heap) (locs : List Loc), va_S A s.heap H locs → xl_I D qc ca qm cm lm H → W pJ l eJ room_1 s mJ #[Value.ref b] below meth cJ H locs 28 1265 Q (F0 mJ 510 ls [])) : W pJ l eJ room_1 s mJ #[Value.ref b] below meth cJ H locs 28 1265 Q (F0 mJ 327 ls []) := by
  obtain ⟨hx, hb, hml, hown, hts, hZ, hX, hbl, hbA, hA, hKc, hKm, hDc, hDm, hdis, hL, hlm⟩ := X
  obtain ⟨B0, R0, bt, ST, SM, kf, kg, af, bf, rk, rv, rm, rs, bp, bk, bv, mbk, mbv, mwh, mrk, mrv, mbg, msw, msk, msv, mkp, mky, mvl, hPc, hPm, hC, hMT, hok, hst, hsm, hSM⟩ := hI
  refine lv_aload_n hx hb d_L_law_327 rfl (lv_at hl 1 rfl) ?_
  have hF := xa_F (H := H) (locs := locs) (xa_E (ws' := (xw_C qc ca (nI lm) kf kg (nI (xs_now B0 R0).length) af bf rk rv rm rs (nI R0.length) bp bk bv (xb_i bt) (nI ST.length))) hDc rfl) hS hA
  refine va_calli (va_runV (As := []) (rest := []) ⟨hx, hb, hml, hown, hts⟩ (c_E_flush l D qc ca kf kg af bf rk rv rm rs bp bk bv H.size lm B0 R0 bt ST hC hok hlm hst) (cwV 0 hts (zg_V zm_301 zm_302 zm_303 zm_1 zm_304) rfl rfl rfl (by decide +kernel) ⟨Nat.le_of_ble_eq_true rfl, Nat.le_of_ble_eq_true rfl⟩) (xp_preVQ (ci := 0) (q0 := 0) hKc hPc (xa_E hDc rfl) rfl rfl rfl hZ) rfl rfl hl.1 rfl (lv_room (Nat.le_of_ble_eq_true rfl)) d_L_law_328 ⟨Nat.le_refl _, Nat.le_refl _⟩) hS (fun q _ h => hF q h) hF (fun r u tJ H1 locs1 htJ _ hp hBJ _ hkJ hS => ?_)
  obtain ⟨rfl, hp⟩ := hp
  have hPm : va_P D zz_cl (xw_M qm cm (nI lm) (nI B0.length) mbk mbv (nI R0.length) mwh mrk mrv mbg (xb_i bt) (nI SM.length) msw msk msv mkp mky mvl) H1 := xl_keep (wc := (xw_C qc ca (nI lm) kf kg (nI (xs_now B0 R0).length) af bf rk rv rm rs (nI R0.length) bp bk bv (xb_i bt) (nI ST.length))) hPm hdis hkJ
  obtain ⟨ckf2, ckg2, caf2, cbf2, crk2, crv2, crm2, crs2, cbp2, cbk2, cbv2⟩ := u
  have hPc : va_P D zz_cl (xw_C qc ca (nI lm) ckf2 ckg2 (nI (xs_now (xs_now B0 R0) (([] : List xs_R))).length) caf2 cbf2 crk2 crv2 crm2 crs2 (nI (([] : List xs_R)).length) cbp2 cbk2 cbv2 (xb_i bt) (nI (ST).length)) H1 := by rw [← htJ]; exact hBJ
  have hC2 : xs_CT (xs_now B0 R0) (([] : List xs_R)) ST ckf2 ckg2 caf2 cbf2 crk2 crv2 crm2 crs2 cbp2 cbk2 cbv2 := hp
  generalize H1 = H at hPc hPm hS ⊢
  generalize locs1 = locs at hS ⊢
  refine lv_aload_n hx hb d_L_law_331 rfl (lv_at hl 2 rfl) ?_
  have hF := xa_F (H := H) (locs := locs) (xa_E (ws' := (xw_M qm cm (nI lm) (nI B0.length) mbk mbv (nI R0.length) mwh mrk mrv mbg (xb_i bt) (nI SM.length) msw msk msv mkp mky mvl)) hDm rfl) hS hA
  refine va_calli (va_runV (As := []) (rest := [.int (nI R0.length)]) ⟨hx, hb, hml, hown, hts⟩ (c_M_flush l D qm cm mbk mbv mwh mrk mrv mbg msw msk msv mkp mky mvl H.size lm B0 R0 bt SM hMT hok hlm hsm) (cwV 0 hts (zg_V zm_524 zm_525 zm_526 zm_7 zm_527) rfl rfl rfl (by decide +kernel) ⟨Nat.le_of_ble_eq_true rfl, Nat.le_of_ble_eq_true rfl⟩) (xp_preVQ (ci := 5) (q0 := 0) hKm hPm (xa_E hDm rfl) rfl rfl rfl hZ) rfl rfl hl.1 rfl (lv_room (Nat.le_of_ble_eq_true rfl)) d_L_law_332 ⟨Nat.le_refl _, Nat.le_refl _⟩) hS (fun q _ h => hF q h) hF (fun r u tJ H1 locs1 htJ _ hp hBJ _ hkJ hS => ?_)
  obtain ⟨rfl, hp⟩ := hp
  have hPc : va_P D zz_cl (xw_C qc ca (nI lm) ckf2 ckg2 (nI (xs_now (xs_now B0 R0) (([] : List xs_R))).length) caf2 cbf2 crk2 crv2 crm2 crs2 (nI (([] : List xs_R)).length) cbp2 cbk2 cbv2 (xb_i bt) (nI (ST).length)) H1 := xl_keep (wc := (xw_M qm cm (nI lm) (nI B0.length) mbk mbv (nI R0.length) mwh mrk mrv mbg (xb_i bt) (nI SM.length) msw msk msv mkp mky mvl)) hPc (xl_sw hdis) hkJ
  obtain ⟨nbk2, nbv2, nwh2, nrk2, nrv2, nbg2, nsw2, nsk2, nsv2, nky2, nvl2, nkp2⟩ := u
  have hPm : va_P D zz_cl (xw_M qm cm (nI lm) (nI (xs_now B0 R0).length) nbk2 nbv2 (nI (([] : List xs_R)).length) nwh2 nrk2 nrv2 nbg2 (xb_i bt) (nI (SM).length) nsw2 nsk2 nsv2 nkp2 nky2 nvl2) H1 := by rw [← htJ]; exact hBJ
  have hM2 : xm_MT (xs_now B0 R0) (([] : List xs_R)) SM nbk2 nbv2 nwh2 nrk2 nrv2 nbg2 nsw2 nsk2 nsv2 := hp
  generalize H1 = H at hPc hPm hS ⊢
  generalize locs1 = locs at hS ⊢
  refine lv_icmp_eq (tgt := 510) hx hb d_L_law_335 (by decide) (fun _ => ?_) (fun hne => (hne (rfl)).elim)
  exact kk _ _ hS ⟨xs_now B0 R0, [], bt, ST, SM, ckf2, ckg2, caf2, cbf2, crk2, crv2, crm2, crs2, cbp2, cbk2, cbv2, nbk2, nbv2, nwh2, nrk2, nrv2, nbg2, nsw2, nsk2, nsv2, nkp2, nky2, nvl2, hPc, hPm, hC2, hM2, xs_ok_flush hok hok.2.2.2.2.2, hst, hsm, hSM⟩
set_option maxHeartbeats 4000000 in
set_option maxRecDepth 100000 in
theorem o_crash (X : xl_X pJ s mJ cJ b L xs A D qc ca qm cm lm) {i : Nat} (hi : i + 4 ≤ L) {ls : Array Slot} (hl : lv_has ls 4 [(0, .ref b), (1, .ref (qc 0)), (2, .ref (qm 0)), (3, .int (nI i))]) {H : Heap} {locs : List Loc} (hS : va_S A s.heap H locs) (hI : xl_I D qc ca qm cm lm H) (kk : ∀ (H : Heap) (locs : List Loc), va_S A s.heap H locs → xl_I D qc ca qm cm lm H → W pJ l eJ room_1 s mJ #[Value.ref b] below meth cJ H locs 28 1265 Q (F0 mJ 510 ls [])) : W pJ l eJ room_1 s mJ #[Value.ref b] below meth cJ H locs 28 1265 Q (F0 mJ 340 ls []) := by
  obtain ⟨hx, hb, hml, hown, hts, hZ, hX, hbl, hbA, hA, hKc, hKm, hDc, hDm, hdis, hL, hlm⟩ := X
  obtain ⟨B0, R0, bt, ST, SM, kf, kg, af, bf, rk, rv, rm, rs, bp, bk, bv, mbk, mbv, mwh, mrk, mrv, mbg, msw, msk, msv, mkp, mky, mvl, hPc, hPm, hC, hMT, hok, hst, hsm, hSM⟩ := hI
  refine lv_aload_n hx hb d_L_law_340 rfl (lv_at hl 1 rfl) ?_
  refine lv_aload_n hx hb d_L_law_341 rfl (lv_at hl 0 rfl) ?_
  refine lv_iload_n hx hb d_L_law_342 rfl (lv_at hl 3 rfl) ?_
  refine lv_iconst (v := nI 1) hx hb d_L_law_343 (by decide +kernel) ?_
  refine lv_iadd hx hb d_L_law_344 ?_
  refine xa_top (y := nI (i + 1)) (nI_add _ _) ?_
  refine xl_sld hx hb hX hbl hbA hS (k := i + 1) (by omega) (by omega) d_L_law_345 ?_
  have hF := xa_F (H := H) (locs := locs) (xa_E (ws' := (xw_C qc ca (nI lm) kf kg (nI (xs_now B0 R0).length) af bf rk rv rm rs (nI R0.length) bp bk bv (xb_i bt) (nI ST.length))) hDc rfl) hS hA
  refine va_calli (va_runV (As := [.int (xs (i + 1))]) (rest := []) ⟨hx, hb, hml, hown, hts⟩ (c_E_crash l D qc ca kf kg af bf rk rv rm rs bp bk bv H.size lm B0 R0 bt ST (xs (i + 1)) hC hok hlm hst) (cwV 1 hts (zg_V zm_305 zm_306 zm_307 zm_1 zm_308) rfl rfl rfl (by decide +kernel) ⟨Nat.le_of_ble_eq_true rfl, Nat.le_of_ble_eq_true rfl⟩) (xp_preVQ (ci := 0) (q0 := 0) hKc hPc (xa_E hDc rfl) rfl rfl rfl hZ) rfl rfl hl.1 rfl (lv_room (Nat.le_of_ble_eq_true rfl)) d_L_law_346 ⟨Nat.le_refl _, Nat.le_refl _⟩) hS (fun q _ h => hF q h) hF (fun r u tJ H1 locs1 htJ _ hp hBJ _ hkJ hS => ?_)
  obtain ⟨rfl, hp⟩ := hp
  have hPm : va_P D zz_cl (xw_M qm cm (nI lm) (nI B0.length) mbk mbv (nI R0.length) mwh mrk mrv mbg (xb_i bt) (nI SM.length) msw msk msv mkp mky mvl) H1 := xl_keep (wc := (xw_C qc ca (nI lm) kf kg (nI (xs_now B0 R0).length) af bf rk rv rm rs (nI R0.length) bp bk bv (xb_i bt) (nI ST.length))) hPm hdis hkJ
  obtain ⟨ckf2, ckg2, caf2, cbf2, crk2, crv2, crm2, crs2, cbp2, cbk2, cbv2⟩ := u
  have hPc : va_P D zz_cl (xw_C qc ca (nI lm) ckf2 ckg2 (nI (xs_now (xs_S B0 R0 (xs_cut R0 ((xs (i + 1))))) (([] : List xs_R))).length) caf2 cbf2 crk2 crv2 crm2 crs2 (nI (([] : List xs_R)).length) cbp2 cbk2 cbv2 (xb_i false) (nI (([] : List xs_O)).length)) H1 := by rw [← htJ]; exact hBJ
  have hC2 : xs_CT (xs_S B0 R0 (xs_cut R0 ((xs (i + 1))))) (([] : List xs_R)) (([] : List xs_O)) ckf2 ckg2 caf2 cbf2 crk2 crv2 crm2 crs2 cbp2 cbk2 cbv2 := hp
  generalize H1 = H at hPc hPm hS ⊢
  generalize locs1 = locs at hS ⊢
  refine lv_aload_n hx hb d_L_law_349 rfl (lv_at hl 2 rfl) ?_
  refine lv_aload_n hx hb d_L_law_350 rfl (lv_at hl 0 rfl) ?_
  refine lv_iload_n hx hb d_L_law_351 rfl (lv_at hl 3 rfl) ?_
  refine lv_iconst (v := nI 1) hx hb d_L_law_352 (by decide +kernel) ?_
  refine lv_iadd hx hb d_L_law_353 ?_
  refine xa_top (y := nI (i + 1)) (nI_add _ _) ?_
  refine xl_sld hx hb hX hbl hbA hS (k := i + 1) (by omega) (by omega) d_L_law_354 ?_
  have hF := xa_F (H := H) (locs := locs) (xa_E (ws' := (xw_M qm cm (nI lm) (nI B0.length) mbk mbv (nI R0.length) mwh mrk mrv mbg (xb_i bt) (nI SM.length) msw msk msv mkp mky mvl)) hDm rfl) hS hA
  refine va_calli (va_runV (As := [.int (xs (i + 1))]) (rest := [.int (nI (R0.length - xs_cut R0 ((xs (i + 1)))))]) ⟨hx, hb, hml, hown, hts⟩ (c_M_crash l D qm cm mbk mbv mwh mrk mrv mbg msw msk msv mkp mky mvl H.size lm B0 R0 bt SM (xs (i + 1)) hMT hok hlm hsm) (cwV 1 hts (zg_V zm_528 zm_529 zm_530 zm_7 zm_531) rfl rfl rfl (by decide +kernel) ⟨Nat.le_of_ble_eq_true rfl, Nat.le_of_ble_eq_true rfl⟩) (xp_preVQ (ci := 5) (q0 := 0) hKm hPm (xa_E hDm rfl) rfl rfl rfl hZ) rfl rfl hl.1 rfl (lv_room (Nat.le_of_ble_eq_true rfl)) d_L_law_355 ⟨Nat.le_refl _, Nat.le_refl _⟩) hS (fun q _ h => hF q h) hF (fun r u tJ H1 locs1 htJ _ hp hBJ _ hkJ hS => ?_)
  obtain ⟨rfl, hp⟩ := hp
  have hPc : va_P D zz_cl (xw_C qc ca (nI lm) ckf2 ckg2 (nI (xs_now (xs_S B0 R0 (xs_cut R0 ((xs (i + 1))))) (([] : List xs_R))).length) caf2 cbf2 crk2 crv2 crm2 crs2 (nI (([] : List xs_R)).length) cbp2 cbk2 cbv2 (xb_i false) (nI (([] : List xs_O)).length)) H1 := xl_keep (wc := (xw_M qm cm (nI lm) (nI B0.length) mbk mbv (nI R0.length) mwh mrk mrv mbg (xb_i bt) (nI SM.length) msw msk msv mkp mky mvl)) hPc (xl_sw hdis) hkJ
  obtain ⟨nbk2, nbv2, nwh2, nrk2, nrv2, nbg2, nsw2, nsk2, nsv2, nky2, nvl2, nkp2⟩ := u
  have hPm : va_P D zz_cl (xw_M qm cm (nI lm) (nI (xs_S B0 R0 (xs_cut R0 ((xs (i + 1))))).length) nbk2 nbv2 (nI (([] : List xs_R)).length) nwh2 nrk2 nrv2 nbg2 (xb_i false) (nI (SM).length) nsw2 nsk2 nsv2 nkp2 nky2 nvl2) H1 := by rw [← htJ]; exact hBJ
  have hM2 : xm_MT (xs_S B0 R0 (xs_cut R0 ((xs (i + 1))))) (([] : List xs_R)) SM nbk2 nbv2 nwh2 nrk2 nrv2 nbg2 nsw2 nsk2 nsv2 := hp
  generalize H1 = H at hPc hPm hS ⊢
  generalize locs1 = locs at hS ⊢
  refine lv_icmp_eq (tgt := 510) hx hb d_L_law_358 (by decide) (fun _ => ?_) (fun hne => (hne (rfl)).elim)
  exact kk _ _ hS ⟨xs_S B0 R0 (xs_cut R0 (xs (i + 1))), [], false, [], SM, ckf2, ckg2, caf2, cbf2, crk2, crv2, crm2, crs2, cbp2, cbk2, cbv2, nbk2, nbv2, nwh2, nrk2, nrv2, nbg2, nsw2, nsk2, nsv2, nkp2, nky2, nvl2, hPc, hPm, hC2, hM2, xs_ok_flush hok (xs_cut_le hok _).2, Nat.zero_le _, hsm, fun q => absurd q (by decide)⟩
set_option maxHeartbeats 4000000 in
set_option maxRecDepth 100000 in
theorem o_unflushed (X : xl_X pJ s mJ cJ b L xs A D qc ca qm cm lm) {i : Nat} (hi : i + 4 ≤ L) {ls : Array Slot} (hl : lv_has ls 4 [(0, .ref b), (1, .ref (qc 0)), (2, .ref (qm 0)), (3, .int (nI i))]) {H : Heap} {locs : List Loc} (hS : va_S A s.heap H locs) (hI : xl_I D qc ca qm cm lm H) (kk : ∀ (H : Heap) (locs : List Loc), va_S A s.heap H locs → xl_I D qc ca qm cm lm H → W pJ l eJ room_1 s mJ #[Value.ref b] below meth cJ H locs 28 1265 Q (F0 mJ 510 ls [])) : W pJ l eJ room_1 s mJ #[Value.ref b] below meth cJ H locs 28 1265 Q (F0 mJ 363 ls []) := by
  obtain ⟨hx, hb, hml, hown, hts, hZ, hX, hbl, hbA, hA, hKc, hKm, hDc, hDm, hdis, hL, hlm⟩ := X
  obtain ⟨B0, R0, bt, ST, SM, kf, kg, af, bf, rk, rv, rm, rs, bp, bk, bv, mbk, mbv, mwh, mrk, mrv, mbg, msw, msk, msv, mkp, mky, mvl, hPc, hPm, hC, hMT, hok, hst, hsm, hSM⟩ := hI
  refine lv_aload_n hx hb d_L_law_363 rfl (lv_at hl 1 rfl) ?_
  refine xa_cI (va_runV (As := []) (rest := []) ⟨hx, hb, hml, hown, hts⟩ (c_E_unfl l D qc ca (nI lm) kf kg (nI (xs_now B0 R0).length) af bf rk rv rm rs bp bk bv (xb_i bt) (nI ST.length) R0.length) (cwV 0 hts (zg_V zm_314 zm_315 zm_316 zm_1 zm_317) rfl rfl rfl (by decide +kernel) ⟨Nat.le_of_ble_eq_true rfl, Nat.le_of_ble_eq_true rfl⟩) (xp_preV (ci := 0) (q0 := 0) hKc hPc rfl rfl rfl hZ) rfl rfl hl.1 rfl (lv_room (Nat.le_of_ble_eq_true rfl)) d_L_law_364 ⟨Nat.le_refl _, Nat.le_refl _⟩) ?_
  refine lv_aload_n hx hb d_L_law_367 rfl (lv_at hl 2 rfl) ?_
  refine xa_cI (va_runV (As := []) (rest := [.int (nI R0.length)]) ⟨hx, hb, hml, hown, hts⟩ (c_M_unfl l D qm cm (nI lm) (nI B0.length) mbk mbv mwh mrk mrv mbg (xb_i bt) (nI SM.length) msw msk msv mkp mky mvl R0.length) (cwV 0 hts (zg_V zm_545 zm_546 zm_547 zm_7 zm_548) rfl rfl rfl (by decide +kernel) ⟨Nat.le_of_ble_eq_true rfl, Nat.le_of_ble_eq_true rfl⟩) (xp_preV (ci := 5) (q0 := 0) hKm hPm rfl rfl rfl hZ) rfl rfl hl.1 rfl (lv_room (Nat.le_of_ble_eq_true rfl)) d_L_law_368 ⟨Nat.le_refl _, Nat.le_refl _⟩) ?_
  refine lv_icmp_eq (tgt := 510) hx hb d_L_law_371 (by decide) (fun _ => ?_) (fun hne => (hne (rfl)).elim)
  exact kk _ _ hS ⟨B0, R0, bt, ST, SM, kf, kg, af, bf, rk, rv, rm, rs, bp, bk, bv, mbk, mbv, mwh, mrk, mrv, mbg, msw, msk, msv, mkp, mky, mvl, hPc, hPm, hC, hMT, hok, hst, hsm, hSM⟩
set_option maxHeartbeats 4000000 in
set_option maxRecDepth 100000 in
theorem o_steps (X : xl_X pJ s mJ cJ b L xs A D qc ca qm cm lm) {i : Nat} (hi : i + 4 ≤ L) {ls : Array Slot} (hl : lv_has ls 4 [(0, .ref b), (1, .ref (qc 0)), (2, .ref (qm 0)), (3, .int (nI i))]) {H : Heap} {locs : List Loc} (hS : va_S A s.heap H locs) (hI : xl_I D qc ca qm cm lm H) (kk : ∀ (H : Heap) (locs : List Loc), va_S A s.heap H locs → xl_I D qc ca qm cm lm H → W pJ l eJ room_1 s mJ #[Value.ref b] below meth cJ H locs 28 1265 Q (F0 mJ 510 ls [])) : W pJ l eJ room_1 s mJ #[Value.ref b] below meth cJ H locs 28 1265 Q (F0 mJ 376 ls []) := by
  obtain ⟨hx, hb, hml, hown, hts, hZ, hX, hbl, hbA, hA, hKc, hKm, hDc, hDm, hdis, hL, hlm⟩ := X
  obtain ⟨B0, R0, bt, ST, SM, kf, kg, af, bf, rk, rv, rm, rs, bp, bk, bv, mbk, mbv, mwh, mrk, mrv, mbg, msw, msk, msv, mkp, mky, mvl, hPc, hPm, hC, hMT, hok, hst, hsm, hSM⟩ := hI
  refine lv_aload_n hx hb d_L_law_376 rfl (lv_at hl 1 rfl) ?_
  refine xa_cI (va_runV (As := []) (rest := []) ⟨hx, hb, hml, hown, hts⟩ (c_E_steps l D qc ca (nI lm) kf kg (nI (xs_now B0 R0).length) af bf rk rv rm rs (nI R0.length) bp bk bv ST.length bt) (cwV 0 hts (zg_V zm_318 zm_319 zm_320 zm_1 zm_321) rfl rfl rfl (by decide +kernel) ⟨Nat.le_of_ble_eq_true rfl, Nat.le_of_ble_eq_true rfl⟩) (xp_preV (ci := 0) (q0 := 0) hKc hPc rfl rfl rfl hZ) rfl rfl hl.1 rfl (lv_room (Nat.le_of_ble_eq_true rfl)) d_L_law_377 ⟨Nat.le_refl _, Nat.le_refl _⟩) ?_
  refine lv_aload_n hx hb d_L_law_380 rfl (lv_at hl 2 rfl) ?_
  refine xa_cI (va_runV (As := []) (rest := [.int (if bt = true then nI ST.length else (-1))]) ⟨hx, hb, hml, hown, hts⟩ (c_M_steps l D qm cm (nI lm) (nI B0.length) mbk mbv (nI R0.length) mwh mrk mrv mbg msw msk msv mkp mky mvl SM.length bt) (cwV 0 hts (zg_V zm_549 zm_550 zm_551 zm_7 zm_552) rfl rfl rfl (by decide +kernel) ⟨Nat.le_of_ble_eq_true rfl, Nat.le_of_ble_eq_true rfl⟩) (xp_preV (ci := 5) (q0 := 0) hKm hPm rfl rfl rfl hZ) rfl rfl hl.1 rfl (lv_room (Nat.le_of_ble_eq_true rfl)) d_L_law_381 ⟨Nat.le_refl _, Nat.le_refl _⟩) ?_
  refine lv_icmp_eq (tgt := 510) hx hb d_L_law_384 (by decide) (fun _ => ?_) (fun hne => (hne (Classical.byCases (fun hq : bt = true => by rw [if_pos hq, if_pos hq, hSM hq]) (fun hq : ¬ bt = true => by rw [if_neg hq, if_neg hq]))).elim)
  exact kk _ _ hS ⟨B0, R0, bt, ST, SM, kf, kg, af, bf, rk, rv, rm, rs, bp, bk, bv, mbk, mbv, mwh, mrk, mrv, mbg, msw, msk, msv, mkp, mky, mvl, hPc, hPm, hC, hMT, hok, hst, hsm, hSM⟩
set_option maxHeartbeats 4000000 in
set_option maxRecDepth 100000 in
theorem o_size (X : xl_X pJ s mJ cJ b L xs A D qc ca qm cm lm) {i : Nat} (hi : i + 4 ≤ L) {ls : Array Slot} (hl : lv_has ls 4 [(0, .ref b), (1, .ref (qc 0)), (2, .ref (qm 0)), (3, .int (nI i))]) {H : Heap} {locs : List Loc} (hS : va_S A s.heap H locs) (hI : xl_I D qc ca qm cm lm H) (kk : ∀ (H : Heap) (locs : List Loc), va_S A s.heap H locs → xl_I D qc ca qm cm lm H → W pJ l eJ room_1 s mJ #[Value.ref b] below meth cJ H locs 28 1265 Q (F0 mJ 510 ls [])) : W pJ l eJ room_1 s mJ #[Value.ref b] below meth cJ H locs 28 1265 Q (F0 mJ 389 ls []) := by
  obtain ⟨hx, hb, hml, hown, hts, hZ, hX, hbl, hbA, hA, hKc, hKm, hDc, hDm, hdis, hL, hlm⟩ := X
  obtain ⟨B0, R0, bt, ST, SM, kf, kg, af, bf, rk, rv, rm, rs, bp, bk, bv, mbk, mbv, mwh, mrk, mrv, mbg, msw, msk, msv, mkp, mky, mvl, hPc, hPm, hC, hMT, hok, hst, hsm, hSM⟩ := hI
  refine lv_aload_n hx hb d_L_law_389 rfl (lv_at hl 1 rfl) ?_
  refine xa_cI (va_runV (As := []) (rest := []) ⟨hx, hb, hml, hown, hts⟩ (c_E_size l D qc ca (nI lm) kf kg af bf rk rv rm rs (nI R0.length) bp bk bv (xb_i bt) (nI ST.length) (xs_now B0 R0) hC.1) (cwV 0 hts (zg_V zm_322 zm_323 zm_324 zm_1 zm_325) rfl rfl rfl (by decide +kernel) ⟨Nat.le_of_ble_eq_true rfl, Nat.le_of_ble_eq_true rfl⟩) (xp_preV (ci := 0) (q0 := 0) hKc hPc rfl rfl rfl hZ) rfl rfl hl.1 rfl (lv_room (Nat.le_of_ble_eq_true rfl)) d_L_law_390 ⟨Nat.le_refl _, Nat.le_refl _⟩) ?_
  refine lv_aload_n hx hb d_L_law_393 rfl (lv_at hl 2 rfl) ?_
  have hF := xa_F (H := H) (locs := locs) (xa_E (ws' := (xw_M qm cm (nI lm) (nI B0.length) mbk mbv (nI R0.length) mwh mrk mrv mbg (xb_i bt) (nI SM.length) msw msk msv mkp mky mvl)) hDm rfl) hS hA
  refine va_calli (va_runV (As := []) (rest := [.int (nI ((xs_now B0 R0)).length)]) ⟨hx, hb, hml, hown, hts⟩ (c_M_size l D qm cm (nI lm) mbk mbv mwh mrk mrv mbg (xb_i bt) (nI SM.length) msw msk msv mkp mky mvl H.size lm B0 R0 SM hMT hok) (cwV 0 hts (zg_V zm_553 zm_554 zm_555 zm_7 zm_556) rfl rfl rfl (by decide +kernel) ⟨Nat.le_of_ble_eq_true rfl, Nat.le_of_ble_eq_true rfl⟩) (xp_preVQ (ci := 5) (q0 := 0) hKm hPm (xa_E hDm rfl) rfl rfl rfl hZ) rfl rfl hl.1 rfl (lv_room (Nat.le_of_ble_eq_true rfl)) d_L_law_394 ⟨Nat.le_refl _, Nat.le_refl _⟩) hS (fun q _ h => hF q h) hF (fun r u tJ H1 locs1 htJ _ hp hBJ _ hkJ hS => ?_)
  obtain ⟨rfl, hp⟩ := hp
  have hPc : va_P D zz_cl (xw_C qc ca (nI lm) kf kg (nI (xs_now B0 R0).length) af bf rk rv rm rs (nI R0.length) bp bk bv (xb_i bt) (nI ST.length)) H1 := xl_keep (wc := (xw_M qm cm (nI lm) (nI B0.length) mbk mbv (nI R0.length) mwh mrk mrv mbg (xb_i bt) (nI SM.length) msw msk msv mkp mky mvl)) hPc (xl_sw hdis) hkJ
  obtain ⟨nky2, nvl2⟩ := u
  have hPm : va_P D zz_cl (xw_M qm cm (nI lm) (nI B0.length) mbk mbv (nI R0.length) mwh mrk mrv mbg (xb_i bt) (nI SM.length) msw msk msv (nI (xs_now B0 R0).length) nky2 nvl2) H1 := by rw [← htJ]; exact hBJ
  have hM2 : xm_T nky2 nvl2 (xs_now B0 R0) := hp
  generalize H1 = H at hPc hPm hS ⊢
  generalize locs1 = locs at hS ⊢
  refine lv_icmp_eq (tgt := 510) hx hb d_L_law_397 (by decide) (fun _ => ?_) (fun hne => (hne (rfl)).elim)
  exact kk _ _ hS ⟨B0, R0, bt, ST, SM, kf, kg, af, bf, rk, rv, rm, rs, bp, bk, bv, mbk, mbv, mwh, mrk, mrv, mbg, msw, msk, msv, nI (xs_now B0 R0).length, nky2, nvl2, hPc, hPm, hC, hMT, hok, hst, hsm, hSM⟩
set_option maxHeartbeats 4000000 in
set_option maxRecDepth 100000 in
theorem o_pages (X : xl_X pJ s mJ cJ b L xs A D qc ca qm cm lm) {i : Nat} (hi : i + 4 ≤ L) {ls : Array Slot} (hl : lv_has ls 4 [(0, .ref b), (1, .ref (qc 0)), (2, .ref (qm 0)), (3, .int (nI i))]) {H : Heap} {locs : List Loc} (hS : va_S A s.heap H locs) (hI : xl_I D qc ca qm cm lm H) (kk : ∀ (H : Heap) (locs : List Loc), va_S A s.heap H locs → xl_I D qc ca qm cm lm H → W pJ l eJ room_1 s mJ #[Value.ref b] below meth cJ H locs 28 1265 Q (F0 mJ 510 ls [])) : W pJ l eJ room_1 s mJ #[Value.ref b] below meth cJ H locs 28 1265 Q (F0 mJ 402 ls []) := by
  obtain ⟨hx, hb, hml, hown, hts, hZ, hX, hbl, hbA, hA, hKc, hKm, hDc, hDm, hdis, hL, hlm⟩ := X
  obtain ⟨B0, R0, bt, ST, SM, kf, kg, af, bf, rk, rv, rm, rs, bp, bk, bv, mbk, mbv, mwh, mrk, mrv, mbg, msw, msk, msv, mkp, mky, mvl, hPc, hPm, hC, hMT, hok, hst, hsm, hSM⟩ := hI
  refine lv_aload_n hx hb d_L_law_402 rfl (lv_at hl 1 rfl) ?_
  refine xa_cI (va_runV (As := []) (rest := []) ⟨hx, hb, hml, hown, hts⟩ (c_E_pages l D qc ca (nI lm) kf kg af bf rk rv rm rs (nI R0.length) bp bk bv (xb_i bt) (nI ST.length) (xs_now B0 R0) hC.1) (cwV 0 hts (zg_V zm_326 zm_327 zm_328 zm_1 zm_329) rfl rfl rfl (by decide +kernel) ⟨Nat.le_of_ble_eq_true rfl, Nat.le_of_ble_eq_true rfl⟩) (xp_preV (ci := 0) (q0 := 0) hKc hPc rfl rfl rfl hZ) rfl rfl hl.1 rfl (lv_room (Nat.le_of_ble_eq_true rfl)) d_L_law_403 ⟨Nat.le_refl _, Nat.le_refl _⟩) ?_
  refine lv_aload_n hx hb d_L_law_406 rfl (lv_at hl 2 rfl) ?_
  have hF := xa_F (H := H) (locs := locs) (xa_E (ws' := (xw_M qm cm (nI lm) (nI B0.length) mbk mbv (nI R0.length) mwh mrk mrv mbg (xb_i bt) (nI SM.length) msw msk msv mkp mky mvl)) hDm rfl) hS hA
  refine va_calli (va_runV (As := []) (rest := [.int (nI (xd_pg ((xs_now B0 R0))))]) ⟨hx, hb, hml, hown, hts⟩ (c_M_pages l D qm cm (nI lm) mbk mbv mwh mrk mrv mbg (xb_i bt) (nI SM.length) msw msk msv mkp mky mvl H.size lm B0 R0 SM hMT hok) (cwV 0 hts (zg_V zm_557 zm_558 zm_559 zm_7 zm_560) rfl rfl rfl (by decide +kernel) ⟨Nat.le_of_ble_eq_true rfl, Nat.le_of_ble_eq_true rfl⟩) (xp_preVQ (ci := 5) (q0 := 0) hKm hPm (xa_E hDm rfl) rfl rfl rfl hZ) rfl rfl hl.1 rfl (lv_room (Nat.le_of_ble_eq_true rfl)) d_L_law_407 ⟨Nat.le_refl _, Nat.le_refl _⟩) hS (fun q _ h => hF q h) hF (fun r u tJ H1 locs1 htJ _ hp hBJ _ hkJ hS => ?_)
  obtain ⟨rfl, hp⟩ := hp
  have hPc : va_P D zz_cl (xw_C qc ca (nI lm) kf kg (nI (xs_now B0 R0).length) af bf rk rv rm rs (nI R0.length) bp bk bv (xb_i bt) (nI ST.length)) H1 := xl_keep (wc := (xw_M qm cm (nI lm) (nI B0.length) mbk mbv (nI R0.length) mwh mrk mrv mbg (xb_i bt) (nI SM.length) msw msk msv mkp mky mvl)) hPc (xl_sw hdis) hkJ
  obtain ⟨nky2, nvl2⟩ := u
  have hPm : va_P D zz_cl (xw_M qm cm (nI lm) (nI B0.length) mbk mbv (nI R0.length) mwh mrk mrv mbg (xb_i bt) (nI SM.length) msw msk msv (nI (xs_now B0 R0).length) nky2 nvl2) H1 := by rw [← htJ]; exact hBJ
  have hM2 : xm_T nky2 nvl2 (xs_now B0 R0) := hp
  generalize H1 = H at hPc hPm hS ⊢
  generalize locs1 = locs at hS ⊢
  refine lv_icmp_eq (tgt := 510) hx hb d_L_law_410 (by decide) (fun _ => ?_) (fun hne => (hne (rfl)).elim)
  exact kk _ _ hS ⟨B0, R0, bt, ST, SM, kf, kg, af, bf, rk, rv, rm, rs, bp, bk, bv, mbk, mbv, mwh, mrk, mrv, mbg, msw, msk, msv, nI (xs_now B0 R0).length, nky2, nvl2, hPc, hPm, hC, hMT, hok, hst, hsm, hSM⟩
set_option maxHeartbeats 4000000 in
set_option maxRecDepth 100000 in
theorem o_globalDepth (X : xl_X pJ s mJ cJ b L xs A D qc ca qm cm lm) {i : Nat} (hi : i + 4 ≤ L) {ls : Array Slot} (hl : lv_has ls 4 [(0, .ref b), (1, .ref (qc 0)), (2, .ref (qm 0)), (3, .int (nI i))]) {H : Heap} {locs : List Loc} (hS : va_S A s.heap H locs) (hI : xl_I D qc ca qm cm lm H) (kk : ∀ (H : Heap) (locs : List Loc), va_S A s.heap H locs → xl_I D qc ca qm cm lm H → W pJ l eJ room_1 s mJ #[Value.ref b] below meth cJ H locs 28 1265 Q (F0 mJ 510 ls [])) : W pJ l eJ room_1 s mJ #[Value.ref b] below meth cJ H locs 28 1265 Q (F0 mJ 415 ls []) := by
  obtain ⟨hx, hb, hml, hown, hts, hZ, hX, hbl, hbA, hA, hKc, hKm, hDc, hDm, hdis, hL, hlm⟩ := X
  obtain ⟨B0, R0, bt, ST, SM, kf, kg, af, bf, rk, rv, rm, rs, bp, bk, bv, mbk, mbv, mwh, mrk, mrv, mbg, msw, msk, msv, mkp, mky, mvl, hPc, hPm, hC, hMT, hok, hst, hsm, hSM⟩ := hI
  refine lv_aload_n hx hb d_L_law_415 rfl (lv_at hl 1 rfl) ?_
  refine xa_cI (va_runV (As := []) (rest := []) ⟨hx, hb, hml, hown, hts⟩ (c_E_gdep l D qc ca (nI lm) kf kg af bf rk rv rm rs (nI R0.length) bp bk bv (xb_i bt) (nI ST.length) (xs_now B0 R0) hC.1) (cwV 0 hts (zg_V zm_330 zm_331 zm_332 zm_1 zm_333) rfl rfl rfl (by decide +kernel) ⟨Nat.le_of_ble_eq_true rfl, Nat.le_of_ble_eq_true rfl⟩) (xp_preV (ci := 0) (q0 := 0) hKc hPc rfl rfl rfl hZ) rfl rfl hl.1 rfl (lv_room (Nat.le_of_ble_eq_true rfl)) d_L_law_416 ⟨Nat.le_refl _, Nat.le_refl _⟩) ?_
  refine lv_aload_n hx hb d_L_law_419 rfl (lv_at hl 2 rfl) ?_
  have hF := xa_F (H := H) (locs := locs) (xa_E (ws' := (xw_M qm cm (nI lm) (nI B0.length) mbk mbv (nI R0.length) mwh mrk mrv mbg (xb_i bt) (nI SM.length) msw msk msv mkp mky mvl)) hDm rfl) hS hA
  refine va_calli (va_runV (As := []) (rest := [.int (nI (xd_gm ((xs_now B0 R0)) 64))]) ⟨hx, hb, hml, hown, hts⟩ (c_M_gdep l D qm cm (nI lm) mbk mbv mwh mrk mrv mbg (xb_i bt) (nI SM.length) msw msk msv mkp mky mvl H.size lm B0 R0 SM hMT hok) (cwV 0 hts (zg_V zm_561 zm_562 zm_563 zm_7 zm_564) rfl rfl rfl (by decide +kernel) ⟨Nat.le_of_ble_eq_true rfl, Nat.le_of_ble_eq_true rfl⟩) (xp_preVQ (ci := 5) (q0 := 0) hKm hPm (xa_E hDm rfl) rfl rfl rfl hZ) rfl rfl hl.1 rfl (lv_room (Nat.le_of_ble_eq_true rfl)) d_L_law_420 ⟨Nat.le_refl _, Nat.le_refl _⟩) hS (fun q _ h => hF q h) hF (fun r u tJ H1 locs1 htJ _ hp hBJ _ hkJ hS => ?_)
  obtain ⟨rfl, hp⟩ := hp
  have hPc : va_P D zz_cl (xw_C qc ca (nI lm) kf kg (nI (xs_now B0 R0).length) af bf rk rv rm rs (nI R0.length) bp bk bv (xb_i bt) (nI ST.length)) H1 := xl_keep (wc := (xw_M qm cm (nI lm) (nI B0.length) mbk mbv (nI R0.length) mwh mrk mrv mbg (xb_i bt) (nI SM.length) msw msk msv mkp mky mvl)) hPc (xl_sw hdis) hkJ
  obtain ⟨nky2, nvl2⟩ := u
  have hPm : va_P D zz_cl (xw_M qm cm (nI lm) (nI B0.length) mbk mbv (nI R0.length) mwh mrk mrv mbg (xb_i bt) (nI SM.length) msw msk msv (nI (xs_now B0 R0).length) nky2 nvl2) H1 := by rw [← htJ]; exact hBJ
  have hM2 : xm_T nky2 nvl2 (xs_now B0 R0) := hp
  generalize H1 = H at hPc hPm hS ⊢
  generalize locs1 = locs at hS ⊢
  refine lv_icmp_eq (tgt := 510) hx hb d_L_law_423 (by decide) (fun _ => ?_) (fun hne => (hne (rfl)).elim)
  exact kk _ _ hS ⟨B0, R0, bt, ST, SM, kf, kg, af, bf, rk, rv, rm, rs, bp, bk, bv, mbk, mbv, mwh, mrk, mrv, mbg, msw, msk, msv, nI (xs_now B0 R0).length, nky2, nvl2, hPc, hPm, hC, hMT, hok, hst, hsm, hSM⟩
set_option maxHeartbeats 4000000 in
set_option maxRecDepth 100000 in
theorem o_localDepth (X : xl_X pJ s mJ cJ b L xs A D qc ca qm cm lm) {i : Nat} (hi : i + 4 ≤ L) {ls : Array Slot} (hl : lv_has ls 4 [(0, .ref b), (1, .ref (qc 0)), (2, .ref (qm 0)), (3, .int (nI i))]) {H : Heap} {locs : List Loc} (hS : va_S A s.heap H locs) (hI : xl_I D qc ca qm cm lm H) (kk : ∀ (H : Heap) (locs : List Loc), va_S A s.heap H locs → xl_I D qc ca qm cm lm H → W pJ l eJ room_1 s mJ #[Value.ref b] below meth cJ H locs 28 1265 Q (F0 mJ 510 ls [])) : W pJ l eJ room_1 s mJ #[Value.ref b] below meth cJ H locs 28 1265 Q (F0 mJ 428 ls []) := by
  obtain ⟨hx, hb, hml, hown, hts, hZ, hX, hbl, hbA, hA, hKc, hKm, hDc, hDm, hdis, hL, hlm⟩ := X
  obtain ⟨B0, R0, bt, ST, SM, kf, kg, af, bf, rk, rv, rm, rs, bp, bk, bv, mbk, mbv, mwh, mrk, mrv, mbg, msw, msk, msv, mkp, mky, mvl, hPc, hPm, hC, hMT, hok, hst, hsm, hSM⟩ := hI
  refine lv_aload_n hx hb d_L_law_428 rfl (lv_at hl 1 rfl) ?_
  refine lv_aload_n hx hb d_L_law_429 rfl (lv_at hl 0 rfl) ?_
  refine lv_iload_n hx hb d_L_law_430 rfl (lv_at hl 3 rfl) ?_
  refine lv_iconst (v := nI 1) hx hb d_L_law_431 (by decide +kernel) ?_
  refine lv_iadd hx hb d_L_law_432 ?_
  refine xa_top (y := nI (i + 1)) (nI_add _ _) ?_
  refine xl_sld hx hb hX hbl hbA hS (k := i + 1) (by omega) (by omega) d_L_law_433 ?_
  refine xa_cI (va_runV (As := [.int (xs (i + 1))]) (rest := []) ⟨hx, hb, hml, hown, hts⟩ (c_E_ldep l D qc ca (nI lm) kf kg af bf rk rv rm rs (nI R0.length) bp bk bv (xb_i bt) (nI ST.length) (xs_now B0 R0) (xs (i + 1)) hC.1) (cwV 1 hts (zg_V zm_335 zm_336 zm_337 zm_1 zm_338) rfl rfl rfl (by decide +kernel) ⟨Nat.le_of_ble_eq_true rfl, Nat.le_of_ble_eq_true rfl⟩) (xp_preV (ci := 0) (q0 := 0) hKc hPc rfl rfl rfl hZ) rfl rfl hl.1 rfl (lv_room (Nat.le_of_ble_eq_true rfl)) d_L_law_434 ⟨Nat.le_refl _, Nat.le_refl _⟩) ?_
  refine lv_aload_n hx hb d_L_law_437 rfl (lv_at hl 2 rfl) ?_
  refine lv_aload_n hx hb d_L_law_438 rfl (lv_at hl 0 rfl) ?_
  refine lv_iload_n hx hb d_L_law_439 rfl (lv_at hl 3 rfl) ?_
  refine lv_iconst (v := nI 1) hx hb d_L_law_440 (by decide +kernel) ?_
  refine lv_iadd hx hb d_L_law_441 ?_
  refine xa_top (y := nI (i + 1)) (nI_add _ _) ?_
  refine xl_sld hx hb hX hbl hbA hS (k := i + 1) (by omega) (by omega) d_L_law_442 ?_
  have hF := xa_F (H := H) (locs := locs) (xa_E (ws' := (xw_M qm cm (nI lm) (nI B0.length) mbk mbv (nI R0.length) mwh mrk mrv mbg (xb_i bt) (nI SM.length) msw msk msv mkp mky mvl)) hDm rfl) hS hA
  refine va_calli (va_runV (As := [.int (xs (i + 1))]) (rest := [.int (nI (xd_dp ((xs_now B0 R0)) (xk_h ((xs (i + 1))))))]) ⟨hx, hb, hml, hown, hts⟩ (c_M_ldep l D qm cm (nI lm) mbk mbv mwh mrk mrv mbg (xb_i bt) (nI SM.length) msw msk msv mkp mky mvl H.size lm B0 R0 SM (xs (i + 1)) hMT hok) (cwV 1 hts (zg_V zm_565 zm_566 zm_567 zm_7 zm_568) rfl rfl rfl (by decide +kernel) ⟨Nat.le_of_ble_eq_true rfl, Nat.le_of_ble_eq_true rfl⟩) (xp_preVQ (ci := 5) (q0 := 0) hKm hPm (xa_E hDm rfl) rfl rfl rfl hZ) rfl rfl hl.1 rfl (lv_room (Nat.le_of_ble_eq_true rfl)) d_L_law_443 ⟨Nat.le_refl _, Nat.le_refl _⟩) hS (fun q _ h => hF q h) hF (fun r u tJ H1 locs1 htJ _ hp hBJ _ hkJ hS => ?_)
  obtain ⟨rfl, hp⟩ := hp
  have hPc : va_P D zz_cl (xw_C qc ca (nI lm) kf kg (nI (xs_now B0 R0).length) af bf rk rv rm rs (nI R0.length) bp bk bv (xb_i bt) (nI ST.length)) H1 := xl_keep (wc := (xw_M qm cm (nI lm) (nI B0.length) mbk mbv (nI R0.length) mwh mrk mrv mbg (xb_i bt) (nI SM.length) msw msk msv mkp mky mvl)) hPc (xl_sw hdis) hkJ
  obtain ⟨nky2, nvl2⟩ := u
  have hPm : va_P D zz_cl (xw_M qm cm (nI lm) (nI B0.length) mbk mbv (nI R0.length) mwh mrk mrv mbg (xb_i bt) (nI SM.length) msw msk msv (nI (xs_now B0 R0).length) nky2 nvl2) H1 := by rw [← htJ]; exact hBJ
  have hM2 : xm_T nky2 nvl2 (xs_now B0 R0) := hp
  generalize H1 = H at hPc hPm hS ⊢
  generalize locs1 = locs at hS ⊢
  refine lv_icmp_eq (tgt := 510) hx hb d_L_law_446 (by decide) (fun _ => ?_) (fun hne => (hne (rfl)).elim)
  exact kk _ _ hS ⟨B0, R0, bt, ST, SM, kf, kg, af, bf, rk, rv, rm, rs, bp, bk, bv, mbk, mbv, mwh, mrk, mrv, mbg, msw, msk, msv, nI (xs_now B0 R0).length, nky2, nvl2, hPc, hPm, hC, hMT, hok, hst, hsm, hSM⟩
set_option maxHeartbeats 4000000 in
set_option maxRecDepth 100000 in
theorem o_buckets (X : xl_X pJ s mJ cJ b L xs A D qc ca qm cm lm) {i : Nat} (hi : i + 4 ≤ L) {ls : Array Slot} (hl : lv_has ls 4 [(0, .ref b), (1, .ref (qc 0)), (2, .ref (qm 0)), (3, .int (nI i))]) {H : Heap} {locs : List Loc} (hS : va_S A s.heap H locs) (hI : xl_I D qc ca qm cm lm H) (kk : ∀ (H : Heap) (locs : List Loc), va_S A s.heap H locs → xl_I D qc ca qm cm lm H → W pJ l eJ room_1 s mJ #[Value.ref b] below meth cJ H locs 28 1265 Q (F0 mJ 510 ls [])) : W pJ l eJ room_1 s mJ #[Value.ref b] below meth cJ H locs 28 1265 Q (F0 mJ 451 ls []) := by
  obtain ⟨hx, hb, hml, hown, hts, hZ, hX, hbl, hbA, hA, hKc, hKm, hDc, hDm, hdis, hL, hlm⟩ := X
  obtain ⟨B0, R0, bt, ST, SM, kf, kg, af, bf, rk, rv, rm, rs, bp, bk, bv, mbk, mbv, mwh, mrk, mrv, mbg, msw, msk, msv, mkp, mky, mvl, hPc, hPm, hC, hMT, hok, hst, hsm, hSM⟩ := hI
  refine lv_aload_n hx hb d_L_law_451 rfl (lv_at hl 1 rfl) ?_
  refine xa_cI (va_runV (As := []) (rest := []) ⟨hx, hb, hml, hown, hts⟩ (c_E_bkts l D qc ca (nI lm) kf kg af bf rk rv rm rs (nI R0.length) bp bk bv (xb_i bt) (nI ST.length) (xs_now B0 R0) hC.1) (cwV 0 hts (zg_V zm_341 zm_342 zm_343 zm_1 zm_344) rfl rfl rfl (by decide +kernel) ⟨Nat.le_of_ble_eq_true rfl, Nat.le_of_ble_eq_true rfl⟩) (xp_preV (ci := 0) (q0 := 0) hKc hPc rfl rfl rfl hZ) rfl rfl hl.1 rfl (lv_room (Nat.le_of_ble_eq_true rfl)) d_L_law_452 ⟨Nat.le_refl _, Nat.le_refl _⟩) ?_
  refine lv_aload_n hx hb d_L_law_455 rfl (lv_at hl 2 rfl) ?_
  have hF := xa_F (H := H) (locs := locs) (xa_E (ws' := (xw_M qm cm (nI lm) (nI B0.length) mbk mbv (nI R0.length) mwh mrk mrv mbg (xb_i bt) (nI SM.length) msw msk msv mkp mky mvl)) hDm rfl) hS hA
  refine va_calli (va_runV (As := []) (rest := [.int (nI ((xo_pls ((xs_now B0 R0)) 64).length))]) ⟨hx, hb, hml, hown, hts⟩ (c_M_bkts l D qm cm (nI lm) mbk mbv mwh mrk mrv mbg (xb_i bt) (nI SM.length) msw msk msv mkp mky mvl H.size lm B0 R0 SM hMT hok) (cwV 0 hts (zg_V zm_569 zm_570 zm_571 zm_7 zm_572) rfl rfl rfl (by decide +kernel) ⟨Nat.le_of_ble_eq_true rfl, Nat.le_of_ble_eq_true rfl⟩) (xp_preVQ (ci := 5) (q0 := 0) hKm hPm (xa_E hDm rfl) rfl rfl rfl hZ) rfl rfl hl.1 rfl (lv_room (Nat.le_of_ble_eq_true rfl)) d_L_law_456 ⟨Nat.le_refl _, Nat.le_refl _⟩) hS (fun q _ h => hF q h) hF (fun r u tJ H1 locs1 htJ _ hp hBJ _ hkJ hS => ?_)
  obtain ⟨rfl, hp⟩ := hp
  have hPc : va_P D zz_cl (xw_C qc ca (nI lm) kf kg (nI (xs_now B0 R0).length) af bf rk rv rm rs (nI R0.length) bp bk bv (xb_i bt) (nI ST.length)) H1 := xl_keep (wc := (xw_M qm cm (nI lm) (nI B0.length) mbk mbv (nI R0.length) mwh mrk mrv mbg (xb_i bt) (nI SM.length) msw msk msv mkp mky mvl)) hPc (xl_sw hdis) hkJ
  obtain ⟨nky2, nvl2⟩ := u
  have hPm : va_P D zz_cl (xw_M qm cm (nI lm) (nI B0.length) mbk mbv (nI R0.length) mwh mrk mrv mbg (xb_i bt) (nI SM.length) msw msk msv (nI (xs_now B0 R0).length) nky2 nvl2) H1 := by rw [← htJ]; exact hBJ
  have hM2 : xm_T nky2 nvl2 (xs_now B0 R0) := hp
  generalize H1 = H at hPc hPm hS ⊢
  generalize locs1 = locs at hS ⊢
  refine lv_icmp_eq (tgt := 510) hx hb d_L_law_459 (by decide) (fun _ => ?_) (fun hne => (hne (rfl)).elim)
  exact kk _ _ hS ⟨B0, R0, bt, ST, SM, kf, kg, af, bf, rk, rv, rm, rs, bp, bk, bv, mbk, mbv, mwh, mrk, mrv, mbg, msw, msk, msv, nI (xs_now B0 R0).length, nky2, nvl2, hPc, hPm, hC, hMT, hok, hst, hsm, hSM⟩
set_option maxHeartbeats 4000000 in
set_option maxRecDepth 100000 in
theorem o_bucketAt (X : xl_X pJ s mJ cJ b L xs A D qc ca qm cm lm) {i : Nat} (hi : i + 4 ≤ L) {ls : Array Slot} (hl : lv_has ls 4 [(0, .ref b), (1, .ref (qc 0)), (2, .ref (qm 0)), (3, .int (nI i))]) {H : Heap} {locs : List Loc} (hS : va_S A s.heap H locs) (hI : xl_I D qc ca qm cm lm H) (kk : ∀ (H : Heap) (locs : List Loc), va_S A s.heap H locs → xl_I D qc ca qm cm lm H → W pJ l eJ room_1 s mJ #[Value.ref b] below meth cJ H locs 28 1265 Q (F0 mJ 510 ls [])) : W pJ l eJ room_1 s mJ #[Value.ref b] below meth cJ H locs 28 1265 Q (F0 mJ 464 ls []) := by
  obtain ⟨hx, hb, hml, hown, hts, hZ, hX, hbl, hbA, hA, hKc, hKm, hDc, hDm, hdis, hL, hlm⟩ := X
  obtain ⟨B0, R0, bt, ST, SM, kf, kg, af, bf, rk, rv, rm, rs, bp, bk, bv, mbk, mbv, mwh, mrk, mrv, mbg, msw, msk, msv, mkp, mky, mvl, hPc, hPm, hC, hMT, hok, hst, hsm, hSM⟩ := hI
  refine lv_aload_n hx hb d_L_law_464 rfl (lv_at hl 1 rfl) ?_
  refine lv_aload_n hx hb d_L_law_465 rfl (lv_at hl 0 rfl) ?_
  refine lv_iload_n hx hb d_L_law_466 rfl (lv_at hl 3 rfl) ?_
  refine lv_iconst (v := nI 1) hx hb d_L_law_467 (by decide +kernel) ?_
  refine lv_iadd hx hb d_L_law_468 ?_
  refine xa_top (y := nI (i + 1)) (nI_add _ _) ?_
  refine xl_sld hx hb hX hbl hbA hS (k := i + 1) (by omega) (by omega) d_L_law_469 ?_
  refine xa_cI (va_runV (As := [.int (xs (i + 1))]) (rest := []) ⟨hx, hb, hml, hown, hts⟩ (c_E_bAt l D qc ca (nI lm) kf kg af bf rk rv rm rs (nI R0.length) bp bk bv (xb_i bt) (nI ST.length) (xs_now B0 R0) (xs (i + 1)) hC.1) (cwV 1 hts (zg_V zm_350 zm_351 zm_352 zm_1 zm_353) rfl rfl rfl (by decide +kernel) ⟨Nat.le_of_ble_eq_true rfl, Nat.le_of_ble_eq_true rfl⟩) (xp_preV (ci := 0) (q0 := 0) hKc hPc rfl rfl rfl hZ) rfl rfl hl.1 rfl (lv_room (Nat.le_of_ble_eq_true rfl)) d_L_law_470 ⟨Nat.le_refl _, Nat.le_refl _⟩) ?_
  refine lv_aload_n hx hb d_L_law_473 rfl (lv_at hl 2 rfl) ?_
  refine lv_aload_n hx hb d_L_law_474 rfl (lv_at hl 0 rfl) ?_
  refine lv_iload_n hx hb d_L_law_475 rfl (lv_at hl 3 rfl) ?_
  refine lv_iconst (v := nI 1) hx hb d_L_law_476 (by decide +kernel) ?_
  refine lv_iadd hx hb d_L_law_477 ?_
  refine xa_top (y := nI (i + 1)) (nI_add _ _) ?_
  refine xl_sld hx hb hX hbl hbA hS (k := i + 1) (by omega) (by omega) d_L_law_478 ?_
  have hF := xa_F (H := H) (locs := locs) (xa_E (ws' := (xw_M qm cm (nI lm) (nI B0.length) mbk mbv (nI R0.length) mwh mrk mrv mbg (xb_i bt) (nI SM.length) msw msk msv mkp mky mvl)) hDm rfl) hS hA
  refine va_calli (va_runV (As := [.int (xs (i + 1))]) (rest := [.int (xo_at ((xs_now B0 R0)) ((xs (i + 1))))]) ⟨hx, hb, hml, hown, hts⟩ (c_M_bAt l D qm cm (nI lm) mbk mbv mwh mrk mrv mbg (xb_i bt) (nI SM.length) msw msk msv mkp mky mvl H.size lm B0 R0 SM (xs (i + 1)) hMT hok) (cwV 1 hts (zg_V zm_573 zm_574 zm_575 zm_7 zm_576) rfl rfl rfl (by decide +kernel) ⟨Nat.le_of_ble_eq_true rfl, Nat.le_of_ble_eq_true rfl⟩) (xp_preVQ (ci := 5) (q0 := 0) hKm hPm (xa_E hDm rfl) rfl rfl rfl hZ) rfl rfl hl.1 rfl (lv_room (Nat.le_of_ble_eq_true rfl)) d_L_law_479 ⟨Nat.le_refl _, Nat.le_refl _⟩) hS (fun q _ h => hF q h) hF (fun r u tJ H1 locs1 htJ _ hp hBJ _ hkJ hS => ?_)
  obtain ⟨rfl, hp⟩ := hp
  have hPc : va_P D zz_cl (xw_C qc ca (nI lm) kf kg (nI (xs_now B0 R0).length) af bf rk rv rm rs (nI R0.length) bp bk bv (xb_i bt) (nI ST.length)) H1 := xl_keep (wc := (xw_M qm cm (nI lm) (nI B0.length) mbk mbv (nI R0.length) mwh mrk mrv mbg (xb_i bt) (nI SM.length) msw msk msv mkp mky mvl)) hPc (xl_sw hdis) hkJ
  obtain ⟨nky2, nvl2⟩ := u
  have hPm : va_P D zz_cl (xw_M qm cm (nI lm) (nI B0.length) mbk mbv (nI R0.length) mwh mrk mrv mbg (xb_i bt) (nI SM.length) msw msk msv (nI (xs_now B0 R0).length) nky2 nvl2) H1 := by rw [← htJ]; exact hBJ
  have hM2 : xm_T nky2 nvl2 (xs_now B0 R0) := hp
  generalize H1 = H at hPc hPm hS ⊢
  generalize locs1 = locs at hS ⊢
  refine lv_icmp_eq (tgt := 510) hx hb d_L_law_482 (by decide) (fun _ => ?_) (fun hne => (hne (rfl)).elim)
  exact kk _ _ hS ⟨B0, R0, bt, ST, SM, kf, kg, af, bf, rk, rv, rm, rs, bp, bk, bv, mbk, mbv, mwh, mrk, mrv, mbg, msw, msk, msv, nI (xs_now B0 R0).length, nky2, nvl2, hPc, hPm, hC, hMT, hok, hst, hsm, hSM⟩
set_option maxHeartbeats 4000000 in
set_option maxRecDepth 100000 in
theorem o_keyAt (X : xl_X pJ s mJ cJ b L xs A D qc ca qm cm lm) {i : Nat} (hi : i + 4 ≤ L) {ls : Array Slot} (hl : lv_has ls 4 [(0, .ref b), (1, .ref (qc 0)), (2, .ref (qm 0)), (3, .int (nI i))]) {H : Heap} {locs : List Loc} (hS : va_S A s.heap H locs) (hI : xl_I D qc ca qm cm lm H) (kk : ∀ (H : Heap) (locs : List Loc), va_S A s.heap H locs → xl_I D qc ca qm cm lm H → W pJ l eJ room_1 s mJ #[Value.ref b] below meth cJ H locs 28 1265 Q (F0 mJ 510 ls [])) : W pJ l eJ room_1 s mJ #[Value.ref b] below meth cJ H locs 28 1265 Q (F0 mJ 487 ls []) := by
  obtain ⟨hx, hb, hml, hown, hts, hZ, hX, hbl, hbA, hA, hKc, hKm, hDc, hDm, hdis, hL, hlm⟩ := X
  obtain ⟨B0, R0, bt, ST, SM, kf, kg, af, bf, rk, rv, rm, rs, bp, bk, bv, mbk, mbv, mwh, mrk, mrv, mbg, msw, msk, msv, mkp, mky, mvl, hPc, hPm, hC, hMT, hok, hst, hsm, hSM⟩ := hI
  refine lv_aload_n hx hb d_L_law_487 rfl (lv_at hl 1 rfl) ?_
  refine lv_aload_n hx hb d_L_law_488 rfl (lv_at hl 0 rfl) ?_
  refine lv_iload_n hx hb d_L_law_489 rfl (lv_at hl 3 rfl) ?_
  refine lv_iconst (v := nI 1) hx hb d_L_law_490 (by decide +kernel) ?_
  refine lv_iadd hx hb d_L_law_491 ?_
  refine xa_top (y := nI (i + 1)) (nI_add _ _) ?_
  refine xl_sld hx hb hX hbl hbA hS (k := i + 1) (by omega) (by omega) d_L_law_492 ?_
  refine xa_cI (va_runV (As := [.int (xs (i + 1))]) (rest := []) ⟨hx, hb, hml, hown, hts⟩ (c_E_keyAt l D qc ca (nI lm) kf kg af bf rk rv rm rs (nI R0.length) bp bk bv (xb_i bt) (nI ST.length) (xs_now B0 R0) (xs (i + 1)) hC.1) (cwV 1 hts (zg_V zm_355 zm_356 zm_357 zm_1 zm_358) rfl rfl rfl (by decide +kernel) ⟨Nat.le_of_ble_eq_true rfl, Nat.le_of_ble_eq_true rfl⟩) (xp_preV (ci := 0) (q0 := 0) hKc hPc rfl rfl rfl hZ) rfl rfl hl.1 rfl (lv_room (Nat.le_of_ble_eq_true rfl)) d_L_law_493 ⟨Nat.le_refl _, Nat.le_refl _⟩) ?_
  refine lv_aload_n hx hb d_L_law_496 rfl (lv_at hl 2 rfl) ?_
  refine lv_aload_n hx hb d_L_law_497 rfl (lv_at hl 0 rfl) ?_
  refine lv_iload_n hx hb d_L_law_498 rfl (lv_at hl 3 rfl) ?_
  refine lv_iconst (v := nI 1) hx hb d_L_law_499 (by decide +kernel) ?_
  refine lv_iadd hx hb d_L_law_500 ?_
  refine xa_top (y := nI (i + 1)) (nI_add _ _) ?_
  refine xl_sld hx hb hX hbl hbA hS (k := i + 1) (by omega) (by omega) d_L_law_501 ?_
  have hF := xa_F (H := H) (locs := locs) (xa_E (ws' := (xw_M qm cm (nI lm) (nI B0.length) mbk mbv (nI R0.length) mwh mrk mrv mbg (xb_i bt) (nI SM.length) msw msk msv mkp mky mvl)) hDm rfl) hS hA
  refine va_calli (va_runV (As := [.int (xs (i + 1))]) (rest := [.int (xo_ka ((xs_now B0 R0)) ((xs (i + 1))))]) ⟨hx, hb, hml, hown, hts⟩ (c_M_keyAt l D qm cm (nI lm) mbk mbv mwh mrk mrv mbg (xb_i bt) (nI SM.length) msw msk msv mkp mky mvl H.size lm B0 R0 SM (xs (i + 1)) hMT hok) (cwV 1 hts (zg_V zm_577 zm_578 zm_579 zm_7 zm_580) rfl rfl rfl (by decide +kernel) ⟨Nat.le_of_ble_eq_true rfl, Nat.le_of_ble_eq_true rfl⟩) (xp_preVQ (ci := 5) (q0 := 0) hKm hPm (xa_E hDm rfl) rfl rfl rfl hZ) rfl rfl hl.1 rfl (lv_room (Nat.le_of_ble_eq_true rfl)) d_L_law_502 ⟨Nat.le_refl _, Nat.le_refl _⟩) hS (fun q _ h => hF q h) hF (fun r u tJ H1 locs1 htJ _ hp hBJ _ hkJ hS => ?_)
  obtain ⟨rfl, hp⟩ := hp
  have hPc : va_P D zz_cl (xw_C qc ca (nI lm) kf kg (nI (xs_now B0 R0).length) af bf rk rv rm rs (nI R0.length) bp bk bv (xb_i bt) (nI ST.length)) H1 := xl_keep (wc := (xw_M qm cm (nI lm) (nI B0.length) mbk mbv (nI R0.length) mwh mrk mrv mbg (xb_i bt) (nI SM.length) msw msk msv mkp mky mvl)) hPc (xl_sw hdis) hkJ
  obtain ⟨nky2, nvl2⟩ := u
  have hPm : va_P D zz_cl (xw_M qm cm (nI lm) (nI B0.length) mbk mbv (nI R0.length) mwh mrk mrv mbg (xb_i bt) (nI SM.length) msw msk msv (nI (xs_now B0 R0).length) nky2 nvl2) H1 := by rw [← htJ]; exact hBJ
  have hM2 : xm_T nky2 nvl2 (xs_now B0 R0) := hp
  generalize H1 = H at hPc hPm hS ⊢
  generalize locs1 = locs at hS ⊢
  refine lv_icmp_eq (tgt := 510) hx hb d_L_law_505 (by decide) (fun _ => ?_) (fun hne => (hne (rfl)).elim)
  exact kk _ _ hS ⟨B0, R0, bt, ST, SM, kf, kg, af, bf, rk, rv, rm, rs, bp, bk, bv, mbk, mbv, mwh, mrk, mrv, mbg, msw, msk, msv, nI (xs_now B0 R0).length, nky2, nvl2, hPc, hPm, hC, hMT, hok, hst, hsm, hSM⟩
end XO
