/-! Walks: specs_n (printed by run.py) -/
set_option maxHeartbeats 4000000 in
set_option maxRecDepth 100000 in
theorem c_M_replay (l : Launch) (D : va_G) (q : Nat → Nat) (cA : Nat → ClassId) (lim : Int32) (bk : Nat → Int32) (bv : Nat → Int64) (rn : Int32) (wh : Nat → Int32) (rk : Nat → Int32) (rv : Nat → Int64) (bg : Nat → Int32) (bt : Int32) (sc : Int32) (sw : Nat → Int32) (sk : Nat → Int32) (sv : Nat → Int64) (kp : Int32) (ky : Nat → Int32) (vl : Nat → Int64) (sz : Nat) (B0 : List xk_E) (R0 : List xs_R) (n : Nat) (hb0 : xk_tie bk bv B0) (hA0 : xk_asc B0) (hB : B0.length ≤ 60) (hr0 : xm_rt R0 wh rk rv bg) (hR : R0.length ≤ 70) (hw : ∀ r ∈ R0, r.1 ≤ 2) (hn : n ≤ R0.length) (hl65 : ∀ i, i ≤ n → (xs_S B0 R0 i).length ≤ 65) : Met l y_M_replay zw_M_replay ({ frames := 2, cells := 0, slots := 0, locals := 49 } : Room) (va_Pc [.ref (q 0), .int (nI n)] (xp_Q D zz_cl (xw_tM cA) sz (xw_M q cA lim (nI B0.length) bk bv rn wh rk rv bg bt sc sw sk sv kp ky vl))) (va_Qv (fun u : (Nat → Int32) × (Nat → Int64) => xm_T u.1 u.2 (xs_S B0 R0 n)) (fun (u : (Nat → Int32) × (Nat → Int64)) (t : State) => va_P D zz_cl (xw_M q cA lim (nI B0.length) bk bv rn wh rk rv bg bt sc sw sk sv (nI (xs_S B0 R0 n).length) u.1 u.2) t.heap) (va_A (xw_M q cA lim (nI B0.length) bk bv rn wh rk rv bg bt sc sw sk sv kp ky vl) sz)) 0 0 (va_A (xw_M q cA lim (nI B0.length) bk bv rn wh rk rv bg bt sc sw sk sv kp ky vl) sz) := by
  refine Met.ofW (cc := b_M_replay) (maxL := 3) (ret := none) (by decide) rfl ?_
  intro pJ eJ s mJ args below meth cJ s₁ B hml hv
  obtain ⟨rfl, hsz, hP, hK, hD0, hZ⟩ := hv
  have hx := B.exec
  have hb := B.bytes
  have hr := B.returns
  have hts := atoms_spec (ws := zw_M_replay) B.pre
  have hown : s.vm.findClass R_M = some mJ.cls := findClass_of_methodNamed B.named
  have hlocks := B.notSynchronized
  subst hsz
  have hD := hD0.self (sz := s.heap.size)
  generalize hAe : va_A (xw_M q cA lim (nI B0.length) bk bv rn wh rk rv bg bt sc sw sk sv kp ky vl) s.heap.size = A at hD ⊢
  have hA : ∀ q : Nat, s.heap.size ≤ q → A q := fun q h => by rw [← hAe]; exact Or.inr h
  have hS : va_S A s.heap s.heap [] := va_S.rf
  have hl := lv_entry ([.ref (q 0), .int (nI n)]) (n := 3) (Nat.le_of_ble_eq_true rfl)
  rw [lg_entry_eq]
  generalize (lg_sl ([.ref (q 0), .int (nI n)]) ++ List.replicate (3 - (lg_sl ([.ref (q 0), .int (nI n)])).length) Slot.unset).toArray = ls at hl ⊢
  have hl : lv_has ls 3 [(0, .ref (q 0)), (1, .int (nI n))] := hl
  refine lv_aload_n hx hb d_M_replay_0 rfl (lv_at hl 0 rfl) ?_
  refine lv_aload_n hx hb d_M_replay_1 rfl (lv_at hl 0 rfl) ?_
  refine va_get (D := D) (ci := 5) (v := .int (nI B0.length)) (C := R_M) (T := F_M) (N := 17) hx hb hts (zi_M _) hown hK hP 0 rfl rfl 1 (by decide) (hts _ (List.mem_cons_of_mem _ zm_377)) (fun _ h9 => h9) rfl d_M_replay_2 ?_
  refine xa_put (ws' := (xw_M q cA lim (nI B0.length) bk bv rn wh rk rv bg bt sc sw sk sv (nI B0.length) ky vl)) (ci := 5) (v := .int (nI B0.length)) (ty := .int) (C := R_M) (T := F_M) (N := 17) hx hb hts (zi_M _) t_M t_M_ok n_M hown hK hP hD hS 0 rfl rfl 14 (by decide) (hts _ (List.mem_cons_of_mem _ zm_390)) (fun _ h9 => h9) rfl (by decide +kernel) (rfl) (rfl) (Nat.le_of_ble_eq_true rfl) rfl d_M_replay_5 (fun H locs hP hD hS => ?_)
  rw [show ky = xm_cp ky bk 0 from (xm_cp_0 ky bk).symm] at hP hD
  rw [show vl = xm_cp vl bv 0 from (xm_cp_0 vl bv).symm] at hP hD
  refine lv_iconst (v := nI 0) hx hb d_M_replay_8 (by decide +kernel) ?_
  refine lv_istore_n (lv' := [(2, .int (nI 0)), (0, .ref (q 0)), (1, .int (nI n))]) hx hb d_M_replay_9 rfl hl (Nat.le_of_ble_eq_true rfl) rfl (fun ls hl => ?_)
  have lp10 : ∀ (N : Nat) (i : Nat) (ls : Array Slot) (H : Heap) (locs : List Loc), (i ≤ B0.length) → lv_has ls 3 [(0, .ref (q 0)), (1, .int (nI n)), (2, .int (nI i))] → va_P D zz_cl (xw_M q cA lim (nI B0.length) bk bv rn wh rk rv bg bt sc sw sk sv (nI B0.length) (xm_cp ky bk i) (xm_cp vl bv i)) H → va_D A (xw_M q cA lim (nI B0.length) bk bv rn wh rk rv bg bt sc sw sk sv (nI B0.length) (xm_cp ky bk i) (xm_cp vl bv i)) → va_S A s.heap H locs → B0.length - i < N → W pJ l eJ (headSpec zw_M_replay ({ frames := 2, cells := 0, slots := 0, locals := 49 } : Room)).room s mJ ([.ref (q 0), .int (nI n)] : List Value).toArray below meth cJ H locs 0 0 (MQ below (va_Qv (fun u : (Nat → Int32) × (Nat → Int64) => xm_T u.1 u.2 (xs_S B0 R0 n)) (fun (u : (Nat → Int32) × (Nat → Int64)) (t : State) => va_P D zz_cl (xw_M q cA lim (nI B0.length) bk bv rn wh rk rv bg bt sc sw sk sv (nI (xs_S B0 R0 n).length) u.1 u.2) t.heap) A) ([.ref (q 0), .int (nI n)] : List Value).toArray s 0 0 A) (F0 mJ 10 ls []) := by
    intro N
    induction N with
    | zero => intro i ls H locs hi hl hP hD hS hm; exact absurd hm (Nat.not_lt_zero _)
    | succ N ih10 =>
      intro i ls H locs hi hl hP hD hS hm
      refine lv_iload_n hx hb d_M_replay_10 rfl (lv_at hl 2 rfl) ?_
      refine lv_aload_n hx hb d_M_replay_11 rfl (lv_at hl 0 rfl) ?_
      refine va_get (D := D) (ci := 5) (v := .int (nI B0.length)) (C := R_M) (T := F_M) (N := 17) hx hb hts (zi_M _) hown hK hP 0 rfl rfl 1 (by decide) (hts _ (List.mem_cons_of_mem _ zm_377)) (fun _ h9 => h9) rfl d_M_replay_12 ?_
      refine lv_icmp_ge (tgt := 48) hx hb d_M_replay_15 (by decide) (fun hc15 => ?_) (fun hc15 => ?_)
      · skip
        rw [nI_leI (by omega) (by omega)] at hc15
        rw [show nI B0.length = nI (xs_S B0 R0 0).length from by rw [xs_S_0]] at hP hD
        refine lv_iconst (v := nI 0) hx hb d_M_replay_48 (by decide +kernel) ?_
        refine lv_istore_n (lv' := [(2, .int (nI 0)), (0, .ref (q 0)), (1, .int (nI n))]) hx hb d_M_replay_49 rfl hl (Nat.le_of_ble_eq_true rfl) rfl (fun ls hl => ?_)
        have lp50 : ∀ (N : Nat) (j : Nat) (ky1 : Nat → Int32) (vl1 : Nat → Int64) (ls : Array Slot) (H : Heap) (locs : List Loc), (j ≤ n) → (xm_T ky1 vl1 (xs_S B0 R0 j)) → lv_has ls 3 [(0, .ref (q 0)), (1, .int (nI n)), (2, .int (nI j))] → va_P D zz_cl (xw_M q cA lim (nI B0.length) bk bv rn wh rk rv bg bt sc sw sk sv (nI (xs_S B0 R0 j).length) ky1 vl1) H → va_D A (xw_M q cA lim (nI B0.length) bk bv rn wh rk rv bg bt sc sw sk sv (nI (xs_S B0 R0 j).length) ky1 vl1) → va_S A s.heap H locs → n - j < N → W pJ l eJ (headSpec zw_M_replay ({ frames := 2, cells := 0, slots := 0, locals := 49 } : Room)).room s mJ ([.ref (q 0), .int (nI n)] : List Value).toArray below meth cJ H locs 0 0 (MQ below (va_Qv (fun u : (Nat → Int32) × (Nat → Int64) => xm_T u.1 u.2 (xs_S B0 R0 n)) (fun (u : (Nat → Int32) × (Nat → Int64)) (t : State) => va_P D zz_cl (xw_M q cA lim (nI B0.length) bk bv rn wh rk rv bg bt sc sw sk sv (nI (xs_S B0 R0 n).length) u.1 u.2) t.heap) A) ([.ref (q 0), .int (nI n)] : List Value).toArray s 0 0 A) (F0 mJ 50 ls []) := by
          intro N
          induction N with
          | zero => intro j ky1 vl1 ls H locs hj hM1 hl hP hD hS hm; exact absurd hm (Nat.not_lt_zero _)
          | succ N ih50 =>
            intro j ky1 vl1 ls H locs hj hM1 hl hP hD hS hm
            refine lv_iload_n hx hb d_M_replay_50 rfl (lv_at hl 2 rfl) ?_
            refine lv_iload_n hx hb d_M_replay_51 rfl (lv_at hl 1 rfl) ?_
            refine lv_icmp_ge (tgt := 109) hx hb d_M_replay_52 (by decide) (fun hc52 => ?_) (fun hc52 => ?_)
            · skip
              rw [nI_leI (by omega) (by omega)] at hc52
              exact W.vret hx hb hr (fun tJ htJ hWJ => ⟨⟨(ky1, vl1), rfl, by rw [show n = j from by omega]; exact hM1, by dsimp only; rw [htJ]; rw [show n = j from by omega]; exact hP⟩, hS.F htJ⟩) hS.2.2 d_M_replay_109
            · skip
              rw [nI_leI (by omega) (by omega)] at hc52
              obtain ⟨r, hri⟩ : ∃ r, R0[j]? = some r := ⟨_, List.getElem?_eq_getElem (by omega)⟩
              obtain ⟨w1, w2, w3, w4⟩ := hr0 j r hri
              have hr2 := hw r (List.mem_of_getElem? hri)
              have hsx := xs_S_succ (B := B0) hri
              refine lv_aload_n hx hb d_M_replay_55 rfl (lv_at hl 0 rfl) ?_
              refine va_get (D := D) (ci := 5) (v := .ref (q 3)) (C := R_M) (T := F_M) (N := 17) hx hb hts (zi_M _) hown hK hP 0 rfl rfl 5 (by decide) (hts _ (List.mem_cons_of_mem _ zm_381)) (fun _ h9 => h9) rfl d_M_replay_56 ?_
              refine lv_iload_n hx hb d_M_replay_59 rfl (lv_at hl 2 rfl) ?_
              refine xa_iald hx hb hK hP 3 2 rfl rfl (k := j) (by omega) (by decide) d_M_replay_60 ?_
              refine xa_top (y := nI r.1) w1 ?_
              refine lv_if_ne (tgt := 83) hx hb d_M_replay_61 (by decide) (fun hc61 => ?_) (fun hc61 => ?_)
              · skip
                rw [xn_ne0 (by omega)] at hc61
                refine lv_aload_n hx hb d_M_replay_83 rfl (lv_at hl 0 rfl) ?_
                refine va_get (D := D) (ci := 5) (v := .ref (q 3)) (C := R_M) (T := F_M) (N := 17) hx hb hts (zi_M _) hown hK hP 0 rfl rfl 5 (by decide) (hts _ (List.mem_cons_of_mem _ zm_381)) (fun _ h9 => h9) rfl d_M_replay_84 ?_
                refine lv_iload_n hx hb d_M_replay_87 rfl (lv_at hl 2 rfl) ?_
                refine xa_iald hx hb hK hP 3 2 rfl rfl (k := j) (by omega) (by decide) d_M_replay_88 ?_
                refine xa_top (y := nI r.1) w1 ?_
                refine lv_iconst (v := nI 1) hx hb d_M_replay_89 (by decide +kernel) ?_
                refine lv_icmp_ne (tgt := 103) hx hb d_M_replay_90 (by decide) (fun hc90 => ?_) (fun hc90 => ?_)
                · skip
                  rw [nI_eq (by omega) (by omega)] at hc90
                  have hsy : xs_S B0 R0 (j + 1) = xs_S B0 R0 j := by rw [hsx, xs_ap_mark _ (by omega)]
                  rw [show nI (xs_S B0 R0 j).length = nI (xs_S B0 R0 (j + 1)).length from by rw [hsy]] at hP hD
                  refine lv_iinc (k := 2) (v := nI (j + 1)) (lv' := [(2, .int (nI (j + 1))), (0, .ref (q 0)), (1, .int (nI n))]) hx hb d_M_replay_103 hl rfl (xn_inc _) (Nat.le_of_ble_eq_true rfl) rfl (fun ls hl => ?_)
                  refine lv_goto (tgt := 50) hx hb d_M_replay_106 (by decide) ?_
                  exact ih50 (j + 1) ky1 vl1 ls _ _ (by omega) (by first | (rw [hsy]; exact hp77) | (rw [hsy]; exact hp100) | (rw [hsy]; exact hM1)) (lv_sub hl [1, 2, 0] rfl) hP hD hS (by omega)
                · skip
                  rw [nI_eq (by omega) (by omega)] at hc90
                  have hsy : xs_S B0 R0 (j + 1) = xk_rem (xs_S B0 R0 j) r.2.1 := by rw [hsx]; simp [xs_ap, hc90]
                  refine lv_aload_n hx hb d_M_replay_93 rfl (lv_at hl 0 rfl) ?_
                  refine lv_aload_n hx hb d_M_replay_94 rfl (lv_at hl 0 rfl) ?_
                  refine va_get (D := D) (ci := 5) (v := .ref (q 4)) (C := R_M) (T := F_M) (N := 17) hx hb hts (zi_M _) hown hK hP 0 rfl rfl 6 (by decide) (hts _ (List.mem_cons_of_mem _ zm_382)) (fun _ h9 => h9) rfl d_M_replay_95 ?_
                  refine lv_iload_n hx hb d_M_replay_98 rfl (lv_at hl 2 rfl) ?_
                  refine xa_iald hx hb hK hP 4 3 rfl rfl (k := j) (by omega) (by decide) d_M_replay_99 ?_
                  refine xa_top (y := r.2.1) w2 ?_
                  refine xa_cMV (va_runV (As := [.int r.2.1]) (rest := []) ⟨hx, hb, hml, hown, hts⟩ (c_M_remove l D q cA lim (nI B0.length) bk bv rn wh rk rv bg bt sc sw sk sv ky1 vl1 H.size (xs_S B0 R0 j) r.2.1 hM1) (cwV 1 hts (zg_V zm_456 zm_458 zs_16 zm_7 zm_459) rfl rfl rfl (by decide +kernel) ⟨Nat.le_of_ble_eq_true rfl, Nat.le_of_ble_eq_true rfl⟩) (xp_preVQ (ci := 5) (q0 := 0) hK hP hD rfl rfl rfl hZ) rfl rfl hl.1 rfl (lv_room (Nat.le_of_ble_eq_true rfl)) d_M_replay_100 ⟨Nat.zero_le _, Nat.zero_le _⟩) hS (xa_F hD hS hA) (fun u H locs hp100 hP hS => ?_)
                  obtain ⟨ky2_100, vl2_100⟩ := u
                  have hP : va_P D zz_cl (xw_M q cA lim (nI B0.length) bk bv rn wh rk rv bg bt sc sw sk sv (nI (xk_rem (xs_S B0 R0 j) r.2.1).length) ky2_100 vl2_100) H := hP
                  have hD : va_D A (xw_M q cA lim (nI B0.length) bk bv rn wh rk rv bg bt sc sw sk sv (nI (xk_rem (xs_S B0 R0 j) r.2.1).length) ky2_100 vl2_100) := xa_E hD rfl
                  have hp100 : xm_T ky2_100 vl2_100 (xk_rem (xs_S B0 R0 j) r.2.1) := hp100
                  rw [show nI (xk_rem (xs_S B0 R0 j) r.2.1).length = nI (xs_S B0 R0 (j + 1)).length from by rw [hsy]] at hP hD
                  refine lv_iinc (k := 2) (v := nI (j + 1)) (lv' := [(2, .int (nI (j + 1))), (0, .ref (q 0)), (1, .int (nI n))]) hx hb d_M_replay_103 hl rfl (xn_inc _) (Nat.le_of_ble_eq_true rfl) rfl (fun ls hl => ?_)
                  refine lv_goto (tgt := 50) hx hb d_M_replay_106 (by decide) ?_
                  exact ih50 (j + 1) ky2_100 vl2_100 ls _ _ (by omega) (by first | (rw [hsy]; exact hp77) | (rw [hsy]; exact hp100) | (rw [hsy]; exact hM1)) (lv_sub hl [1, 2, 0] rfl) hP hD hS (by omega)
              · skip
                rw [xn_ne0 (by omega)] at hc61
                have hsy : xs_S B0 R0 (j + 1) = xk_set (xs_S B0 R0 j) r.2.1 r.2.2.1 := by rw [hsx]; simp [xs_ap, hc61]
                refine lv_aload_n hx hb d_M_replay_64 rfl (lv_at hl 0 rfl) ?_
                refine lv_aload_n hx hb d_M_replay_65 rfl (lv_at hl 0 rfl) ?_
                refine va_get (D := D) (ci := 5) (v := .ref (q 4)) (C := R_M) (T := F_M) (N := 17) hx hb hts (zi_M _) hown hK hP 0 rfl rfl 6 (by decide) (hts _ (List.mem_cons_of_mem _ zm_382)) (fun _ h9 => h9) rfl d_M_replay_66 ?_
                refine lv_iload_n hx hb d_M_replay_69 rfl (lv_at hl 2 rfl) ?_
                refine xa_iald hx hb hK hP 4 3 rfl rfl (k := j) (by omega) (by decide) d_M_replay_70 ?_
                refine xa_top (y := r.2.1) w2 ?_
                refine lv_aload_n hx hb d_M_replay_71 rfl (lv_at hl 0 rfl) ?_
                refine va_get (D := D) (ci := 5) (v := .ref (q 5)) (C := R_M) (T := F_M) (N := 17) hx hb hts (zi_M _) hown hK hP 0 rfl rfl 7 (by decide) (hts _ (List.mem_cons_of_mem _ zm_383)) (fun _ h9 => h9) rfl d_M_replay_72 ?_
                refine lv_iload_n hx hb d_M_replay_75 rfl (lv_at hl 2 rfl) ?_
                refine xa_lald hx hb hK hP 5 4 rfl rfl (k := j) (by omega) (by decide) d_M_replay_76 ?_
                refine xa_topl (y := r.2.2.1) w3 ?_
                refine xa_cMV (va_runV (As := [.int r.2.1, .long r.2.2.1]) (rest := []) ⟨hx, hb, hml, hown, hts⟩ (c_M_set l D q cA lim (nI B0.length) bk bv rn wh rk rv bg bt sc sw sk sv ky1 vl1 H.size (xs_S B0 R0 j) r.2.1 r.2.2.1 hM1 (by rw [← hsy]; exact hl65 _ (by omega))) (cwV 2 hts (zg_V zm_448 zm_450 zs_14 zm_7 zm_451) rfl rfl rfl (by decide +kernel) ⟨Nat.le_of_ble_eq_true rfl, Nat.le_of_ble_eq_true rfl⟩) (xp_preVQ (ci := 5) (q0 := 0) hK hP hD rfl rfl rfl hZ) rfl rfl hl.1 rfl (lv_room (Nat.le_of_ble_eq_true rfl)) d_M_replay_77 ⟨Nat.zero_le _, Nat.zero_le _⟩) hS (xa_F hD hS hA) (fun u H locs hp77 hP hS => ?_)
                obtain ⟨ky2_77, vl2_77⟩ := u
                have hP : va_P D zz_cl (xw_M q cA lim (nI B0.length) bk bv rn wh rk rv bg bt sc sw sk sv (nI (xk_set (xs_S B0 R0 j) r.2.1 r.2.2.1).length) ky2_77 vl2_77) H := hP
                have hD : va_D A (xw_M q cA lim (nI B0.length) bk bv rn wh rk rv bg bt sc sw sk sv (nI (xk_set (xs_S B0 R0 j) r.2.1 r.2.2.1).length) ky2_77 vl2_77) := xa_E hD rfl
                have hp77 : xm_T ky2_77 vl2_77 (xk_set (xs_S B0 R0 j) r.2.1 r.2.2.1) := hp77
                rw [show nI (xk_set (xs_S B0 R0 j) r.2.1 r.2.2.1).length = nI (xs_S B0 R0 (j + 1)).length from by rw [hsy]] at hP hD
                refine lv_goto (tgt := 103) hx hb d_M_replay_80 (by decide) ?_
                refine lv_iinc (k := 2) (v := nI (j + 1)) (lv' := [(2, .int (nI (j + 1))), (0, .ref (q 0)), (1, .int (nI n))]) hx hb d_M_replay_103 hl rfl (xn_inc _) (Nat.le_of_ble_eq_true rfl) rfl (fun ls hl => ?_)
                refine lv_goto (tgt := 50) hx hb d_M_replay_106 (by decide) ?_
                exact ih50 (j + 1) ky2_77 vl2_77 ls _ _ (by omega) (by first | (rw [hsy]; exact hp77) | (rw [hsy]; exact hp100) | (rw [hsy]; exact hM1)) (lv_sub hl [1, 2, 0] rfl) hP hD hS (by omega)
        exact lp50 _ 0 (xm_cp ky bk i) (xm_cp vl bv i) ls _ _ (Nat.zero_le _) (⟨by rw [xs_S_0]; omega, by rw [xs_S_0]; exact hA0, by rw [xs_S_0]; exact xm_cp_tie hb0 (by omega)⟩) (lv_sub hl [1, 2, 0] rfl) hP hD hS (Nat.lt_succ_self _)
      · skip
        rw [nI_leI (by omega) (by omega)] at hc15
        refine lv_aload_n hx hb d_M_replay_18 rfl (lv_at hl 0 rfl) ?_
        refine va_get (D := D) (ci := 5) (v := .ref (q 10)) (C := R_M) (T := F_M) (N := 17) hx hb hts (zi_M _) hown hK hP 0 rfl rfl 15 (by decide) (hts _ (List.mem_cons_of_mem _ zm_391)) (fun _ h9 => h9) rfl d_M_replay_19 ?_
        refine lv_iload_n hx hb d_M_replay_22 rfl (lv_at hl 2 rfl) ?_
        refine lv_aload_n hx hb d_M_replay_23 rfl (lv_at hl 0 rfl) ?_
        refine va_get (D := D) (ci := 5) (v := .ref (q 1)) (C := R_M) (T := F_M) (N := 17) hx hb hts (zi_M _) hown hK hP 0 rfl rfl 2 (by decide) (hts _ (List.mem_cons_of_mem _ zm_378)) (fun _ h9 => h9) rfl d_M_replay_24 ?_
        refine lv_iload_n hx hb d_M_replay_27 rfl (lv_at hl 2 rfl) ?_
        refine xa_iald hx hb hK hP 1 0 rfl rfl (k := i) (by omega) (by decide) d_M_replay_28 ?_
        refine xa_iast (ws' := (xw_M q cA lim (nI B0.length) bk bv rn wh rk rv bg bt sc sw sk sv (nI B0.length) (upd (xm_cp ky bk i) i (bk i)) (xm_cp vl bv i))) hx hb hK hP hD hS 10 9 rfl rfl (k := i) (by omega) (by decide) rfl d_M_replay_29 (fun H locs hP hD hS => ?_)
        rw [show upd (xm_cp ky bk i) i (bk i) = xm_cp ky bk (i + 1) from xm_cp_up ky bk i] at hP hD
        refine lv_aload_n hx hb d_M_replay_30 rfl (lv_at hl 0 rfl) ?_
        refine va_get (D := D) (ci := 5) (v := .ref (q 11)) (C := R_M) (T := F_M) (N := 17) hx hb hts (zi_M _) hown hK hP 0 rfl rfl 16 (by decide) (hts _ (List.mem_cons_of_mem _ zm_392)) (fun _ h9 => h9) rfl d_M_replay_31 ?_
        refine lv_iload_n hx hb d_M_replay_34 rfl (lv_at hl 2 rfl) ?_
        refine lv_aload_n hx hb d_M_replay_35 rfl (lv_at hl 0 rfl) ?_
        refine va_get (D := D) (ci := 5) (v := .ref (q 2)) (C := R_M) (T := F_M) (N := 17) hx hb hts (zi_M _) hown hK hP 0 rfl rfl 3 (by decide) (hts _ (List.mem_cons_of_mem _ zm_379)) (fun _ h9 => h9) rfl d_M_replay_36 ?_
        refine lv_iload_n hx hb d_M_replay_39 rfl (lv_at hl 2 rfl) ?_
        refine xa_lald hx hb hK hP 2 1 rfl rfl (k := i) (by omega) (by decide) d_M_replay_40 ?_
        refine xa_last (ws' := (xw_M q cA lim (nI B0.length) bk bv rn wh rk rv bg bt sc sw sk sv (nI B0.length) (xm_cp ky bk (i + 1)) (vp_updL (xm_cp vl bv i) i (bv i)))) hx hb hK hP hD hS 11 10 rfl rfl (k := i) (by omega) (by decide) rfl d_M_replay_41 (fun H locs hP hD hS => ?_)
        rw [show vp_updL (xm_cp vl bv i) i (bv i) = xm_cp vl bv (i + 1) from xm_cp_upL vl bv i] at hP hD
        refine lv_iinc (k := 2) (v := nI (i + 1)) (lv' := [(2, .int (nI (i + 1))), (0, .ref (q 0)), (1, .int (nI n))]) hx hb d_M_replay_42 hl rfl (xn_inc _) (Nat.le_of_ble_eq_true rfl) rfl (fun ls hl => ?_)
        refine lv_goto (tgt := 10) hx hb d_M_replay_45 (by decide) ?_
        exact ih10 (i + 1) ls _ _ (by omega) (lv_sub hl [1, 2, 0] rfl) hP hD hS (by omega)
  exact lp10 _ 0 ls _ _ (Nat.zero_le _) (lv_sub hl [1, 2, 0] rfl) hP hD hS (Nat.lt_succ_self _)
set_option maxHeartbeats 4000000 in
set_option maxRecDepth 100000 in
theorem c_M_now (l : Launch) (D : va_G) (q : Nat → Nat) (cA : Nat → ClassId) (lim : Int32) (bk : Nat → Int32) (bv : Nat → Int64) (wh : Nat → Int32) (rk : Nat → Int32) (rv : Nat → Int64) (bg : Nat → Int32) (bt : Int32) (sc : Int32) (sw : Nat → Int32) (sk : Nat → Int32) (sv : Nat → Int64) (kp : Int32) (ky : Nat → Int32) (vl : Nat → Int64) (sz : Nat) (B0 : List xk_E) (R0 : List xs_R) (hb0 : xk_tie bk bv B0) (hA0 : xk_asc B0) (hB : B0.length ≤ 60) (hr0 : xm_rt R0 wh rk rv bg) (hR : R0.length ≤ 70) (hw : ∀ r ∈ R0, r.1 ≤ 2) (hl65 : ∀ i, i ≤ R0.length → (xs_S B0 R0 i).length ≤ 65) : Met l y_M_now zw_M_now ({ frames := 3, cells := 0, slots := 0, locals := 71 } : Room) (va_Pc [.ref (q 0)] (xp_Q D zz_cl (xw_tM cA) sz (xw_M q cA lim (nI B0.length) bk bv (nI R0.length) wh rk rv bg bt sc sw sk sv kp ky vl))) (va_Qv (fun u : (Nat → Int32) × (Nat → Int64) => xm_T u.1 u.2 (xs_now B0 R0)) (fun (u : (Nat → Int32) × (Nat → Int64)) (t : State) => va_P D zz_cl (xw_M q cA lim (nI B0.length) bk bv (nI R0.length) wh rk rv bg bt sc sw sk sv (nI (xs_now B0 R0).length) u.1 u.2) t.heap) (va_A (xw_M q cA lim (nI B0.length) bk bv (nI R0.length) wh rk rv bg bt sc sw sk sv kp ky vl) sz)) 0 0 (va_A (xw_M q cA lim (nI B0.length) bk bv (nI R0.length) wh rk rv bg bt sc sw sk sv kp ky vl) sz) := by
  refine Met.ofW (cc := b_M_now) (maxL := 1) (ret := none) (by decide) rfl ?_
  intro pJ eJ s mJ args below meth cJ s₁ B hml hv
  obtain ⟨rfl, hsz, hP, hK, hD0, hZ⟩ := hv
  have hx := B.exec
  have hb := B.bytes
  have hr := B.returns
  have hts := atoms_spec (ws := zw_M_now) B.pre
  have hown : s.vm.findClass R_M = some mJ.cls := findClass_of_methodNamed B.named
  have hlocks := B.notSynchronized
  subst hsz
  have hD := hD0.self (sz := s.heap.size)
  generalize hAe : va_A (xw_M q cA lim (nI B0.length) bk bv (nI R0.length) wh rk rv bg bt sc sw sk sv kp ky vl) s.heap.size = A at hD ⊢
  have hA : ∀ q : Nat, s.heap.size ≤ q → A q := fun q h => by rw [← hAe]; exact Or.inr h
  have hS : va_S A s.heap s.heap [] := va_S.rf
  have hl := lv_entry ([.ref (q 0)]) (n := 1) (Nat.le_of_ble_eq_true rfl)
  rw [lg_entry_eq]
  generalize (lg_sl ([.ref (q 0)]) ++ List.replicate (1 - (lg_sl ([.ref (q 0)])).length) Slot.unset).toArray = ls at hl ⊢
  have hl : lv_has ls 1 [(0, .ref (q 0))] := hl
  refine lv_aload_n hx hb d_M_now_0 rfl (lv_at hl 0 rfl) ?_
  refine lv_aload_n hx hb d_M_now_1 rfl (lv_at hl 0 rfl) ?_
  refine va_get (D := D) (ci := 5) (v := .int (nI R0.length)) (C := R_M) (T := F_M) (N := 17) hx hb hts (zi_M _) hown hK hP 0 rfl rfl 4 (by decide) (hts _ (List.mem_cons_of_mem _ zm_380)) (fun _ h9 => h9) rfl d_M_now_2 ?_
  refine xa_cMV (va_runV (As := [.int (nI R0.length)]) (rest := []) ⟨hx, hb, hml, hown, hts⟩ (c_M_replay l D q cA lim bk bv (nI R0.length) wh rk rv bg bt sc sw sk sv kp ky vl s.heap.size B0 R0 R0.length hb0 hA0 hB hr0 hR hw (Nat.le_refl _) hl65) (cwV 1 hts (zg_V zm_444 zm_446 zs_13 zm_7 zm_447) rfl rfl rfl (by decide +kernel) ⟨Nat.le_of_ble_eq_true rfl, Nat.le_of_ble_eq_true rfl⟩) (xp_preVQ (ci := 5) (q0 := 0) hK hP hD rfl rfl rfl hZ) rfl rfl hl.1 rfl (lv_room (Nat.le_of_ble_eq_true rfl)) d_M_now_5 ⟨Nat.zero_le _, Nat.zero_le _⟩) hS (xa_F hD hS hA) (fun u H locs hp5 hP hS => ?_)
  obtain ⟨ky2_5, vl2_5⟩ := u
  have hP : va_P D zz_cl (xw_M q cA lim (nI B0.length) bk bv (nI R0.length) wh rk rv bg bt sc sw sk sv (nI (xs_S B0 R0 R0.length).length) ky2_5 vl2_5) H := hP
  have hD : va_D A (xw_M q cA lim (nI B0.length) bk bv (nI R0.length) wh rk rv bg bt sc sw sk sv (nI (xs_S B0 R0 R0.length).length) ky2_5 vl2_5) := xa_E hD rfl
  have hp5 : xm_T ky2_5 vl2_5 (xs_S B0 R0 R0.length) := hp5
  exact W.vret hx hb hr (fun tJ htJ hWJ => ⟨⟨(ky2_5, vl2_5), rfl, hp5, by dsimp only; rw [htJ]; exact hP⟩, hS.F htJ⟩) hS.2.2 d_M_now_8
set_option maxHeartbeats 4000000 in
set_option maxRecDepth 100000 in
theorem c_M_settle (l : Launch) (D : va_G) (q : Nat → Nat) (cA : Nat → ClassId) (lim : Int32) (bk : Nat → Int32) (bv : Nat → Int64) (wh : Nat → Int32) (rk : Nat → Int32) (rv : Nat → Int64) (bg : Nat → Int32) (bt : Int32) (sc : Int32) (sw : Nat → Int32) (sk : Nat → Int32) (sv : Nat → Int64) (kp : Int32) (ky : Nat → Int32) (vl : Nat → Int64) (sz : Nat) (B0 : List xk_E) (R0 : List xs_R) (n : Nat) (hb0 : xk_tie bk bv B0) (hA0 : xk_asc B0) (hB : B0.length ≤ 60) (hr0 : xm_rt R0 wh rk rv bg) (hR : R0.length ≤ 70) (hw : ∀ r ∈ R0, r.1 ≤ 2) (hn : n ≤ R0.length) (hl65 : ∀ i, i ≤ n → (xs_S B0 R0 i).length ≤ 65) (h60 : (xs_S B0 R0 n).length ≤ 60) : Met l y_M_settle zw_M_settle ({ frames := 3, cells := 0, slots := 0, locals := 71 } : Room) (va_Pc [.ref (q 0), .int (nI n)] (xp_Q D zz_cl (xw_tM cA) sz (xw_M q cA lim (nI B0.length) bk bv (nI R0.length) wh rk rv bg bt sc sw sk sv kp ky vl))) (va_Qv (fun u : (Nat → Int32) × (Nat → Int64) × (Nat → Int32) × (Nat → Int64) => xk_tie u.1 u.2.1 (xs_S B0 R0 n)) (fun (u : (Nat → Int32) × (Nat → Int64) × (Nat → Int32) × (Nat → Int64)) (t : State) => va_P D zz_cl (xw_M q cA lim (nI (xs_S B0 R0 n).length) u.1 u.2.1 (nI (R0.length - n)) (xw_mv wh n (R0.length - n)) (xw_mv rk n (R0.length - n)) (xw_mv rv n (R0.length - n)) (xm_mb bg n (R0.length - n)) bt sc sw sk sv (nI (xs_S B0 R0 n).length) u.2.2.1 u.2.2.2) t.heap) (va_A (xw_M q cA lim (nI B0.length) bk bv (nI R0.length) wh rk rv bg bt sc sw sk sv kp ky vl) sz)) 0 0 (va_A (xw_M q cA lim (nI B0.length) bk bv (nI R0.length) wh rk rv bg bt sc sw sk sv kp ky vl) sz) := by
  refine Met.ofW (cc := b_M_settle) (maxL := 3) (ret := none) (by decide) rfl ?_
  intro pJ eJ s mJ args below meth cJ s₁ B hml hv
  obtain ⟨rfl, hsz, hP, hK, hD0, hZ⟩ := hv
  have hx := B.exec
  have hb := B.bytes
  have hr := B.returns
  have hts := atoms_spec (ws := zw_M_settle) B.pre
  have hown : s.vm.findClass R_M = some mJ.cls := findClass_of_methodNamed B.named
  have hlocks := B.notSynchronized
  subst hsz
  have hD := hD0.self (sz := s.heap.size)
  generalize hAe : va_A (xw_M q cA lim (nI B0.length) bk bv (nI R0.length) wh rk rv bg bt sc sw sk sv kp ky vl) s.heap.size = A at hD ⊢
  have hA : ∀ q : Nat, s.heap.size ≤ q → A q := fun q h => by rw [← hAe]; exact Or.inr h
  have hS : va_S A s.heap s.heap [] := va_S.rf
  have hl := lv_entry ([.ref (q 0), .int (nI n)]) (n := 3) (Nat.le_of_ble_eq_true rfl)
  rw [lg_entry_eq]
  generalize (lg_sl ([.ref (q 0), .int (nI n)]) ++ List.replicate (3 - (lg_sl ([.ref (q 0), .int (nI n)])).length) Slot.unset).toArray = ls at hl ⊢
  have hl : lv_has ls 3 [(0, .ref (q 0)), (1, .int (nI n))] := hl
  refine lv_aload_n hx hb d_M_settle_0 rfl (lv_at hl 0 rfl) ?_
  refine lv_iload_n hx hb d_M_settle_1 rfl (lv_at hl 1 rfl) ?_
  refine xa_cMV (va_runV (As := [.int (nI n)]) (rest := []) ⟨hx, hb, hml, hown, hts⟩ (c_M_replay l D q cA lim bk bv (nI R0.length) wh rk rv bg bt sc sw sk sv kp ky vl s.heap.size B0 R0 n hb0 hA0 hB hr0 hR hw hn hl65) (cwV 1 hts (zg_V zm_444 zm_446 zs_13 zm_7 zm_447) rfl rfl rfl (by decide +kernel) ⟨Nat.le_of_ble_eq_true rfl, Nat.le_of_ble_eq_true rfl⟩) (xp_preVQ (ci := 5) (q0 := 0) hK hP hD rfl rfl rfl hZ) rfl rfl hl.1 rfl (lv_room (Nat.le_of_ble_eq_true rfl)) d_M_settle_2 ⟨Nat.zero_le _, Nat.zero_le _⟩) hS (xa_F hD hS hA) (fun u H locs hp2 hP hS => ?_)
  obtain ⟨ky2_2, vl2_2⟩ := u
  have hP : va_P D zz_cl (xw_M q cA lim (nI B0.length) bk bv (nI R0.length) wh rk rv bg bt sc sw sk sv (nI (xs_S B0 R0 n).length) ky2_2 vl2_2) H := hP
  have hD : va_D A (xw_M q cA lim (nI B0.length) bk bv (nI R0.length) wh rk rv bg bt sc sw sk sv (nI (xs_S B0 R0 n).length) ky2_2 vl2_2) := xa_E hD rfl
  have hp2 : xm_T ky2_2 vl2_2 (xs_S B0 R0 n) := hp2
  refine lv_aload_n hx hb d_M_settle_5 rfl (lv_at hl 0 rfl) ?_
  refine lv_aload_n hx hb d_M_settle_6 rfl (lv_at hl 0 rfl) ?_
  refine va_get (D := D) (ci := 5) (v := .int (nI ((xs_S B0 R0 n).length))) (C := R_M) (T := F_M) (N := 17) hx hb hts (zi_M _) hown hK hP 0 rfl rfl 14 (by decide) (hts _ (List.mem_cons_of_mem _ zm_390)) (fun _ h9 => h9) rfl d_M_settle_7 ?_
  refine xa_put (ws' := (xw_M q cA lim (nI ((xs_S B0 R0 n).length)) bk bv (nI R0.length) wh rk rv bg bt sc sw sk sv (nI (xs_S B0 R0 n).length) ky2_2 vl2_2)) (ci := 5) (v := .int (nI ((xs_S B0 R0 n).length))) (ty := .int) (C := R_M) (T := F_M) (N := 17) hx hb hts (zi_M _) t_M t_M_ok n_M hown hK hP hD hS 0 rfl rfl 1 (by decide) (hts _ (List.mem_cons_of_mem _ zm_377)) (fun _ h9 => h9) rfl (by decide +kernel) (rfl) (rfl) (Nat.le_of_ble_eq_true rfl) rfl d_M_settle_10 (fun H locs hP hD hS => ?_)
  rw [show bk = xm_cp bk ky2_2 0 from (xm_cp_0 bk ky2_2).symm] at hP hD
  rw [show bv = xm_cp bv vl2_2 0 from (xm_cp_0 bv vl2_2).symm] at hP hD
  refine lv_iconst (v := nI 0) hx hb d_M_settle_13 (by decide +kernel) ?_
  refine lv_istore_n (lv' := [(2, .int (nI 0)), (0, .ref (q 0)), (1, .int (nI n))]) hx hb d_M_settle_14 rfl hl (Nat.le_of_ble_eq_true rfl) rfl (fun ls hl => ?_)
  have lp15 : ∀ (N : Nat) (i : Nat) (ls : Array Slot) (H : Heap) (locs : List Loc), (i ≤ (xs_S B0 R0 n).length) → lv_has ls 3 [(0, .ref (q 0)), (1, .int (nI n)), (2, .int (nI i))] → va_P D zz_cl (xw_M q cA lim (nI ((xs_S B0 R0 n).length)) (xm_cp bk ky2_2 i) (xm_cp bv vl2_2 i) (nI R0.length) wh rk rv bg bt sc sw sk sv (nI (xs_S B0 R0 n).length) ky2_2 vl2_2) H → va_D A (xw_M q cA lim (nI ((xs_S B0 R0 n).length)) (xm_cp bk ky2_2 i) (xm_cp bv vl2_2 i) (nI R0.length) wh rk rv bg bt sc sw sk sv (nI (xs_S B0 R0 n).length) ky2_2 vl2_2) → va_S A s.heap H locs → (xs_S B0 R0 n).length - i < N → W pJ l eJ (headSpec zw_M_settle ({ frames := 3, cells := 0, slots := 0, locals := 71 } : Room)).room s mJ ([.ref (q 0), .int (nI n)] : List Value).toArray below meth cJ H locs 0 0 (MQ below (va_Qv (fun u : (Nat → Int32) × (Nat → Int64) × (Nat → Int32) × (Nat → Int64) => xk_tie u.1 u.2.1 (xs_S B0 R0 n)) (fun (u : (Nat → Int32) × (Nat → Int64) × (Nat → Int32) × (Nat → Int64)) (t : State) => va_P D zz_cl (xw_M q cA lim (nI (xs_S B0 R0 n).length) u.1 u.2.1 (nI (R0.length - n)) (xw_mv wh n (R0.length - n)) (xw_mv rk n (R0.length - n)) (xw_mv rv n (R0.length - n)) (xm_mb bg n (R0.length - n)) bt sc sw sk sv (nI (xs_S B0 R0 n).length) u.2.2.1 u.2.2.2) t.heap) A) ([.ref (q 0), .int (nI n)] : List Value).toArray s 0 0 A) (F0 mJ 15 ls []) := by
    intro N
    induction N with
    | zero => intro i ls H locs hi hl hP hD hS hm; exact absurd hm (Nat.not_lt_zero _)
    | succ N ih15 =>
      intro i ls H locs hi hl hP hD hS hm
      refine lv_iload_n hx hb d_M_settle_15 rfl (lv_at hl 2 rfl) ?_
      refine lv_aload_n hx hb d_M_settle_16 rfl (lv_at hl 0 rfl) ?_
      refine va_get (D := D) (ci := 5) (v := .int (nI ((xs_S B0 R0 n).length))) (C := R_M) (T := F_M) (N := 17) hx hb hts (zi_M _) hown hK hP 0 rfl rfl 14 (by decide) (hts _ (List.mem_cons_of_mem _ zm_390)) (fun _ h9 => h9) rfl d_M_settle_17 ?_
      refine lv_icmp_ge (tgt := 53) hx hb d_M_settle_20 (by decide) (fun hc20 => ?_) (fun hc20 => ?_)
      · skip
        rw [nI_leI (by omega) (by omega)] at hc20
        rw [show wh = xw_mv wh n (n - n) from by rw [Nat.sub_self, xw_mv_0]] at hP hD
        rw [show rk = xw_mv rk n (n - n) from by rw [Nat.sub_self, xw_mv_0]] at hP hD
        rw [show rv = xw_mv rv n (n - n) from by rw [Nat.sub_self, xw_mv_0]] at hP hD
        rw [show bg = xm_mb bg n (n - n) from by rw [Nat.sub_self, xm_mb_0]] at hP hD
        refine lv_iload_n hx hb d_M_settle_53 rfl (lv_at hl 1 rfl) ?_
        refine lv_istore_n (lv' := [(2, .int (nI n)), (0, .ref (q 0)), (1, .int (nI n))]) hx hb d_M_settle_54 rfl hl (Nat.le_of_ble_eq_true rfl) rfl (fun ls hl => ?_)
        have lp55 : ∀ (N : Nat) (j : Nat) (ls : Array Slot) (H : Heap) (locs : List Loc), (n ≤ j) → (j ≤ R0.length) → lv_has ls 3 [(0, .ref (q 0)), (1, .int (nI n)), (2, .int (nI j))] → va_P D zz_cl (xw_M q cA lim (nI ((xs_S B0 R0 n).length)) (xm_cp bk ky2_2 i) (xm_cp bv vl2_2 i) (nI R0.length) (xw_mv wh n (j - n)) (xw_mv rk n (j - n)) (xw_mv rv n (j - n)) (xm_mb bg n (j - n)) bt sc sw sk sv (nI (xs_S B0 R0 n).length) ky2_2 vl2_2) H → va_D A (xw_M q cA lim (nI ((xs_S B0 R0 n).length)) (xm_cp bk ky2_2 i) (xm_cp bv vl2_2 i) (nI R0.length) (xw_mv wh n (j - n)) (xw_mv rk n (j - n)) (xw_mv rv n (j - n)) (xm_mb bg n (j - n)) bt sc sw sk sv (nI (xs_S B0 R0 n).length) ky2_2 vl2_2) → va_S A s.heap H locs → R0.length - j < N → W pJ l eJ (headSpec zw_M_settle ({ frames := 3, cells := 0, slots := 0, locals := 71 } : Room)).room s mJ ([.ref (q 0), .int (nI n)] : List Value).toArray below meth cJ H locs 0 0 (MQ below (va_Qv (fun u : (Nat → Int32) × (Nat → Int64) × (Nat → Int32) × (Nat → Int64) => xk_tie u.1 u.2.1 (xs_S B0 R0 n)) (fun (u : (Nat → Int32) × (Nat → Int64) × (Nat → Int32) × (Nat → Int64)) (t : State) => va_P D zz_cl (xw_M q cA lim (nI (xs_S B0 R0 n).length) u.1 u.2.1 (nI (R0.length - n)) (xw_mv wh n (R0.length - n)) (xw_mv rk n (R0.length - n)) (xw_mv rv n (R0.length - n)) (xm_mb bg n (R0.length - n)) bt sc sw sk sv (nI (xs_S B0 R0 n).length) u.2.2.1 u.2.2.2) t.heap) A) ([.ref (q 0), .int (nI n)] : List Value).toArray s 0 0 A) (F0 mJ 55 ls []) := by
          intro N
          induction N with
          | zero => intro j ls H locs hnj hjR hl hP hD hS hm; exact absurd hm (Nat.not_lt_zero _)
          | succ N ih55 =>
            intro j ls H locs hnj hjR hl hP hD hS hm
            refine lv_iload_n hx hb d_M_settle_55 rfl (lv_at hl 2 rfl) ?_
            refine lv_aload_n hx hb d_M_settle_56 rfl (lv_at hl 0 rfl) ?_
            refine va_get (D := D) (ci := 5) (v := .int (nI R0.length)) (C := R_M) (T := F_M) (N := 17) hx hb hts (zi_M _) hown hK hP 0 rfl rfl 4 (by decide) (hts _ (List.mem_cons_of_mem _ zm_380)) (fun _ h9 => h9) rfl d_M_settle_57 ?_
            refine lv_icmp_ge (tgt := 127) hx hb d_M_settle_60 (by decide) (fun hc60 => ?_) (fun hc60 => ?_)
            · skip
              rw [nI_leI (by omega) (by omega)] at hc60
              rw [show xw_mv wh n (j - n) = xw_mv wh n (R0.length - n) from by rw [show j = R0.length from by omega]] at hP hD
              rw [show xw_mv rk n (j - n) = xw_mv rk n (R0.length - n) from by rw [show j = R0.length from by omega]] at hP hD
              rw [show xw_mv rv n (j - n) = xw_mv rv n (R0.length - n) from by rw [show j = R0.length from by omega]] at hP hD
              rw [show xm_mb bg n (j - n) = xm_mb bg n (R0.length - n) from by rw [show j = R0.length from by omega]] at hP hD
              refine lv_aload_n hx hb d_M_settle_127 rfl (lv_at hl 0 rfl) ?_
              refine lv_aload_n hx hb d_M_settle_128 rfl (lv_at hl 0 rfl) ?_
              refine va_get (D := D) (ci := 5) (v := .int (nI R0.length)) (C := R_M) (T := F_M) (N := 17) hx hb hts (zi_M _) hown hK hP 0 rfl rfl 4 (by decide) (hts _ (List.mem_cons_of_mem _ zm_380)) (fun _ h9 => h9) rfl d_M_settle_129 ?_
              refine lv_iload_n hx hb d_M_settle_132 rfl (lv_at hl 1 rfl) ?_
              refine lv_isub hx hb d_M_settle_133 ?_
              refine xa_top (y := nI (R0.length - n)) (pk_sub (by omega)) ?_
              refine xa_put (ws' := (xw_M q cA lim (nI ((xs_S B0 R0 n).length)) (xm_cp bk ky2_2 i) (xm_cp bv vl2_2 i) (nI (R0.length - n)) (xw_mv wh n (R0.length - n)) (xw_mv rk n (R0.length - n)) (xw_mv rv n (R0.length - n)) (xm_mb bg n (R0.length - n)) bt sc sw sk sv (nI (xs_S B0 R0 n).length) ky2_2 vl2_2)) (ci := 5) (v := .int (nI (R0.length - n))) (ty := .int) (C := R_M) (T := F_M) (N := 17) hx hb hts (zi_M _) t_M t_M_ok n_M hown hK hP hD hS 0 rfl rfl 4 (by decide) (hts _ (List.mem_cons_of_mem _ zm_380)) (fun _ h9 => h9) rfl (by decide +kernel) (rfl) (rfl) (Nat.le_of_ble_eq_true rfl) rfl d_M_settle_134 (fun H locs hP hD hS => ?_)
              exact W.vret hx hb hr (fun tJ htJ hWJ => ⟨⟨(xm_cp bk ky2_2 i, xm_cp bv vl2_2 i, ky2_2, vl2_2), rfl, xm_cp_tie hp2.2.2 (by omega), by dsimp only; rw [htJ]; exact hP⟩, hS.F htJ⟩) hS.2.2 d_M_settle_137
            · skip
              rw [nI_leI (by omega) (by omega)] at hc60
              refine lv_aload_n hx hb d_M_settle_63 rfl (lv_at hl 0 rfl) ?_
              refine va_get (D := D) (ci := 5) (v := .ref (q 3)) (C := R_M) (T := F_M) (N := 17) hx hb hts (zi_M _) hown hK hP 0 rfl rfl 5 (by decide) (hts _ (List.mem_cons_of_mem _ zm_381)) (fun _ h9 => h9) rfl d_M_settle_64 ?_
              refine lv_iload_n hx hb d_M_settle_67 rfl (lv_at hl 2 rfl) ?_
              refine lv_iload_n hx hb d_M_settle_68 rfl (lv_at hl 1 rfl) ?_
              refine lv_isub hx hb d_M_settle_69 ?_
              refine xa_top (y := nI (j - n)) (pk_sub (by omega)) ?_
              refine lv_aload_n hx hb d_M_settle_70 rfl (lv_at hl 0 rfl) ?_
              refine va_get (D := D) (ci := 5) (v := .ref (q 3)) (C := R_M) (T := F_M) (N := 17) hx hb hts (zi_M _) hown hK hP 0 rfl rfl 5 (by decide) (hts _ (List.mem_cons_of_mem _ zm_381)) (fun _ h9 => h9) rfl d_M_settle_71 ?_
              refine lv_iload_n hx hb d_M_settle_74 rfl (lv_at hl 2 rfl) ?_
              refine xa_iald hx hb hK hP 3 2 rfl rfl (k := j) (by omega) (by decide) d_M_settle_75 ?_
              refine xa_top (y := wh j) (xm_mvj wh hnj) ?_
              refine xa_iast (ws' := (xw_M q cA lim (nI ((xs_S B0 R0 n).length)) (xm_cp bk ky2_2 i) (xm_cp bv vl2_2 i) (nI R0.length) (upd (xw_mv wh n (j - n)) (j - n) (wh j)) (xw_mv rk n (j - n)) (xw_mv rv n (j - n)) (xm_mb bg n (j - n)) bt sc sw sk sv (nI (xs_S B0 R0 n).length) ky2_2 vl2_2)) hx hb hK hP hD hS 3 2 rfl rfl (k := j - n) (by omega) (by decide) rfl d_M_settle_76 (fun H locs hP hD hS => ?_)
              rw [show upd (xw_mv wh n (j - n)) (j - n) (wh j) = xw_mv wh n (j + 1 - n) from xm_mvu wh hnj] at hP hD
              refine lv_aload_n hx hb d_M_settle_77 rfl (lv_at hl 0 rfl) ?_
              refine va_get (D := D) (ci := 5) (v := .ref (q 4)) (C := R_M) (T := F_M) (N := 17) hx hb hts (zi_M _) hown hK hP 0 rfl rfl 6 (by decide) (hts _ (List.mem_cons_of_mem _ zm_382)) (fun _ h9 => h9) rfl d_M_settle_78 ?_
              refine lv_iload_n hx hb d_M_settle_81 rfl (lv_at hl 2 rfl) ?_
              refine lv_iload_n hx hb d_M_settle_82 rfl (lv_at hl 1 rfl) ?_
              refine lv_isub hx hb d_M_settle_83 ?_
              refine xa_top (y := nI (j - n)) (pk_sub (by omega)) ?_
              refine lv_aload_n hx hb d_M_settle_84 rfl (lv_at hl 0 rfl) ?_
              refine va_get (D := D) (ci := 5) (v := .ref (q 4)) (C := R_M) (T := F_M) (N := 17) hx hb hts (zi_M _) hown hK hP 0 rfl rfl 6 (by decide) (hts _ (List.mem_cons_of_mem _ zm_382)) (fun _ h9 => h9) rfl d_M_settle_85 ?_
              refine lv_iload_n hx hb d_M_settle_88 rfl (lv_at hl 2 rfl) ?_
              refine xa_iald hx hb hK hP 4 3 rfl rfl (k := j) (by omega) (by decide) d_M_settle_89 ?_
              refine xa_top (y := rk j) (xm_mvj rk hnj) ?_
              refine xa_iast (ws' := (xw_M q cA lim (nI ((xs_S B0 R0 n).length)) (xm_cp bk ky2_2 i) (xm_cp bv vl2_2 i) (nI R0.length) (xw_mv wh n (j + 1 - n)) (upd (xw_mv rk n (j - n)) (j - n) (rk j)) (xw_mv rv n (j - n)) (xm_mb bg n (j - n)) bt sc sw sk sv (nI (xs_S B0 R0 n).length) ky2_2 vl2_2)) hx hb hK hP hD hS 4 3 rfl rfl (k := j - n) (by omega) (by decide) rfl d_M_settle_90 (fun H locs hP hD hS => ?_)
              rw [show upd (xw_mv rk n (j - n)) (j - n) (rk j) = xw_mv rk n (j + 1 - n) from xm_mvu rk hnj] at hP hD
              refine lv_aload_n hx hb d_M_settle_91 rfl (lv_at hl 0 rfl) ?_
              refine va_get (D := D) (ci := 5) (v := .ref (q 5)) (C := R_M) (T := F_M) (N := 17) hx hb hts (zi_M _) hown hK hP 0 rfl rfl 7 (by decide) (hts _ (List.mem_cons_of_mem _ zm_383)) (fun _ h9 => h9) rfl d_M_settle_92 ?_
              refine lv_iload_n hx hb d_M_settle_95 rfl (lv_at hl 2 rfl) ?_
              refine lv_iload_n hx hb d_M_settle_96 rfl (lv_at hl 1 rfl) ?_
              refine lv_isub hx hb d_M_settle_97 ?_
              refine xa_top (y := nI (j - n)) (pk_sub (by omega)) ?_
              refine lv_aload_n hx hb d_M_settle_98 rfl (lv_at hl 0 rfl) ?_
              refine va_get (D := D) (ci := 5) (v := .ref (q 5)) (C := R_M) (T := F_M) (N := 17) hx hb hts (zi_M _) hown hK hP 0 rfl rfl 7 (by decide) (hts _ (List.mem_cons_of_mem _ zm_383)) (fun _ h9 => h9) rfl d_M_settle_99 ?_
              refine lv_iload_n hx hb d_M_settle_102 rfl (lv_at hl 2 rfl) ?_
              refine xa_lald hx hb hK hP 5 4 rfl rfl (k := j) (by omega) (by decide) d_M_settle_103 ?_
              refine xa_topl (y := rv j) (xm_mvj rv hnj) ?_
              refine xa_last (ws' := (xw_M q cA lim (nI ((xs_S B0 R0 n).length)) (xm_cp bk ky2_2 i) (xm_cp bv vl2_2 i) (nI R0.length) (xw_mv wh n (j + 1 - n)) (xw_mv rk n (j + 1 - n)) (vp_updL (xw_mv rv n (j - n)) (j - n) (rv j)) (xm_mb bg n (j - n)) bt sc sw sk sv (nI (xs_S B0 R0 n).length) ky2_2 vl2_2)) hx hb hK hP hD hS 5 4 rfl rfl (k := j - n) (by omega) (by decide) rfl d_M_settle_104 (fun H locs hP hD hS => ?_)
              rw [show vp_updL (xw_mv rv n (j - n)) (j - n) (rv j) = xw_mv rv n (j + 1 - n) from xm_mvuL rv hnj] at hP hD
              refine lv_aload_n hx hb d_M_settle_105 rfl (lv_at hl 0 rfl) ?_
              refine va_get (D := D) (ci := 5) (v := .ref (q 6)) (C := R_M) (T := F_M) (N := 17) hx hb hts (zi_M _) hown hK hP 0 rfl rfl 8 (by decide) (hts _ (List.mem_cons_of_mem _ zm_384)) (fun _ h9 => h9) rfl d_M_settle_106 ?_
              refine lv_iload_n hx hb d_M_settle_109 rfl (lv_at hl 2 rfl) ?_
              refine lv_iload_n hx hb d_M_settle_110 rfl (lv_at hl 1 rfl) ?_
              refine lv_isub hx hb d_M_settle_111 ?_
              refine xa_top (y := nI (j - n)) (pk_sub (by omega)) ?_
              refine lv_aload_n hx hb d_M_settle_112 rfl (lv_at hl 0 rfl) ?_
              refine va_get (D := D) (ci := 5) (v := .ref (q 6)) (C := R_M) (T := F_M) (N := 17) hx hb hts (zi_M _) hown hK hP 0 rfl rfl 8 (by decide) (hts _ (List.mem_cons_of_mem _ zm_384)) (fun _ h9 => h9) rfl d_M_settle_113 ?_
              refine lv_iload_n hx hb d_M_settle_116 rfl (lv_at hl 2 rfl) ?_
              refine xa_iald hx hb hK hP 6 5 rfl rfl (k := j) (by omega) (by decide) d_M_settle_117 ?_
              refine xa_top (y := bg j) (xm_mbj bg hnj) ?_
              refine lv_iload_n hx hb d_M_settle_118 rfl (lv_at hl 1 rfl) ?_
              refine lv_isub hx hb d_M_settle_119 ?_
              refine xa_iast (ws' := (xw_M q cA lim (nI ((xs_S B0 R0 n).length)) (xm_cp bk ky2_2 i) (xm_cp bv vl2_2 i) (nI R0.length) (xw_mv wh n (j + 1 - n)) (xw_mv rk n (j + 1 - n)) (xw_mv rv n (j + 1 - n)) (upd (xm_mb bg n (j - n)) (j - n) ((bg j) - (nI n))) bt sc sw sk sv (nI (xs_S B0 R0 n).length) ky2_2 vl2_2)) hx hb hK hP hD hS 6 5 rfl rfl (k := j - n) (by omega) (by decide) rfl d_M_settle_120 (fun H locs hP hD hS => ?_)
              rw [show upd (xm_mb bg n (j - n)) (j - n) ((bg j) - (nI n)) = xm_mb bg n (j + 1 - n) from xm_mbu bg hnj] at hP hD
              refine lv_iinc (k := 2) (v := nI (j + 1)) (lv' := [(2, .int (nI (j + 1))), (0, .ref (q 0)), (1, .int (nI n))]) hx hb d_M_settle_121 hl rfl (xn_inc _) (Nat.le_of_ble_eq_true rfl) rfl (fun ls hl => ?_)
              refine lv_goto (tgt := 55) hx hb d_M_settle_124 (by decide) ?_
              exact ih55 (j + 1) ls _ _ (by omega) (by omega) (lv_sub hl [1, 2, 0] rfl) hP hD hS (by omega)
        exact lp55 _ n ls _ _ (Nat.le_refl _) hn (lv_sub hl [1, 2, 0] rfl) hP hD hS (Nat.lt_succ_self _)
      · skip
        rw [nI_leI (by omega) (by omega)] at hc20
        refine lv_aload_n hx hb d_M_settle_23 rfl (lv_at hl 0 rfl) ?_
        refine va_get (D := D) (ci := 5) (v := .ref (q 1)) (C := R_M) (T := F_M) (N := 17) hx hb hts (zi_M _) hown hK hP 0 rfl rfl 2 (by decide) (hts _ (List.mem_cons_of_mem _ zm_378)) (fun _ h9 => h9) rfl d_M_settle_24 ?_
        refine lv_iload_n hx hb d_M_settle_27 rfl (lv_at hl 2 rfl) ?_
        refine lv_aload_n hx hb d_M_settle_28 rfl (lv_at hl 0 rfl) ?_
        refine va_get (D := D) (ci := 5) (v := .ref (q 10)) (C := R_M) (T := F_M) (N := 17) hx hb hts (zi_M _) hown hK hP 0 rfl rfl 15 (by decide) (hts _ (List.mem_cons_of_mem _ zm_391)) (fun _ h9 => h9) rfl d_M_settle_29 ?_
        refine lv_iload_n hx hb d_M_settle_32 rfl (lv_at hl 2 rfl) ?_
        refine xa_iald hx hb hK hP 10 9 rfl rfl (k := i) (by omega) (by decide) d_M_settle_33 ?_
        refine xa_iast (ws' := (xw_M q cA lim (nI ((xs_S B0 R0 n).length)) (upd (xm_cp bk ky2_2 i) i (ky2_2 i)) (xm_cp bv vl2_2 i) (nI R0.length) wh rk rv bg bt sc sw sk sv (nI (xs_S B0 R0 n).length) ky2_2 vl2_2)) hx hb hK hP hD hS 1 0 rfl rfl (k := i) (by omega) (by decide) rfl d_M_settle_34 (fun H locs hP hD hS => ?_)
        rw [show upd (xm_cp bk ky2_2 i) i (ky2_2 i) = xm_cp bk ky2_2 (i + 1) from xm_cp_up bk ky2_2 i] at hP hD
        refine lv_aload_n hx hb d_M_settle_35 rfl (lv_at hl 0 rfl) ?_
        refine va_get (D := D) (ci := 5) (v := .ref (q 2)) (C := R_M) (T := F_M) (N := 17) hx hb hts (zi_M _) hown hK hP 0 rfl rfl 3 (by decide) (hts _ (List.mem_cons_of_mem _ zm_379)) (fun _ h9 => h9) rfl d_M_settle_36 ?_
        refine lv_iload_n hx hb d_M_settle_39 rfl (lv_at hl 2 rfl) ?_
        refine lv_aload_n hx hb d_M_settle_40 rfl (lv_at hl 0 rfl) ?_
        refine va_get (D := D) (ci := 5) (v := .ref (q 11)) (C := R_M) (T := F_M) (N := 17) hx hb hts (zi_M _) hown hK hP 0 rfl rfl 16 (by decide) (hts _ (List.mem_cons_of_mem _ zm_392)) (fun _ h9 => h9) rfl d_M_settle_41 ?_
        refine lv_iload_n hx hb d_M_settle_44 rfl (lv_at hl 2 rfl) ?_
        refine xa_lald hx hb hK hP 11 10 rfl rfl (k := i) (by omega) (by decide) d_M_settle_45 ?_
        refine xa_last (ws' := (xw_M q cA lim (nI ((xs_S B0 R0 n).length)) (xm_cp bk ky2_2 (i + 1)) (vp_updL (xm_cp bv vl2_2 i) i (vl2_2 i)) (nI R0.length) wh rk rv bg bt sc sw sk sv (nI (xs_S B0 R0 n).length) ky2_2 vl2_2)) hx hb hK hP hD hS 2 1 rfl rfl (k := i) (by omega) (by decide) rfl d_M_settle_46 (fun H locs hP hD hS => ?_)
        rw [show vp_updL (xm_cp bv vl2_2 i) i (vl2_2 i) = xm_cp bv vl2_2 (i + 1) from xm_cp_upL bv vl2_2 i] at hP hD
        refine lv_iinc (k := 2) (v := nI (i + 1)) (lv' := [(2, .int (nI (i + 1))), (0, .ref (q 0)), (1, .int (nI n))]) hx hb d_M_settle_47 hl rfl (xn_inc _) (Nat.le_of_ble_eq_true rfl) rfl (fun ls hl => ?_)
        refine lv_goto (tgt := 15) hx hb d_M_settle_50 (by decide) ?_
        exact ih15 (i + 1) ls _ _ (by omega) (lv_sub hl [1, 2, 0] rfl) hP hD hS (by omega)
  exact lp15 _ 0 ls _ _ (Nat.zero_le _) (lv_sub hl [1, 2, 0] rfl) hP hD hS (Nat.lt_succ_self _)
set_option maxHeartbeats 4000000 in
set_option maxRecDepth 100000 in
theorem c_M_write (l : Launch) (D : va_G) (q : Nat → Nat) (cA : Nat → ClassId) (lim : Int32) (bs : Int32) (bk : Nat → Int32) (bv : Nat → Int64) (wh : Nat → Int32) (rk : Nat → Int32) (rv : Nat → Int64) (bg : Nat → Int32) (bt : Int32) (sc : Int32) (sw : Nat → Int32) (sk : Nat → Int32) (sv : Nat → Int64) (kp : Int32) (ky : Nat → Int32) (vl : Nat → Int64) (sz : Nat) (n : Nat) (a : Int32) (k : Int32) (v : Int64) (f : Int32) (hn : n < 70) : Met l y_M_write zw_M_write ({ frames := 0, cells := 0, slots := 0, locals := 0 } : Room) (va_Pc [.ref (q 0), .int a, .int k, .long v, .int f] (xp_Q D zz_cl (xw_tM cA) sz (xw_M q cA lim bs bk bv (nI n) wh rk rv bg bt sc sw sk sv kp ky vl))) (va_Qv (fun u : Unit => True) (fun (u : Unit) (t : State) => va_P D zz_cl (xw_M q cA lim bs bk bv (nI (n + 1)) (upd wh n a) (upd rk n k) (vp_updL rv n v) (upd bg n f) bt sc sw sk sv kp ky vl) t.heap) (va_A (xw_M q cA lim bs bk bv (nI n) wh rk rv bg bt sc sw sk sv kp ky vl) sz)) 0 0 (va_A (xw_M q cA lim bs bk bv (nI n) wh rk rv bg bt sc sw sk sv kp ky vl) sz) := by
  refine Met.ofW (cc := b_M_write) (maxL := 6) (ret := none) (by decide) rfl ?_
  intro pJ eJ s mJ args below meth cJ s₁ B hml hv
  obtain ⟨rfl, hsz, hP, hK, hD0, hZ⟩ := hv
  have hx := B.exec
  have hb := B.bytes
  have hr := B.returns
  have hts := atoms_spec (ws := zw_M_write) B.pre
  have hown : s.vm.findClass R_M = some mJ.cls := findClass_of_methodNamed B.named
  have hlocks := B.notSynchronized
  subst hsz
  have hD := hD0.self (sz := s.heap.size)
  generalize hAe : va_A (xw_M q cA lim bs bk bv (nI n) wh rk rv bg bt sc sw sk sv kp ky vl) s.heap.size = A at hD ⊢
  have hA : ∀ q : Nat, s.heap.size ≤ q → A q := fun q h => by rw [← hAe]; exact Or.inr h
  have hS : va_S A s.heap s.heap [] := va_S.rf
  have hl := lv_entry ([.ref (q 0), .int a, .int k, .long v, .int f]) (n := 6) (Nat.le_of_ble_eq_true rfl)
  rw [lg_entry_eq]
  generalize (lg_sl ([.ref (q 0), .int a, .int k, .long v, .int f]) ++ List.replicate (6 - (lg_sl ([.ref (q 0), .int a, .int k, .long v, .int f])).length) Slot.unset).toArray = ls at hl ⊢
  have hl : lv_has ls 6 [(0, .ref (q 0)), (1, .int a), (2, .int k), (3, .long v), (5, .int f)] := hl
  refine lv_aload_n hx hb d_M_write_0 rfl (lv_at hl 0 rfl) ?_
  refine va_get (D := D) (ci := 5) (v := .ref (q 3)) (C := R_M) (T := F_M) (N := 17) hx hb hts (zi_M _) hown hK hP 0 rfl rfl 5 (by decide) (hts _ (List.mem_cons_of_mem _ zm_381)) (fun _ h9 => h9) rfl d_M_write_1 ?_
  refine lv_aload_n hx hb d_M_write_4 rfl (lv_at hl 0 rfl) ?_
  refine va_get (D := D) (ci := 5) (v := .int (nI n)) (C := R_M) (T := F_M) (N := 17) hx hb hts (zi_M _) hown hK hP 0 rfl rfl 4 (by decide) (hts _ (List.mem_cons_of_mem _ zm_380)) (fun _ h9 => h9) rfl d_M_write_5 ?_
  refine lv_iload_n hx hb d_M_write_8 rfl (lv_at hl 1 rfl) ?_
  refine xa_iast (ws' := (xw_M q cA lim bs bk bv (nI n) (upd wh n a) rk rv bg bt sc sw sk sv kp ky vl)) hx hb hK hP hD hS 3 2 rfl rfl (k := n) (by omega) (by decide) rfl d_M_write_9 (fun H locs hP hD hS => ?_)
  refine lv_aload_n hx hb d_M_write_10 rfl (lv_at hl 0 rfl) ?_
  refine va_get (D := D) (ci := 5) (v := .ref (q 4)) (C := R_M) (T := F_M) (N := 17) hx hb hts (zi_M _) hown hK hP 0 rfl rfl 6 (by decide) (hts _ (List.mem_cons_of_mem _ zm_382)) (fun _ h9 => h9) rfl d_M_write_11 ?_
  refine lv_aload_n hx hb d_M_write_14 rfl (lv_at hl 0 rfl) ?_
  refine va_get (D := D) (ci := 5) (v := .int (nI n)) (C := R_M) (T := F_M) (N := 17) hx hb hts (zi_M _) hown hK hP 0 rfl rfl 4 (by decide) (hts _ (List.mem_cons_of_mem _ zm_380)) (fun _ h9 => h9) rfl d_M_write_15 ?_
  refine lv_iload_n hx hb d_M_write_18 rfl (lv_at hl 2 rfl) ?_
  refine xa_iast (ws' := (xw_M q cA lim bs bk bv (nI n) (upd wh n a) (upd rk n k) rv bg bt sc sw sk sv kp ky vl)) hx hb hK hP hD hS 4 3 rfl rfl (k := n) (by omega) (by decide) rfl d_M_write_19 (fun H locs hP hD hS => ?_)
  refine lv_aload_n hx hb d_M_write_20 rfl (lv_at hl 0 rfl) ?_
  refine va_get (D := D) (ci := 5) (v := .ref (q 5)) (C := R_M) (T := F_M) (N := 17) hx hb hts (zi_M _) hown hK hP 0 rfl rfl 7 (by decide) (hts _ (List.mem_cons_of_mem _ zm_383)) (fun _ h9 => h9) rfl d_M_write_21 ?_
  refine lv_aload_n hx hb d_M_write_24 rfl (lv_at hl 0 rfl) ?_
  refine va_get (D := D) (ci := 5) (v := .int (nI n)) (C := R_M) (T := F_M) (N := 17) hx hb hts (zi_M _) hown hK hP 0 rfl rfl 4 (by decide) (hts _ (List.mem_cons_of_mem _ zm_380)) (fun _ h9 => h9) rfl d_M_write_25 ?_
  refine lv_lload_n hx hb d_M_write_28 rfl (lv_at hl 3 rfl) ?_
  refine xa_last (ws' := (xw_M q cA lim bs bk bv (nI n) (upd wh n a) (upd rk n k) (vp_updL rv n v) bg bt sc sw sk sv kp ky vl)) hx hb hK hP hD hS 5 4 rfl rfl (k := n) (by omega) (by decide) rfl d_M_write_29 (fun H locs hP hD hS => ?_)
  refine lv_aload_n hx hb d_M_write_30 rfl (lv_at hl 0 rfl) ?_
  refine va_get (D := D) (ci := 5) (v := .ref (q 6)) (C := R_M) (T := F_M) (N := 17) hx hb hts (zi_M _) hown hK hP 0 rfl rfl 8 (by decide) (hts _ (List.mem_cons_of_mem _ zm_384)) (fun _ h9 => h9) rfl d_M_write_31 ?_
  refine lv_aload_n hx hb d_M_write_34 rfl (lv_at hl 0 rfl) ?_
  refine va_get (D := D) (ci := 5) (v := .int (nI n)) (C := R_M) (T := F_M) (N := 17) hx hb hts (zi_M _) hown hK hP 0 rfl rfl 4 (by decide) (hts _ (List.mem_cons_of_mem _ zm_380)) (fun _ h9 => h9) rfl d_M_write_35 ?_
  refine lv_iload hx hb d_M_write_38 (lv_at hl 4 rfl) ?_
  refine xa_iast (ws' := (xw_M q cA lim bs bk bv (nI n) (upd wh n a) (upd rk n k) (vp_updL rv n v) (upd bg n f) bt sc sw sk sv kp ky vl)) hx hb hK hP hD hS 6 5 rfl rfl (k := n) (by omega) (by decide) rfl d_M_write_40 (fun H locs hP hD hS => ?_)
  refine lv_aload_n hx hb d_M_write_41 rfl (lv_at hl 0 rfl) ?_
  refine lv_aload_n hx hb d_M_write_42 rfl (lv_at hl 0 rfl) ?_
  refine va_get (D := D) (ci := 5) (v := .int (nI n)) (C := R_M) (T := F_M) (N := 17) hx hb hts (zi_M _) hown hK hP 0 rfl rfl 4 (by decide) (hts _ (List.mem_cons_of_mem _ zm_380)) (fun _ h9 => h9) rfl d_M_write_43 ?_
  refine lv_iconst (v := nI 1) hx hb d_M_write_46 (by decide +kernel) ?_
  refine lv_iadd hx hb d_M_write_47 ?_
  refine xa_top (y := nI (n + 1)) (nI_add _ _) ?_
  refine xa_put (ws' := (xw_M q cA lim bs bk bv (nI (n + 1)) (upd wh n a) (upd rk n k) (vp_updL rv n v) (upd bg n f) bt sc sw sk sv kp ky vl)) (ci := 5) (v := .int (nI (n + 1))) (ty := .int) (C := R_M) (T := F_M) (N := 17) hx hb hts (zi_M _) t_M t_M_ok n_M hown hK hP hD hS 0 rfl rfl 4 (by decide) (hts _ (List.mem_cons_of_mem _ zm_380)) (fun _ h9 => h9) rfl (by decide +kernel) (rfl) (rfl) (Nat.le_of_ble_eq_true rfl) rfl d_M_write_48 (fun H locs hP hD hS => ?_)
  exact W.vret hx hb hr (fun tJ htJ hWJ => ⟨⟨(), rfl, trivial, by dsimp only; rw [htJ]; exact hP⟩, hS.F htJ⟩) hS.2.2 d_M_write_51
set_option maxHeartbeats 4000000 in
set_option maxRecDepth 100000 in
theorem c_M_step (l : Launch) (D : va_G) (q : Nat → Nat) (cA : Nat → ClassId) (lim : Int32) (bs : Int32) (bk : Nat → Int32) (bv : Nat → Int64) (rn : Int32) (wh : Nat → Int32) (rk : Nat → Int32) (rv : Nat → Int64) (bg : Nat → Int32) (bt : Int32) (sw : Nat → Int32) (sk : Nat → Int32) (sv : Nat → Int64) (kp : Int32) (ky : Nat → Int32) (vl : Nat → Int64) (sz : Nat) (n : Nat) (a : Int32) (k : Int32) (v : Int64) (hn : n ≤ 5) : Met l y_M_step zw_M_step ({ frames := 0, cells := 0, slots := 0, locals := 0 } : Room) (va_Pc [.ref (q 0), .int a, .int k, .long v] (xp_Q D zz_cl (xw_tM cA) sz (xw_M q cA lim bs bk bv rn wh rk rv bg bt (nI n) sw sk sv kp ky vl))) (va_Qi (fun (r : Int32) (u : Unit) => r = (if n < 5 then nI 3 else nI 0) ∧ (True)) (fun (u : Unit) (t : State) => va_P D zz_cl (xw_M q cA lim bs bk bv rn wh rk rv bg bt (nI (if n < 5 then n + 1 else n)) (if n < 5 then upd sw n a else sw) (if n < 5 then upd sk n k else sk) (if n < 5 then vp_updL sv n v else sv) kp ky vl) t.heap) (va_A (xw_M q cA lim bs bk bv rn wh rk rv bg bt (nI n) sw sk sv kp ky vl) sz)) 0 0 (va_A (xw_M q cA lim bs bk bv rn wh rk rv bg bt (nI n) sw sk sv kp ky vl) sz) := by
  refine Met.ofW (cc := b_M_step) (maxL := 5) (ret := (some .int)) (by decide) rfl ?_
  intro pJ eJ s mJ args below meth cJ s₁ B hml hv
  obtain ⟨rfl, hsz, hP, hK, hD0, hZ⟩ := hv
  have hx := B.exec
  have hb := B.bytes
  have hr := B.returns
  have hts := atoms_spec (ws := zw_M_step) B.pre
  have hown : s.vm.findClass R_M = some mJ.cls := findClass_of_methodNamed B.named
  have hlocks := B.notSynchronized
  subst hsz
  have hD := hD0.self (sz := s.heap.size)
  generalize hAe : va_A (xw_M q cA lim bs bk bv rn wh rk rv bg bt (nI n) sw sk sv kp ky vl) s.heap.size = A at hD ⊢
  have hA : ∀ q : Nat, s.heap.size ≤ q → A q := fun q h => by rw [← hAe]; exact Or.inr h
  have hS : va_S A s.heap s.heap [] := va_S.rf
  have hl := lv_entry ([.ref (q 0), .int a, .int k, .long v]) (n := 5) (Nat.le_of_ble_eq_true rfl)
  rw [lg_entry_eq]
  generalize (lg_sl ([.ref (q 0), .int a, .int k, .long v]) ++ List.replicate (5 - (lg_sl ([.ref (q 0), .int a, .int k, .long v])).length) Slot.unset).toArray = ls at hl ⊢
  have hl : lv_has ls 5 [(0, .ref (q 0)), (1, .int a), (2, .int k), (3, .long v)] := hl
  refine lv_aload_n hx hb d_M_step_0 rfl (lv_at hl 0 rfl) ?_
  refine va_get (D := D) (ci := 5) (v := .int (nI n)) (C := R_M) (T := F_M) (N := 17) hx hb hts (zi_M _) hown hK hP 0 rfl rfl 10 (by decide) (hts _ (List.mem_cons_of_mem _ zm_386)) (fun _ h9 => h9) rfl d_M_step_1 ?_
  refine lv_iconst (v := nI 5) hx hb d_M_step_4 (by decide +kernel) ?_
  refine lv_icmp_lt (tgt := 10) hx hb d_M_step_5 (by decide) (fun hc5 => ?_) (fun hc5 => ?_)
  · skip
    rw [nI_ltI (by omega) (by omega)] at hc5
    refine lv_aload_n hx hb d_M_step_10 rfl (lv_at hl 0 rfl) ?_
    refine va_get (D := D) (ci := 5) (v := .ref (q 7)) (C := R_M) (T := F_M) (N := 17) hx hb hts (zi_M _) hown hK hP 0 rfl rfl 11 (by decide) (hts _ (List.mem_cons_of_mem _ zm_387)) (fun _ h9 => h9) rfl d_M_step_11 ?_
    refine lv_aload_n hx hb d_M_step_14 rfl (lv_at hl 0 rfl) ?_
    refine va_get (D := D) (ci := 5) (v := .int (nI n)) (C := R_M) (T := F_M) (N := 17) hx hb hts (zi_M _) hown hK hP 0 rfl rfl 10 (by decide) (hts _ (List.mem_cons_of_mem _ zm_386)) (fun _ h9 => h9) rfl d_M_step_15 ?_
    refine lv_iload_n hx hb d_M_step_18 rfl (lv_at hl 1 rfl) ?_
    refine xa_iast (ws' := (xw_M q cA lim bs bk bv rn wh rk rv bg bt (nI n) (upd sw n a) sk sv kp ky vl)) hx hb hK hP hD hS 7 6 rfl rfl (k := n) (by omega) (by decide) rfl d_M_step_19 (fun H locs hP hD hS => ?_)
    refine lv_aload_n hx hb d_M_step_20 rfl (lv_at hl 0 rfl) ?_
    refine va_get (D := D) (ci := 5) (v := .ref (q 8)) (C := R_M) (T := F_M) (N := 17) hx hb hts (zi_M _) hown hK hP 0 rfl rfl 12 (by decide) (hts _ (List.mem_cons_of_mem _ zm_388)) (fun _ h9 => h9) rfl d_M_step_21 ?_
    refine lv_aload_n hx hb d_M_step_24 rfl (lv_at hl 0 rfl) ?_
    refine va_get (D := D) (ci := 5) (v := .int (nI n)) (C := R_M) (T := F_M) (N := 17) hx hb hts (zi_M _) hown hK hP 0 rfl rfl 10 (by decide) (hts _ (List.mem_cons_of_mem _ zm_386)) (fun _ h9 => h9) rfl d_M_step_25 ?_
    refine lv_iload_n hx hb d_M_step_28 rfl (lv_at hl 2 rfl) ?_
    refine xa_iast (ws' := (xw_M q cA lim bs bk bv rn wh rk rv bg bt (nI n) (upd sw n a) (upd sk n k) sv kp ky vl)) hx hb hK hP hD hS 8 7 rfl rfl (k := n) (by omega) (by decide) rfl d_M_step_29 (fun H locs hP hD hS => ?_)
    refine lv_aload_n hx hb d_M_step_30 rfl (lv_at hl 0 rfl) ?_
    refine va_get (D := D) (ci := 5) (v := .ref (q 9)) (C := R_M) (T := F_M) (N := 17) hx hb hts (zi_M _) hown hK hP 0 rfl rfl 13 (by decide) (hts _ (List.mem_cons_of_mem _ zm_389)) (fun _ h9 => h9) rfl d_M_step_31 ?_
    refine lv_aload_n hx hb d_M_step_34 rfl (lv_at hl 0 rfl) ?_
    refine va_get (D := D) (ci := 5) (v := .int (nI n)) (C := R_M) (T := F_M) (N := 17) hx hb hts (zi_M _) hown hK hP 0 rfl rfl 10 (by decide) (hts _ (List.mem_cons_of_mem _ zm_386)) (fun _ h9 => h9) rfl d_M_step_35 ?_
    refine lv_lload_n hx hb d_M_step_38 rfl (lv_at hl 3 rfl) ?_
    refine xa_last (ws' := (xw_M q cA lim bs bk bv rn wh rk rv bg bt (nI n) (upd sw n a) (upd sk n k) (vp_updL sv n v) kp ky vl)) hx hb hK hP hD hS 9 8 rfl rfl (k := n) (by omega) (by decide) rfl d_M_step_39 (fun H locs hP hD hS => ?_)
    refine lv_aload_n hx hb d_M_step_40 rfl (lv_at hl 0 rfl) ?_
    refine lv_aload_n hx hb d_M_step_41 rfl (lv_at hl 0 rfl) ?_
    refine va_get (D := D) (ci := 5) (v := .int (nI n)) (C := R_M) (T := F_M) (N := 17) hx hb hts (zi_M _) hown hK hP 0 rfl rfl 10 (by decide) (hts _ (List.mem_cons_of_mem _ zm_386)) (fun _ h9 => h9) rfl d_M_step_42 ?_
    refine lv_iconst (v := nI 1) hx hb d_M_step_45 (by decide +kernel) ?_
    refine lv_iadd hx hb d_M_step_46 ?_
    refine xa_top (y := nI (n + 1)) (nI_add _ _) ?_
    refine xa_put (ws' := (xw_M q cA lim bs bk bv rn wh rk rv bg bt (nI (n + 1)) (upd sw n a) (upd sk n k) (vp_updL sv n v) kp ky vl)) (ci := 5) (v := .int (nI (n + 1))) (ty := .int) (C := R_M) (T := F_M) (N := 17) hx hb hts (zi_M _) t_M t_M_ok n_M hown hK hP hD hS 0 rfl rfl 10 (by decide) (hts _ (List.mem_cons_of_mem _ zm_386)) (fun _ h9 => h9) rfl (by decide +kernel) (rfl) (rfl) (Nat.le_of_ble_eq_true rfl) rfl d_M_step_47 (fun H locs hP hD hS => ?_)
    refine lv_iconst (v := nI 3) hx hb d_M_step_50 (by decide +kernel) ?_
    exact W.iret (v := nI 3) hx hb hr (fun tJ htJ hWJ => ⟨⟨_, (), rfl, ⟨by rw [if_pos hc5], trivial⟩, by dsimp only; rw [htJ]; first | (simp only [hc5, if_true]; exact hP) | (simp only [hc5, if_false]; exact hP)⟩, hS.F htJ⟩) hS.2.2 d_M_step_51
  · skip
    rw [nI_ltI (by omega) (by omega)] at hc5
    refine lv_iconst (v := nI 0) hx hb d_M_step_8 (by decide +kernel) ?_
    exact W.iret (v := nI 0) hx hb hr (fun tJ htJ hWJ => ⟨⟨_, (), rfl, ⟨by rw [if_neg hc5], trivial⟩, by dsimp only; rw [htJ]; first | (simp only [hc5, if_true]; exact hP) | (simp only [hc5, if_false]; exact hP)⟩, hS.F htJ⟩) hS.2.2 d_M_step_9
set_option maxHeartbeats 4000000 in
set_option maxRecDepth 100000 in
theorem c_M_stays (l : Launch) (D : va_G) (q : Nat → Nat) (cA : Nat → ClassId) (bk : Nat → Int32) (bv : Nat → Int64) (wh : Nat → Int32) (rk : Nat → Int32) (rv : Nat → Int64) (bg : Nat → Int32) (bt : Int32) (sc : Int32) (sw : Nat → Int32) (sk : Nat → Int32) (sv : Nat → Int64) (kp : Int32) (ky : Nat → Int32) (vl : Nat → Int64) (sz : Nat) (lm : Nat) (B0 : List xk_E) (R0 : List xs_R) (N : List xs_O) (hb0 : xk_tie bk bv B0) (hok : xs_ok lm B0 R0) (hr0 : xm_rt (xs_new B0 R0 N) wh rk rv bg) (hlm : lm ≤ 200) (hN : N.length ≤ 6) (hm6 : N.length = 6 → ∃ o, N[5]? = some o ∧ o.1 = 2) (hw : ∀ o ∈ N, o.1 ≤ 2) : Met l y_M_stays zw_M_stays ({ frames := 5, cells := 0, slots := 0, locals := 122 } : Room) (va_Pc [.ref (q 0), .int (nI R0.length)] (xp_Q D zz_cl (xw_tM cA) sz (xw_M q cA (nI lm) (nI B0.length) bk bv (nI (xs_new B0 R0 N).length) wh rk rv bg bt sc sw sk sv kp ky vl))) (va_Qi (fun (r : Int32) (u : (Nat → Int32) × (Nat → Int64) × (Nat → Int32) × (Nat → Int32) × (Nat → Int64) × (Nat → Int32) × (Nat → Int32) × (Nat → Int64) × Int32) => r = (xb_i (!xs_bad lm (xs_now B0 (xs_new B0 R0 N)))) ∧ (xk_tie u.1 u.2.1 (xs_pB lm B0 R0 false N) ∧ xm_rt (xs_pR lm B0 R0 false N) u.2.2.1 u.2.2.2.1 u.2.2.2.2.1 u.2.2.2.2.2.1)) (fun (u : (Nat → Int32) × (Nat → Int64) × (Nat → Int32) × (Nat → Int32) × (Nat → Int64) × (Nat → Int32) × (Nat → Int32) × (Nat → Int64) × Int32) (t : State) => va_P D zz_cl (xw_M q cA (nI lm) (nI (xs_pB lm B0 R0 false N).length) u.1 u.2.1 (nI (xs_pR lm B0 R0 false N).length) u.2.2.1 u.2.2.2.1 u.2.2.2.2.1 u.2.2.2.2.2.1 bt sc sw sk sv u.2.2.2.2.2.2.2.2 u.2.2.2.2.2.2.1 u.2.2.2.2.2.2.2.1) t.heap) (va_A (xw_M q cA (nI lm) (nI B0.length) bk bv (nI (xs_new B0 R0 N).length) wh rk rv bg bt sc sw sk sv kp ky vl) sz)) 0 0 (va_A (xw_M q cA (nI lm) (nI B0.length) bk bv (nI (xs_new B0 R0 N).length) wh rk rv bg bt sc sw sk sv kp ky vl) sz) := by
  refine Met.ofW (cc := b_M_stays) (maxL := 2) (ret := (some .boolean)) (by decide) rfl ?_
  intro pJ eJ s mJ args below meth cJ s₁ B hml hv
  obtain ⟨rfl, hsz, hP, hK, hD0, hZ⟩ := hv
  have hx := B.exec
  have hb := B.bytes
  have hr := B.returns
  have hts := atoms_spec (ws := zw_M_stays) B.pre
  have hown : s.vm.findClass R_M = some mJ.cls := findClass_of_methodNamed B.named
  have hlocks := B.notSynchronized
  subst hsz
  have hD := hD0.self (sz := s.heap.size)
  generalize hAe : va_A (xw_M q cA (nI lm) (nI B0.length) bk bv (nI (xs_new B0 R0 N).length) wh rk rv bg bt sc sw sk sv kp ky vl) s.heap.size = A at hD ⊢
  have hA : ∀ q : Nat, s.heap.size ≤ q → A q := fun q h => by rw [← hAe]; exact Or.inr h
  have hS : va_S A s.heap s.heap [] := va_S.rf
  have hl := lv_entry ([.ref (q 0), .int (nI R0.length)]) (n := 2) (Nat.le_of_ble_eq_true rfl)
  rw [lg_entry_eq]
  generalize (lg_sl ([.ref (q 0), .int (nI R0.length)]) ++ List.replicate (2 - (lg_sl ([.ref (q 0), .int (nI R0.length)])).length) Slot.unset).toArray = ls at hl ⊢
  have hl : lv_has ls 2 [(0, .ref (q 0)), (1, .int (nI R0.length))] := hl
  have h64 := hok.2.2.1
  have hnl := xs_new_len B0 R0 N
  refine lv_aload_n hx hb d_M_stays_0 rfl (lv_at hl 0 rfl) ?_
  refine xa_cMV (va_runV (As := []) (rest := []) ⟨hx, hb, hml, hown, hts⟩ (c_M_now l D q cA (nI lm) bk bv wh rk rv bg bt sc sw sk sv kp ky vl s.heap.size B0 (xs_new B0 R0 N) hb0 hok.1 hok.2.1 hr0 (by omega) (xs_new_w hok hw) (xs_new_mid hok hN hm6)) (cwV 0 hts (zg_V zm_440 zm_442 zs_12 zm_7 zm_443) rfl rfl rfl (by decide +kernel) ⟨Nat.le_of_ble_eq_true rfl, Nat.le_of_ble_eq_true rfl⟩) (xp_preVQ (ci := 5) (q0 := 0) hK hP hD rfl rfl rfl hZ) rfl rfl hl.1 rfl (lv_room (Nat.le_of_ble_eq_true rfl)) d_M_stays_1 ⟨Nat.zero_le _, Nat.zero_le _⟩) hS (xa_F hD hS hA) (fun u H locs hp1 hP hS => ?_)
  obtain ⟨ky2_1, vl2_1⟩ := u
  have hP : va_P D zz_cl (xw_M q cA (nI lm) (nI B0.length) bk bv (nI (xs_new B0 R0 N).length) wh rk rv bg bt sc sw sk sv (nI (xs_now B0 (xs_new B0 R0 N)).length) ky2_1 vl2_1) H := hP
  have hD : va_D A (xw_M q cA (nI lm) (nI B0.length) bk bv (nI (xs_new B0 R0 N).length) wh rk rv bg bt sc sw sk sv (nI (xs_now B0 (xs_new B0 R0 N)).length) ky2_1 vl2_1) := xa_E hD rfl
  have hp1 : xm_T ky2_1 vl2_1 (xs_now B0 (xs_new B0 R0 N)) := hp1
  have hl9 := hp1.1
  have hpg := xd_pg_le hp1.1
  refine lv_aload_n hx hb d_M_stays_4 rfl (lv_at hl 0 rfl) ?_
  refine va_get (D := D) (ci := 5) (v := .int (nI ((xs_now B0 (xs_new B0 R0 N)).length))) (C := R_M) (T := F_M) (N := 17) hx hb hts (zi_M _) hown hK hP 0 rfl rfl 14 (by decide) (hts _ (List.mem_cons_of_mem _ zm_390)) (fun _ h9 => h9) rfl d_M_stays_5 ?_
  refine lv_bipush (v := nI 60) hx hb d_M_stays_8 (by decide +kernel) ?_
  refine lv_icmp_gt (tgt := 24) hx hb d_M_stays_10 (by decide) (fun hc10 => ?_) (fun hc10 => ?_)
  · skip
    rw [nI_ltI (by omega) (by omega)] at hc10
    have eb : xs_bad lm (xs_now B0 (xs_new B0 R0 N)) = true := by first | exact xm_ov1 (Or.inl hc10) | exact xm_ov1 (Or.inr hc21)
    have e1 : xs_pB lm B0 R0 false N = B0 := by unfold xs_pB; rw [if_pos (Or.inr eb)]
    have e2 : xs_pR lm B0 R0 false N = R0 := by unfold xs_pR; rw [if_pos (Or.inr eb)]
    refine lv_aload_n hx hb d_M_stays_24 rfl (lv_at hl 0 rfl) ?_
    refine lv_iload_n hx hb d_M_stays_25 rfl (lv_at hl 1 rfl) ?_
    refine xa_put (ws' := (xw_M q cA (nI lm) (nI B0.length) bk bv (nI R0.length) wh rk rv bg bt sc sw sk sv (nI (xs_now B0 (xs_new B0 R0 N)).length) ky2_1 vl2_1)) (ci := 5) (v := .int (nI R0.length)) (ty := .int) (C := R_M) (T := F_M) (N := 17) hx hb hts (zi_M _) t_M t_M_ok n_M hown hK hP hD hS 0 rfl rfl 4 (by decide) (hts _ (List.mem_cons_of_mem _ zm_380)) (fun _ h9 => h9) rfl (by decide +kernel) (rfl) (rfl) (Nat.le_of_ble_eq_true rfl) rfl d_M_stays_26 (fun H locs hP hD hS => ?_)
    refine lv_iconst (v := nI 0) hx hb d_M_stays_29 (by decide +kernel) ?_
    exact W.zret (ty := .boolean) (v := nI 0) hx hb hr (by decide +kernel) (fun tJ htJ hWJ => ⟨⟨_, (bk, bv, wh, rk, rv, bg, ky2_1, vl2_1, nI (xs_now B0 (xs_new B0 R0 N)).length), rfl, ⟨by rw [eb]; rfl, by rw [e1]; exact hb0, by rw [e2]; exact xm_rn_back hr0⟩, by dsimp only; rw [htJ]; rw [e1, e2]; exact hP⟩, hS.F htJ⟩) hS.2.2 d_M_stays_30
  · skip
    rw [nI_ltI (by omega) (by omega)] at hc10
    refine lv_aload_n hx hb d_M_stays_13 rfl (lv_at hl 0 rfl) ?_
    refine xa_cI (va_runV (As := []) (rest := []) ⟨hx, hb, hml, hown, hts⟩ (c_M_inUse l D q cA (nI lm) (nI B0.length) bk bv (nI (xs_new B0 R0 N).length) wh rk rv bg bt sc sw sk sv ky2_1 vl2_1 (xs_now B0 (xs_new B0 R0 N)) hp1) (cwV 0 hts (zg_V zm_468 zm_470 zs_19 zm_7 zm_471) rfl rfl rfl (by decide +kernel) ⟨Nat.le_of_ble_eq_true rfl, Nat.le_of_ble_eq_true rfl⟩) (xp_preV (ci := 5) (q0 := 0) hK hP rfl rfl rfl hZ) rfl rfl hl.1 rfl (lv_room (Nat.le_of_ble_eq_true rfl)) d_M_stays_14 ⟨Nat.zero_le _, Nat.zero_le _⟩) ?_
    refine lv_aload_n hx hb d_M_stays_17 rfl (lv_at hl 0 rfl) ?_
    refine va_get (D := D) (ci := 5) (v := .int (nI lm)) (C := R_M) (T := F_M) (N := 17) hx hb hts (zi_M _) hown hK hP 0 rfl rfl 0 (by decide) (hts _ (List.mem_cons_of_mem _ zm_376)) (fun _ h9 => h9) rfl d_M_stays_18 ?_
    refine lv_icmp_le (tgt := 31) hx hb d_M_stays_21 (by decide) (fun hc21 => ?_) (fun hc21 => ?_)
    · skip
      rw [nI_leI (by omega) (by omega)] at hc21
      have eb : xs_bad lm (xs_now B0 (xs_new B0 R0 N)) = false := xm_ov0 hc10 hc21
      have e0 : ¬ (false = true ∨ xs_bad lm (xs_now B0 (xs_new B0 R0 N)) = true) := by rw [eb]; decide
      have e1 : xs_pB lm B0 R0 false N = xs_B B0 R0 N := by unfold xs_pB; rw [if_neg e0]
      have e2 : xs_pR lm B0 R0 false N = xs_Q B0 R0 N := by unfold xs_pR; rw [if_neg e0]
      refine lv_aload_n hx hb d_M_stays_31 rfl (lv_at hl 0 rfl) ?_
      refine va_get (D := D) (ci := 5) (v := .int (nI ((xs_new B0 R0 N).length))) (C := R_M) (T := F_M) (N := 17) hx hb hts (zi_M _) hown hK hP 0 rfl rfl 4 (by decide) (hts _ (List.mem_cons_of_mem _ zm_380)) (fun _ h9 => h9) rfl d_M_stays_32 ?_
      refine lv_bipush (v := nI 64) hx hb d_M_stays_35 (by decide +kernel) ?_
      refine lv_icmp_le (tgt := 45) hx hb d_M_stays_37 (by decide) (fun hc37 => ?_) (fun hc37 => ?_)
      · skip
        rw [nI_leI (by omega) (by omega)] at hc37
        have e4 : xs_B B0 R0 N = B0 := by unfold xs_B; rw [if_neg (by omega)]
        have e5 : xs_Q B0 R0 N = xs_new B0 R0 N := by unfold xs_Q; rw [if_neg (by omega)]
        refine lv_iconst (v := nI 1) hx hb d_M_stays_45 (by decide +kernel) ?_
        exact W.zret (ty := .boolean) (v := nI 1) hx hb hr (by decide +kernel) (fun tJ htJ hWJ => ⟨⟨_, (bk, bv, wh, rk, rv, bg, ky2_1, vl2_1, nI (xs_now B0 (xs_new B0 R0 N)).length), rfl, ⟨by rw [eb]; rfl, by first | (rw [e1, e4, ← xs_now_new B0 R0 N]; exact hp42) | (rw [e1, e4]; exact hb0), by first | (rw [e2, e5]; exact xm_rt_fresh hr0 rfl) | (rw [e2, e5]; exact hr0)⟩, by dsimp only; rw [htJ]; first | (rw [e1, e2, e4, e5, e6, ← xs_now_new B0 R0 N]; exact hP) | (rw [e1, e2, e4, e5]; exact hP)⟩, hS.F htJ⟩) hS.2.2 d_M_stays_46
      · skip
        rw [nI_leI (by omega) (by omega)] at hc37
        have e4 : xs_B B0 R0 N = xs_now B0 R0 := by unfold xs_B; rw [if_pos (by omega)]
        have e5 : xs_Q B0 R0 N = N.map (xs_rec 0) := by unfold xs_Q; rw [if_pos (by omega)]
        have e6 : (N.map (xs_rec 0)).length = (xs_new B0 R0 N).length - R0.length := by rw [List.length_map]; omega
        refine lv_aload_n hx hb d_M_stays_40 rfl (lv_at hl 0 rfl) ?_
        refine lv_iload_n hx hb d_M_stays_41 rfl (lv_at hl 1 rfl) ?_
        refine xa_cMV (va_runV (As := [.int (nI R0.length)]) (rest := []) ⟨hx, hb, hml, hown, hts⟩ (c_M_settle l D q cA (nI lm) bk bv wh rk rv bg bt sc sw sk sv (nI (xs_now B0 (xs_new B0 R0 N)).length) ky2_1 vl2_1 H.size B0 (xs_new B0 R0 N) R0.length hb0 hok.1 hok.2.1 hr0 (by omega) (xs_new_w hok hw) (by omega) (fun i hi => xs_new_mid hok hN hm6 i (by omega)) (by rw [xs_now_new]; exact hok.2.2.2.2.2.1)) (cwV 1 hts (zg_V zm_504 zm_506 zs_28 zm_7 zm_507) rfl rfl rfl (by decide +kernel) ⟨Nat.le_of_ble_eq_true rfl, Nat.le_of_ble_eq_true rfl⟩) (xp_preVQ (ci := 5) (q0 := 0) hK hP hD rfl rfl rfl hZ) rfl rfl hl.1 rfl (lv_room (Nat.le_of_ble_eq_true rfl)) d_M_stays_42 ⟨Nat.zero_le _, Nat.zero_le _⟩) hS (xa_F hD hS hA) (fun u H locs hp42 hP hS => ?_)
        obtain ⟨bk2_42, bv2_42, ky2_42, vl2_42⟩ := u
        have hP : va_P D zz_cl (xw_M q cA (nI lm) (nI (xs_S B0 (xs_new B0 R0 N) R0.length).length) bk2_42 bv2_42 (nI ((xs_new B0 R0 N).length - R0.length)) (xw_mv wh R0.length ((xs_new B0 R0 N).length - R0.length)) (xw_mv rk R0.length ((xs_new B0 R0 N).length - R0.length)) (xw_mv rv R0.length ((xs_new B0 R0 N).length - R0.length)) (xm_mb bg R0.length ((xs_new B0 R0 N).length - R0.length)) bt sc sw sk sv (nI (xs_S B0 (xs_new B0 R0 N) R0.length).length) ky2_42 vl2_42) H := hP
        have hD : va_D A (xw_M q cA (nI lm) (nI (xs_S B0 (xs_new B0 R0 N) R0.length).length) bk2_42 bv2_42 (nI ((xs_new B0 R0 N).length - R0.length)) (xw_mv wh R0.length ((xs_new B0 R0 N).length - R0.length)) (xw_mv rk R0.length ((xs_new B0 R0 N).length - R0.length)) (xw_mv rv R0.length ((xs_new B0 R0 N).length - R0.length)) (xm_mb bg R0.length ((xs_new B0 R0 N).length - R0.length)) bt sc sw sk sv (nI (xs_S B0 (xs_new B0 R0 N) R0.length).length) ky2_42 vl2_42) := xa_E hD rfl
        have hp42 : xk_tie bk2_42 bv2_42 (xs_S B0 (xs_new B0 R0 N) R0.length) := hp42
        refine lv_iconst (v := nI 1) hx hb d_M_stays_45 (by decide +kernel) ?_
        exact W.zret (ty := .boolean) (v := nI 1) hx hb hr (by decide +kernel) (fun tJ htJ hWJ => ⟨⟨_, (bk2_42, bv2_42, xw_mv wh R0.length ((xs_new B0 R0 N).length - R0.length), xw_mv rk R0.length ((xs_new B0 R0 N).length - R0.length), xw_mv rv R0.length ((xs_new B0 R0 N).length - R0.length), xm_mb bg R0.length ((xs_new B0 R0 N).length - R0.length), ky2_42, vl2_42, nI (xs_S B0 (xs_new B0 R0 N) R0.length).length), rfl, ⟨by rw [eb]; rfl, by first | (rw [e1, e4, ← xs_now_new B0 R0 N]; exact hp42) | (rw [e1, e4]; exact hb0), by first | (rw [e2, e5]; exact xm_rt_fresh hr0 rfl) | (rw [e2, e5]; exact hr0)⟩, by dsimp only; rw [htJ]; first | (rw [e1, e2, e4, e5, e6, ← xs_now_new B0 R0 N]; exact hP) | (rw [e1, e2, e4, e5]; exact hP)⟩, hS.F htJ⟩) hS.2.2 d_M_stays_46
    · skip
      rw [nI_leI (by omega) (by omega)] at hc21
      have eb : xs_bad lm (xs_now B0 (xs_new B0 R0 N)) = true := by first | exact xm_ov1 (Or.inl hc10) | exact xm_ov1 (Or.inr hc21)
      have e1 : xs_pB lm B0 R0 false N = B0 := by unfold xs_pB; rw [if_pos (Or.inr eb)]
      have e2 : xs_pR lm B0 R0 false N = R0 := by unfold xs_pR; rw [if_pos (Or.inr eb)]
      refine lv_aload_n hx hb d_M_stays_24 rfl (lv_at hl 0 rfl) ?_
      refine lv_iload_n hx hb d_M_stays_25 rfl (lv_at hl 1 rfl) ?_
      refine xa_put (ws' := (xw_M q cA (nI lm) (nI B0.length) bk bv (nI R0.length) wh rk rv bg bt sc sw sk sv (nI (xs_now B0 (xs_new B0 R0 N)).length) ky2_1 vl2_1)) (ci := 5) (v := .int (nI R0.length)) (ty := .int) (C := R_M) (T := F_M) (N := 17) hx hb hts (zi_M _) t_M t_M_ok n_M hown hK hP hD hS 0 rfl rfl 4 (by decide) (hts _ (List.mem_cons_of_mem _ zm_380)) (fun _ h9 => h9) rfl (by decide +kernel) (rfl) (rfl) (Nat.le_of_ble_eq_true rfl) rfl d_M_stays_26 (fun H locs hP hD hS => ?_)
      refine lv_iconst (v := nI 0) hx hb d_M_stays_29 (by decide +kernel) ?_
      exact W.zret (ty := .boolean) (v := nI 0) hx hb hr (by decide +kernel) (fun tJ htJ hWJ => ⟨⟨_, (bk, bv, wh, rk, rv, bg, ky2_1, vl2_1, nI (xs_now B0 (xs_new B0 R0 N)).length), rfl, ⟨by rw [eb]; rfl, by rw [e1]; exact hb0, by rw [e2]; exact xm_rn_back hr0⟩, by dsimp only; rw [htJ]; rw [e1, e2]; exact hP⟩, hS.F htJ⟩) hS.2.2 d_M_stays_30
