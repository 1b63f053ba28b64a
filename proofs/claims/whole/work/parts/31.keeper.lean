/-! Walks: specs_b (printed by run.py) -/
set_option maxHeartbeats 4000000 in
set_option maxRecDepth 100000 in
theorem c_K_bpu (l : Launch) (D : va_G) (q : Nat → Nat) (cA : Nat → ClassId) (lim : Int32) (kf : Nat → Int32) (kg : Nat → Int64) (af : Nat → Int32) (bf : Nat → Int32) (rk : Nat → Int32) (rv : Nat → Int64) (rm : Nat → Int32) (rs : Nat → Int32) (rn : Int32) (bp : Nat → Int32) (bk : Nat → Int32) (bv : Nat → Int64) (bo : Int32) (bn : Int32) (K : List xk_E) (k : Int32) (hT : xw_KT kf kg af bf K) : Met l y_K_bucketPagesUpTo zw_K_bucketPagesUpTo ({ frames := 3, cells := 0, slots := 0, locals := 65 } : Room) (va_Pc [.ref (q 1), .int k] (xp_R D zz_cl (xw_tC cA) (xw_C q cA lim kf kg (nI K.length) af bf rk rv rm rs rn bp bk bv bo bn))) (vp_Si (fun r : Int32 => r = nI (xo_rd K k))) 0 0 (fun _ => False) := by
  refine Met.ofW (cc := b_K_bucketPagesUpTo) (maxL := 6) (ret := (some .int)) (by decide) rfl ?_
  intro pJ eJ s mJ args below meth cJ s₁ B hml hv
  obtain ⟨rfl, hP, hK, hZ⟩ := hv
  have hx := B.exec
  have hb := B.bytes
  have hr := B.returns
  have hts := atoms_spec (ws := zw_K_bucketPagesUpTo) B.pre
  have hown : s.vm.findClass R_K = some mJ.cls := findClass_of_methodNamed B.named
  have hlocks := B.notSynchronized
  have hl := lv_entry ([.ref (q 1), .int k]) (n := 6) (Nat.le_of_ble_eq_true rfl)
  rw [lg_entry_eq]
  generalize (lg_sl ([.ref (q 1), .int k]) ++ List.replicate (6 - (lg_sl ([.ref (q 1), .int k])).length) Slot.unset).toArray = ls at hl ⊢
  have hl : lv_has ls 6 [(0, .ref (q 1)), (1, .int k)] := hl
  have hlen := hT.1
  have hlo0 := xk_lo_le K k
  have hh := xk_h_lt k
  have hm0 := Nat.mod_le (xk_h k) (2 ^ xd_dp K (xk_h k))
  refine lv_aload_n hx hb d_K_bucketPagesUpTo_0 rfl (lv_at hl 0 rfl) ?_
  refine va_get (D := D) (ci := 1) (v := .ref (q 2)) (C := R_K) (T := F_K) (N := 4) hx hb hts (zi_K _) hown hK hP 1 rfl rfl 2 (by decide) (hts _ (List.mem_cons_of_mem _ zm_46)) (fun _ h9 => h9) rfl d_K_bucketPagesUpTo_1 ?_
  refine lv_iload_n hx hb d_K_bucketPagesUpTo_4 rfl (lv_at hl 1 rfl) ?_
  refine xa_cI (va_runSN (As := [.int k]) (rest := [.ref (q 2)]) ⟨hx, hb, hml, hown, hts⟩ (c_E_hash l k) ⟨(va_cnB 1 hts (zg_C zm_175) rfl rfl rfl (hZ _ zn_173) (hts _ (List.mem_cons_of_mem _ zm_1)) (by decide +kernel) ⟨Nat.le_of_ble_eq_true rfl, Nat.le_of_ble_eq_true rfl⟩), (hts _ (List.mem_cons_of_mem _ zm_174)), trivial⟩ xp_preS rfl rfl hl.1 rfl (lv_room (Nat.le_of_ble_eq_true rfl)) d_K_bucketPagesUpTo_5 ⟨Nat.zero_le _, Nat.zero_le _⟩) ?_
  refine xa_cI (va_runV (As := [.int (nI (xk_h k))]) (rest := []) ⟨hx, hb, hml, hown, hts⟩ (c_C_mask l D q cA lim kf kg af bf rk rv rm rs rn bp bk bv bo bn K (xk_h k) hT (by omega)) (cwV 1 hts (zg_V zm_270 zm_212 zm_213 zm_4 zm_214) rfl rfl rfl (by decide +kernel) ⟨Nat.le_of_ble_eq_true rfl, Nat.le_of_ble_eq_true rfl⟩) (xp_preV (ci := 2) (q0 := 2) hK hP rfl rfl rfl hZ) rfl rfl hl.1 rfl (lv_room (Nat.le_of_ble_eq_true rfl)) d_K_bucketPagesUpTo_8 ⟨Nat.zero_le _, Nat.zero_le _⟩) ?_
  refine lv_istore_n (lv' := [(2, .int (nI (2 ^ xd_dp K (xk_h k) - 1))), (0, .ref (q 1)), (1, .int k)]) hx hb d_K_bucketPagesUpTo_11 rfl hl (Nat.le_of_ble_eq_true rfl) rfl (fun ls hl => ?_)
  refine lv_iload_n hx hb d_K_bucketPagesUpTo_12 rfl (lv_at hl 2 rfl) ?_
  refine xa_cI (va_runSN (As := [.int k]) (rest := []) ⟨hx, hb, hml, hown, hts⟩ (c_E_hash l k) ⟨(va_cnB 1 hts (zg_C zm_175) rfl rfl rfl (hZ _ zn_173) (hts _ (List.mem_cons_of_mem _ zm_1)) (by decide +kernel) ⟨Nat.le_of_ble_eq_true rfl, Nat.le_of_ble_eq_true rfl⟩), (hts _ (List.mem_cons_of_mem _ zm_174)), trivial⟩ xp_preS rfl rfl hl.1 rfl (lv_room (Nat.le_of_ble_eq_true rfl)) d_K_bucketPagesUpTo_13 ⟨Nat.zero_le _, Nat.zero_le _⟩) ?_
  refine lv_iload_n hx hb d_K_bucketPagesUpTo_16 rfl (lv_at hl 0 rfl) ?_
  refine lv_iand hx hb d_K_bucketPagesUpTo_17 ?_
  refine xa_top (y := nI (xk_h k % 2 ^ xd_dp K (xk_h k))) (xw_and (by omega) (xd_dp_le K _)) ?_
  refine lv_istore_n (lv' := [(3, .int (nI (xk_h k % 2 ^ xd_dp K (xk_h k)))), (2, .int (nI (2 ^ xd_dp K (xk_h k) - 1))), (0, .ref (q 1)), (1, .int k)]) hx hb d_K_bucketPagesUpTo_18 rfl hl (Nat.le_of_ble_eq_true rfl) rfl (fun ls hl => ?_)
  refine lv_iconst (v := nI 0) hx hb d_K_bucketPagesUpTo_19 (by decide +kernel) ?_
  refine lv_istore (lv' := [(4, .int (nI 0)), (3, .int (nI (xk_h k % 2 ^ xd_dp K (xk_h k)))), (2, .int (nI (2 ^ xd_dp K (xk_h k) - 1))), (0, .ref (q 1)), (1, .int k)]) hx hb d_K_bucketPagesUpTo_20 hl (Nat.le_of_ble_eq_true rfl) rfl (fun ls hl => ?_)
  refine lv_iconst (v := nI 0) hx hb d_K_bucketPagesUpTo_22 (by decide +kernel) ?_
  refine lv_istore (lv' := [(5, .int (nI 0)), (4, .int (nI 0)), (3, .int (nI (xk_h k % 2 ^ xd_dp K (xk_h k)))), (2, .int (nI (2 ^ xd_dp K (xk_h k) - 1))), (0, .ref (q 1)), (1, .int k)]) hx hb d_K_bucketPagesUpTo_23 hl (Nat.le_of_ble_eq_true rfl) rfl (fun ls hl => ?_)
  have lp25 : ∀ (N : Nat) (i : Nat) (n : Nat) (ls : Array Slot), (i ≤ xk_lo K k) → (n = xd_cn (K.take i) (xd_dp K (xk_h k)) (xk_h k % 2 ^ xd_dp K (xk_h k))) → lv_has ls 6 [(0, .ref (q 1)), (1, .int k), (2, .int (nI (2 ^ xd_dp K (xk_h k) - 1))), (3, .int (nI (xk_h k % 2 ^ xd_dp K (xk_h k)))), (4, .int (nI n)), (5, .int (nI i))] → K.length - i < N → W pJ l eJ (headSpec zw_K_bucketPagesUpTo ({ frames := 3, cells := 0, slots := 0, locals := 65 } : Room)).room s mJ ([.ref (q 1), .int k] : List Value).toArray below meth cJ s.heap [] 0 0 (MQ below (vp_Si (fun r : Int32 => r = nI (xo_rd K k))) ([.ref (q 1), .int k] : List Value).toArray s 0 0 (fun _ => False)) (F0 mJ 25 ls []) := by
    intro N
    induction N with
    | zero => intro i n ls hil hn hl hm; exact absurd hm (Nat.not_lt_zero _)
    | succ N ih25 =>
      intro i n ls hil hn hl hm
      refine lv_iload hx hb d_K_bucketPagesUpTo_25 (lv_at hl 5 rfl) ?_
      refine lv_aload_n hx hb d_K_bucketPagesUpTo_27 rfl (lv_at hl 0 rfl) ?_
      refine va_get (D := D) (ci := 1) (v := .int (nI K.length)) (C := R_K) (T := F_K) (N := 4) hx hb hts (zi_K _) hown hK hP 1 rfl rfl 3 (by decide) (hts _ (List.mem_cons_of_mem _ zm_48)) (fun _ h9 => h9) rfl d_K_bucketPagesUpTo_28 ?_
      refine lv_icmp_ge (tgt := 70) hx hb d_K_bucketPagesUpTo_31 (by decide) (fun hc31 => ?_) (fun hc31 => ?_)
      · skip
        rw [nI_leI (by omega) (by omega)] at hc31
        have hlo : i = xk_lo K k := by first | exact xw_lo1 hil hc31 | exact xw_lo2 hT.2.1 hil he hc42
        have hcn := xd_cn_le K (xd_dp K (xk_h k)) (xk_h k % 2 ^ xd_dp K (xk_h k))
        have hn9 := xd_cn_sub K (xd_dp K (xk_h k)) (xk_h k % 2 ^ xd_dp K (xk_h k)) i
        refine lv_iconst (v := nI 0) hx hb d_K_bucketPagesUpTo_70 (by decide +kernel) ?_
        refine lv_aload_n hx hb d_K_bucketPagesUpTo_71 rfl (lv_at hl 0 rfl) ?_
        refine va_get (D := D) (ci := 1) (v := .ref (q 2)) (C := R_K) (T := F_K) (N := 4) hx hb hts (zi_K _) hown hK hP 1 rfl rfl 2 (by decide) (hts _ (List.mem_cons_of_mem _ zm_46)) (fun _ h9 => h9) rfl d_K_bucketPagesUpTo_72 ?_
        refine lv_iload_n hx hb d_K_bucketPagesUpTo_75 rfl (lv_at hl 3 rfl) ?_
        refine xa_cI (va_runV (As := [.int (nI (xk_h k % 2 ^ xd_dp K (xk_h k)))]) (rest := [.int (nI 0)]) ⟨hx, hb, hml, hown, hts⟩ (c_C_kob l D q cA lim kf kg af bf rk rv rm rs rn bp bk bv bo bn K (xk_h k % 2 ^ xd_dp K (xk_h k)) hT (by omega)) (cwV 1 hts (zg_V zm_215 zm_216 zm_217 zm_4 zm_218) rfl rfl rfl (by decide +kernel) ⟨Nat.le_of_ble_eq_true rfl, Nat.le_of_ble_eq_true rfl⟩) (xp_preV (ci := 2) (q0 := 2) hK hP rfl rfl rfl hZ) rfl rfl hl.1 rfl (lv_room (Nat.le_of_ble_eq_true rfl)) d_K_bucketPagesUpTo_76 ⟨Nat.zero_le _, Nat.zero_le _⟩) ?_
        refine xa_top (y := nI (xd_cn K (xd_dp K (xk_h k)) (xk_h k % 2 ^ xd_dp K (xk_h k)))) (by rw [xd_dp_place, Nat.mod_mod]) ?_
        refine lv_iconst (v := nI 1) hx hb d_K_bucketPagesUpTo_79 (by decide +kernel) ?_
        refine lv_isub hx hb d_K_bucketPagesUpTo_80 ?_
        refine xa_top (y := nI (xd_cn K (xd_dp K (xk_h k)) (xk_h k % 2 ^ xd_dp K (xk_h k))) - nI 1) rfl ?_
        refine va_mmax hx hb (hml.trans hl.1.symm) hown (hts _ (List.mem_cons_of_mem _ zm_271)) (hts _ (List.mem_cons_of_mem _ zm_21)) (hts _ (List.mem_cons_of_mem _ zm_2)) (hts _ (List.mem_cons_of_mem _ zm_22)) (Nat.le_of_ble_eq_true rfl) (Nat.le_of_ble_eq_true rfl) (Nat.zero_le _) (Nat.zero_le _) d_K_bucketPagesUpTo_81 ?_
        refine xa_top (y := nI (xd_cn K (xd_dp K (xk_h k)) (xk_h k % 2 ^ xd_dp K (xk_h k)) - 1)) (xw_max0 (by omega)) ?_
        refine lv_istore (lv' := [(5, .int (nI (xd_cn K (xd_dp K (xk_h k)) (xk_h k % 2 ^ xd_dp K (xk_h k)) - 1))), (0, .ref (q 1)), (1, .int k), (2, .int (nI (2 ^ xd_dp K (xk_h k) - 1))), (3, .int (nI (xk_h k % 2 ^ xd_dp K (xk_h k)))), (4, .int (nI n))]) hx hb d_K_bucketPagesUpTo_84 hl (Nat.le_of_ble_eq_true rfl) rfl (fun ls hl => ?_)
        refine lv_iload hx hb d_K_bucketPagesUpTo_86 (lv_at hl 5 rfl) ?_
        refine lv_iload hx hb d_K_bucketPagesUpTo_88 (lv_at hl 0 rfl) ?_
        refine va_mmin hx hb (hml.trans hl.1.symm) hown (hts _ (List.mem_cons_of_mem _ zm_272)) (hts _ (List.mem_cons_of_mem _ zm_18)) (hts _ (List.mem_cons_of_mem _ zm_2)) (hts _ (List.mem_cons_of_mem _ zm_19)) (Nat.le_of_ble_eq_true rfl) (Nat.le_of_ble_eq_true rfl) (Nat.zero_le _) (Nat.zero_le _) d_K_bucketPagesUpTo_90 ?_
        refine xa_top (y := nI (min n (xd_cn K (xd_dp K (xk_h k)) (xk_h k % 2 ^ xd_dp K (xk_h k)) - 1))) (xn_min (by omega) (by omega)) ?_
        refine lv_iconst (v := nI 4) hx hb d_K_bucketPagesUpTo_93 (by decide +kernel) ?_
        refine lv_idiv hx hb d_K_bucketPagesUpTo_94 (by decide +kernel) ?_
        refine xa_top (y := nI ((min n (xd_cn K (xd_dp K (xk_h k)) (xk_h k % 2 ^ xd_dp K (xk_h k)) - 1)) / 4)) (pk_div (by omega) (by omega) (by omega)) ?_
        refine lv_iconst (v := nI 1) hx hb d_K_bucketPagesUpTo_95 (by decide +kernel) ?_
        refine lv_iadd hx hb d_K_bucketPagesUpTo_96 ?_
        refine xa_top (y := nI ((min n (xd_cn K (xd_dp K (xk_h k)) (xk_h k % 2 ^ xd_dp K (xk_h k)) - 1)) / 4 + 1)) (nI_add _ _) ?_
        exact W.iret (v := nI ((min n (xd_cn K (xd_dp K (xk_h k)) (xk_h k % 2 ^ xd_dp K (xk_h k)) - 1)) / 4 + 1)) hx hb hr (fun tJ htJ hWJ => ⟨_, rfl, by rw [hn, hlo]; rfl, htJ⟩) (fun _ h => by cases h) d_K_bucketPagesUpTo_97
      · skip
        rw [nI_leI (by omega) (by omega)] at hc31
        obtain ⟨e, he⟩ : ∃ e, K[i]? = some e := ⟨_, List.getElem?_eq_getElem (by omega)⟩
        have hfe := (xk_tie_f hT.2.2.1 he).1
        refine lv_aload_n hx hb d_K_bucketPagesUpTo_34 rfl (lv_at hl 0 rfl) ?_
        refine va_get (D := D) (ci := 1) (v := .ref (q 5)) (C := R_K) (T := F_K) (N := 4) hx hb hts (zi_K _) hown hK hP 1 rfl rfl 0 (by decide) (hts _ (List.mem_cons_of_mem _ zm_44)) (fun _ h9 => h9) rfl d_K_bucketPagesUpTo_35 ?_
        refine lv_iload hx hb d_K_bucketPagesUpTo_38 (lv_at hl 5 rfl) ?_
        refine xa_iald hx hb hK hP 5 0 rfl rfl (k := i) (by omega) (by decide) d_K_bucketPagesUpTo_40 ?_
        refine xa_top (y := e.1) hfe ?_
        refine lv_iload_n hx hb d_K_bucketPagesUpTo_41 rfl (lv_at hl 1 rfl) ?_
        refine lv_icmp_ge (tgt := 70) hx hb d_K_bucketPagesUpTo_42 (by decide) (fun hc42 => ?_) (fun hc42 => ?_)
        · skip
          have hlo : i = xk_lo K k := by first | exact xw_lo1 hil hc31 | exact xw_lo2 hT.2.1 hil he hc42
          have hcn := xd_cn_le K (xd_dp K (xk_h k)) (xk_h k % 2 ^ xd_dp K (xk_h k))
          have hn9 := xd_cn_sub K (xd_dp K (xk_h k)) (xk_h k % 2 ^ xd_dp K (xk_h k)) i
          refine lv_iconst (v := nI 0) hx hb d_K_bucketPagesUpTo_70 (by decide +kernel) ?_
          refine lv_aload_n hx hb d_K_bucketPagesUpTo_71 rfl (lv_at hl 0 rfl) ?_
          refine va_get (D := D) (ci := 1) (v := .ref (q 2)) (C := R_K) (T := F_K) (N := 4) hx hb hts (zi_K _) hown hK hP 1 rfl rfl 2 (by decide) (hts _ (List.mem_cons_of_mem _ zm_46)) (fun _ h9 => h9) rfl d_K_bucketPagesUpTo_72 ?_
          refine lv_iload_n hx hb d_K_bucketPagesUpTo_75 rfl (lv_at hl 3 rfl) ?_
          refine xa_cI (va_runV (As := [.int (nI (xk_h k % 2 ^ xd_dp K (xk_h k)))]) (rest := [.int (nI 0)]) ⟨hx, hb, hml, hown, hts⟩ (c_C_kob l D q cA lim kf kg af bf rk rv rm rs rn bp bk bv bo bn K (xk_h k % 2 ^ xd_dp K (xk_h k)) hT (by omega)) (cwV 1 hts (zg_V zm_215 zm_216 zm_217 zm_4 zm_218) rfl rfl rfl (by decide +kernel) ⟨Nat.le_of_ble_eq_true rfl, Nat.le_of_ble_eq_true rfl⟩) (xp_preV (ci := 2) (q0 := 2) hK hP rfl rfl rfl hZ) rfl rfl hl.1 rfl (lv_room (Nat.le_of_ble_eq_true rfl)) d_K_bucketPagesUpTo_76 ⟨Nat.zero_le _, Nat.zero_le _⟩) ?_
          refine xa_top (y := nI (xd_cn K (xd_dp K (xk_h k)) (xk_h k % 2 ^ xd_dp K (xk_h k)))) (by rw [xd_dp_place, Nat.mod_mod]) ?_
          refine lv_iconst (v := nI 1) hx hb d_K_bucketPagesUpTo_79 (by decide +kernel) ?_
          refine lv_isub hx hb d_K_bucketPagesUpTo_80 ?_
          refine xa_top (y := nI (xd_cn K (xd_dp K (xk_h k)) (xk_h k % 2 ^ xd_dp K (xk_h k))) - nI 1) rfl ?_
          refine va_mmax hx hb (hml.trans hl.1.symm) hown (hts _ (List.mem_cons_of_mem _ zm_271)) (hts _ (List.mem_cons_of_mem _ zm_21)) (hts _ (List.mem_cons_of_mem _ zm_2)) (hts _ (List.mem_cons_of_mem _ zm_22)) (Nat.le_of_ble_eq_true rfl) (Nat.le_of_ble_eq_true rfl) (Nat.zero_le _) (Nat.zero_le _) d_K_bucketPagesUpTo_81 ?_
          refine xa_top (y := nI (xd_cn K (xd_dp K (xk_h k)) (xk_h k % 2 ^ xd_dp K (xk_h k)) - 1)) (xw_max0 (by omega)) ?_
          refine lv_istore (lv' := [(5, .int (nI (xd_cn K (xd_dp K (xk_h k)) (xk_h k % 2 ^ xd_dp K (xk_h k)) - 1))), (0, .ref (q 1)), (1, .int k), (2, .int (nI (2 ^ xd_dp K (xk_h k) - 1))), (3, .int (nI (xk_h k % 2 ^ xd_dp K (xk_h k)))), (4, .int (nI n))]) hx hb d_K_bucketPagesUpTo_84 hl (Nat.le_of_ble_eq_true rfl) rfl (fun ls hl => ?_)
          refine lv_iload hx hb d_K_bucketPagesUpTo_86 (lv_at hl 5 rfl) ?_
          refine lv_iload hx hb d_K_bucketPagesUpTo_88 (lv_at hl 0 rfl) ?_
          refine va_mmin hx hb (hml.trans hl.1.symm) hown (hts _ (List.mem_cons_of_mem _ zm_272)) (hts _ (List.mem_cons_of_mem _ zm_18)) (hts _ (List.mem_cons_of_mem _ zm_2)) (hts _ (List.mem_cons_of_mem _ zm_19)) (Nat.le_of_ble_eq_true rfl) (Nat.le_of_ble_eq_true rfl) (Nat.zero_le _) (Nat.zero_le _) d_K_bucketPagesUpTo_90 ?_
          refine xa_top (y := nI (min n (xd_cn K (xd_dp K (xk_h k)) (xk_h k % 2 ^ xd_dp K (xk_h k)) - 1))) (xn_min (by omega) (by omega)) ?_
          refine lv_iconst (v := nI 4) hx hb d_K_bucketPagesUpTo_93 (by decide +kernel) ?_
          refine lv_idiv hx hb d_K_bucketPagesUpTo_94 (by decide +kernel) ?_
          refine xa_top (y := nI ((min n (xd_cn K (xd_dp K (xk_h k)) (xk_h k % 2 ^ xd_dp K (xk_h k)) - 1)) / 4)) (pk_div (by omega) (by omega) (by omega)) ?_
          refine lv_iconst (v := nI 1) hx hb d_K_bucketPagesUpTo_95 (by decide +kernel) ?_
          refine lv_iadd hx hb d_K_bucketPagesUpTo_96 ?_
          refine xa_top (y := nI ((min n (xd_cn K (xd_dp K (xk_h k)) (xk_h k % 2 ^ xd_dp K (xk_h k)) - 1)) / 4 + 1)) (nI_add _ _) ?_
          exact W.iret (v := nI ((min n (xd_cn K (xd_dp K (xk_h k)) (xk_h k % 2 ^ xd_dp K (xk_h k)) - 1)) / 4 + 1)) hx hb hr (fun tJ htJ hWJ => ⟨_, rfl, by rw [hn, hlo]; rfl, htJ⟩) (fun _ h => by cases h) d_K_bucketPagesUpTo_97
        · skip
          refine lv_aload_n hx hb d_K_bucketPagesUpTo_45 rfl (lv_at hl 0 rfl) ?_
          refine va_get (D := D) (ci := 1) (v := .ref (q 5)) (C := R_K) (T := F_K) (N := 4) hx hb hts (zi_K _) hown hK hP 1 rfl rfl 0 (by decide) (hts _ (List.mem_cons_of_mem _ zm_44)) (fun _ h9 => h9) rfl d_K_bucketPagesUpTo_46 ?_
          refine lv_iload hx hb d_K_bucketPagesUpTo_49 (lv_at hl 5 rfl) ?_
          refine xa_iald hx hb hK hP 5 0 rfl rfl (k := i) (by omega) (by decide) d_K_bucketPagesUpTo_51 ?_
          refine xa_top (y := e.1) hfe ?_
          refine xa_cI (va_runSN (As := [.int e.1]) (rest := []) ⟨hx, hb, hml, hown, hts⟩ (c_E_hash l e.1) ⟨(va_cnB 1 hts (zg_C zm_175) rfl rfl rfl (hZ _ zn_173) (hts _ (List.mem_cons_of_mem _ zm_1)) (by decide +kernel) ⟨Nat.le_of_ble_eq_true rfl, Nat.le_of_ble_eq_true rfl⟩), (hts _ (List.mem_cons_of_mem _ zm_174)), trivial⟩ xp_preS rfl rfl hl.1 rfl (lv_room (Nat.le_of_ble_eq_true rfl)) d_K_bucketPagesUpTo_52 ⟨Nat.zero_le _, Nat.zero_le _⟩) ?_
          refine lv_iload_n hx hb d_K_bucketPagesUpTo_55 rfl (lv_at hl 2 rfl) ?_
          refine lv_iand hx hb d_K_bucketPagesUpTo_56 ?_
          refine xa_top (y := nI (xk_h e.1 % 2 ^ xd_dp K (xk_h k))) (xw_and (by have := xk_h_lt e.1; omega) (xd_dp_le K _)) ?_
          refine lv_iload_n hx hb d_K_bucketPagesUpTo_57 rfl (lv_at hl 3 rfl) ?_
          have hm1 := Nat.mod_le (xk_h e.1) (2 ^ xd_dp K (xk_h k))
          have hm2 := xk_h_lt e.1
          refine lv_icmp_ne (tgt := 64) hx hb d_K_bucketPagesUpTo_58 (by decide) (fun hc58 => ?_) (fun hc58 => ?_)
          · skip
            rw [nI_eq (by omega) (by omega)] at hc58
            refine lv_iinc (k := 5) (v := nI (i + 1)) (lv' := [(5, .int (nI (i + 1))), (0, .ref (q 1)), (1, .int k), (2, .int (nI (2 ^ xd_dp K (xk_h k) - 1))), (3, .int (nI (xk_h k % 2 ^ xd_dp K (xk_h k)))), (4, .int (nI n))]) hx hb d_K_bucketPagesUpTo_64 hl rfl (xn_inc _) (Nat.le_of_ble_eq_true rfl) rfl (fun ls hl => ?_)
            refine lv_goto (tgt := 25) hx hb d_K_bucketPagesUpTo_67 (by decide) ?_
            exact ih25 (i + 1) n ls ((xk_below hT.2.1 he).mp (xk_nle hc42)) (by first | rw [xd_cn_take he, if_pos hc58, hn] | rw [xd_cn_take he, if_neg hc58, hn]) (lv_sub hl [1, 2, 3, 4, 5, 0] rfl) (by omega)
          · skip
            rw [nI_eq (by omega) (by omega)] at hc58
            refine lv_iinc (k := 4) (v := nI (n + 1)) (lv' := [(4, .int (nI (n + 1))), (0, .ref (q 1)), (1, .int k), (2, .int (nI (2 ^ xd_dp K (xk_h k) - 1))), (3, .int (nI (xk_h k % 2 ^ xd_dp K (xk_h k)))), (5, .int (nI i))]) hx hb d_K_bucketPagesUpTo_61 hl rfl (xn_inc _) (Nat.le_of_ble_eq_true rfl) rfl (fun ls hl => ?_)
            refine lv_iinc (k := 5) (v := nI (i + 1)) (lv' := [(5, .int (nI (i + 1))), (4, .int (nI (n + 1))), (0, .ref (q 1)), (1, .int k), (2, .int (nI (2 ^ xd_dp K (xk_h k) - 1))), (3, .int (nI (xk_h k % 2 ^ xd_dp K (xk_h k))))]) hx hb d_K_bucketPagesUpTo_64 hl rfl (xn_inc _) (Nat.le_of_ble_eq_true rfl) rfl (fun ls hl => ?_)
            refine lv_goto (tgt := 25) hx hb d_K_bucketPagesUpTo_67 (by decide) ?_
            exact ih25 (i + 1) (n + 1) ls ((xk_below hT.2.1 he).mp (xk_nle hc42)) (by first | rw [xd_cn_take he, if_pos hc58, hn] | rw [xd_cn_take he, if_neg hc58, hn]) (lv_sub hl [2, 3, 4, 5, 1, 0] rfl) (by omega)
  exact lp25 _ 0 0 ls (Nat.zero_le _) (by simp [xd_cn]) (lv_sub hl [4, 5, 3, 2, 1, 0] rfl) (Nat.lt_succ_self _)
set_option maxHeartbeats 4000000 in
set_option maxRecDepth 100000 in
theorem c_K_kib (l : Launch) (D : va_G) (q : Nat → Nat) (cA : Nat → ClassId) (lim : Int32) (kf : Nat → Int32) (kg : Nat → Int64) (af : Nat → Int32) (bf : Nat → Int32) (rk : Nat → Int32) (rv : Nat → Int64) (rm : Nat → Int32) (rs : Nat → Int32) (rn : Int32) (bp : Nat → Int32) (bk : Nat → Int32) (bv : Nat → Int64) (bo : Int32) (bn : Int32) (K : List xk_E) (p : Nat) (j : Nat) (hT : xw_KT kf kg af bf K) (hp : p < 64) (hpl : xd_pl K p = true) (hj : j < xd_cn K (xd_dp K p) p) : Met l y_K_keyInBucket zw_K_keyInBucket ({ frames := 3, cells := 0, slots := 0, locals := 65 } : Room) (va_Pc [.ref (q 1), .int (nI p), .int (nI j)] (xp_R D zz_cl (xw_tC cA) (xw_C q cA lim kf kg (nI K.length) af bf rk rv rm rs rn bp bk bv bo bn))) (vp_Si (fun r : Int32 => r = xo_ka K (nI ((xo_ko K p).length + j)))) 0 0 (fun _ => False) := by
  refine Met.ofW (cc := b_K_keyInBucket) (maxL := 6) (ret := (some .int)) (by decide) rfl ?_
  intro pJ eJ s mJ args below meth cJ s₁ B hml hv
  obtain ⟨rfl, hP, hK, hZ⟩ := hv
  have hx := B.exec
  have hb := B.bytes
  have hr := B.returns
  have hts := atoms_spec (ws := zw_K_keyInBucket) B.pre
  have hown : s.vm.findClass R_K = some mJ.cls := findClass_of_methodNamed B.named
  have hlocks := B.notSynchronized
  have hl := lv_entry ([.ref (q 1), .int (nI p), .int (nI j)]) (n := 6) (Nat.le_of_ble_eq_true rfl)
  rw [lg_entry_eq]
  generalize (lg_sl ([.ref (q 1), .int (nI p), .int (nI j)]) ++ List.replicate (6 - (lg_sl ([.ref (q 1), .int (nI p), .int (nI j)])).length) Slot.unset).toArray = ls at hl ⊢
  have hl : lv_has ls 6 [(0, .ref (q 1)), (1, .int (nI p)), (2, .int (nI j))] := hl
  have hlen := hT.1
  have hcn := xd_cn_le K (xd_dp K p) p
  refine lv_aload_n hx hb d_K_keyInBucket_0 rfl (lv_at hl 0 rfl) ?_
  refine va_get (D := D) (ci := 1) (v := .ref (q 2)) (C := R_K) (T := F_K) (N := 4) hx hb hts (zi_K _) hown hK hP 1 rfl rfl 2 (by decide) (hts _ (List.mem_cons_of_mem _ zm_46)) (fun _ h9 => h9) rfl d_K_keyInBucket_1 ?_
  refine lv_iload_n hx hb d_K_keyInBucket_4 rfl (lv_at hl 1 rfl) ?_
  refine xa_cI (va_runV (As := [.int (nI p)]) (rest := []) ⟨hx, hb, hml, hown, hts⟩ (c_C_mask l D q cA lim kf kg af bf rk rv rm rs rn bp bk bv bo bn K p hT (by omega)) (cwV 1 hts (zg_V zm_270 zm_212 zm_213 zm_4 zm_214) rfl rfl rfl (by decide +kernel) ⟨Nat.le_of_ble_eq_true rfl, Nat.le_of_ble_eq_true rfl⟩) (xp_preV (ci := 2) (q0 := 2) hK hP rfl rfl rfl hZ) rfl rfl hl.1 rfl (lv_room (Nat.le_of_ble_eq_true rfl)) d_K_keyInBucket_5 ⟨Nat.zero_le _, Nat.zero_le _⟩) ?_
  refine lv_istore_n (lv' := [(3, .int (nI (2 ^ xd_dp K p - 1))), (0, .ref (q 1)), (1, .int (nI p)), (2, .int (nI j))]) hx hb d_K_keyInBucket_8 rfl hl (Nat.le_of_ble_eq_true rfl) rfl (fun ls hl => ?_)
  refine lv_iload_n hx hb d_K_keyInBucket_9 rfl (lv_at hl 3 rfl) ?_
  refine lv_istore (lv' := [(4, .int (nI j)), (3, .int (nI (2 ^ xd_dp K p - 1))), (0, .ref (q 1)), (1, .int (nI p)), (2, .int (nI j))]) hx hb d_K_keyInBucket_10 hl (Nat.le_of_ble_eq_true rfl) rfl (fun ls hl => ?_)
  refine lv_iconst (v := nI 0) hx hb d_K_keyInBucket_12 (by decide +kernel) ?_
  refine lv_istore (lv' := [(5, .int (nI 0)), (4, .int (nI j)), (3, .int (nI (2 ^ xd_dp K p - 1))), (0, .ref (q 1)), (1, .int (nI p)), (2, .int (nI j))]) hx hb d_K_keyInBucket_13 hl (Nat.le_of_ble_eq_true rfl) rfl (fun ls hl => ?_)
  have lp15 : ∀ (N : Nat) (i : Nat) (t : Nat) (ls : Array Slot), (i ≤ K.length) → (t + xd_cn (K.take i) (xd_dp K p) p = j) → lv_has ls 6 [(0, .ref (q 1)), (1, .int (nI p)), (2, .int (nI j)), (3, .int (nI (2 ^ xd_dp K p - 1))), (4, .int (nI t)), (5, .int (nI i))] → K.length - i < N → W pJ l eJ (headSpec zw_K_keyInBucket ({ frames := 3, cells := 0, slots := 0, locals := 65 } : Room)).room s mJ ([.ref (q 1), .int (nI p), .int (nI j)] : List Value).toArray below meth cJ s.heap [] 0 0 (MQ below (vp_Si (fun r : Int32 => r = xo_ka K (nI ((xo_ko K p).length + j)))) ([.ref (q 1), .int (nI p), .int (nI j)] : List Value).toArray s 0 0 (fun _ => False)) (F0 mJ 15 ls []) := by
    intro N
    induction N with
    | zero => intro i t ls hi ht hl hm; exact absurd hm (Nat.not_lt_zero _)
    | succ N ih15 =>
      intro i t ls hi ht hl hm
      refine lv_iload hx hb d_K_keyInBucket_15 (lv_at hl 5 rfl) ?_
      refine lv_aload_n hx hb d_K_keyInBucket_17 rfl (lv_at hl 0 rfl) ?_
      refine va_get (D := D) (ci := 1) (v := .int (nI K.length)) (C := R_K) (T := F_K) (N := 4) hx hb hts (zi_K _) hown hK hP 1 rfl rfl 3 (by decide) (hts _ (List.mem_cons_of_mem _ zm_48)) (fun _ h9 => h9) rfl d_K_keyInBucket_18 ?_
      refine lv_icmp_ge (tgt := 62) hx hb d_K_keyInBucket_21 (by decide) (fun hc21 => ?_) (fun hc21 => ?_)
      · skip
        rw [nI_leI (by omega) (by omega)] at hc21
        exfalso
        (rw [show i = K.length from by omega, List.take_length] at ht; omega)
      · skip
        rw [nI_leI (by omega) (by omega)] at hc21
        obtain ⟨e, he⟩ : ∃ e, K[i]? = some e := ⟨_, List.getElem?_eq_getElem (by omega)⟩
        have hfe := (xk_tie_f hT.2.2.1 he).1
        refine lv_aload_n hx hb d_K_keyInBucket_24 rfl (lv_at hl 0 rfl) ?_
        refine va_get (D := D) (ci := 1) (v := .ref (q 5)) (C := R_K) (T := F_K) (N := 4) hx hb hts (zi_K _) hown hK hP 1 rfl rfl 0 (by decide) (hts _ (List.mem_cons_of_mem _ zm_44)) (fun _ h9 => h9) rfl d_K_keyInBucket_25 ?_
        refine lv_iload hx hb d_K_keyInBucket_28 (lv_at hl 5 rfl) ?_
        refine xa_iald hx hb hK hP 5 0 rfl rfl (k := i) (by omega) (by decide) d_K_keyInBucket_30 ?_
        refine xa_top (y := e.1) hfe ?_
        refine xa_cI (va_runSN (As := [.int e.1]) (rest := []) ⟨hx, hb, hml, hown, hts⟩ (c_E_hash l e.1) ⟨(va_cnB 1 hts (zg_C zm_175) rfl rfl rfl (hZ _ zn_173) (hts _ (List.mem_cons_of_mem _ zm_1)) (by decide +kernel) ⟨Nat.le_of_ble_eq_true rfl, Nat.le_of_ble_eq_true rfl⟩), (hts _ (List.mem_cons_of_mem _ zm_174)), trivial⟩ xp_preS rfl rfl hl.1 rfl (lv_room (Nat.le_of_ble_eq_true rfl)) d_K_keyInBucket_31 ⟨Nat.zero_le _, Nat.zero_le _⟩) ?_
        refine lv_iload_n hx hb d_K_keyInBucket_34 rfl (lv_at hl 3 rfl) ?_
        refine lv_iand hx hb d_K_keyInBucket_35 ?_
        refine xa_top (y := nI (xk_h e.1 % 2 ^ xd_dp K p)) (xw_and (by have := xk_h_lt e.1; omega) (xd_dp_le K _)) ?_
        refine lv_iload_n hx hb d_K_keyInBucket_36 rfl (lv_at hl 1 rfl) ?_
        have hm1 := Nat.mod_le (xk_h e.1) (2 ^ xd_dp K p)
        have hm2 := xk_h_lt e.1
        refine lv_icmp_ne (tgt := 56) hx hb d_K_keyInBucket_37 (by decide) (fun hc37 => ?_) (fun hc37 => ?_)
        · skip
          rw [nI_eq (by omega) (by omega)] at hc37
          refine lv_iinc (k := 5) (v := nI (i + 1)) (lv' := [(5, .int (nI (i + 1))), (0, .ref (q 1)), (1, .int (nI p)), (2, .int (nI j)), (3, .int (nI (2 ^ xd_dp K p - 1))), (4, .int (nI t))]) hx hb d_K_keyInBucket_56 hl rfl (xn_inc _) (Nat.le_of_ble_eq_true rfl) rfl (fun ls hl => ?_)
          refine lv_goto (tgt := 15) hx hb d_K_keyInBucket_59 (by decide) ?_
          exact ih15 (i + 1) t ls (by omega) (by first | (rw [xd_cn_take he, if_pos hc37]; omega) | (rw [xd_cn_take he, if_neg hc37]; exact ht)) (lv_sub hl [1, 2, 3, 4, 5, 0] rfl) (by omega)
        · skip
          rw [nI_eq (by omega) (by omega)] at hc37
          refine lv_iload hx hb d_K_keyInBucket_40 (lv_at hl 4 rfl) ?_
          refine lv_if_ne (tgt := 53) hx hb d_K_keyInBucket_42 (by decide) (fun hc42 => ?_) (fun hc42 => ?_)
          · skip
            rw [xn_ne0 (by omega)] at hc42
            refine lv_iinc (k := 4) (v := nI (t - 1)) (lv' := [(4, .int (nI (t - 1))), (0, .ref (q 1)), (1, .int (nI p)), (2, .int (nI j)), (3, .int (nI (2 ^ xd_dp K p - 1))), (5, .int (nI i))]) hx hb d_K_keyInBucket_53 hl rfl (xn_dec (by omega)) (Nat.le_of_ble_eq_true rfl) rfl (fun ls hl => ?_)
            refine lv_iinc (k := 5) (v := nI (i + 1)) (lv' := [(5, .int (nI (i + 1))), (4, .int (nI (t - 1))), (0, .ref (q 1)), (1, .int (nI p)), (2, .int (nI j)), (3, .int (nI (2 ^ xd_dp K p - 1)))]) hx hb d_K_keyInBucket_56 hl rfl (xn_inc _) (Nat.le_of_ble_eq_true rfl) rfl (fun ls hl => ?_)
            refine lv_goto (tgt := 15) hx hb d_K_keyInBucket_59 (by decide) ?_
            exact ih15 (i + 1) (t - 1) ls (by omega) (by first | (rw [xd_cn_take he, if_pos hc37]; omega) | (rw [xd_cn_take he, if_neg hc37]; exact ht)) (lv_sub hl [2, 3, 4, 5, 1, 0] rfl) (by omega)
          · skip
            rw [xn_ne0 (by omega)] at hc42
            refine lv_aload_n hx hb d_K_keyInBucket_45 rfl (lv_at hl 0 rfl) ?_
            refine va_get (D := D) (ci := 1) (v := .ref (q 5)) (C := R_K) (T := F_K) (N := 4) hx hb hts (zi_K _) hown hK hP 1 rfl rfl 0 (by decide) (hts _ (List.mem_cons_of_mem _ zm_44)) (fun _ h9 => h9) rfl d_K_keyInBucket_46 ?_
            refine lv_iload hx hb d_K_keyInBucket_49 (lv_at hl 5 rfl) ?_
            refine xa_iald hx hb hK hP 5 0 rfl rfl (k := i) (by omega) (by decide) d_K_keyInBucket_51 ?_
            refine xa_top (y := e.1) hfe ?_
            exact W.iret (v := e.1) hx hb hr (fun tJ htJ hWJ => ⟨_, rfl, by rw [← ht, hc42, Nat.zero_add]; exact (xo_ka_hit hT.1 hp hpl he hc37).symm, htJ⟩) (fun _ h => by cases h) d_K_keyInBucket_52
  exact lp15 _ 0 j ls (Nat.zero_le _) (by simp [xd_cn]) (lv_sub hl [3, 4, 5, 2, 1, 0] rfl) (Nat.lt_succ_self _)
set_option maxHeartbeats 4000000 in
set_option maxRecDepth 100000 in
theorem c_K_kipo (l : Launch) (D : va_G) (q : Nat → Nat) (cA : Nat → ClassId) (lim : Int32) (kf : Nat → Int32) (kg : Nat → Int64) (af : Nat → Int32) (bf : Nat → Int32) (rk : Nat → Int32) (rv : Nat → Int64) (rm : Nat → Int32) (rs : Nat → Int32) (rn : Int32) (bp : Nat → Int32) (bk : Nat → Int32) (bv : Nat → Int64) (bo : Int32) (bn : Int32) (K : List xk_E) (x : Int32) (hT : xw_KT kf kg af bf K) : Met l y_K_keyInPlaceOrder zw_K_keyInPlaceOrder ({ frames := 4, cells := 0, slots := 0, locals := 90 } : Room) (va_Pc [.ref (q 1), .int x] (xp_R D zz_cl (xw_tC cA) (xw_C q cA lim kf kg (nI K.length) af bf rk rv rm rs rn bp bk bv bo bn))) (vp_Si (fun r : Int32 => r = xo_ka K x)) 0 0 (fun _ => False) := by
  refine Met.ofW (cc := b_K_keyInPlaceOrder) (maxL := 5) (ret := (some .int)) (by decide) rfl ?_
  intro pJ eJ s mJ args below meth cJ s₁ B hml hv
  obtain ⟨rfl, hP, hK, hZ⟩ := hv
  have hx := B.exec
  have hb := B.bytes
  have hr := B.returns
  have hts := atoms_spec (ws := zw_K_keyInPlaceOrder) B.pre
  have hown : s.vm.findClass R_K = some mJ.cls := findClass_of_methodNamed B.named
  have hlocks := B.notSynchronized
  have hl := lv_entry ([.ref (q 1), .int x]) (n := 5) (Nat.le_of_ble_eq_true rfl)
  rw [lg_entry_eq]
  generalize (lg_sl ([.ref (q 1), .int x]) ++ List.replicate (5 - (lg_sl ([.ref (q 1), .int x])).length) Slot.unset).toArray = ls at hl ⊢
  have hl : lv_has ls 5 [(0, .ref (q 1)), (1, .int x)] := hl
  have hlen := hT.1
  refine lv_iload_n hx hb d_K_keyInPlaceOrder_0 rfl (lv_at hl 1 rfl) ?_
  refine lv_if_lt (tgt := 12) hx hb d_K_keyInPlaceOrder_1 (by decide) (fun hc1 => ?_) (fun hc1 => ?_)
  · skip
    refine lv_iconst (v := nI 0) hx hb d_K_keyInPlaceOrder_12 (by decide +kernel) ?_
    exact W.iret (v := nI 0) hx hb hr (fun tJ htJ hWJ => ⟨_, rfl, by first | exact xw_ka0 hc1 | exact xw_ka1 hT.1 hc9, htJ⟩) (fun _ h => by cases h) d_K_keyInPlaceOrder_13
  · skip
    refine lv_iload_n hx hb d_K_keyInPlaceOrder_4 rfl (lv_at hl 1 rfl) ?_
    refine lv_aload_n hx hb d_K_keyInPlaceOrder_5 rfl (lv_at hl 0 rfl) ?_
    refine va_get (D := D) (ci := 1) (v := .int (nI K.length)) (C := R_K) (T := F_K) (N := 4) hx hb hts (zi_K _) hown hK hP 1 rfl rfl 3 (by decide) (hts _ (List.mem_cons_of_mem _ zm_48)) (fun _ h9 => h9) rfl d_K_keyInPlaceOrder_6 ?_
    refine lv_icmp_lt (tgt := 14) hx hb d_K_keyInPlaceOrder_9 (by decide) (fun hc9 => ?_) (fun hc9 => ?_)
    · skip
      obtain ⟨j, hj, hxj⟩ := xw_ix hc1 hc9 (by omega)
      refine lv_iload_n hx hb d_K_keyInPlaceOrder_14 rfl (lv_at hl 1 rfl) ?_
      refine xa_top (y := nI j) hxj ?_
      refine lv_istore_n (lv' := [(2, .int (nI j)), (0, .ref (q 1)), (1, .int x)]) hx hb d_K_keyInPlaceOrder_15 rfl hl (Nat.le_of_ble_eq_true rfl) rfl (fun ls hl => ?_)
      refine lv_iconst (v := nI 0) hx hb d_K_keyInPlaceOrder_16 (by decide +kernel) ?_
      refine lv_istore_n (lv' := [(3, .int (nI 0)), (2, .int (nI j)), (0, .ref (q 1)), (1, .int x)]) hx hb d_K_keyInPlaceOrder_17 rfl hl (Nat.le_of_ble_eq_true rfl) rfl (fun ls hl => ?_)
      have lp18 : ∀ (N : Nat) (p : Nat) (t : Nat) (ls : Array Slot), (p ≤ 64) → (t + (xo_ko K p).length = j) → lv_has ls 5 [(0, .ref (q 1)), (1, .int x), (2, .int (nI t)), (3, .int (nI p))] → 64 - p < N → W pJ l eJ (headSpec zw_K_keyInPlaceOrder ({ frames := 4, cells := 0, slots := 0, locals := 90 } : Room)).room s mJ ([.ref (q 1), .int x] : List Value).toArray below meth cJ s.heap [] 0 0 (MQ below (vp_Si (fun r : Int32 => r = xo_ka K x)) ([.ref (q 1), .int x] : List Value).toArray s 0 0 (fun _ => False)) (F0 mJ 18 ls []) := by
        intro N
        induction N with
        | zero => intro p t ls hp ht hl hm; exact absurd hm (Nat.not_lt_zero _)
        | succ N ih18 =>
          intro p t ls hp ht hl hm
          refine lv_iload_n hx hb d_K_keyInPlaceOrder_18 rfl (lv_at hl 3 rfl) ?_
          refine lv_bipush (v := nI 64) hx hb d_K_keyInPlaceOrder_19 (by decide +kernel) ?_
          refine lv_icmp_ge (tgt := 69) hx hb d_K_keyInPlaceOrder_21 (by decide) (fun hc21 => ?_) (fun hc21 => ?_)
          · skip
            rw [nI_leI (by omega) (by omega)] at hc21
            exfalso
            (rw [show p = 64 from by omega, xo_ko_all] at ht; omega)
          · skip
            rw [nI_leI (by omega) (by omega)] at hc21
            refine lv_aload_n hx hb d_K_keyInPlaceOrder_24 rfl (lv_at hl 0 rfl) ?_
            refine va_get (D := D) (ci := 1) (v := .ref (q 2)) (C := R_K) (T := F_K) (N := 4) hx hb hts (zi_K _) hown hK hP 1 rfl rfl 2 (by decide) (hts _ (List.mem_cons_of_mem _ zm_46)) (fun _ h9 => h9) rfl d_K_keyInPlaceOrder_25 ?_
            refine lv_iload_n hx hb d_K_keyInPlaceOrder_28 rfl (lv_at hl 3 rfl) ?_
            refine xa_cI (va_runV (As := [.int (nI p)]) (rest := []) ⟨hx, hb, hml, hown, hts⟩ (c_C_isP l D q cA lim kf kg af bf rk rv rm rs rn bp bk bv bo bn K p hT (by omega)) (cwV 1 hts (zg_V zm_207 zm_208 zm_209 zm_4 zm_210) rfl rfl rfl (by decide +kernel) ⟨Nat.le_of_ble_eq_true rfl, Nat.le_of_ble_eq_true rfl⟩) (xp_preV (ci := 2) (q0 := 2) hK hP rfl rfl rfl hZ) rfl rfl hl.1 rfl (lv_room (Nat.le_of_ble_eq_true rfl)) d_K_keyInPlaceOrder_29 ⟨Nat.zero_le _, Nat.zero_le _⟩) ?_
            refine lv_if_eq (tgt := 63) hx hb d_K_keyInPlaceOrder_32 (by decide) (fun hc32 => ?_) (fun hc32 => ?_)
            · skip
              rw [xb_0] at hc32
              refine lv_iinc (k := 3) (v := nI (p + 1)) (lv' := [(3, .int (nI (p + 1))), (0, .ref (q 1)), (1, .int x), (2, .int (nI t))]) hx hb d_K_keyInPlaceOrder_63 hl rfl (xn_inc _) (Nat.le_of_ble_eq_true rfl) rfl (fun ls hl => ?_)
              refine lv_goto (tgt := 18) hx hb d_K_keyInPlaceOrder_66 (by decide) ?_
              exact ih18 (p + 1) t ls (by omega) (by first | (rw [xo_ko_step, if_pos hc32]; omega) | (rw [xo_ko_step, if_neg (by simp [hc32])]; exact ht)) (lv_sub hl [1, 2, 3, 0] rfl) (by omega)
            · skip
              rw [xb_1] at hc32
              refine lv_aload_n hx hb d_K_keyInPlaceOrder_35 rfl (lv_at hl 0 rfl) ?_
              refine va_get (D := D) (ci := 1) (v := .ref (q 2)) (C := R_K) (T := F_K) (N := 4) hx hb hts (zi_K _) hown hK hP 1 rfl rfl 2 (by decide) (hts _ (List.mem_cons_of_mem _ zm_46)) (fun _ h9 => h9) rfl d_K_keyInPlaceOrder_36 ?_
              refine lv_iload_n hx hb d_K_keyInPlaceOrder_39 rfl (lv_at hl 3 rfl) ?_
              refine xa_cI (va_runV (As := [.int (nI p)]) (rest := []) ⟨hx, hb, hml, hown, hts⟩ (c_C_kob l D q cA lim kf kg af bf rk rv rm rs rn bp bk bv bo bn K p hT (by omega)) (cwV 1 hts (zg_V zm_215 zm_216 zm_217 zm_4 zm_218) rfl rfl rfl (by decide +kernel) ⟨Nat.le_of_ble_eq_true rfl, Nat.le_of_ble_eq_true rfl⟩) (xp_preV (ci := 2) (q0 := 2) hK hP rfl rfl rfl hZ) rfl rfl hl.1 rfl (lv_room (Nat.le_of_ble_eq_true rfl)) d_K_keyInPlaceOrder_40 ⟨Nat.zero_le _, Nat.zero_le _⟩) ?_
              refine xa_top (y := nI (xd_cn K (xd_dp K p) p)) (by rw [xd_pl_iff.mp hc32]) ?_
              refine lv_istore (lv' := [(4, .int (nI (xd_cn K (xd_dp K p) p))), (0, .ref (q 1)), (1, .int x), (2, .int (nI t)), (3, .int (nI p))]) hx hb d_K_keyInPlaceOrder_43 hl (Nat.le_of_ble_eq_true rfl) rfl (fun ls hl => ?_)
              have hcn := xd_cn_le K (xd_dp K p) p
              refine lv_iload_n hx hb d_K_keyInPlaceOrder_45 rfl (lv_at hl 3 rfl) ?_
              refine lv_iload hx hb d_K_keyInPlaceOrder_46 (lv_at hl 0 rfl) ?_
              refine lv_icmp_ge (tgt := 58) hx hb d_K_keyInPlaceOrder_48 (by decide) (fun hc48 => ?_) (fun hc48 => ?_)
              · skip
                rw [nI_leI (by omega) (by omega)] at hc48
                refine lv_iload_n hx hb d_K_keyInPlaceOrder_58 rfl (lv_at hl 3 rfl) ?_
                refine lv_iload hx hb d_K_keyInPlaceOrder_59 (lv_at hl 0 rfl) ?_
                refine lv_isub hx hb d_K_keyInPlaceOrder_61 ?_
                refine xa_top (y := nI (t - (xd_cn K (xd_dp K p) p))) (pk_sub (by omega)) ?_
                refine lv_istore_n (lv' := [(2, .int (nI (t - (xd_cn K (xd_dp K p) p)))), (4, .int (nI (xd_cn K (xd_dp K p) p))), (0, .ref (q 1)), (1, .int x), (3, .int (nI p))]) hx hb d_K_keyInPlaceOrder_62 rfl hl (Nat.le_of_ble_eq_true rfl) rfl (fun ls hl => ?_)
                refine lv_iinc (k := 4) (v := nI (p + 1)) (lv' := [(3, .int (nI (p + 1))), (2, .int (nI (t - (xd_cn K (xd_dp K p) p)))), (4, .int (nI (xd_cn K (xd_dp K p) p))), (0, .ref (q 1)), (1, .int x)]) hx hb d_K_keyInPlaceOrder_63 hl rfl (xn_inc _) (Nat.le_of_ble_eq_true rfl) rfl (fun ls hl => ?_)
                refine lv_goto (tgt := 18) hx hb d_K_keyInPlaceOrder_66 (by decide) ?_
                exact ih18 (p + 1) (t - (xd_cn K (xd_dp K p) p)) ls (by omega) (by first | (rw [xo_ko_step, if_pos hc32]; omega) | (rw [xo_ko_step, if_neg (by simp [hc32])]; exact ht)) (lv_sub hl [3, 4, 1, 0] rfl) (by omega)
              · skip
                rw [nI_leI (by omega) (by omega)] at hc48
                refine lv_aload_n hx hb d_K_keyInPlaceOrder_51 rfl (lv_at hl 1 rfl) ?_
                refine lv_iload_n hx hb d_K_keyInPlaceOrder_52 rfl (lv_at hl 4 rfl) ?_
                refine lv_iload_n hx hb d_K_keyInPlaceOrder_53 rfl (lv_at hl 3 rfl) ?_
                refine xa_cI (va_runV (As := [.int (nI p), .int (nI t)]) (rest := []) ⟨hx, hb, hml, hown, hts⟩ (c_K_kib l D q cA lim kf kg af bf rk rv rm rs rn bp bk bv bo bn K p t hT (by omega) hc32 (by omega)) (cwV 2 hts (zg_V zm_363 zm_365 zs_10 zm_3 zm_366) rfl rfl rfl (by decide +kernel) ⟨Nat.le_of_ble_eq_true rfl, Nat.le_of_ble_eq_true rfl⟩) (xp_preV (ci := 1) (q0 := 1) hK hP rfl rfl rfl hZ) rfl rfl hl.1 rfl (lv_room (Nat.le_of_ble_eq_true rfl)) d_K_keyInPlaceOrder_54 ⟨Nat.zero_le _, Nat.zero_le _⟩) ?_
                exact W.iret (v := xo_ka K (nI ((xo_ko K p).length + t))) hx hb hr (fun tJ htJ hWJ => ⟨_, rfl, by rw [hxj, ← ht, Nat.add_comm], htJ⟩) (fun _ h => by cases h) d_K_keyInPlaceOrder_57
      exact lp18 _ 0 j ls (by omega) rfl (lv_sub hl [2, 3, 1, 0] rfl) (Nat.lt_succ_self _)
    · skip
      refine lv_iconst (v := nI 0) hx hb d_K_keyInPlaceOrder_12 (by decide +kernel) ?_
      exact W.iret (v := nI 0) hx hb hr (fun tJ htJ hWJ => ⟨_, rfl, by first | exact xw_ka0 hc1 | exact xw_ka1 hT.1 hc9, htJ⟩) (fun _ h => by cases h) d_K_keyInPlaceOrder_13
set_option maxHeartbeats 4000000 in
set_option maxRecDepth 100000 in
theorem c_C_count (l : Launch) (D : va_G) (q : Nat → Nat) (cA : Nat → ClassId) (lim : Int32) (kf : Nat → Int32) (kg : Nat → Int64) (kn : Int32) (af : Nat → Int32) (bf : Nat → Int32) (rk : Nat → Int32) (rv : Nat → Int64) (rm : Nat → Int32) (rs : Nat → Int32) (rn : Int32) (bp : Nat → Int32) (bk : Nat → Int32) (bv : Nat → Int64) (bo : Int32) (bn : Int32) (sz : Nat) (h : Nat) (x : Int32) (fl : Bool) (hh : h < 64) (hfl : fl = (decide (af (2 ^ 6 + h % 2 ^ 6) = 0) || decide (af (2 ^ 6 + h % 2 ^ 6) + x = 0))) : Met l y_C_countKey zw_C_countKey ({ frames := 1, cells := 0, slots := 0, locals := 22 } : Room) (va_Pc [.ref (q 2), .int (nI h), .int x] (xp_Q D zz_cl (xw_tC cA) sz (xw_C q cA lim kf kg kn af bf rk rv rm rs rn bp bk bv bo bn))) (va_Qv (fun u : Unit => True) (fun (u : Unit) (t : State) => va_P D zz_cl (xw_C q cA lim kf kg kn (xw_cu af h x 7) (xw_cb bf h x fl 7) rk rv rm rs rn bp bk bv bo bn) t.heap) (va_A (xw_C q cA lim kf kg kn af bf rk rv rm rs rn bp bk bv bo bn) sz)) 0 0 (va_A (xw_C q cA lim kf kg kn af bf rk rv rm rs rn bp bk bv bo bn) sz) := by
  refine Met.ofW (cc := b_C_countKey) (maxL := 7) (ret := none) (by decide) rfl ?_
  intro pJ eJ s mJ args below meth cJ s₁ B hml hv
  obtain ⟨rfl, hsz, hP, hK, hD0, hZ⟩ := hv
  have hx := B.exec
  have hb := B.bytes
  have hr := B.returns
  have hts := atoms_spec (ws := zw_C_countKey) B.pre
  have hown : s.vm.findClass R_C = some mJ.cls := findClass_of_methodNamed B.named
  have hlocks := B.notSynchronized
  subst hsz
  have hD := hD0.self (sz := s.heap.size)
  generalize hAe : va_A (xw_C q cA lim kf kg kn af bf rk rv rm rs rn bp bk bv bo bn) s.heap.size = A at hD ⊢
  have hA : ∀ q : Nat, s.heap.size ≤ q → A q := fun q h => by rw [← hAe]; exact Or.inr h
  have hS : va_S A s.heap s.heap [] := va_S.rf
  have hl := lv_entry ([.ref (q 2), .int (nI h), .int x]) (n := 7) (Nat.le_of_ble_eq_true rfl)
  rw [lg_entry_eq]
  generalize (lg_sl ([.ref (q 2), .int (nI h), .int x]) ++ List.replicate (7 - (lg_sl ([.ref (q 2), .int (nI h), .int x])).length) Slot.unset).toArray = ls at hl ⊢
  have hl : lv_has ls 7 [(0, .ref (q 2)), (1, .int (nI h)), (2, .int x)] := hl
  refine lv_aload_n hx hb d_C_countKey_0 rfl (lv_at hl 0 rfl) ?_
  refine va_get (D := D) (ci := 2) (v := .ref (q 7)) (C := R_C) (T := F_C) (N := 2) hx hb hts (zi_C _) hown hK hP 2 rfl rfl 0 (by decide) (hts _ (List.mem_cons_of_mem _ zm_35)) (fun _ h9 => h9) rfl d_C_countKey_1 ?_
  refine lv_bipush (v := nI 6) hx hb d_C_countKey_4 (by decide +kernel) ?_
  refine lv_iload_n hx hb d_C_countKey_6 rfl (lv_at hl 1 rfl) ?_
  refine xa_cI (va_runS (As := [.int (nI 6), .int (nI h)]) (rest := [.ref (q 7)]) ⟨hx, hb, hml, hown, hts⟩ (c_C_cell l 6 h (by omega) (by omega)) (cwS 2 hts (zg_S zm_180 zm_181 zm_4 zm_182) rfl rfl rfl (by decide +kernel) ⟨Nat.le_of_ble_eq_true rfl, Nat.le_of_ble_eq_true rfl⟩) xp_preS rfl rfl hl.1 rfl (lv_room (Nat.le_of_ble_eq_true rfl)) d_C_countKey_7 ⟨Nat.zero_le _, Nat.zero_le _⟩) ?_
  refine xa_iald hx hb hK hP 7 2 rfl rfl (k := 2 ^ 6 + h % 2 ^ 6) (xw_cell (Nat.le_refl 6) (Nat.mod_lt _ (Nat.two_pow_pos _))) (by decide) d_C_countKey_10 ?_
  refine lv_istore_n (lv' := [(3, .int (af (2 ^ 6 + h % 2 ^ 6))), (0, .ref (q 2)), (1, .int (nI h)), (2, .int x)]) hx hb d_C_countKey_11 rfl hl (Nat.le_of_ble_eq_true rfl) rfl (fun ls hl => ?_)
  refine lv_iload_n hx hb d_C_countKey_12 rfl (lv_at hl 0 rfl) ?_
  refine lv_if_eq (tgt := 22) hx hb d_C_countKey_13 (by decide) (fun hc13 => ?_) (fun hc13 => ?_)
  · skip
    refine lv_iconst (v := nI 1) hx hb d_C_countKey_22 (by decide +kernel) ?_
    refine lv_goto (tgt := 27) hx hb d_C_countKey_23 (by decide) ?_
    refine xa_top (y := xb_i fl) (by first | exact xw_fl1 hfl (Or.inl hc13) | exact xw_fl1 hfl (Or.inr hc19) | exact xw_fl0 hfl hc13 hc19) ?_
    refine lv_istore (lv' := [(4, .int (xb_i fl)), (3, .int (af (2 ^ 6 + h % 2 ^ 6))), (0, .ref (q 2)), (1, .int (nI h)), (2, .int x)]) hx hb d_C_countKey_27 hl (Nat.le_of_ble_eq_true rfl) rfl (fun ls hl => ?_)
    rw [show bf = xw_cb bf h x fl 0 from xw_cb_0 bf h x fl] at hP hD
    refine lv_iconst (v := nI 0) hx hb d_C_countKey_29 (by decide +kernel) ?_
    refine lv_istore (lv' := [(5, .int (nI 0)), (4, .int (xb_i fl)), (3, .int (af (2 ^ 6 + h % 2 ^ 6))), (0, .ref (q 2)), (1, .int (nI h)), (2, .int x)]) hx hb d_C_countKey_30 hl (Nat.le_of_ble_eq_true rfl) rfl (fun ls hl => ?_)
    have lp32 : ∀ (N : Nat) (d : Nat) (ls : Array Slot) (H : Heap) (locs : List Loc), (d ≤ 7) → lv_has ls 7 [(0, .ref (q 2)), (1, .int (nI h)), (2, .int x), (3, .int (af (2 ^ 6 + h % 2 ^ 6))), (4, .int (xb_i fl)), (5, .int (nI d))] → va_P D zz_cl (xw_C q cA lim kf kg kn (xw_cu af h x d) (xw_cb bf h x fl d) rk rv rm rs rn bp bk bv bo bn) H → va_D A (xw_C q cA lim kf kg kn (xw_cu af h x d) (xw_cb bf h x fl d) rk rv rm rs rn bp bk bv bo bn) → va_S A s.heap H locs → 7 - d < N → W pJ l eJ (headSpec zw_C_countKey ({ frames := 1, cells := 0, slots := 0, locals := 22 } : Room)).room s mJ ([.ref (q 2), .int (nI h), .int x] : List Value).toArray below meth cJ H locs 0 0 (MQ below (va_Qv (fun u : Unit => True) (fun (u : Unit) (t : State) => va_P D zz_cl (xw_C q cA lim kf kg kn (xw_cu af h x 7) (xw_cb bf h x fl 7) rk rv rm rs rn bp bk bv bo bn) t.heap) A) ([.ref (q 2), .int (nI h), .int x] : List Value).toArray s 0 0 A) (F0 mJ 32 ls []) := by
      intro N
      induction N with
      | zero => intro d ls H locs hd7 hl hP hD hS hm; exact absurd hm (Nat.not_lt_zero _)
      | succ N ih32 =>
        intro d ls H locs hd7 hl hP hD hS hm
        refine lv_iload hx hb d_C_countKey_32 (lv_at hl 5 rfl) ?_
        refine lv_bipush (v := nI 6) hx hb d_C_countKey_34 (by decide +kernel) ?_
        refine lv_icmp_gt (tgt := 80) hx hb d_C_countKey_36 (by decide) (fun hc36 => ?_) (fun hc36 => ?_)
        · skip
          rw [nI_ltI (by omega) (by omega)] at hc36
          obtain rfl : d = 7 := by omega
          exact W.vret hx hb hr (fun tJ htJ hWJ => ⟨⟨(), rfl, trivial, by dsimp only; rw [htJ]; exact hP⟩, hS.F htJ⟩) hS.2.2 d_C_countKey_80
        · skip
          rw [nI_ltI (by omega) (by omega)] at hc36
          have hd6 : d ≤ 6 := by omega
          refine lv_iload hx hb d_C_countKey_39 (lv_at hl 5 rfl) ?_
          refine lv_iload_n hx hb d_C_countKey_41 rfl (lv_at hl 1 rfl) ?_
          refine xa_cI (va_runS (As := [.int (nI d), .int (nI h)]) (rest := []) ⟨hx, hb, hml, hown, hts⟩ (c_C_cell l d h (by omega) (by omega)) (cwS 2 hts (zg_S zm_180 zm_181 zm_4 zm_182) rfl rfl rfl (by decide +kernel) ⟨Nat.le_of_ble_eq_true rfl, Nat.le_of_ble_eq_true rfl⟩) xp_preS rfl rfl hl.1 rfl (lv_room (Nat.le_of_ble_eq_true rfl)) d_C_countKey_42 ⟨Nat.zero_le _, Nat.zero_le _⟩) ?_
          refine lv_istore (lv' := [(6, .int (nI (2 ^ d + h % 2 ^ d))), (0, .ref (q 2)), (1, .int (nI h)), (2, .int x), (3, .int (af (2 ^ 6 + h % 2 ^ 6))), (4, .int (xb_i fl)), (5, .int (nI d))]) hx hb d_C_countKey_45 hl (Nat.le_of_ble_eq_true rfl) rfl (fun ls hl => ?_)
          refine lv_aload_n hx hb d_C_countKey_47 rfl (lv_at hl 1 rfl) ?_
          refine va_get (D := D) (ci := 2) (v := .ref (q 7)) (C := R_C) (T := F_C) (N := 2) hx hb hts (zi_C _) hown hK hP 2 rfl rfl 0 (by decide) (hts _ (List.mem_cons_of_mem _ zm_35)) (fun _ h9 => h9) rfl d_C_countKey_48 ?_
          refine lv_iload hx hb d_C_countKey_51 (lv_at hl 0 rfl) ?_
          refine lv_dup2_11 hx hb d_C_countKey_53 rfl rfl ?_
          refine xa_iald hx hb hK hP 7 2 rfl rfl (k := 2 ^ d + h % 2 ^ d) (xw_cell hd6 (Nat.mod_lt _ (Nat.two_pow_pos _))) (by decide) d_C_countKey_54 ?_
          refine xa_top (y := af (2 ^ d + h % 2 ^ d)) (xw_cu_hi af h x d _ (by omega)) ?_
          refine lv_iload_n hx hb d_C_countKey_55 rfl (lv_at hl 3 rfl) ?_
          refine lv_iadd hx hb d_C_countKey_56 ?_
          refine xa_iast (ws' := (xw_C q cA lim kf kg kn (upd (xw_cu af h x d) (2 ^ d + h % 2 ^ d) ((af (2 ^ d + h % 2 ^ d)) + x)) (xw_cb bf h x fl d) rk rv rm rs rn bp bk bv bo bn)) hx hb hK hP hD hS 7 2 rfl rfl (k := 2 ^ d + h % 2 ^ d) (xw_cell hd6 (Nat.mod_lt _ (Nat.two_pow_pos _))) (by decide) rfl d_C_countKey_57 (fun H locs hP hD hS => ?_)
          rw [show upd (xw_cu af h x d) (2 ^ d + h % 2 ^ d) ((af (2 ^ d + h % 2 ^ d)) + x) = xw_cu af h x (d + 1) from rfl] at hP hD
          refine lv_iload hx hb d_C_countKey_58 (lv_at hl 5 rfl) ?_
          refine lv_if_eq (tgt := 74) hx hb d_C_countKey_60 (by decide) (fun hc60 => ?_) (fun hc60 => ?_)
          · skip
            rw [xb_0] at hc60
            rw [show xw_cb bf h x fl d = xw_cb bf h x fl (d + 1) from xw_cb_f d (d + 1) hc60] at hP hD
            refine lv_iinc (k := 6) (v := nI (d + 1)) (lv' := [(5, .int (nI (d + 1))), (6, .int (nI (2 ^ d + h % 2 ^ d))), (0, .ref (q 2)), (1, .int (nI h)), (2, .int x), (3, .int (af (2 ^ 6 + h % 2 ^ 6))), (4, .int (xb_i fl))]) hx hb d_C_countKey_74 hl rfl (xn_inc _) (Nat.le_of_ble_eq_true rfl) rfl (fun ls hl => ?_)
            refine lv_goto (tgt := 32) hx hb d_C_countKey_77 (by decide) ?_
            exact ih32 (d + 1) ls _ _ (by omega) (lv_sub hl [2, 3, 4, 5, 6, 0] rfl) hP hD hS (by omega)
          · skip
            rw [xb_1] at hc60
            rw [show xw_cb bf h x fl d = xw_cu bf h x d from xw_cb_t hc60] at hP hD
            refine lv_aload_n hx hb d_C_countKey_63 rfl (lv_at hl 1 rfl) ?_
            refine va_get (D := D) (ci := 2) (v := .ref (q 8)) (C := R_C) (T := F_C) (N := 2) hx hb hts (zi_C _) hown hK hP 2 rfl rfl 1 (by decide) (hts _ (List.mem_cons_of_mem _ zm_36)) (fun _ h9 => h9) rfl d_C_countKey_64 ?_
            refine lv_iload hx hb d_C_countKey_67 (lv_at hl 0 rfl) ?_
            refine lv_dup2_11 hx hb d_C_countKey_69 rfl rfl ?_
            refine xa_iald hx hb hK hP 8 3 rfl rfl (k := 2 ^ d + h % 2 ^ d) (xw_cell hd6 (Nat.mod_lt _ (Nat.two_pow_pos _))) (by decide) d_C_countKey_70 ?_
            refine xa_top (y := bf (2 ^ d + h % 2 ^ d)) (xw_cu_hi bf h x d _ (by omega)) ?_
            refine lv_iload_n hx hb d_C_countKey_71 rfl (lv_at hl 3 rfl) ?_
            refine lv_iadd hx hb d_C_countKey_72 ?_
            refine xa_iast (ws' := (xw_C q cA lim kf kg kn (xw_cu af h x (d + 1)) (upd (xw_cu bf h x d) (2 ^ d + h % 2 ^ d) ((bf (2 ^ d + h % 2 ^ d)) + x)) rk rv rm rs rn bp bk bv bo bn)) hx hb hK hP hD hS 8 3 rfl rfl (k := 2 ^ d + h % 2 ^ d) (xw_cell hd6 (Nat.mod_lt _ (Nat.two_pow_pos _))) (by decide) rfl d_C_countKey_73 (fun H locs hP hD hS => ?_)
            rw [show upd (xw_cu bf h x d) (2 ^ d + h % 2 ^ d) ((bf (2 ^ d + h % 2 ^ d)) + x) = xw_cb bf h x fl (d + 1) from (xw_cb_t (d := d + 1) hc60).symm] at hP hD
            refine lv_iinc (k := 6) (v := nI (d + 1)) (lv' := [(5, .int (nI (d + 1))), (6, .int (nI (2 ^ d + h % 2 ^ d))), (0, .ref (q 2)), (1, .int (nI h)), (2, .int x), (3, .int (af (2 ^ 6 + h % 2 ^ 6))), (4, .int (xb_i fl))]) hx hb d_C_countKey_74 hl rfl (xn_inc _) (Nat.le_of_ble_eq_true rfl) rfl (fun ls hl => ?_)
            refine lv_goto (tgt := 32) hx hb d_C_countKey_77 (by decide) ?_
            exact ih32 (d + 1) ls _ _ (by omega) (lv_sub hl [2, 3, 4, 5, 6, 0] rfl) hP hD hS (by omega)
    exact lp32 _ 0 ls _ _ (by omega) (lv_sub hl [3, 4, 5, 2, 1, 0] rfl) hP hD hS (Nat.lt_succ_self _)
  · skip
    refine lv_iload_n hx hb d_C_countKey_16 rfl (lv_at hl 0 rfl) ?_
    refine lv_iload_n hx hb d_C_countKey_17 rfl (lv_at hl 3 rfl) ?_
    refine lv_iadd hx hb d_C_countKey_18 ?_
    refine lv_if_ne (tgt := 26) hx hb d_C_countKey_19 (by decide) (fun hc19 => ?_) (fun hc19 => ?_)
    · skip
      refine lv_iconst (v := nI 0) hx hb d_C_countKey_26 (by decide +kernel) ?_
      refine xa_top (y := xb_i fl) (by first | exact xw_fl1 hfl (Or.inl hc13) | exact xw_fl1 hfl (Or.inr hc19) | exact xw_fl0 hfl hc13 hc19) ?_
      refine lv_istore (lv' := [(4, .int (xb_i fl)), (3, .int (af (2 ^ 6 + h % 2 ^ 6))), (0, .ref (q 2)), (1, .int (nI h)), (2, .int x)]) hx hb d_C_countKey_27 hl (Nat.le_of_ble_eq_true rfl) rfl (fun ls hl => ?_)
      rw [show bf = xw_cb bf h x fl 0 from xw_cb_0 bf h x fl] at hP hD
      refine lv_iconst (v := nI 0) hx hb d_C_countKey_29 (by decide +kernel) ?_
      refine lv_istore (lv' := [(5, .int (nI 0)), (4, .int (xb_i fl)), (3, .int (af (2 ^ 6 + h % 2 ^ 6))), (0, .ref (q 2)), (1, .int (nI h)), (2, .int x)]) hx hb d_C_countKey_30 hl (Nat.le_of_ble_eq_true rfl) rfl (fun ls hl => ?_)
      have lp32 : ∀ (N : Nat) (d : Nat) (ls : Array Slot) (H : Heap) (locs : List Loc), (d ≤ 7) → lv_has ls 7 [(0, .ref (q 2)), (1, .int (nI h)), (2, .int x), (3, .int (af (2 ^ 6 + h % 2 ^ 6))), (4, .int (xb_i fl)), (5, .int (nI d))] → va_P D zz_cl (xw_C q cA lim kf kg kn (xw_cu af h x d) (xw_cb bf h x fl d) rk rv rm rs rn bp bk bv bo bn) H → va_D A (xw_C q cA lim kf kg kn (xw_cu af h x d) (xw_cb bf h x fl d) rk rv rm rs rn bp bk bv bo bn) → va_S A s.heap H locs → 7 - d < N → W pJ l eJ (headSpec zw_C_countKey ({ frames := 1, cells := 0, slots := 0, locals := 22 } : Room)).room s mJ ([.ref (q 2), .int (nI h), .int x] : List Value).toArray below meth cJ H locs 0 0 (MQ below (va_Qv (fun u : Unit => True) (fun (u : Unit) (t : State) => va_P D zz_cl (xw_C q cA lim kf kg kn (xw_cu af h x 7) (xw_cb bf h x fl 7) rk rv rm rs rn bp bk bv bo bn) t.heap) A) ([.ref (q 2), .int (nI h), .int x] : List Value).toArray s 0 0 A) (F0 mJ 32 ls []) := by
        intro N
        induction N with
        | zero => intro d ls H locs hd7 hl hP hD hS hm; exact absurd hm (Nat.not_lt_zero _)
        | succ N ih32 =>
          intro d ls H locs hd7 hl hP hD hS hm
          refine lv_iload hx hb d_C_countKey_32 (lv_at hl 5 rfl) ?_
          refine lv_bipush (v := nI 6) hx hb d_C_countKey_34 (by decide +kernel) ?_
          refine lv_icmp_gt (tgt := 80) hx hb d_C_countKey_36 (by decide) (fun hc36 => ?_) (fun hc36 => ?_)
          · skip
            rw [nI_ltI (by omega) (by omega)] at hc36
            obtain rfl : d = 7 := by omega
            exact W.vret hx hb hr (fun tJ htJ hWJ => ⟨⟨(), rfl, trivial, by dsimp only; rw [htJ]; exact hP⟩, hS.F htJ⟩) hS.2.2 d_C_countKey_80
          · skip
            rw [nI_ltI (by omega) (by omega)] at hc36
            have hd6 : d ≤ 6 := by omega
            refine lv_iload hx hb d_C_countKey_39 (lv_at hl 5 rfl) ?_
            refine lv_iload_n hx hb d_C_countKey_41 rfl (lv_at hl 1 rfl) ?_
            refine xa_cI (va_runS (As := [.int (nI d), .int (nI h)]) (rest := []) ⟨hx, hb, hml, hown, hts⟩ (c_C_cell l d h (by omega) (by omega)) (cwS 2 hts (zg_S zm_180 zm_181 zm_4 zm_182) rfl rfl rfl (by decide +kernel) ⟨Nat.le_of_ble_eq_true rfl, Nat.le_of_ble_eq_true rfl⟩) xp_preS rfl rfl hl.1 rfl (lv_room (Nat.le_of_ble_eq_true rfl)) d_C_countKey_42 ⟨Nat.zero_le _, Nat.zero_le _⟩) ?_
            refine lv_istore (lv' := [(6, .int (nI (2 ^ d + h % 2 ^ d))), (0, .ref (q 2)), (1, .int (nI h)), (2, .int x), (3, .int (af (2 ^ 6 + h % 2 ^ 6))), (4, .int (xb_i fl)), (5, .int (nI d))]) hx hb d_C_countKey_45 hl (Nat.le_of_ble_eq_true rfl) rfl (fun ls hl => ?_)
            refine lv_aload_n hx hb d_C_countKey_47 rfl (lv_at hl 1 rfl) ?_
            refine va_get (D := D) (ci := 2) (v := .ref (q 7)) (C := R_C) (T := F_C) (N := 2) hx hb hts (zi_C _) hown hK hP 2 rfl rfl 0 (by decide) (hts _ (List.mem_cons_of_mem _ zm_35)) (fun _ h9 => h9) rfl d_C_countKey_48 ?_
            refine lv_iload hx hb d_C_countKey_51 (lv_at hl 0 rfl) ?_
            refine lv_dup2_11 hx hb d_C_countKey_53 rfl rfl ?_
            refine xa_iald hx hb hK hP 7 2 rfl rfl (k := 2 ^ d + h % 2 ^ d) (xw_cell hd6 (Nat.mod_lt _ (Nat.two_pow_pos _))) (by decide) d_C_countKey_54 ?_
            refine xa_top (y := af (2 ^ d + h % 2 ^ d)) (xw_cu_hi af h x d _ (by omega)) ?_
            refine lv_iload_n hx hb d_C_countKey_55 rfl (lv_at hl 3 rfl) ?_
            refine lv_iadd hx hb d_C_countKey_56 ?_
            refine xa_iast (ws' := (xw_C q cA lim kf kg kn (upd (xw_cu af h x d) (2 ^ d + h % 2 ^ d) ((af (2 ^ d + h % 2 ^ d)) + x)) (xw_cb bf h x fl d) rk rv rm rs rn bp bk bv bo bn)) hx hb hK hP hD hS 7 2 rfl rfl (k := 2 ^ d + h % 2 ^ d) (xw_cell hd6 (Nat.mod_lt _ (Nat.two_pow_pos _))) (by decide) rfl d_C_countKey_57 (fun H locs hP hD hS => ?_)
            rw [show upd (xw_cu af h x d) (2 ^ d + h % 2 ^ d) ((af (2 ^ d + h % 2 ^ d)) + x) = xw_cu af h x (d + 1) from rfl] at hP hD
            refine lv_iload hx hb d_C_countKey_58 (lv_at hl 5 rfl) ?_
            refine lv_if_eq (tgt := 74) hx hb d_C_countKey_60 (by decide) (fun hc60 => ?_) (fun hc60 => ?_)
            · skip
              rw [xb_0] at hc60
              rw [show xw_cb bf h x fl d = xw_cb bf h x fl (d + 1) from xw_cb_f d (d + 1) hc60] at hP hD
              refine lv_iinc (k := 6) (v := nI (d + 1)) (lv' := [(5, .int (nI (d + 1))), (6, .int (nI (2 ^ d + h % 2 ^ d))), (0, .ref (q 2)), (1, .int (nI h)), (2, .int x), (3, .int (af (2 ^ 6 + h % 2 ^ 6))), (4, .int (xb_i fl))]) hx hb d_C_countKey_74 hl rfl (xn_inc _) (Nat.le_of_ble_eq_true rfl) rfl (fun ls hl => ?_)
              refine lv_goto (tgt := 32) hx hb d_C_countKey_77 (by decide) ?_
              exact ih32 (d + 1) ls _ _ (by omega) (lv_sub hl [2, 3, 4, 5, 6, 0] rfl) hP hD hS (by omega)
            · skip
              rw [xb_1] at hc60
              rw [show xw_cb bf h x fl d = xw_cu bf h x d from xw_cb_t hc60] at hP hD
              refine lv_aload_n hx hb d_C_countKey_63 rfl (lv_at hl 1 rfl) ?_
              refine va_get (D := D) (ci := 2) (v := .ref (q 8)) (C := R_C) (T := F_C) (N := 2) hx hb hts (zi_C _) hown hK hP 2 rfl rfl 1 (by decide) (hts _ (List.mem_cons_of_mem _ zm_36)) (fun _ h9 => h9) rfl d_C_countKey_64 ?_
              refine lv_iload hx hb d_C_countKey_67 (lv_at hl 0 rfl) ?_
              refine lv_dup2_11 hx hb d_C_countKey_69 rfl rfl ?_
              refine xa_iald hx hb hK hP 8 3 rfl rfl (k := 2 ^ d + h % 2 ^ d) (xw_cell hd6 (Nat.mod_lt _ (Nat.two_pow_pos _))) (by decide) d_C_countKey_70 ?_
              refine xa_top (y := bf (2 ^ d + h % 2 ^ d)) (xw_cu_hi bf h x d _ (by omega)) ?_
              refine lv_iload_n hx hb d_C_countKey_71 rfl (lv_at hl 3 rfl) ?_
              refine lv_iadd hx hb d_C_countKey_72 ?_
              refine xa_iast (ws' := (xw_C q cA lim kf kg kn (xw_cu af h x (d + 1)) (upd (xw_cu bf h x d) (2 ^ d + h % 2 ^ d) ((bf (2 ^ d + h % 2 ^ d)) + x)) rk rv rm rs rn bp bk bv bo bn)) hx hb hK hP hD hS 8 3 rfl rfl (k := 2 ^ d + h % 2 ^ d) (xw_cell hd6 (Nat.mod_lt _ (Nat.two_pow_pos _))) (by decide) rfl d_C_countKey_73 (fun H locs hP hD hS => ?_)
              rw [show upd (xw_cu bf h x d) (2 ^ d + h % 2 ^ d) ((bf (2 ^ d + h % 2 ^ d)) + x) = xw_cb bf h x fl (d + 1) from (xw_cb_t (d := d + 1) hc60).symm] at hP hD
              refine lv_iinc (k := 6) (v := nI (d + 1)) (lv' := [(5, .int (nI (d + 1))), (6, .int (nI (2 ^ d + h % 2 ^ d))), (0, .ref (q 2)), (1, .int (nI h)), (2, .int x), (3, .int (af (2 ^ 6 + h % 2 ^ 6))), (4, .int (xb_i fl))]) hx hb d_C_countKey_74 hl rfl (xn_inc _) (Nat.le_of_ble_eq_true rfl) rfl (fun ls hl => ?_)
              refine lv_goto (tgt := 32) hx hb d_C_countKey_77 (by decide) ?_
              exact ih32 (d + 1) ls _ _ (by omega) (lv_sub hl [2, 3, 4, 5, 6, 0] rfl) hP hD hS (by omega)
      exact lp32 _ 0 ls _ _ (by omega) (lv_sub hl [3, 4, 5, 2, 1, 0] rfl) hP hD hS (Nat.lt_succ_self _)
    · skip
      refine lv_iconst (v := nI 1) hx hb d_C_countKey_22 (by decide +kernel) ?_
      refine lv_goto (tgt := 27) hx hb d_C_countKey_23 (by decide) ?_
      refine xa_top (y := xb_i fl) (by first | exact xw_fl1 hfl (Or.inl hc13) | exact xw_fl1 hfl (Or.inr hc19) | exact xw_fl0 hfl hc13 hc19) ?_
      refine lv_istore (lv' := [(4, .int (xb_i fl)), (3, .int (af (2 ^ 6 + h % 2 ^ 6))), (0, .ref (q 2)), (1, .int (nI h)), (2, .int x)]) hx hb d_C_countKey_27 hl (Nat.le_of_ble_eq_true rfl) rfl (fun ls hl => ?_)
      rw [show bf = xw_cb bf h x fl 0 from xw_cb_0 bf h x fl] at hP hD
      refine lv_iconst (v := nI 0) hx hb d_C_countKey_29 (by decide +kernel) ?_
      refine lv_istore (lv' := [(5, .int (nI 0)), (4, .int (xb_i fl)), (3, .int (af (2 ^ 6 + h % 2 ^ 6))), (0, .ref (q 2)), (1, .int (nI h)), (2, .int x)]) hx hb d_C_countKey_30 hl (Nat.le_of_ble_eq_true rfl) rfl (fun ls hl => ?_)
      have lp32 : ∀ (N : Nat) (d : Nat) (ls : Array Slot) (H : Heap) (locs : List Loc), (d ≤ 7) → lv_has ls 7 [(0, .ref (q 2)), (1, .int (nI h)), (2, .int x), (3, .int (af (2 ^ 6 + h % 2 ^ 6))), (4, .int (xb_i fl)), (5, .int (nI d))] → va_P D zz_cl (xw_C q cA lim kf kg kn (xw_cu af h x d) (xw_cb bf h x fl d) rk rv rm rs rn bp bk bv bo bn) H → va_D A (xw_C q cA lim kf kg kn (xw_cu af h x d) (xw_cb bf h x fl d) rk rv rm rs rn bp bk bv bo bn) → va_S A s.heap H locs → 7 - d < N → W pJ l eJ (headSpec zw_C_countKey ({ frames := 1, cells := 0, slots := 0, locals := 22 } : Room)).room s mJ ([.ref (q 2), .int (nI h), .int x] : List Value).toArray below meth cJ H locs 0 0 (MQ below (va_Qv (fun u : Unit => True) (fun (u : Unit) (t : State) => va_P D zz_cl (xw_C q cA lim kf kg kn (xw_cu af h x 7) (xw_cb bf h x fl 7) rk rv rm rs rn bp bk bv bo bn) t.heap) A) ([.ref (q 2), .int (nI h), .int x] : List Value).toArray s 0 0 A) (F0 mJ 32 ls []) := by
        intro N
        induction N with
        | zero => intro d ls H locs hd7 hl hP hD hS hm; exact absurd hm (Nat.not_lt_zero _)
        | succ N ih32 =>
          intro d ls H locs hd7 hl hP hD hS hm
          refine lv_iload hx hb d_C_countKey_32 (lv_at hl 5 rfl) ?_
          refine lv_bipush (v := nI 6) hx hb d_C_countKey_34 (by decide +kernel) ?_
          refine lv_icmp_gt (tgt := 80) hx hb d_C_countKey_36 (by decide) (fun hc36 => ?_) (fun hc36 => ?_)
          · skip
            rw [nI_ltI (by omega) (by omega)] at hc36
            obtain rfl : d = 7 := by omega
            exact W.vret hx hb hr (fun tJ htJ hWJ => ⟨⟨(), rfl, trivial, by dsimp only; rw [htJ]; exact hP⟩, hS.F htJ⟩) hS.2.2 d_C_countKey_80
          · skip
            rw [nI_ltI (by omega) (by omega)] at hc36
            have hd6 : d ≤ 6 := by omega
            refine lv_iload hx hb d_C_countKey_39 (lv_at hl 5 rfl) ?_
            refine lv_iload_n hx hb d_C_countKey_41 rfl (lv_at hl 1 rfl) ?_
            refine xa_cI (va_runS (As := [.int (nI d), .int (nI h)]) (rest := []) ⟨hx, hb, hml, hown, hts⟩ (c_C_cell l d h (by omega) (by omega)) (cwS 2 hts (zg_S zm_180 zm_181 zm_4 zm_182) rfl rfl rfl (by decide +kernel) ⟨Nat.le_of_ble_eq_true rfl, Nat.le_of_ble_eq_true rfl⟩) xp_preS rfl rfl hl.1 rfl (lv_room (Nat.le_of_ble_eq_true rfl)) d_C_countKey_42 ⟨Nat.zero_le _, Nat.zero_le _⟩) ?_
            refine lv_istore (lv' := [(6, .int (nI (2 ^ d + h % 2 ^ d))), (0, .ref (q 2)), (1, .int (nI h)), (2, .int x), (3, .int (af (2 ^ 6 + h % 2 ^ 6))), (4, .int (xb_i fl)), (5, .int (nI d))]) hx hb d_C_countKey_45 hl (Nat.le_of_ble_eq_true rfl) rfl (fun ls hl => ?_)
            refine lv_aload_n hx hb d_C_countKey_47 rfl (lv_at hl 1 rfl) ?_
            refine va_get (D := D) (ci := 2) (v := .ref (q 7)) (C := R_C) (T := F_C) (N := 2) hx hb hts (zi_C _) hown hK hP 2 rfl rfl 0 (by decide) (hts _ (List.mem_cons_of_mem _ zm_35)) (fun _ h9 => h9) rfl d_C_countKey_48 ?_
            refine lv_iload hx hb d_C_countKey_51 (lv_at hl 0 rfl) ?_
            refine lv_dup2_11 hx hb d_C_countKey_53 rfl rfl ?_
            refine xa_iald hx hb hK hP 7 2 rfl rfl (k := 2 ^ d + h % 2 ^ d) (xw_cell hd6 (Nat.mod_lt _ (Nat.two_pow_pos _))) (by decide) d_C_countKey_54 ?_
            refine xa_top (y := af (2 ^ d + h % 2 ^ d)) (xw_cu_hi af h x d _ (by omega)) ?_
            refine lv_iload_n hx hb d_C_countKey_55 rfl (lv_at hl 3 rfl) ?_
            refine lv_iadd hx hb d_C_countKey_56 ?_
            refine xa_iast (ws' := (xw_C q cA lim kf kg kn (upd (xw_cu af h x d) (2 ^ d + h % 2 ^ d) ((af (2 ^ d + h % 2 ^ d)) + x)) (xw_cb bf h x fl d) rk rv rm rs rn bp bk bv bo bn)) hx hb hK hP hD hS 7 2 rfl rfl (k := 2 ^ d + h % 2 ^ d) (xw_cell hd6 (Nat.mod_lt _ (Nat.two_pow_pos _))) (by decide) rfl d_C_countKey_57 (fun H locs hP hD hS => ?_)
            rw [show upd (xw_cu af h x d) (2 ^ d + h % 2 ^ d) ((af (2 ^ d + h % 2 ^ d)) + x) = xw_cu af h x (d + 1) from rfl] at hP hD
            refine lv_iload hx hb d_C_countKey_58 (lv_at hl 5 rfl) ?_
            refine lv_if_eq (tgt := 74) hx hb d_C_countKey_60 (by decide) (fun hc60 => ?_) (fun hc60 => ?_)
            · skip
              rw [xb_0] at hc60
              rw [show xw_cb bf h x fl d = xw_cb bf h x fl (d + 1) from xw_cb_f d (d + 1) hc60] at hP hD
              refine lv_iinc (k := 6) (v := nI (d + 1)) (lv' := [(5, .int (nI (d + 1))), (6, .int (nI (2 ^ d + h % 2 ^ d))), (0, .ref (q 2)), (1, .int (nI h)), (2, .int x), (3, .int (af (2 ^ 6 + h % 2 ^ 6))), (4, .int (xb_i fl))]) hx hb d_C_countKey_74 hl rfl (xn_inc _) (Nat.le_of_ble_eq_true rfl) rfl (fun ls hl => ?_)
              refine lv_goto (tgt := 32) hx hb d_C_countKey_77 (by decide) ?_
              exact ih32 (d + 1) ls _ _ (by omega) (lv_sub hl [2, 3, 4, 5, 6, 0] rfl) hP hD hS (by omega)
            · skip
              rw [xb_1] at hc60
              rw [show xw_cb bf h x fl d = xw_cu bf h x d from xw_cb_t hc60] at hP hD
              refine lv_aload_n hx hb d_C_countKey_63 rfl (lv_at hl 1 rfl) ?_
              refine va_get (D := D) (ci := 2) (v := .ref (q 8)) (C := R_C) (T := F_C) (N := 2) hx hb hts (zi_C _) hown hK hP 2 rfl rfl 1 (by decide) (hts _ (List.mem_cons_of_mem _ zm_36)) (fun _ h9 => h9) rfl d_C_countKey_64 ?_
              refine lv_iload hx hb d_C_countKey_67 (lv_at hl 0 rfl) ?_
              refine lv_dup2_11 hx hb d_C_countKey_69 rfl rfl ?_
              refine xa_iald hx hb hK hP 8 3 rfl rfl (k := 2 ^ d + h % 2 ^ d) (xw_cell hd6 (Nat.mod_lt _ (Nat.two_pow_pos _))) (by decide) d_C_countKey_70 ?_
              refine xa_top (y := bf (2 ^ d + h % 2 ^ d)) (xw_cu_hi bf h x d _ (by omega)) ?_
              refine lv_iload_n hx hb d_C_countKey_71 rfl (lv_at hl 3 rfl) ?_
              refine lv_iadd hx hb d_C_countKey_72 ?_
              refine xa_iast (ws' := (xw_C q cA lim kf kg kn (xw_cu af h x (d + 1)) (upd (xw_cu bf h x d) (2 ^ d + h % 2 ^ d) ((bf (2 ^ d + h % 2 ^ d)) + x)) rk rv rm rs rn bp bk bv bo bn)) hx hb hK hP hD hS 8 3 rfl rfl (k := 2 ^ d + h % 2 ^ d) (xw_cell hd6 (Nat.mod_lt _ (Nat.two_pow_pos _))) (by decide) rfl d_C_countKey_73 (fun H locs hP hD hS => ?_)
              rw [show upd (xw_cu bf h x d) (2 ^ d + h % 2 ^ d) ((bf (2 ^ d + h % 2 ^ d)) + x) = xw_cb bf h x fl (d + 1) from (xw_cb_t (d := d + 1) hc60).symm] at hP hD
              refine lv_iinc (k := 6) (v := nI (d + 1)) (lv' := [(5, .int (nI (d + 1))), (6, .int (nI (2 ^ d + h % 2 ^ d))), (0, .ref (q 2)), (1, .int (nI h)), (2, .int x), (3, .int (af (2 ^ 6 + h % 2 ^ 6))), (4, .int (xb_i fl))]) hx hb d_C_countKey_74 hl rfl (xn_inc _) (Nat.le_of_ble_eq_true rfl) rfl (fun ls hl => ?_)
              refine lv_goto (tgt := 32) hx hb d_C_countKey_77 (by decide) ?_
              exact ih32 (d + 1) ls _ _ (by omega) (lv_sub hl [2, 3, 4, 5, 6, 0] rfl) hP hD hS (by omega)
      exact lp32 _ 0 ls _ _ (by omega) (lv_sub hl [3, 4, 5, 2, 1, 0] rfl) hP hD hS (Nat.lt_succ_self _)
set_option maxHeartbeats 4000000 in
set_option maxRecDepth 100000 in
theorem c_K_insert (l : Launch) (D : va_G) (q : Nat → Nat) (cA : Nat → ClassId) (lim : Int32) (kf : Nat → Int32) (kg : Nat → Int64) (af : Nat → Int32) (bf : Nat → Int32) (rk : Nat → Int32) (rv : Nat → Int64) (rm : Nat → Int32) (rs : Nat → Int32) (rn : Int32) (bp : Nat → Int32) (bk : Nat → Int32) (bv : Nat → Int64) (bo : Int32) (bn : Int32) (sz : Nat) (K : List xk_E) (k : Int32) (v : Int64) (hT : xw_KT kf kg af bf K) (hk : xk_has K k = false) (hlt : K.length < 65) : Met l y_K_insert zw_K_insert ({ frames := 2, cells := 0, slots := 0, locals := 60 } : Room) (va_Pc [.ref (q 1), .int (nI (xk_lo K k)), .int k, .long v] (xp_Q D zz_cl (xw_tC cA) sz (xw_C q cA lim kf kg (nI K.length) af bf rk rv rm rs rn bp bk bv bo bn))) (va_Qv (fun u : (Nat → Int32) × (Nat → Int64) × (Nat → Int32) × (Nat → Int32) => xw_KT u.1 u.2.1 u.2.2.1 u.2.2.2 (xk_set K k v)) (fun (u : (Nat → Int32) × (Nat → Int64) × (Nat → Int32) × (Nat → Int32)) (t : State) => va_P D zz_cl (xw_C q cA lim u.1 u.2.1 (nI (xk_set K k v).length) u.2.2.1 u.2.2.2 rk rv rm rs rn bp bk bv bo bn) t.heap) (va_A (xw_C q cA lim kf kg (nI K.length) af bf rk rv rm rs rn bp bk bv bo bn) sz)) 0 0 (va_A (xw_C q cA lim kf kg (nI K.length) af bf rk rv rm rs rn bp bk bv bo bn) sz) := by
  refine Met.ofW (cc := b_K_insert) (maxL := 5) (ret := none) (by decide) rfl ?_
  intro pJ eJ s mJ args below meth cJ s₁ B hml hv
  obtain ⟨rfl, hsz, hP, hK, hD0, hZ⟩ := hv
  have hx := B.exec
  have hb := B.bytes
  have hr := B.returns
  have hts := atoms_spec (ws := zw_K_insert) B.pre
  have hown : s.vm.findClass R_K = some mJ.cls := findClass_of_methodNamed B.named
  have hlocks := B.notSynchronized
  subst hsz
  have hD := hD0.self (sz := s.heap.size)
  generalize hAe : va_A (xw_C q cA lim kf kg (nI K.length) af bf rk rv rm rs rn bp bk bv bo bn) s.heap.size = A at hD ⊢
  have hA : ∀ q : Nat, s.heap.size ≤ q → A q := fun q h => by rw [← hAe]; exact Or.inr h
  have hS : va_S A s.heap s.heap [] := va_S.rf
  have hl := lv_entry ([.ref (q 1), .int (nI (xk_lo K k)), .int k, .long v]) (n := 5) (Nat.le_of_ble_eq_true rfl)
  rw [lg_entry_eq]
  generalize (lg_sl ([.ref (q 1), .int (nI (xk_lo K k)), .int k, .long v]) ++ List.replicate (5 - (lg_sl ([.ref (q 1), .int (nI (xk_lo K k)), .int k, .long v])).length) Slot.unset).toArray = ls at hl ⊢
  have hl : lv_has ls 5 [(0, .ref (q 1)), (1, .int (nI (xk_lo K k))), (2, .int k), (3, .long v)] := hl
  have hlo := xk_lo_le K k
  have hh := xk_h_lt k
  refine lv_aload_n hx hb d_K_insert_0 rfl (lv_at hl 0 rfl) ?_
  refine va_get (D := D) (ci := 1) (v := .ref (q 5)) (C := R_K) (T := F_K) (N := 4) hx hb hts (zi_K _) hown hK hP 1 rfl rfl 0 (by decide) (hts _ (List.mem_cons_of_mem _ zm_44)) (fun _ h9 => h9) rfl d_K_insert_1 ?_
  refine lv_iload_n hx hb d_K_insert_4 rfl (lv_at hl 1 rfl) ?_
  refine lv_aload_n hx hb d_K_insert_5 rfl (lv_at hl 0 rfl) ?_
  refine va_get (D := D) (ci := 1) (v := .ref (q 5)) (C := R_K) (T := F_K) (N := 4) hx hb hts (zi_K _) hown hK hP 1 rfl rfl 0 (by decide) (hts _ (List.mem_cons_of_mem _ zm_44)) (fun _ h9 => h9) rfl d_K_insert_6 ?_
  refine lv_iload_n hx hb d_K_insert_9 rfl (lv_at hl 1 rfl) ?_
  refine lv_iconst (v := nI 1) hx hb d_K_insert_10 (by decide +kernel) ?_
  refine lv_iadd hx hb d_K_insert_11 ?_
  refine xa_top (y := nI (xk_lo K k + 1)) (nI_add _ _) ?_
  refine lv_aload_n hx hb d_K_insert_12 rfl (lv_at hl 0 rfl) ?_
  refine va_get (D := D) (ci := 1) (v := .int (nI K.length)) (C := R_K) (T := F_K) (N := 4) hx hb hts (zi_K _) hown hK hP 1 rfl rfl 3 (by decide) (hts _ (List.mem_cons_of_mem _ zm_48)) (fun _ h9 => h9) rfl d_K_insert_13 ?_
  refine lv_iload_n hx hb d_K_insert_16 rfl (lv_at hl 1 rfl) ?_
  refine lv_isub hx hb d_K_insert_17 ?_
  refine xa_top (y := nI (K.length - (xk_lo K k))) (pk_sub (by omega)) ?_
  refine xa_copyi (ws' := (xw_C q cA lim (va_cpy kf kf (xk_lo K k) (xk_lo K k + 1) (K.length - (xk_lo K k))) kg (nI K.length) af bf rk rv rm rs rn bp bk bv bo bn)) hx hb (hml.trans hl.1.symm) hown (hts _ (List.mem_cons_of_mem _ zm_170)) (hts _ (List.mem_cons_of_mem _ zm_172)) (hts _ (List.mem_cons_of_mem _ zm_171)) (hts _ (List.mem_cons_of_mem _ zm_8)) hK hP hD hS 5 5 0 0 rfl rfl rfl rfl (sp := xk_lo K k) (dp := xk_lo K k + 1) (n := K.length - (xk_lo K k)) (by omega) (by omega) (by decide) (by decide) (Nat.le_of_ble_eq_true rfl) (Nat.le_of_ble_eq_true rfl) rfl d_K_insert_18 (fun H locs hP hD hS => ?_)
  refine lv_aload_n hx hb d_K_insert_21 rfl (lv_at hl 0 rfl) ?_
  refine va_get (D := D) (ci := 1) (v := .ref (q 6)) (C := R_K) (T := F_K) (N := 4) hx hb hts (zi_K _) hown hK hP 1 rfl rfl 1 (by decide) (hts _ (List.mem_cons_of_mem _ zm_45)) (fun _ h9 => h9) rfl d_K_insert_22 ?_
  refine lv_iload_n hx hb d_K_insert_25 rfl (lv_at hl 1 rfl) ?_
  refine lv_aload_n hx hb d_K_insert_26 rfl (lv_at hl 0 rfl) ?_
  refine va_get (D := D) (ci := 1) (v := .ref (q 6)) (C := R_K) (T := F_K) (N := 4) hx hb hts (zi_K _) hown hK hP 1 rfl rfl 1 (by decide) (hts _ (List.mem_cons_of_mem _ zm_45)) (fun _ h9 => h9) rfl d_K_insert_27 ?_
  refine lv_iload_n hx hb d_K_insert_30 rfl (lv_at hl 1 rfl) ?_
  refine lv_iconst (v := nI 1) hx hb d_K_insert_31 (by decide +kernel) ?_
  refine lv_iadd hx hb d_K_insert_32 ?_
  refine xa_top (y := nI (xk_lo K k + 1)) (nI_add _ _) ?_
  refine lv_aload_n hx hb d_K_insert_33 rfl (lv_at hl 0 rfl) ?_
  refine va_get (D := D) (ci := 1) (v := .int (nI K.length)) (C := R_K) (T := F_K) (N := 4) hx hb hts (zi_K _) hown hK hP 1 rfl rfl 3 (by decide) (hts _ (List.mem_cons_of_mem _ zm_48)) (fun _ h9 => h9) rfl d_K_insert_34 ?_
  refine lv_iload_n hx hb d_K_insert_37 rfl (lv_at hl 1 rfl) ?_
  refine lv_isub hx hb d_K_insert_38 ?_
  refine xa_top (y := nI (K.length - (xk_lo K k))) (pk_sub (by omega)) ?_
  refine xa_copyl (ws' := (xw_C q cA lim (va_cpy kf kf (xk_lo K k) (xk_lo K k + 1) (K.length - (xk_lo K k))) (va_cpy kg kg (xk_lo K k) (xk_lo K k + 1) (K.length - (xk_lo K k))) (nI K.length) af bf rk rv rm rs rn bp bk bv bo bn)) hx hb (hml.trans hl.1.symm) hown (hts _ (List.mem_cons_of_mem _ zm_170)) (hts _ (List.mem_cons_of_mem _ zm_172)) (hts _ (List.mem_cons_of_mem _ zm_171)) (hts _ (List.mem_cons_of_mem _ zm_8)) hK hP hD hS 6 6 1 1 rfl rfl rfl rfl (sp := xk_lo K k) (dp := xk_lo K k + 1) (n := K.length - (xk_lo K k)) (by omega) (by omega) (by decide) (by decide) (Nat.le_of_ble_eq_true rfl) (Nat.le_of_ble_eq_true rfl) rfl d_K_insert_39 (fun H locs hP hD hS => ?_)
  refine lv_aload_n hx hb d_K_insert_42 rfl (lv_at hl 0 rfl) ?_
  refine va_get (D := D) (ci := 1) (v := .ref (q 5)) (C := R_K) (T := F_K) (N := 4) hx hb hts (zi_K _) hown hK hP 1 rfl rfl 0 (by decide) (hts _ (List.mem_cons_of_mem _ zm_44)) (fun _ h9 => h9) rfl d_K_insert_43 ?_
  refine lv_iload_n hx hb d_K_insert_46 rfl (lv_at hl 1 rfl) ?_
  refine lv_iload_n hx hb d_K_insert_47 rfl (lv_at hl 2 rfl) ?_
  refine xa_iast (ws' := (xw_C q cA lim (upd (va_cpy kf kf (xk_lo K k) (xk_lo K k + 1) (K.length - (xk_lo K k))) (xk_lo K k) k) (va_cpy kg kg (xk_lo K k) (xk_lo K k + 1) (K.length - (xk_lo K k))) (nI K.length) af bf rk rv rm rs rn bp bk bv bo bn)) hx hb hK hP hD hS 5 0 rfl rfl (k := xk_lo K k) (by omega) (by decide) rfl d_K_insert_48 (fun H locs hP hD hS => ?_)
  refine lv_aload_n hx hb d_K_insert_49 rfl (lv_at hl 0 rfl) ?_
  refine va_get (D := D) (ci := 1) (v := .ref (q 6)) (C := R_K) (T := F_K) (N := 4) hx hb hts (zi_K _) hown hK hP 1 rfl rfl 1 (by decide) (hts _ (List.mem_cons_of_mem _ zm_45)) (fun _ h9 => h9) rfl d_K_insert_50 ?_
  refine lv_iload_n hx hb d_K_insert_53 rfl (lv_at hl 1 rfl) ?_
  refine lv_lload_n hx hb d_K_insert_54 rfl (lv_at hl 3 rfl) ?_
  refine xa_last (ws' := (xw_C q cA lim (upd (va_cpy kf kf (xk_lo K k) (xk_lo K k + 1) (K.length - (xk_lo K k))) (xk_lo K k) k) (vp_updL (va_cpy kg kg (xk_lo K k) (xk_lo K k + 1) (K.length - (xk_lo K k))) (xk_lo K k) v) (nI K.length) af bf rk rv rm rs rn bp bk bv bo bn)) hx hb hK hP hD hS 6 1 rfl rfl (k := xk_lo K k) (by omega) (by decide) rfl d_K_insert_55 (fun H locs hP hD hS => ?_)
  refine lv_aload_n hx hb d_K_insert_56 rfl (lv_at hl 0 rfl) ?_
  refine lv_dup hx hb d_K_insert_57 rfl ?_
  refine va_get (D := D) (ci := 1) (v := .int (nI K.length)) (C := R_K) (T := F_K) (N := 4) hx hb hts (zi_K _) hown hK hP 1 rfl rfl 3 (by decide) (hts _ (List.mem_cons_of_mem _ zm_48)) (fun _ h9 => h9) rfl d_K_insert_58 ?_
  refine lv_iconst (v := nI 1) hx hb d_K_insert_61 (by decide +kernel) ?_
  refine lv_iadd hx hb d_K_insert_62 ?_
  refine xa_top (y := nI (K.length + 1)) (nI_add _ _) ?_
  refine xa_put (ws' := (xw_C q cA lim (upd (va_cpy kf kf (xk_lo K k) (xk_lo K k + 1) (K.length - (xk_lo K k))) (xk_lo K k) k) (vp_updL (va_cpy kg kg (xk_lo K k) (xk_lo K k + 1) (K.length - (xk_lo K k))) (xk_lo K k) v) (nI (K.length + 1)) af bf rk rv rm rs rn bp bk bv bo bn)) (ci := 1) (v := .int (nI (K.length + 1))) (ty := .int) (C := R_K) (T := F_K) (N := 4) hx hb hts (zi_K _) t_K t_K_ok n_K hown hK hP hD hS 1 rfl rfl 3 (by decide) (hts _ (List.mem_cons_of_mem _ zm_48)) (fun _ h9 => h9) rfl (by decide +kernel) (rfl) (rfl) (Nat.le_of_ble_eq_true rfl) rfl d_K_insert_63 (fun H locs hP hD hS => ?_)
  refine lv_aload_n hx hb d_K_insert_66 rfl (lv_at hl 0 rfl) ?_
  refine va_get (D := D) (ci := 1) (v := .ref (q 2)) (C := R_K) (T := F_K) (N := 4) hx hb hts (zi_K _) hown hK hP 1 rfl rfl 2 (by decide) (hts _ (List.mem_cons_of_mem _ zm_46)) (fun _ h9 => h9) rfl d_K_insert_67 ?_
  refine lv_iload_n hx hb d_K_insert_70 rfl (lv_at hl 2 rfl) ?_
  refine xa_cI (va_runSN (As := [.int k]) (rest := [.ref (q 2)]) ⟨hx, hb, hml, hown, hts⟩ (c_E_hash l k) ⟨(va_cnB 1 hts (zg_C zm_175) rfl rfl rfl (hZ _ zn_173) (hts _ (List.mem_cons_of_mem _ zm_1)) (by decide +kernel) ⟨Nat.le_of_ble_eq_true rfl, Nat.le_of_ble_eq_true rfl⟩), (hts _ (List.mem_cons_of_mem _ zm_174)), trivial⟩ xp_preS rfl rfl hl.1 rfl (lv_room (Nat.le_of_ble_eq_true rfl)) d_K_insert_71 ⟨Nat.zero_le _, Nat.zero_le _⟩) ?_
  refine lv_iconst (v := nI 1) hx hb d_K_insert_74 (by decide +kernel) ?_
  refine xa_cMV (va_runV (As := [.int (nI (xk_h k)), .int (nI 1)]) (rest := []) ⟨hx, hb, hml, hown, hts⟩ (c_C_count l D q cA lim (upd (va_cpy kf kf (xk_lo K k) (xk_lo K k + 1) (K.length - (xk_lo K k))) (xk_lo K k) k) (vp_updL (va_cpy kg kg (xk_lo K k) (xk_lo K k + 1) (K.length - (xk_lo K k))) (xk_lo K k) v) (nI (K.length + 1)) af bf rk rv rm rs rn bp bk bv bo bn H.size (xk_h k) (nI 1) (decide (xd_cn K 6 (xk_h k) = 0)) hh (xw_flP hT hh)) (cwV 2 hts (zg_V zm_176 zm_177 zm_178 zm_4 zm_179) rfl rfl rfl (by decide +kernel) ⟨Nat.le_of_ble_eq_true rfl, Nat.le_of_ble_eq_true rfl⟩) (xp_preVQ (ci := 2) (q0 := 2) hK hP hD rfl rfl rfl hZ) rfl rfl hl.1 rfl (lv_room (Nat.le_of_ble_eq_true rfl)) d_K_insert_75 ⟨Nat.zero_le _, Nat.zero_le _⟩) hS (xa_F hD hS hA) (fun u H locs hp75 hP hS => ?_)
  have hP : va_P D zz_cl (xw_C q cA lim (upd (va_cpy kf kf (xk_lo K k) (xk_lo K k + 1) (K.length - (xk_lo K k))) (xk_lo K k) k) (vp_updL (va_cpy kg kg (xk_lo K k) (xk_lo K k + 1) (K.length - (xk_lo K k))) (xk_lo K k) v) (nI (K.length + 1)) (xw_cu af (xk_h k) (nI 1) 7) (xw_cb bf (xk_h k) (nI 1) (decide (xd_cn K 6 (xk_h k) = 0)) 7) rk rv rm rs rn bp bk bv bo bn) H := hP
  have hD : va_D A (xw_C q cA lim (upd (va_cpy kf kf (xk_lo K k) (xk_lo K k + 1) (K.length - (xk_lo K k))) (xk_lo K k) k) (vp_updL (va_cpy kg kg (xk_lo K k) (xk_lo K k + 1) (K.length - (xk_lo K k))) (xk_lo K k) v) (nI (K.length + 1)) (xw_cu af (xk_h k) (nI 1) 7) (xw_cb bf (xk_h k) (nI 1) (decide (xd_cn K 6 (xk_h k) = 0)) 7) rk rv rm rs rn bp bk bv bo bn) := xa_E hD rfl
  exact W.vret hx hb hr (fun tJ htJ hWJ => ⟨⟨(upd (va_cpy kf kf (xk_lo K k) (xk_lo K k + 1) (K.length - (xk_lo K k))) (xk_lo K k) k, vp_updL (va_cpy kg kg (xk_lo K k) (xk_lo K k + 1) (K.length - (xk_lo K k))) (xk_lo K k) v, xw_cu af (xk_h k) (nI 1) 7, xw_cb bf (xk_h k) (nI 1) (decide (xd_cn K 6 (xk_h k) = 0)) 7), rfl, xw_KT_insb hT hk hlt (fun j hj => xm_ins kf hlo k hj) (fun j hj => xm_insL kg hlo v hj) rfl, by dsimp only; rw [htJ]; rw [xk_set_len, hk]; exact hP⟩, hS.F htJ⟩) hS.2.2 d_K_insert_78
set_option maxHeartbeats 4000000 in
set_option maxRecDepth 100000 in
theorem c_K_set (l : Launch) (D : va_G) (q : Nat → Nat) (cA : Nat → ClassId) (lim : Int32) (kf : Nat → Int32) (kg : Nat → Int64) (af : Nat → Int32) (bf : Nat → Int32) (rk : Nat → Int32) (rv : Nat → Int64) (rm : Nat → Int32) (rs : Nat → Int32) (rn : Int32) (bp : Nat → Int32) (bk : Nat → Int32) (bv : Nat → Int64) (bo : Int32) (bn : Int32) (sz : Nat) (K : List xk_E) (k : Int32) (v : Int64) (hT : xw_KT kf kg af bf K) (hro : xk_has K k = true ∨ K.length < 65) : Met l y_K_set zw_K_set ({ frames := 3, cells := 0, slots := 0, locals := 84 } : Room) (va_Pc [.ref (q 1), .int k, .long v] (xp_Q D zz_cl (xw_tC cA) sz (xw_C q cA lim kf kg (nI K.length) af bf rk rv rm rs rn bp bk bv bo bn))) (va_Qv (fun u : (Nat → Int32) × (Nat → Int64) × (Nat → Int32) × (Nat → Int32) => xw_KT u.1 u.2.1 u.2.2.1 u.2.2.2 (xk_set K k v)) (fun (u : (Nat → Int32) × (Nat → Int64) × (Nat → Int32) × (Nat → Int32)) (t : State) => va_P D zz_cl (xw_C q cA lim u.1 u.2.1 (nI (xk_set K k v).length) u.2.2.1 u.2.2.2 rk rv rm rs rn bp bk bv bo bn) t.heap) (va_A (xw_C q cA lim kf kg (nI K.length) af bf rk rv rm rs rn bp bk bv bo bn) sz)) 0 0 (va_A (xw_C q cA lim kf kg (nI K.length) af bf rk rv rm rs rn bp bk bv bo bn) sz) := by
  refine Met.ofW (cc := b_K_set) (maxL := 5) (ret := none) (by decide) rfl ?_
  intro pJ eJ s mJ args below meth cJ s₁ B hml hv
  obtain ⟨rfl, hsz, hP, hK, hD0, hZ⟩ := hv
  have hx := B.exec
  have hb := B.bytes
  have hr := B.returns
  have hts := atoms_spec (ws := zw_K_set) B.pre
  have hown : s.vm.findClass R_K = some mJ.cls := findClass_of_methodNamed B.named
  have hlocks := B.notSynchronized
  subst hsz
  have hD := hD0.self (sz := s.heap.size)
  generalize hAe : va_A (xw_C q cA lim kf kg (nI K.length) af bf rk rv rm rs rn bp bk bv bo bn) s.heap.size = A at hD ⊢
  have hA : ∀ q : Nat, s.heap.size ≤ q → A q := fun q h => by rw [← hAe]; exact Or.inr h
  have hS : va_S A s.heap s.heap [] := va_S.rf
  have hl := lv_entry ([.ref (q 1), .int k, .long v]) (n := 5) (Nat.le_of_ble_eq_true rfl)
  rw [lg_entry_eq]
  generalize (lg_sl ([.ref (q 1), .int k, .long v]) ++ List.replicate (5 - (lg_sl ([.ref (q 1), .int k, .long v])).length) Slot.unset).toArray = ls at hl ⊢
  have hl : lv_has ls 5 [(0, .ref (q 1)), (1, .int k), (2, .long v)] := hl
  have hlen := hT.1
  refine lv_aload_n hx hb d_K_set_0 rfl (lv_at hl 0 rfl) ?_
  refine lv_iload_n hx hb d_K_set_1 rfl (lv_at hl 1 rfl) ?_
  refine xa_cI (va_runV (As := [.int k]) (rest := []) ⟨hx, hb, hml, hown, hts⟩ (c_K_below l D q cA lim kf kg af bf rk rv rm rs rn bp bk bv bo bn K k hT) (cwV 1 hts (zg_V zm_138 zm_140 zs_0 zm_3 zm_141) rfl rfl rfl (by decide +kernel) ⟨Nat.le_of_ble_eq_true rfl, Nat.le_of_ble_eq_true rfl⟩) (xp_preV (ci := 1) (q0 := 1) hK hP rfl rfl rfl hZ) rfl rfl hl.1 rfl (lv_room (Nat.le_of_ble_eq_true rfl)) d_K_set_2 ⟨Nat.zero_le _, Nat.zero_le _⟩) ?_
  refine lv_istore (lv' := [(4, .int (nI (xk_lo K k))), (0, .ref (q 1)), (1, .int k), (2, .long v)]) hx hb d_K_set_5 hl (Nat.le_of_ble_eq_true rfl) rfl (fun ls hl => ?_)
  refine lv_aload_n hx hb d_K_set_7 rfl (lv_at hl 1 rfl) ?_
  refine lv_iload hx hb d_K_set_8 (lv_at hl 0 rfl) ?_
  refine lv_iload_n hx hb d_K_set_10 rfl (lv_at hl 2 rfl) ?_
  refine xa_cI (va_runV (As := [.int (nI (xk_lo K k)), .int k]) (rest := []) ⟨hx, hb, hml, hown, hts⟩ (c_K_isAt l D q cA lim kf kg af bf rk rv rm rs rn bp bk bv bo bn K k hT) (cwV 2 hts (zg_V zm_142 zm_144 zs_1 zm_3 zm_145) rfl rfl rfl (by decide +kernel) ⟨Nat.le_of_ble_eq_true rfl, Nat.le_of_ble_eq_true rfl⟩) (xp_preV (ci := 1) (q0 := 1) hK hP rfl rfl rfl hZ) rfl rfl hl.1 rfl (lv_room (Nat.le_of_ble_eq_true rfl)) d_K_set_11 ⟨Nat.zero_le _, Nat.zero_le _⟩) ?_
  refine lv_if_eq (tgt := 28) hx hb d_K_set_14 (by decide) (fun hc14 => ?_) (fun hc14 => ?_)
  · skip
    rw [xb_0] at hc14
    refine lv_aload_n hx hb d_K_set_28 rfl (lv_at hl 1 rfl) ?_
    refine va_get (D := D) (ci := 1) (v := .int (nI K.length)) (C := R_K) (T := F_K) (N := 4) hx hb hts (zi_K _) hown hK hP 1 rfl rfl 3 (by decide) (hts _ (List.mem_cons_of_mem _ zm_48)) (fun _ h9 => h9) rfl d_K_set_29 ?_
    refine lv_bipush (v := nI 65) hx hb d_K_set_32 (by decide +kernel) ?_
    refine lv_icmp_ge (tgt := 45) hx hb d_K_set_34 (by decide) (fun hc34 => ?_) (fun hc34 => ?_)
    · skip
      rw [nI_leI (by omega) (by omega)] at hc34
      exfalso
      exact hro.elim (fun z => by rw [hc14] at z; cases z) (fun z => by omega)
    · skip
      rw [nI_leI (by omega) (by omega)] at hc34
      refine lv_aload_n hx hb d_K_set_37 rfl (lv_at hl 1 rfl) ?_
      refine lv_iload hx hb d_K_set_38 (lv_at hl 0 rfl) ?_
      refine lv_iload_n hx hb d_K_set_40 rfl (lv_at hl 2 rfl) ?_
      refine lv_lload_n hx hb d_K_set_41 rfl (lv_at hl 3 rfl) ?_
      refine xa_cMV (va_runV (As := [.int (nI (xk_lo K k)), .int k, .long v]) (rest := []) ⟨hx, hb, hml, hown, hts⟩ (c_K_insert l D q cA lim kf kg af bf rk rv rm rs rn bp bk bv bo bn s.heap.size K k v hT hc14 (by omega)) (cwV 3 hts (zg_V zm_166 zm_168 zs_4 zm_3 zm_169) rfl rfl rfl (by decide +kernel) ⟨Nat.le_of_ble_eq_true rfl, Nat.le_of_ble_eq_true rfl⟩) (xp_preVQ (ci := 1) (q0 := 1) hK hP hD rfl rfl rfl hZ) rfl rfl hl.1 rfl (lv_room (Nat.le_of_ble_eq_true rfl)) d_K_set_42 ⟨Nat.zero_le _, Nat.zero_le _⟩) hS (xa_F hD hS hA) (fun u H locs hp42 hP hS => ?_)
      obtain ⟨kf2_42, kg2_42, af2_42, bf2_42⟩ := u
      have hP : va_P D zz_cl (xw_C q cA lim kf2_42 kg2_42 (nI (xk_set K k v).length) af2_42 bf2_42 rk rv rm rs rn bp bk bv bo bn) H := hP
      have hD : va_D A (xw_C q cA lim kf2_42 kg2_42 (nI (xk_set K k v).length) af2_42 bf2_42 rk rv rm rs rn bp bk bv bo bn) := xa_E hD rfl
      have hp42 : xw_KT kf2_42 kg2_42 af2_42 bf2_42 (xk_set K k v) := hp42
      exact W.vret hx hb hr (fun tJ htJ hWJ => ⟨⟨(kf2_42, kg2_42, af2_42, bf2_42), rfl, by first | exact xw_KT_put hT v hc14 | exact hp42, by dsimp only; rw [htJ]; first | (rw [xk_set_len, if_pos hc14]; exact hP) | exact hP⟩, hS.F htJ⟩) hS.2.2 d_K_set_45
  · skip
    rw [xb_1] at hc14
    have hhl := xk_has_lt hc14
    refine lv_aload_n hx hb d_K_set_17 rfl (lv_at hl 1 rfl) ?_
    refine va_get (D := D) (ci := 1) (v := .ref (q 6)) (C := R_K) (T := F_K) (N := 4) hx hb hts (zi_K _) hown hK hP 1 rfl rfl 1 (by decide) (hts _ (List.mem_cons_of_mem _ zm_45)) (fun _ h9 => h9) rfl d_K_set_18 ?_
    refine lv_iload hx hb d_K_set_21 (lv_at hl 0 rfl) ?_
    refine lv_lload_n hx hb d_K_set_23 rfl (lv_at hl 3 rfl) ?_
    refine xa_last (ws' := (xw_C q cA lim kf (vp_updL kg (xk_lo K k) v) (nI K.length) af bf rk rv rm rs rn bp bk bv bo bn)) hx hb hK hP hD hS 6 1 rfl rfl (k := xk_lo K k) (by omega) (by decide) rfl d_K_set_24 (fun H locs hP hD hS => ?_)
    refine lv_goto (tgt := 45) hx hb d_K_set_25 (by decide) ?_
    exact W.vret hx hb hr (fun tJ htJ hWJ => ⟨⟨(kf, vp_updL kg (xk_lo K k) v, af, bf), rfl, by first | exact xw_KT_put hT v hc14 | exact hp42, by dsimp only; rw [htJ]; first | (rw [xk_set_len, if_pos hc14]; exact hP) | exact hP⟩, hS.F htJ⟩) hS.2.2 d_K_set_45
set_option maxHeartbeats 4000000 in
set_option maxRecDepth 100000 in
theorem c_K_remove (l : Launch) (D : va_G) (q : Nat → Nat) (cA : Nat → ClassId) (lim : Int32) (kf : Nat → Int32) (kg : Nat → Int64) (af : Nat → Int32) (bf : Nat → Int32) (rk : Nat → Int32) (rv : Nat → Int64) (rm : Nat → Int32) (rs : Nat → Int32) (rn : Int32) (bp : Nat → Int32) (bk : Nat → Int32) (bv : Nat → Int64) (bo : Int32) (bn : Int32) (sz : Nat) (K : List xk_E) (k : Int32) (hT : xw_KT kf kg af bf K) : Met l y_K_remove zw_K_remove ({ frames := 2, cells := 0, slots := 0, locals := 60 } : Room) (va_Pc [.ref (q 1), .int k] (xp_Q D zz_cl (xw_tC cA) sz (xw_C q cA lim kf kg (nI K.length) af bf rk rv rm rs rn bp bk bv bo bn))) (va_Qv (fun u : (Nat → Int32) × (Nat → Int64) × (Nat → Int32) × (Nat → Int32) => xw_KT u.1 u.2.1 u.2.2.1 u.2.2.2 (xk_rem K k)) (fun (u : (Nat → Int32) × (Nat → Int64) × (Nat → Int32) × (Nat → Int32)) (t : State) => va_P D zz_cl (xw_C q cA lim u.1 u.2.1 (nI (xk_rem K k).length) u.2.2.1 u.2.2.2 rk rv rm rs rn bp bk bv bo bn) t.heap) (va_A (xw_C q cA lim kf kg (nI K.length) af bf rk rv rm rs rn bp bk bv bo bn) sz)) 0 0 (va_A (xw_C q cA lim kf kg (nI K.length) af bf rk rv rm rs rn bp bk bv bo bn) sz) := by
  refine Met.ofW (cc := b_K_remove) (maxL := 3) (ret := none) (by decide) rfl ?_
  intro pJ eJ s mJ args below meth cJ s₁ B hml hv
  obtain ⟨rfl, hsz, hP, hK, hD0, hZ⟩ := hv
  have hx := B.exec
  have hb := B.bytes
  have hr := B.returns
  have hts := atoms_spec (ws := zw_K_remove) B.pre
  have hown : s.vm.findClass R_K = some mJ.cls := findClass_of_methodNamed B.named
  have hlocks := B.notSynchronized
  subst hsz
  have hD := hD0.self (sz := s.heap.size)
  generalize hAe : va_A (xw_C q cA lim kf kg (nI K.length) af bf rk rv rm rs rn bp bk bv bo bn) s.heap.size = A at hD ⊢
  have hA : ∀ q : Nat, s.heap.size ≤ q → A q := fun q h => by rw [← hAe]; exact Or.inr h
  have hS : va_S A s.heap s.heap [] := va_S.rf
  have hl := lv_entry ([.ref (q 1), .int k]) (n := 3) (Nat.le_of_ble_eq_true rfl)
  rw [lg_entry_eq]
  generalize (lg_sl ([.ref (q 1), .int k]) ++ List.replicate (3 - (lg_sl ([.ref (q 1), .int k])).length) Slot.unset).toArray = ls at hl ⊢
  have hl : lv_has ls 3 [(0, .ref (q 1)), (1, .int k)] := hl
  have hlen := hT.1
  have hh := xk_h_lt k
  refine lv_aload_n hx hb d_K_remove_0 rfl (lv_at hl 0 rfl) ?_
  refine lv_iload_n hx hb d_K_remove_1 rfl (lv_at hl 1 rfl) ?_
  refine xa_cI (va_runV (As := [.int k]) (rest := []) ⟨hx, hb, hml, hown, hts⟩ (c_K_below l D q cA lim kf kg af bf rk rv rm rs rn bp bk bv bo bn K k hT) (cwV 1 hts (zg_V zm_138 zm_140 zs_0 zm_3 zm_141) rfl rfl rfl (by decide +kernel) ⟨Nat.le_of_ble_eq_true rfl, Nat.le_of_ble_eq_true rfl⟩) (xp_preV (ci := 1) (q0 := 1) hK hP rfl rfl rfl hZ) rfl rfl hl.1 rfl (lv_room (Nat.le_of_ble_eq_true rfl)) d_K_remove_2 ⟨Nat.zero_le _, Nat.zero_le _⟩) ?_
  refine lv_istore_n (lv' := [(2, .int (nI (xk_lo K k))), (0, .ref (q 1)), (1, .int k)]) hx hb d_K_remove_5 rfl hl (Nat.le_of_ble_eq_true rfl) rfl (fun ls hl => ?_)
  refine lv_aload_n hx hb d_K_remove_6 rfl (lv_at hl 1 rfl) ?_
  refine lv_iload_n hx hb d_K_remove_7 rfl (lv_at hl 0 rfl) ?_
  refine lv_iload_n hx hb d_K_remove_8 rfl (lv_at hl 2 rfl) ?_
  refine xa_cI (va_runV (As := [.int (nI (xk_lo K k)), .int k]) (rest := []) ⟨hx, hb, hml, hown, hts⟩ (c_K_isAt l D q cA lim kf kg af bf rk rv rm rs rn bp bk bv bo bn K k hT) (cwV 2 hts (zg_V zm_142 zm_144 zs_1 zm_3 zm_145) rfl rfl rfl (by decide +kernel) ⟨Nat.le_of_ble_eq_true rfl, Nat.le_of_ble_eq_true rfl⟩) (xp_preV (ci := 1) (q0 := 1) hK hP rfl rfl rfl hZ) rfl rfl hl.1 rfl (lv_room (Nat.le_of_ble_eq_true rfl)) d_K_remove_9 ⟨Nat.zero_le _, Nat.zero_le _⟩) ?_
  refine lv_if_eq (tgt := 79) hx hb d_K_remove_12 (by decide) (fun hc12 => ?_) (fun hc12 => ?_)
  · skip
    rw [xb_0] at hc12
    exact W.vret hx hb hr (fun tJ htJ hWJ => ⟨⟨(kf, kg, af, bf), rfl, by first | exact xw_KT_delb hT hc12 (fun j hj => xm_del kf hhl hj) (fun j hj => xm_del kg hhl hj) rfl | (rw [xk_rem_no hc12]; exact hT), by dsimp only; rw [htJ]; first | (rw [xk_rem_len, if_pos hc12]; exact hP) | (rw [xk_rem_no hc12]; exact hP)⟩, hS.F htJ⟩) hS.2.2 d_K_remove_79
  · skip
    rw [xb_1] at hc12
    have hhl := xk_has_lt hc12
    refine lv_aload_n hx hb d_K_remove_15 rfl (lv_at hl 1 rfl) ?_
    refine lv_dup hx hb d_K_remove_16 rfl ?_
    refine va_get (D := D) (ci := 1) (v := .int (nI K.length)) (C := R_K) (T := F_K) (N := 4) hx hb hts (zi_K _) hown hK hP 1 rfl rfl 3 (by decide) (hts _ (List.mem_cons_of_mem _ zm_48)) (fun _ h9 => h9) rfl d_K_remove_17 ?_
    refine lv_iconst (v := nI 1) hx hb d_K_remove_20 (by decide +kernel) ?_
    refine lv_isub hx hb d_K_remove_21 ?_
    refine xa_top (y := nI (K.length - 1)) (pk_sub (by omega)) ?_
    refine xa_put (ws' := (xw_C q cA lim kf kg (nI (K.length - 1)) af bf rk rv rm rs rn bp bk bv bo bn)) (ci := 1) (v := .int (nI (K.length - 1))) (ty := .int) (C := R_K) (T := F_K) (N := 4) hx hb hts (zi_K _) t_K t_K_ok n_K hown hK hP hD hS 1 rfl rfl 3 (by decide) (hts _ (List.mem_cons_of_mem _ zm_48)) (fun _ h9 => h9) rfl (by decide +kernel) (rfl) (rfl) (Nat.le_of_ble_eq_true rfl) rfl d_K_remove_22 (fun H locs hP hD hS => ?_)
    refine lv_aload_n hx hb d_K_remove_25 rfl (lv_at hl 1 rfl) ?_
    refine va_get (D := D) (ci := 1) (v := .ref (q 5)) (C := R_K) (T := F_K) (N := 4) hx hb hts (zi_K _) hown hK hP 1 rfl rfl 0 (by decide) (hts _ (List.mem_cons_of_mem _ zm_44)) (fun _ h9 => h9) rfl d_K_remove_26 ?_
    refine lv_iload_n hx hb d_K_remove_29 rfl (lv_at hl 0 rfl) ?_
    refine lv_iconst (v := nI 1) hx hb d_K_remove_30 (by decide +kernel) ?_
    refine lv_iadd hx hb d_K_remove_31 ?_
    refine xa_top (y := nI (xk_lo K k + 1)) (nI_add _ _) ?_
    refine lv_aload_n hx hb d_K_remove_32 rfl (lv_at hl 1 rfl) ?_
    refine va_get (D := D) (ci := 1) (v := .ref (q 5)) (C := R_K) (T := F_K) (N := 4) hx hb hts (zi_K _) hown hK hP 1 rfl rfl 0 (by decide) (hts _ (List.mem_cons_of_mem _ zm_44)) (fun _ h9 => h9) rfl d_K_remove_33 ?_
    refine lv_iload_n hx hb d_K_remove_36 rfl (lv_at hl 0 rfl) ?_
    refine lv_aload_n hx hb d_K_remove_37 rfl (lv_at hl 1 rfl) ?_
    refine va_get (D := D) (ci := 1) (v := .int (nI (K.length - 1))) (C := R_K) (T := F_K) (N := 4) hx hb hts (zi_K _) hown hK hP 1 rfl rfl 3 (by decide) (hts _ (List.mem_cons_of_mem _ zm_48)) (fun _ h9 => h9) rfl d_K_remove_38 ?_
    refine lv_iload_n hx hb d_K_remove_41 rfl (lv_at hl 0 rfl) ?_
    refine lv_isub hx hb d_K_remove_42 ?_
    refine xa_top (y := nI ((K.length - 1) - (xk_lo K k))) (pk_sub (by omega)) ?_
    refine xa_copyi (ws' := (xw_C q cA lim (va_cpy kf kf (xk_lo K k + 1) (xk_lo K k) ((K.length - 1) - (xk_lo K k))) kg (nI (K.length - 1)) af bf rk rv rm rs rn bp bk bv bo bn)) hx hb (hml.trans hl.1.symm) hown (hts _ (List.mem_cons_of_mem _ zm_170)) (hts _ (List.mem_cons_of_mem _ zm_172)) (hts _ (List.mem_cons_of_mem _ zm_171)) (hts _ (List.mem_cons_of_mem _ zm_8)) hK hP hD hS 5 5 0 0 rfl rfl rfl rfl (sp := xk_lo K k + 1) (dp := xk_lo K k) (n := (K.length - 1) - (xk_lo K k)) (by omega) (by omega) (by decide) (by decide) (Nat.le_of_ble_eq_true rfl) (Nat.le_of_ble_eq_true rfl) rfl d_K_remove_43 (fun H locs hP hD hS => ?_)
    refine lv_aload_n hx hb d_K_remove_46 rfl (lv_at hl 1 rfl) ?_
    refine va_get (D := D) (ci := 1) (v := .ref (q 6)) (C := R_K) (T := F_K) (N := 4) hx hb hts (zi_K _) hown hK hP 1 rfl rfl 1 (by decide) (hts _ (List.mem_cons_of_mem _ zm_45)) (fun _ h9 => h9) rfl d_K_remove_47 ?_
    refine lv_iload_n hx hb d_K_remove_50 rfl (lv_at hl 0 rfl) ?_
    refine lv_iconst (v := nI 1) hx hb d_K_remove_51 (by decide +kernel) ?_
    refine lv_iadd hx hb d_K_remove_52 ?_
    refine xa_top (y := nI (xk_lo K k + 1)) (nI_add _ _) ?_
    refine lv_aload_n hx hb d_K_remove_53 rfl (lv_at hl 1 rfl) ?_
    refine va_get (D := D) (ci := 1) (v := .ref (q 6)) (C := R_K) (T := F_K) (N := 4) hx hb hts (zi_K _) hown hK hP 1 rfl rfl 1 (by decide) (hts _ (List.mem_cons_of_mem _ zm_45)) (fun _ h9 => h9) rfl d_K_remove_54 ?_
    refine lv_iload_n hx hb d_K_remove_57 rfl (lv_at hl 0 rfl) ?_
    refine lv_aload_n hx hb d_K_remove_58 rfl (lv_at hl 1 rfl) ?_
    refine va_get (D := D) (ci := 1) (v := .int (nI (K.length - 1))) (C := R_K) (T := F_K) (N := 4) hx hb hts (zi_K _) hown hK hP 1 rfl rfl 3 (by decide) (hts _ (List.mem_cons_of_mem _ zm_48)) (fun _ h9 => h9) rfl d_K_remove_59 ?_
    refine lv_iload_n hx hb d_K_remove_62 rfl (lv_at hl 0 rfl) ?_
    refine lv_isub hx hb d_K_remove_63 ?_
    refine xa_top (y := nI ((K.length - 1) - (xk_lo K k))) (pk_sub (by omega)) ?_
    refine xa_copyl (ws' := (xw_C q cA lim (va_cpy kf kf (xk_lo K k + 1) (xk_lo K k) ((K.length - 1) - (xk_lo K k))) (va_cpy kg kg (xk_lo K k + 1) (xk_lo K k) ((K.length - 1) - (xk_lo K k))) (nI (K.length - 1)) af bf rk rv rm rs rn bp bk bv bo bn)) hx hb (hml.trans hl.1.symm) hown (hts _ (List.mem_cons_of_mem _ zm_170)) (hts _ (List.mem_cons_of_mem _ zm_172)) (hts _ (List.mem_cons_of_mem _ zm_171)) (hts _ (List.mem_cons_of_mem _ zm_8)) hK hP hD hS 6 6 1 1 rfl rfl rfl rfl (sp := xk_lo K k + 1) (dp := xk_lo K k) (n := (K.length - 1) - (xk_lo K k)) (by omega) (by omega) (by decide) (by decide) (Nat.le_of_ble_eq_true rfl) (Nat.le_of_ble_eq_true rfl) rfl d_K_remove_64 (fun H locs hP hD hS => ?_)
    refine lv_aload_n hx hb d_K_remove_67 rfl (lv_at hl 1 rfl) ?_
    refine va_get (D := D) (ci := 1) (v := .ref (q 2)) (C := R_K) (T := F_K) (N := 4) hx hb hts (zi_K _) hown hK hP 1 rfl rfl 2 (by decide) (hts _ (List.mem_cons_of_mem _ zm_46)) (fun _ h9 => h9) rfl d_K_remove_68 ?_
    refine lv_iload_n hx hb d_K_remove_71 rfl (lv_at hl 2 rfl) ?_
    refine xa_cI (va_runSN (As := [.int k]) (rest := [.ref (q 2)]) ⟨hx, hb, hml, hown, hts⟩ (c_E_hash l k) ⟨(va_cnB 1 hts (zg_C zm_175) rfl rfl rfl (hZ _ zn_173) (hts _ (List.mem_cons_of_mem _ zm_1)) (by decide +kernel) ⟨Nat.le_of_ble_eq_true rfl, Nat.le_of_ble_eq_true rfl⟩), (hts _ (List.mem_cons_of_mem _ zm_174)), trivial⟩ xp_preS rfl rfl hl.1 rfl (lv_room (Nat.le_of_ble_eq_true rfl)) d_K_remove_72 ⟨Nat.zero_le _, Nat.zero_le _⟩) ?_
    refine lv_iconst (v := (-1)) hx hb d_K_remove_75 (by decide +kernel) ?_
    refine xa_cMV (va_runV (As := [.int (nI (xk_h k)), .int ((-1))]) (rest := []) ⟨hx, hb, hml, hown, hts⟩ (c_C_count l D q cA lim (va_cpy kf kf (xk_lo K k + 1) (xk_lo K k) ((K.length - 1) - (xk_lo K k))) (va_cpy kg kg (xk_lo K k + 1) (xk_lo K k) ((K.length - 1) - (xk_lo K k))) (nI (K.length - 1)) af bf rk rv rm rs rn bp bk bv bo bn H.size (xk_h k) ((-1)) (decide (xd_cn K 6 (xk_h k) = 1)) hh (xw_flM hT hc12)) (cwV 2 hts (zg_V zm_176 zm_177 zm_178 zm_4 zm_179) rfl rfl rfl (by decide +kernel) ⟨Nat.le_of_ble_eq_true rfl, Nat.le_of_ble_eq_true rfl⟩) (xp_preVQ (ci := 2) (q0 := 2) hK hP hD rfl rfl rfl hZ) rfl rfl hl.1 rfl (lv_room (Nat.le_of_ble_eq_true rfl)) d_K_remove_76 ⟨Nat.zero_le _, Nat.zero_le _⟩) hS (xa_F hD hS hA) (fun u H locs hp76 hP hS => ?_)
    have hP : va_P D zz_cl (xw_C q cA lim (va_cpy kf kf (xk_lo K k + 1) (xk_lo K k) ((K.length - 1) - (xk_lo K k))) (va_cpy kg kg (xk_lo K k + 1) (xk_lo K k) ((K.length - 1) - (xk_lo K k))) (nI (K.length - 1)) (xw_cu af (xk_h k) ((-1)) 7) (xw_cb bf (xk_h k) ((-1)) (decide (xd_cn K 6 (xk_h k) = 1)) 7) rk rv rm rs rn bp bk bv bo bn) H := hP
    have hD : va_D A (xw_C q cA lim (va_cpy kf kf (xk_lo K k + 1) (xk_lo K k) ((K.length - 1) - (xk_lo K k))) (va_cpy kg kg (xk_lo K k + 1) (xk_lo K k) ((K.length - 1) - (xk_lo K k))) (nI (K.length - 1)) (xw_cu af (xk_h k) ((-1)) 7) (xw_cb bf (xk_h k) ((-1)) (decide (xd_cn K 6 (xk_h k) = 1)) 7) rk rv rm rs rn bp bk bv bo bn) := xa_E hD rfl
    exact W.vret hx hb hr (fun tJ htJ hWJ => ⟨⟨(va_cpy kf kf (xk_lo K k + 1) (xk_lo K k) ((K.length - 1) - (xk_lo K k)), va_cpy kg kg (xk_lo K k + 1) (xk_lo K k) ((K.length - 1) - (xk_lo K k)), xw_cu af (xk_h k) ((-1)) 7, xw_cb bf (xk_h k) ((-1)) (decide (xd_cn K 6 (xk_h k) = 1)) 7), rfl, by first | exact xw_KT_delb hT hc12 (fun j hj => xm_del kf hhl hj) (fun j hj => xm_del kg hhl hj) rfl | (rw [xk_rem_no hc12]; exact hT), by dsimp only; rw [htJ]; first | (rw [xk_rem_len, if_pos hc12]; exact hP) | (rw [xk_rem_no hc12]; exact hP)⟩, hS.F htJ⟩) hS.2.2 d_K_remove_79
