/-! Walks: specs_m (printed by run.py) -/
set_option maxHeartbeats 4000000 in
set_option maxRecDepth 100000 in
theorem c_M_hash (l : Launch) (D : va_G) (q : Nat → Nat) (cA : Nat → ClassId) (lim : Int32) (bs : Int32) (bk : Nat → Int32) (bv : Nat → Int64) (rn : Int32) (wh : Nat → Int32) (rk : Nat → Int32) (rv : Nat → Int64) (bg : Nat → Int32) (bt : Int32) (sc : Int32) (sw : Nat → Int32) (sk : Nat → Int32) (sv : Nat → Int64) (kp : Int32) (ky : Nat → Int32) (vl : Nat → Int64) (k : Int32)  : Met l y_M_hash zw_M_hash ({ frames := 0, cells := 0, slots := 0, locals := 0 } : Room) (va_Pc [.ref (q 0), .int k] (xp_R D zz_cl (xw_tM cA) (xw_M q cA lim bs bk bv rn wh rk rv bg bt sc sw sk sv kp ky vl))) (vp_Si (fun r : Int32 => r = (nI (xk_h k)))) 0 0 (fun _ => False) := by
  refine Met.ofW (cc := b_M_hash) (maxL := 2) (ret := (some .int)) (by decide) rfl ?_
  intro pJ eJ s mJ args below meth cJ s₁ B hml hv
  obtain ⟨rfl, hP, hK, hZ⟩ := hv
  have hx := B.exec
  have hb := B.bytes
  have hr := B.returns
  have hts := atoms_spec (ws := zw_M_hash) B.pre
  have hown : s.vm.findClass R_M = some mJ.cls := findClass_of_methodNamed B.named
  have hlocks := B.notSynchronized
  have hl := lv_entry ([.ref (q 0), .int k]) (n := 2) (Nat.le_of_ble_eq_true rfl)
  rw [lg_entry_eq]
  generalize (lg_sl ([.ref (q 0), .int k]) ++ List.replicate (2 - (lg_sl ([.ref (q 0), .int k])).length) Slot.unset).toArray = ls at hl ⊢
  have hl : lv_has ls 2 [(0, .ref (q 0)), (1, .int k)] := hl
  refine lv_iload_n hx hb d_M_hash_0 rfl (lv_at hl 1 rfl) ?_
  refine lv_iload_n hx hb d_M_hash_1 rfl (lv_at hl 1 rfl) ?_
  refine lv_bipush (v := nI 6) hx hb d_M_hash_2 (by decide +kernel) ?_
  refine lv_iushr (v := xk_u k (nI 6)) hx hb d_M_hash_4 rfl ?_
  refine lv_ixor hx hb d_M_hash_5 ?_
  refine lv_iload_n hx hb d_M_hash_6 rfl (lv_at hl 1 rfl) ?_
  refine lv_bipush (v := nI 12) hx hb d_M_hash_7 (by decide +kernel) ?_
  refine lv_iushr (v := xk_u k (nI 12)) hx hb d_M_hash_9 rfl ?_
  refine lv_ixor hx hb d_M_hash_10 ?_
  refine lv_iload_n hx hb d_M_hash_11 rfl (lv_at hl 1 rfl) ?_
  refine lv_bipush (v := nI 18) hx hb d_M_hash_12 (by decide +kernel) ?_
  refine lv_iushr (v := xk_u k (nI 18)) hx hb d_M_hash_14 rfl ?_
  refine lv_ixor hx hb d_M_hash_15 ?_
  refine lv_iload_n hx hb d_M_hash_16 rfl (lv_at hl 1 rfl) ?_
  refine lv_bipush (v := nI 24) hx hb d_M_hash_17 (by decide +kernel) ?_
  refine lv_iushr (v := xk_u k (nI 24)) hx hb d_M_hash_19 rfl ?_
  refine lv_ixor hx hb d_M_hash_20 ?_
  refine lv_iload_n hx hb d_M_hash_21 rfl (lv_at hl 1 rfl) ?_
  refine lv_bipush (v := nI 30) hx hb d_M_hash_22 (by decide +kernel) ?_
  refine lv_iushr (v := xk_u k (nI 30)) hx hb d_M_hash_24 rfl ?_
  refine lv_ixor hx hb d_M_hash_25 ?_
  refine lv_bipush (v := nI 63) hx hb d_M_hash_26 (by decide +kernel) ?_
  refine lv_iand hx hb d_M_hash_28 ?_
  refine xa_top (y := nI (xk_h k)) (xk_h_eq k) ?_
  exact W.iret (v := nI (xk_h k)) hx hb hr (fun tJ htJ hWJ => ⟨_, rfl, rfl, htJ⟩) (fun _ h => by cases h) d_M_hash_29
set_option maxHeartbeats 4000000 in
set_option maxRecDepth 100000 in
theorem c_M_inC (l : Launch) (D : va_G) (q : Nat → Nat) (cA : Nat → ClassId) (lim : Int32) (bs : Int32) (bk : Nat → Int32) (bv : Nat → Int64) (rn : Int32) (wh : Nat → Int32) (rk : Nat → Int32) (rv : Nat → Int64) (bg : Nat → Int32) (bt : Int32) (sc : Int32) (sw : Nat → Int32) (sk : Nat → Int32) (sv : Nat → Int64) (kp : Int32) (ky : Nat → Int32) (vl : Nat → Int64) (h : Nat) (d : Nat) (p : Nat) (hh : h < 64) (hd : d ≤ 6) (hp : p < 64) : Met l y_M_inClass zw_M_inClass ({ frames := 0, cells := 0, slots := 0, locals := 0 } : Room) (va_Pc [.ref (q 0), .int (nI h), .int (nI d), .int (nI p)] (xp_R D zz_cl (xw_tM cA) (xw_M q cA lim bs bk bv rn wh rk rv bg bt sc sw sk sv kp ky vl))) (vp_Si (fun r : Int32 => r = (xb_i (decide (h % 2 ^ d = p))))) 0 0 (fun _ => False) := by
  refine Met.ofW (cc := b_M_inClass) (maxL := 4) (ret := (some .boolean)) (by decide) rfl ?_
  intro pJ eJ s mJ args below meth cJ s₁ B hml hv
  obtain ⟨rfl, hP, hK, hZ⟩ := hv
  have hx := B.exec
  have hb := B.bytes
  have hr := B.returns
  have hts := atoms_spec (ws := zw_M_inClass) B.pre
  have hown : s.vm.findClass R_M = some mJ.cls := findClass_of_methodNamed B.named
  have hlocks := B.notSynchronized
  have hl := lv_entry ([.ref (q 0), .int (nI h), .int (nI d), .int (nI p)]) (n := 4) (Nat.le_of_ble_eq_true rfl)
  rw [lg_entry_eq]
  generalize (lg_sl ([.ref (q 0), .int (nI h), .int (nI d), .int (nI p)]) ++ List.replicate (4 - (lg_sl ([.ref (q 0), .int (nI h), .int (nI d), .int (nI p)])).length) Slot.unset).toArray = ls at hl ⊢
  have hl : lv_has ls 4 [(0, .ref (q 0)), (1, .int (nI h)), (2, .int (nI d)), (3, .int (nI p))] := hl
  have hpos := Nat.two_pow_pos d
  have hm := Nat.mod_le h (2 ^ d)
  refine lv_iload_n hx hb d_M_inClass_0 rfl (lv_at hl 1 rfl) ?_
  refine lv_iconst (v := nI 1) hx hb d_M_inClass_1 (by decide +kernel) ?_
  refine lv_iload_n hx hb d_M_inClass_2 rfl (lv_at hl 2 rfl) ?_
  refine lv_ishl hx hb d_M_inClass_3 ?_
  refine xa_top (y := nI (2 ^ d)) (xw_shl hd) ?_
  refine lv_iconst (v := nI 1) hx hb d_M_inClass_4 (by decide +kernel) ?_
  refine lv_isub hx hb d_M_inClass_5 ?_
  refine xa_top (y := nI ((2 ^ d) - 1)) (pk_sub (by omega)) ?_
  refine lv_iand hx hb d_M_inClass_6 ?_
  refine xa_top (y := nI (h % 2 ^ d)) (xw_and (by omega) hd) ?_
  refine lv_iload_n hx hb d_M_inClass_7 rfl (lv_at hl 3 rfl) ?_
  refine lv_icmp_ne (tgt := 15) hx hb d_M_inClass_8 (by decide) (fun hc8 => ?_) (fun hc8 => ?_)
  · skip
    rw [nI_eq (by omega) (by omega)] at hc8
    refine lv_iconst (v := nI 0) hx hb d_M_inClass_15 (by decide +kernel) ?_
    exact W.zret (ty := .boolean) (v := nI 0) hx hb hr (by decide +kernel) (fun tJ htJ hWJ => ⟨_, rfl, by first | (rw [decide_eq_true hc8]; exact xb_t.symm) | (rw [decide_eq_false hc8]; exact xb_f.symm), htJ⟩) (fun _ h => by cases h) d_M_inClass_16
  · skip
    rw [nI_eq (by omega) (by omega)] at hc8
    refine lv_iconst (v := nI 1) hx hb d_M_inClass_11 (by decide +kernel) ?_
    refine lv_goto (tgt := 16) hx hb d_M_inClass_12 (by decide) ?_
    exact W.zret (ty := .boolean) (v := nI 1) hx hb hr (by decide +kernel) (fun tJ htJ hWJ => ⟨_, rfl, by first | (rw [decide_eq_true hc8]; exact xb_t.symm) | (rw [decide_eq_false hc8]; exact xb_f.symm), htJ⟩) (fun _ h => by cases h) d_M_inClass_16
set_option maxHeartbeats 4000000 in
set_option maxRecDepth 100000 in
theorem c_M_count (l : Launch) (D : va_G) (q : Nat → Nat) (cA : Nat → ClassId) (lim : Int32) (bs : Int32) (bk : Nat → Int32) (bv : Nat → Int64) (rn : Int32) (wh : Nat → Int32) (rk : Nat → Int32) (rv : Nat → Int64) (bg : Nat → Int32) (bt : Int32) (sc : Int32) (sw : Nat → Int32) (sk : Nat → Int32) (sv : Nat → Int64) (ky : Nat → Int32) (vl : Nat → Int64) (K : List xk_E) (d : Nat) (p : Nat) (hM : xm_T ky vl K) (hd : d ≤ 6) (hp : p < 64) : Met l y_M_count zw_M_count ({ frames := 1, cells := 0, slots := 0, locals := 23 } : Room) (va_Pc [.ref (q 0), .int (nI d), .int (nI p)] (xp_R D zz_cl (xw_tM cA) (xw_M q cA lim bs bk bv rn wh rk rv bg bt sc sw sk sv (nI K.length) ky vl))) (vp_Si (fun r : Int32 => r = (nI (xd_cn K d p)))) 0 0 (fun _ => False) := by
  refine Met.ofW (cc := b_M_count) (maxL := 5) (ret := (some .int)) (by decide) rfl ?_
  intro pJ eJ s mJ args below meth cJ s₁ B hml hv
  obtain ⟨rfl, hP, hK, hZ⟩ := hv
  have hx := B.exec
  have hb := B.bytes
  have hr := B.returns
  have hts := atoms_spec (ws := zw_M_count) B.pre
  have hown : s.vm.findClass R_M = some mJ.cls := findClass_of_methodNamed B.named
  have hlocks := B.notSynchronized
  have hl := lv_entry ([.ref (q 0), .int (nI d), .int (nI p)]) (n := 5) (Nat.le_of_ble_eq_true rfl)
  rw [lg_entry_eq]
  generalize (lg_sl ([.ref (q 0), .int (nI d), .int (nI p)]) ++ List.replicate (5 - (lg_sl ([.ref (q 0), .int (nI d), .int (nI p)])).length) Slot.unset).toArray = ls at hl ⊢
  have hl : lv_has ls 5 [(0, .ref (q 0)), (1, .int (nI d)), (2, .int (nI p))] := hl
  have hlen := hM.1
  refine lv_iconst (v := nI 0) hx hb d_M_count_0 (by decide +kernel) ?_
  refine lv_istore_n (lv' := [(3, .int (nI 0)), (0, .ref (q 0)), (1, .int (nI d)), (2, .int (nI p))]) hx hb d_M_count_1 rfl hl (Nat.le_of_ble_eq_true rfl) rfl (fun ls hl => ?_)
  refine lv_iconst (v := nI 0) hx hb d_M_count_2 (by decide +kernel) ?_
  refine lv_istore (lv' := [(4, .int (nI 0)), (3, .int (nI 0)), (0, .ref (q 0)), (1, .int (nI d)), (2, .int (nI p))]) hx hb d_M_count_3 hl (Nat.le_of_ble_eq_true rfl) rfl (fun ls hl => ?_)
  have lp5 : ∀ (N : Nat) (i : Nat) (n : Nat) (ls : Array Slot), (i ≤ K.length) → (n = xd_cn (K.take i) d p) → lv_has ls 5 [(0, .ref (q 0)), (1, .int (nI d)), (2, .int (nI p)), (3, .int (nI n)), (4, .int (nI i))] → K.length - i < N → W pJ l eJ (headSpec zw_M_count ({ frames := 1, cells := 0, slots := 0, locals := 23 } : Room)).room s mJ ([.ref (q 0), .int (nI d), .int (nI p)] : List Value).toArray below meth cJ s.heap [] 0 0 (MQ below (vp_Si (fun r : Int32 => r = (nI (xd_cn K d p)))) ([.ref (q 0), .int (nI d), .int (nI p)] : List Value).toArray s 0 0 (fun _ => False)) (F0 mJ 5 ls []) := by
    intro N
    induction N with
    | zero => intro i n ls hi hn hl hm; exact absurd hm (Nat.not_lt_zero _)
    | succ N ih5 =>
      intro i n ls hi hn hl hm
      refine lv_iload hx hb d_M_count_5 (lv_at hl 4 rfl) ?_
      refine lv_aload_n hx hb d_M_count_7 rfl (lv_at hl 0 rfl) ?_
      refine va_get (D := D) (ci := 5) (v := .int (nI K.length)) (C := R_M) (T := F_M) (N := 17) hx hb hts (zi_M _) hown hK hP 0 rfl rfl 14 (by decide) (hts _ (List.mem_cons_of_mem _ zm_390)) (fun _ h9 => h9) rfl d_M_count_8 ?_
      refine lv_icmp_ge (tgt := 48) hx hb d_M_count_11 (by decide) (fun hc11 => ?_) (fun hc11 => ?_)
      · skip
        rw [nI_leI (by omega) (by omega)] at hc11
        refine lv_iload_n hx hb d_M_count_48 rfl (lv_at hl 3 rfl) ?_
        exact W.iret (v := nI n) hx hb hr (fun tJ htJ hWJ => ⟨_, rfl, by rw [hn, show i = K.length from by omega, List.take_length], htJ⟩) (fun _ h => by cases h) d_M_count_49
      · skip
        rw [nI_leI (by omega) (by omega)] at hc11
        obtain ⟨e, he⟩ : ∃ e, K[i]? = some e := ⟨_, List.getElem?_eq_getElem (by omega)⟩
        have hfe := (xk_tie_f hM.2.2 he).1
        refine lv_aload_n hx hb d_M_count_14 rfl (lv_at hl 0 rfl) ?_
        refine lv_aload_n hx hb d_M_count_15 rfl (lv_at hl 0 rfl) ?_
        refine lv_aload_n hx hb d_M_count_16 rfl (lv_at hl 0 rfl) ?_
        refine va_get (D := D) (ci := 5) (v := .ref (q 10)) (C := R_M) (T := F_M) (N := 17) hx hb hts (zi_M _) hown hK hP 0 rfl rfl 15 (by decide) (hts _ (List.mem_cons_of_mem _ zm_391)) (fun _ h9 => h9) rfl d_M_count_17 ?_
        refine lv_iload hx hb d_M_count_20 (lv_at hl 4 rfl) ?_
        refine xa_iald hx hb hK hP 10 9 rfl rfl (k := i) (by omega) (by decide) d_M_count_22 ?_
        refine xa_top (y := e.1) hfe ?_
        refine xa_cI (va_runV (As := [.int e.1]) (rest := [.ref (q 0)]) ⟨hx, hb, hml, hown, hts⟩ (c_M_hash l D q cA lim bs bk bv rn wh rk rv bg bt sc sw sk sv (nI K.length) ky vl e.1) (cwV 1 hts (zg_V zm_484 zm_486 zs_23 zm_7 zm_487) rfl rfl rfl (by decide +kernel) ⟨Nat.le_of_ble_eq_true rfl, Nat.le_of_ble_eq_true rfl⟩) (xp_preV (ci := 5) (q0 := 0) hK hP rfl rfl rfl hZ) rfl rfl hl.1 rfl (lv_room (Nat.le_of_ble_eq_true rfl)) d_M_count_23 ⟨Nat.zero_le _, Nat.zero_le _⟩) ?_
        refine lv_iload_n hx hb d_M_count_26 rfl (lv_at hl 1 rfl) ?_
        refine lv_iload_n hx hb d_M_count_27 rfl (lv_at hl 2 rfl) ?_
        refine xa_cI (va_runV (As := [.int (nI (xk_h e.1)), .int (nI d), .int (nI p)]) (rest := []) ⟨hx, hb, hml, hown, hts⟩ (c_M_inC l D q cA lim bs bk bv rn wh rk rv bg bt sc sw sk sv (nI K.length) ky vl (xk_h e.1) d p (by first | exact xk_h_lt _ | omega) (by first | exact xd_dp_le _ _ | omega) (by omega)) (cwV 3 hts (zg_V zm_488 zm_490 zs_24 zm_7 zm_491) rfl rfl rfl (by decide +kernel) ⟨Nat.le_of_ble_eq_true rfl, Nat.le_of_ble_eq_true rfl⟩) (xp_preV (ci := 5) (q0 := 0) hK hP rfl rfl rfl hZ) rfl rfl hl.1 rfl (lv_room (Nat.le_of_ble_eq_true rfl)) d_M_count_28 ⟨Nat.zero_le _, Nat.zero_le _⟩) ?_
        refine lv_if_eq (tgt := 40) hx hb d_M_count_31 (by decide) (fun hc31 => ?_) (fun hc31 => ?_)
        · skip
          rw [xb_0] at hc31
          refine lv_iload_n hx hb d_M_count_40 rfl (lv_at hl 3 rfl) ?_
          refine lv_istore_n (lv' := [(3, .int (nI n)), (0, .ref (q 0)), (1, .int (nI d)), (2, .int (nI p)), (4, .int (nI i))]) hx hb d_M_count_41 rfl hl (Nat.le_of_ble_eq_true rfl) rfl (fun ls hl => ?_)
          refine lv_iinc (k := 4) (v := nI (i + 1)) (lv' := [(4, .int (nI (i + 1))), (3, .int (nI n)), (0, .ref (q 0)), (1, .int (nI d)), (2, .int (nI p))]) hx hb d_M_count_42 hl rfl (xn_inc _) (Nat.le_of_ble_eq_true rfl) rfl (fun ls hl => ?_)
          refine lv_goto (tgt := 5) hx hb d_M_count_45 (by decide) ?_
          exact ih5 (i + 1) n ls (by omega) (by first | rw [xd_cn_take he, if_pos (by simpa using hc31), hn] | rw [xd_cn_take he, if_neg (by simpa using hc31), hn]) (lv_sub hl [2, 3, 4, 1, 0] rfl) (by omega)
        · skip
          rw [xb_1] at hc31
          refine lv_iload_n hx hb d_M_count_34 rfl (lv_at hl 3 rfl) ?_
          refine lv_iconst (v := nI 1) hx hb d_M_count_35 (by decide +kernel) ?_
          refine lv_iadd hx hb d_M_count_36 ?_
          refine xa_top (y := nI (n + 1)) (nI_add _ _) ?_
          refine lv_goto (tgt := 41) hx hb d_M_count_37 (by decide) ?_
          refine lv_istore_n (lv' := [(3, .int (nI (n + 1))), (0, .ref (q 0)), (1, .int (nI d)), (2, .int (nI p)), (4, .int (nI i))]) hx hb d_M_count_41 rfl hl (Nat.le_of_ble_eq_true rfl) rfl (fun ls hl => ?_)
          refine lv_iinc (k := 4) (v := nI (i + 1)) (lv' := [(4, .int (nI (i + 1))), (3, .int (nI (n + 1))), (0, .ref (q 0)), (1, .int (nI d)), (2, .int (nI p))]) hx hb d_M_count_42 hl rfl (xn_inc _) (Nat.le_of_ble_eq_true rfl) rfl (fun ls hl => ?_)
          refine lv_goto (tgt := 5) hx hb d_M_count_45 (by decide) ?_
          exact ih5 (i + 1) (n + 1) ls (by omega) (by first | rw [xd_cn_take he, if_pos (by simpa using hc31), hn] | rw [xd_cn_take he, if_neg (by simpa using hc31), hn]) (lv_sub hl [2, 3, 4, 1, 0] rfl) (by omega)
  exact lp5 _ 0 0 ls (Nat.zero_le _) (by simp [xd_cn]) (lv_sub hl [2, 3, 4, 1, 0] rfl) (Nat.lt_succ_self _)
set_option maxHeartbeats 4000000 in
set_option maxRecDepth 100000 in
theorem c_M_good (l : Launch) (D : va_G) (q : Nat → Nat) (cA : Nat → ClassId) (lim : Int32) (bs : Int32) (bk : Nat → Int32) (bv : Nat → Int64) (rn : Int32) (wh : Nat → Int32) (rk : Nat → Int32) (rv : Nat → Int64) (bg : Nat → Int32) (bt : Int32) (sc : Int32) (sw : Nat → Int32) (sk : Nat → Int32) (sv : Nat → Int64) (ky : Nat → Int32) (vl : Nat → Int64) (K : List xk_E) (d : Nat) (p : Nat) (hM : xm_T ky vl K) (hd : d ≤ 6) (hp : p < 64) : Met l y_M_good zw_M_good ({ frames := 1, cells := 0, slots := 0, locals := 23 } : Room) (va_Pc [.ref (q 0), .int (nI d), .int (nI p)] (xp_R D zz_cl (xw_tM cA) (xw_M q cA lim bs bk bv rn wh rk rv bg bt sc sw sk sv (nI K.length) ky vl))) (vp_Si (fun r : Int32 => r = (xb_i (xd_gd K d p)))) 0 0 (fun _ => False) := by
  refine Met.ofW (cc := b_M_good) (maxL := 8) (ret := (some .boolean)) (by decide) rfl ?_
  intro pJ eJ s mJ args below meth cJ s₁ B hml hv
  obtain ⟨rfl, hP, hK, hZ⟩ := hv
  have hx := B.exec
  have hb := B.bytes
  have hr := B.returns
  have hts := atoms_spec (ws := zw_M_good) B.pre
  have hown : s.vm.findClass R_M = some mJ.cls := findClass_of_methodNamed B.named
  have hlocks := B.notSynchronized
  have hl := lv_entry ([.ref (q 0), .int (nI d), .int (nI p)]) (n := 8) (Nat.le_of_ble_eq_true rfl)
  rw [lg_entry_eq]
  generalize (lg_sl ([.ref (q 0), .int (nI d), .int (nI p)]) ++ List.replicate (8 - (lg_sl ([.ref (q 0), .int (nI d), .int (nI p)])).length) Slot.unset).toArray = ls at hl ⊢
  have hl : lv_has ls 8 [(0, .ref (q 0)), (1, .int (nI d)), (2, .int (nI p))] := hl
  have hlen := hM.1
  have hcn0 := xd_cn_le K d p
  refine lv_iconst (v := nI 0) hx hb d_M_good_0 (by decide +kernel) ?_
  refine lv_istore_n (lv' := [(3, .int (nI 0)), (0, .ref (q 0)), (1, .int (nI d)), (2, .int (nI p))]) hx hb d_M_good_1 rfl hl (Nat.le_of_ble_eq_true rfl) rfl (fun ls hl => ?_)
  refine lv_iconst (v := (-1)) hx hb d_M_good_2 (by decide +kernel) ?_
  refine lv_istore (lv' := [(4, .int ((-1))), (3, .int (nI 0)), (0, .ref (q 0)), (1, .int (nI d)), (2, .int (nI p))]) hx hb d_M_good_3 hl (Nat.le_of_ble_eq_true rfl) rfl (fun ls hl => ?_)
  refine lv_iconst (v := nI 1) hx hb d_M_good_5 (by decide +kernel) ?_
  refine xa_top (y := xb_i true) xb_t.symm ?_
  refine lv_istore (lv' := [(5, .int (xb_i true)), (4, .int ((-1))), (3, .int (nI 0)), (0, .ref (q 0)), (1, .int (nI d)), (2, .int (nI p))]) hx hb d_M_good_6 hl (Nat.le_of_ble_eq_true rfl) rfl (fun ls hl => ?_)
  refine lv_iconst (v := nI 0) hx hb d_M_good_8 (by decide +kernel) ?_
  refine lv_istore (lv' := [(6, .int (nI 0)), (5, .int (xb_i true)), (4, .int ((-1))), (3, .int (nI 0)), (0, .ref (q 0)), (1, .int (nI d)), (2, .int (nI p))]) hx hb d_M_good_9 hl (Nat.le_of_ble_eq_true rfl) rfl (fun ls hl => ?_)
  have lp11 : ∀ (N : Nat) (i : Nat) (n : Nat) (one : Int32) (same : Bool) (ls : Array Slot), (i ≤ K.length) → (n = xd_cn (K.take i) d p) → (xg_J K d p i one same) → lv_has ls 8 [(0, .ref (q 0)), (1, .int (nI d)), (2, .int (nI p)), (3, .int (nI n)), (4, .int one), (5, .int (xb_i same)), (6, .int (nI i))] → K.length - i < N → W pJ l eJ (headSpec zw_M_good ({ frames := 1, cells := 0, slots := 0, locals := 23 } : Room)).room s mJ ([.ref (q 0), .int (nI d), .int (nI p)] : List Value).toArray below meth cJ s.heap [] 0 0 (MQ below (vp_Si (fun r : Int32 => r = (xb_i (xd_gd K d p)))) ([.ref (q 0), .int (nI d), .int (nI p)] : List Value).toArray s 0 0 (fun _ => False)) (F0 mJ 11 ls []) := by
    intro N
    induction N with
    | zero => intro i n one same ls hi hn hJ hl hm; exact absurd hm (Nat.not_lt_zero _)
    | succ N ih11 =>
      intro i n one same ls hi hn hJ hl hm
      refine lv_iload hx hb d_M_good_11 (lv_at hl 6 rfl) ?_
      refine lv_aload_n hx hb d_M_good_13 rfl (lv_at hl 0 rfl) ?_
      refine va_get (D := D) (ci := 5) (v := .int (nI K.length)) (C := R_M) (T := F_M) (N := 17) hx hb hts (zi_M _) hown hK hP 0 rfl rfl 14 (by decide) (hts _ (List.mem_cons_of_mem _ zm_390)) (fun _ h9 => h9) rfl d_M_good_14 ?_
      refine lv_icmp_ge (tgt := 82) hx hb d_M_good_17 (by decide) (fun hc17 => ?_) (fun hc17 => ?_)
      · skip
        rw [nI_leI (by omega) (by omega)] at hc17
        have hi9 : i = K.length := by omega
        rw [hi9] at hJ
        have hg := xg_J_end hJ
        rw [hi9, List.take_length] at hn
        refine lv_iload_n hx hb d_M_good_82 rfl (lv_at hl 3 rfl) ?_
        refine lv_iconst (v := nI 4) hx hb d_M_good_83 (by decide +kernel) ?_
        refine lv_icmp_le (tgt := 92) hx hb d_M_good_84 (by decide) (fun hc84 => ?_) (fun hc84 => ?_)
        · skip
          rw [nI_leI (by omega) (by omega)] at hc84
          refine lv_iconst (v := nI 1) hx hb d_M_good_92 (by decide +kernel) ?_
          refine lv_goto (tgt := 97) hx hb d_M_good_93 (by decide) ?_
          exact W.zret (ty := .boolean) (v := nI 1) hx hb hr (by decide +kernel) (fun tJ htJ hWJ => ⟨_, rfl, by rw [hg, ← hn]; first | (rw [decide_eq_true hc84]; exact xb_t.symm) | (rw [hc89, decide_eq_false hc84]; exact xb_f.symm) | (rw [hc89, Bool.or_true]; exact xb_t.symm), htJ⟩) (fun _ h => by cases h) d_M_good_97
        · skip
          rw [nI_leI (by omega) (by omega)] at hc84
          refine lv_iload hx hb d_M_good_87 (lv_at hl 5 rfl) ?_
          refine lv_if_eq (tgt := 96) hx hb d_M_good_89 (by decide) (fun hc89 => ?_) (fun hc89 => ?_)
          · skip
            rw [xb_0] at hc89
            refine lv_iconst (v := nI 0) hx hb d_M_good_96 (by decide +kernel) ?_
            exact W.zret (ty := .boolean) (v := nI 0) hx hb hr (by decide +kernel) (fun tJ htJ hWJ => ⟨_, rfl, by rw [hg, ← hn]; first | (rw [decide_eq_true hc84]; exact xb_t.symm) | (rw [hc89, decide_eq_false hc84]; exact xb_f.symm) | (rw [hc89, Bool.or_true]; exact xb_t.symm), htJ⟩) (fun _ h => by cases h) d_M_good_97
          · skip
            rw [xb_1] at hc89
            refine lv_iconst (v := nI 1) hx hb d_M_good_92 (by decide +kernel) ?_
            refine lv_goto (tgt := 97) hx hb d_M_good_93 (by decide) ?_
            exact W.zret (ty := .boolean) (v := nI 1) hx hb hr (by decide +kernel) (fun tJ htJ hWJ => ⟨_, rfl, by rw [hg, ← hn]; first | (rw [decide_eq_true hc84]; exact xb_t.symm) | (rw [hc89, decide_eq_false hc84]; exact xb_f.symm) | (rw [hc89, Bool.or_true]; exact xb_t.symm), htJ⟩) (fun _ h => by cases h) d_M_good_97
      · skip
        rw [nI_leI (by omega) (by omega)] at hc17
        obtain ⟨e, he⟩ : ∃ e, K[i]? = some e := ⟨_, List.getElem?_eq_getElem (by omega)⟩
        have hfe := (xk_tie_f hM.2.2 he).1
        refine lv_aload_n hx hb d_M_good_20 rfl (lv_at hl 0 rfl) ?_
        refine lv_aload_n hx hb d_M_good_21 rfl (lv_at hl 0 rfl) ?_
        refine va_get (D := D) (ci := 5) (v := .ref (q 10)) (C := R_M) (T := F_M) (N := 17) hx hb hts (zi_M _) hown hK hP 0 rfl rfl 15 (by decide) (hts _ (List.mem_cons_of_mem _ zm_391)) (fun _ h9 => h9) rfl d_M_good_22 ?_
        refine lv_iload hx hb d_M_good_25 (lv_at hl 6 rfl) ?_
        refine xa_iald hx hb hK hP 10 9 rfl rfl (k := i) (by omega) (by decide) d_M_good_27 ?_
        refine xa_top (y := e.1) hfe ?_
        refine xa_cI (va_runV (As := [.int e.1]) (rest := []) ⟨hx, hb, hml, hown, hts⟩ (c_M_hash l D q cA lim bs bk bv rn wh rk rv bg bt sc sw sk sv (nI K.length) ky vl e.1) (cwV 1 hts (zg_V zm_484 zm_486 zs_23 zm_7 zm_487) rfl rfl rfl (by decide +kernel) ⟨Nat.le_of_ble_eq_true rfl, Nat.le_of_ble_eq_true rfl⟩) (xp_preV (ci := 5) (q0 := 0) hK hP rfl rfl rfl hZ) rfl rfl hl.1 rfl (lv_room (Nat.le_of_ble_eq_true rfl)) d_M_good_28 ⟨Nat.zero_le _, Nat.zero_le _⟩) ?_
        refine lv_istore (lv' := [(7, .int (nI (xk_h e.1))), (0, .ref (q 0)), (1, .int (nI d)), (2, .int (nI p)), (3, .int (nI n)), (4, .int one), (5, .int (xb_i same)), (6, .int (nI i))]) hx hb d_M_good_31 hl (Nat.le_of_ble_eq_true rfl) rfl (fun ls hl => ?_)
        refine lv_aload_n hx hb d_M_good_33 rfl (lv_at hl 1 rfl) ?_
        refine lv_iload hx hb d_M_good_34 (lv_at hl 0 rfl) ?_
        refine lv_iload_n hx hb d_M_good_36 rfl (lv_at hl 2 rfl) ?_
        refine lv_iload_n hx hb d_M_good_37 rfl (lv_at hl 3 rfl) ?_
        refine xa_cI (va_runV (As := [.int (nI (xk_h e.1)), .int (nI d), .int (nI p)]) (rest := []) ⟨hx, hb, hml, hown, hts⟩ (c_M_inC l D q cA lim bs bk bv rn wh rk rv bg bt sc sw sk sv (nI K.length) ky vl (xk_h e.1) d p (by first | exact xk_h_lt _ | omega) (by first | exact xd_dp_le _ _ | omega) (by omega)) (cwV 3 hts (zg_V zm_488 zm_490 zs_24 zm_7 zm_491) rfl rfl rfl (by decide +kernel) ⟨Nat.le_of_ble_eq_true rfl, Nat.le_of_ble_eq_true rfl⟩) (xp_preV (ci := 5) (q0 := 0) hK hP rfl rfl rfl hZ) rfl rfl hl.1 rfl (lv_room (Nat.le_of_ble_eq_true rfl)) d_M_good_38 ⟨Nat.zero_le _, Nat.zero_le _⟩) ?_
        refine lv_if_eq (tgt := 76) hx hb d_M_good_41 (by decide) (fun hc41 => ?_) (fun hc41 => ?_)
        · skip
          rw [xb_0] at hc41
          refine lv_iinc (k := 7) (v := nI (i + 1)) (lv' := [(6, .int (nI (i + 1))), (7, .int (nI (xk_h e.1))), (0, .ref (q 0)), (1, .int (nI d)), (2, .int (nI p)), (3, .int (nI n)), (4, .int one), (5, .int (xb_i same))]) hx hb d_M_good_76 hl rfl (xn_inc _) (Nat.le_of_ble_eq_true rfl) rfl (fun ls hl => ?_)
          refine lv_goto (tgt := 11) hx hb d_M_good_79 (by decide) ?_
          exact ih11 (i + 1) n one same ls (by omega) (by first | rw [xd_cn_take he, if_pos (by simpa using hc41), hn] | rw [xd_cn_take he, if_neg (by simpa using hc41), hn]) (by first | exact xg_J_in hJ he (by simpa using hc41) rfl | exact xg_J_skip hJ he (by simpa using hc41)) (lv_sub hl [2, 3, 4, 5, 6, 7, 0] rfl) (by omega)
        · skip
          rw [xb_1] at hc41
          refine lv_iload_n hx hb d_M_good_44 rfl (lv_at hl 4 rfl) ?_
          refine lv_iconst (v := nI 1) hx hb d_M_good_45 (by decide +kernel) ?_
          refine lv_iadd hx hb d_M_good_46 ?_
          refine xa_top (y := nI (n + 1)) (nI_add _ _) ?_
          refine lv_istore_n (lv' := [(3, .int (nI (n + 1))), (7, .int (nI (xk_h e.1))), (0, .ref (q 0)), (1, .int (nI d)), (2, .int (nI p)), (4, .int one), (5, .int (xb_i same)), (6, .int (nI i))]) hx hb d_M_good_47 rfl hl (Nat.le_of_ble_eq_true rfl) rfl (fun ls hl => ?_)
          refine lv_iload hx hb d_M_good_48 (lv_at hl 6 rfl) ?_
          refine lv_if_eq (tgt := 69) hx hb d_M_good_50 (by decide) (fun hc50 => ?_) (fun hc50 => ?_)
          · skip
            rw [xb_0] at hc50
            refine lv_iconst (v := nI 0) hx hb d_M_good_69 (by decide +kernel) ?_
            refine xa_top (y := xb_i (same && (decide (one < 0) || decide (one = nI (xk_h e.1))))) (by first | exact xg_s0 hc50 | exact xg_s1 hc50 (Or.inl hc55) | exact xg_s1 hc50 (Or.inr hc62) | exact xg_s2 hc55 hc62) ?_
            refine lv_istore (lv' := [(5, .int (xb_i (same && (decide (one < 0) || decide (one = nI (xk_h e.1)))))), (3, .int (nI (n + 1))), (7, .int (nI (xk_h e.1))), (0, .ref (q 0)), (1, .int (nI d)), (2, .int (nI p)), (4, .int one), (6, .int (nI i))]) hx hb d_M_good_70 hl (Nat.le_of_ble_eq_true rfl) rfl (fun ls hl => ?_)
            refine lv_iload hx hb d_M_good_72 (lv_at hl 2 rfl) ?_
            refine lv_istore (lv' := [(4, .int (nI (xk_h e.1))), (5, .int (xb_i (same && (decide (one < 0) || decide (one = nI (xk_h e.1)))))), (3, .int (nI (n + 1))), (7, .int (nI (xk_h e.1))), (0, .ref (q 0)), (1, .int (nI d)), (2, .int (nI p)), (6, .int (nI i))]) hx hb d_M_good_74 hl (Nat.le_of_ble_eq_true rfl) rfl (fun ls hl => ?_)
            refine lv_iinc (k := 7) (v := nI (i + 1)) (lv' := [(6, .int (nI (i + 1))), (4, .int (nI (xk_h e.1))), (5, .int (xb_i (same && (decide (one < 0) || decide (one = nI (xk_h e.1)))))), (3, .int (nI (n + 1))), (7, .int (nI (xk_h e.1))), (0, .ref (q 0)), (1, .int (nI d)), (2, .int (nI p))]) hx hb d_M_good_76 hl rfl (xn_inc _) (Nat.le_of_ble_eq_true rfl) rfl (fun ls hl => ?_)
            refine lv_goto (tgt := 11) hx hb d_M_good_79 (by decide) ?_
            exact ih11 (i + 1) (n + 1) (nI (xk_h e.1)) (same && (decide (one < 0) || decide (one = nI (xk_h e.1)))) ls (by omega) (by first | rw [xd_cn_take he, if_pos (by simpa using hc41), hn] | rw [xd_cn_take he, if_neg (by simpa using hc41), hn]) (by first | exact xg_J_in hJ he (by simpa using hc41) rfl | exact xg_J_skip hJ he (by simpa using hc41)) (lv_sub hl [5, 6, 7, 3, 1, 2, 0] rfl) (by omega)
          · skip
            rw [xb_1] at hc50
            refine lv_iload hx hb d_M_good_53 (lv_at hl 5 rfl) ?_
            refine lv_if_lt (tgt := 65) hx hb d_M_good_55 (by decide) (fun hc55 => ?_) (fun hc55 => ?_)
            · skip
              refine lv_iconst (v := nI 1) hx hb d_M_good_65 (by decide +kernel) ?_
              refine lv_goto (tgt := 70) hx hb d_M_good_66 (by decide) ?_
              refine xa_top (y := xb_i (same && (decide (one < 0) || decide (one = nI (xk_h e.1))))) (by first | exact xg_s0 hc50 | exact xg_s1 hc50 (Or.inl hc55) | exact xg_s1 hc50 (Or.inr hc62) | exact xg_s2 hc55 hc62) ?_
              refine lv_istore (lv' := [(5, .int (xb_i (same && (decide (one < 0) || decide (one = nI (xk_h e.1)))))), (3, .int (nI (n + 1))), (7, .int (nI (xk_h e.1))), (0, .ref (q 0)), (1, .int (nI d)), (2, .int (nI p)), (4, .int one), (6, .int (nI i))]) hx hb d_M_good_70 hl (Nat.le_of_ble_eq_true rfl) rfl (fun ls hl => ?_)
              refine lv_iload hx hb d_M_good_72 (lv_at hl 2 rfl) ?_
              refine lv_istore (lv' := [(4, .int (nI (xk_h e.1))), (5, .int (xb_i (same && (decide (one < 0) || decide (one = nI (xk_h e.1)))))), (3, .int (nI (n + 1))), (7, .int (nI (xk_h e.1))), (0, .ref (q 0)), (1, .int (nI d)), (2, .int (nI p)), (6, .int (nI i))]) hx hb d_M_good_74 hl (Nat.le_of_ble_eq_true rfl) rfl (fun ls hl => ?_)
              refine lv_iinc (k := 7) (v := nI (i + 1)) (lv' := [(6, .int (nI (i + 1))), (4, .int (nI (xk_h e.1))), (5, .int (xb_i (same && (decide (one < 0) || decide (one = nI (xk_h e.1)))))), (3, .int (nI (n + 1))), (7, .int (nI (xk_h e.1))), (0, .ref (q 0)), (1, .int (nI d)), (2, .int (nI p))]) hx hb d_M_good_76 hl rfl (xn_inc _) (Nat.le_of_ble_eq_true rfl) rfl (fun ls hl => ?_)
              refine lv_goto (tgt := 11) hx hb d_M_good_79 (by decide) ?_
              exact ih11 (i + 1) (n + 1) (nI (xk_h e.1)) (same && (decide (one < 0) || decide (one = nI (xk_h e.1)))) ls (by omega) (by first | rw [xd_cn_take he, if_pos (by simpa using hc41), hn] | rw [xd_cn_take he, if_neg (by simpa using hc41), hn]) (by first | exact xg_J_in hJ he (by simpa using hc41) rfl | exact xg_J_skip hJ he (by simpa using hc41)) (lv_sub hl [5, 6, 7, 3, 1, 2, 0] rfl) (by omega)
            · skip
              refine lv_iload hx hb d_M_good_58 (lv_at hl 5 rfl) ?_
              refine lv_iload hx hb d_M_good_60 (lv_at hl 1 rfl) ?_
              refine lv_icmp_ne (tgt := 69) hx hb d_M_good_62 (by decide) (fun hc62 => ?_) (fun hc62 => ?_)
              · skip
                refine lv_iconst (v := nI 0) hx hb d_M_good_69 (by decide +kernel) ?_
                refine xa_top (y := xb_i (same && (decide (one < 0) || decide (one = nI (xk_h e.1))))) (by first | exact xg_s0 hc50 | exact xg_s1 hc50 (Or.inl hc55) | exact xg_s1 hc50 (Or.inr hc62) | exact xg_s2 hc55 hc62) ?_
                refine lv_istore (lv' := [(5, .int (xb_i (same && (decide (one < 0) || decide (one = nI (xk_h e.1)))))), (3, .int (nI (n + 1))), (7, .int (nI (xk_h e.1))), (0, .ref (q 0)), (1, .int (nI d)), (2, .int (nI p)), (4, .int one), (6, .int (nI i))]) hx hb d_M_good_70 hl (Nat.le_of_ble_eq_true rfl) rfl (fun ls hl => ?_)
                refine lv_iload hx hb d_M_good_72 (lv_at hl 2 rfl) ?_
                refine lv_istore (lv' := [(4, .int (nI (xk_h e.1))), (5, .int (xb_i (same && (decide (one < 0) || decide (one = nI (xk_h e.1)))))), (3, .int (nI (n + 1))), (7, .int (nI (xk_h e.1))), (0, .ref (q 0)), (1, .int (nI d)), (2, .int (nI p)), (6, .int (nI i))]) hx hb d_M_good_74 hl (Nat.le_of_ble_eq_true rfl) rfl (fun ls hl => ?_)
                refine lv_iinc (k := 7) (v := nI (i + 1)) (lv' := [(6, .int (nI (i + 1))), (4, .int (nI (xk_h e.1))), (5, .int (xb_i (same && (decide (one < 0) || decide (one = nI (xk_h e.1)))))), (3, .int (nI (n + 1))), (7, .int (nI (xk_h e.1))), (0, .ref (q 0)), (1, .int (nI d)), (2, .int (nI p))]) hx hb d_M_good_76 hl rfl (xn_inc _) (Nat.le_of_ble_eq_true rfl) rfl (fun ls hl => ?_)
                refine lv_goto (tgt := 11) hx hb d_M_good_79 (by decide) ?_
                exact ih11 (i + 1) (n + 1) (nI (xk_h e.1)) (same && (decide (one < 0) || decide (one = nI (xk_h e.1)))) ls (by omega) (by first | rw [xd_cn_take he, if_pos (by simpa using hc41), hn] | rw [xd_cn_take he, if_neg (by simpa using hc41), hn]) (by first | exact xg_J_in hJ he (by simpa using hc41) rfl | exact xg_J_skip hJ he (by simpa using hc41)) (lv_sub hl [5, 6, 7, 3, 1, 2, 0] rfl) (by omega)
              · skip
                refine lv_iconst (v := nI 1) hx hb d_M_good_65 (by decide +kernel) ?_
                refine lv_goto (tgt := 70) hx hb d_M_good_66 (by decide) ?_
                refine xa_top (y := xb_i (same && (decide (one < 0) || decide (one = nI (xk_h e.1))))) (by first | exact xg_s0 hc50 | exact xg_s1 hc50 (Or.inl hc55) | exact xg_s1 hc50 (Or.inr hc62) | exact xg_s2 hc55 hc62) ?_
                refine lv_istore (lv' := [(5, .int (xb_i (same && (decide (one < 0) || decide (one = nI (xk_h e.1)))))), (3, .int (nI (n + 1))), (7, .int (nI (xk_h e.1))), (0, .ref (q 0)), (1, .int (nI d)), (2, .int (nI p)), (4, .int one), (6, .int (nI i))]) hx hb d_M_good_70 hl (Nat.le_of_ble_eq_true rfl) rfl (fun ls hl => ?_)
                refine lv_iload hx hb d_M_good_72 (lv_at hl 2 rfl) ?_
                refine lv_istore (lv' := [(4, .int (nI (xk_h e.1))), (5, .int (xb_i (same && (decide (one < 0) || decide (one = nI (xk_h e.1)))))), (3, .int (nI (n + 1))), (7, .int (nI (xk_h e.1))), (0, .ref (q 0)), (1, .int (nI d)), (2, .int (nI p)), (6, .int (nI i))]) hx hb d_M_good_74 hl (Nat.le_of_ble_eq_true rfl) rfl (fun ls hl => ?_)
                refine lv_iinc (k := 7) (v := nI (i + 1)) (lv' := [(6, .int (nI (i + 1))), (4, .int (nI (xk_h e.1))), (5, .int (xb_i (same && (decide (one < 0) || decide (one = nI (xk_h e.1)))))), (3, .int (nI (n + 1))), (7, .int (nI (xk_h e.1))), (0, .ref (q 0)), (1, .int (nI d)), (2, .int (nI p))]) hx hb d_M_good_76 hl rfl (xn_inc _) (Nat.le_of_ble_eq_true rfl) rfl (fun ls hl => ?_)
                refine lv_goto (tgt := 11) hx hb d_M_good_79 (by decide) ?_
                exact ih11 (i + 1) (n + 1) (nI (xk_h e.1)) (same && (decide (one < 0) || decide (one = nI (xk_h e.1)))) ls (by omega) (by first | rw [xd_cn_take he, if_pos (by simpa using hc41), hn] | rw [xd_cn_take he, if_neg (by simpa using hc41), hn]) (by first | exact xg_J_in hJ he (by simpa using hc41) rfl | exact xg_J_skip hJ he (by simpa using hc41)) (lv_sub hl [5, 6, 7, 3, 1, 2, 0] rfl) (by omega)
  exact lp11 _ 0 0 ((-1)) true ls (Nat.zero_le _) (by simp [xd_cn]) (xg_J_0 K d p) (lv_sub hl [4, 5, 6, 3, 2, 1, 0] rfl) (Nat.lt_succ_self _)
set_option maxHeartbeats 4000000 in
set_option maxRecDepth 100000 in
theorem c_M_dep (l : Launch) (D : va_G) (q : Nat → Nat) (cA : Nat → ClassId) (lim : Int32) (bs : Int32) (bk : Nat → Int32) (bv : Nat → Int64) (rn : Int32) (wh : Nat → Int32) (rk : Nat → Int32) (rv : Nat → Int64) (bg : Nat → Int32) (bt : Int32) (sc : Int32) (sw : Nat → Int32) (sk : Nat → Int32) (sv : Nat → Int64) (ky : Nat → Int32) (vl : Nat → Int64) (K : List xk_E) (p : Nat) (hM : xm_T ky vl K) (hp : p < 64) : Met l y_M_depthOf zw_M_depthOf ({ frames := 2, cells := 0, slots := 0, locals := 50 } : Room) (va_Pc [.ref (q 0), .int (nI p)] (xp_R D zz_cl (xw_tM cA) (xw_M q cA lim bs bk bv rn wh rk rv bg bt sc sw sk sv (nI K.length) ky vl))) (vp_Si (fun r : Int32 => r = (xm_rd K p))) 0 0 (fun _ => False) := by
  refine Met.ofW (cc := b_M_depthOf) (maxL := 5) (ret := (some .int)) (by decide) rfl ?_
  intro pJ eJ s mJ args below meth cJ s₁ B hml hv
  obtain ⟨rfl, hP, hK, hZ⟩ := hv
  have hx := B.exec
  have hb := B.bytes
  have hr := B.returns
  have hts := atoms_spec (ws := zw_M_depthOf) B.pre
  have hown : s.vm.findClass R_M = some mJ.cls := findClass_of_methodNamed B.named
  have hlocks := B.notSynchronized
  have hl := lv_entry ([.ref (q 0), .int (nI p)]) (n := 5) (Nat.le_of_ble_eq_true rfl)
  rw [lg_entry_eq]
  generalize (lg_sl ([.ref (q 0), .int (nI p)]) ++ List.replicate (5 - (lg_sl ([.ref (q 0), .int (nI p)])).length) Slot.unset).toArray = ls at hl ⊢
  have hl : lv_has ls 5 [(0, .ref (q 0)), (1, .int (nI p))] := hl
  refine lv_iconst (v := (-1)) hx hb d_M_depthOf_0 (by decide +kernel) ?_
  refine lv_istore_n (lv' := [(2, .int ((-1))), (0, .ref (q 0)), (1, .int (nI p))]) hx hb d_M_depthOf_1 rfl hl (Nat.le_of_ble_eq_true rfl) rfl (fun ls hl => ?_)
  refine lv_iconst (v := nI 0) hx hb d_M_depthOf_2 (by decide +kernel) ?_
  refine lv_istore_n (lv' := [(3, .int (nI 0)), (2, .int ((-1))), (0, .ref (q 0)), (1, .int (nI p))]) hx hb d_M_depthOf_3 rfl hl (Nat.le_of_ble_eq_true rfl) rfl (fun ls hl => ?_)
  have lp4 : ∀ (N : Nat) (d : Nat) (fo : Int32) (ls : Array Slot), (d ≤ 7) → (fo = if xd_dp K p < d ∧ xd_pl K p = true then nI (xd_dp K p) else (-1)) → lv_has ls 5 [(0, .ref (q 0)), (1, .int (nI p)), (2, .int fo), (3, .int (nI d))] → 7 - d < N → W pJ l eJ (headSpec zw_M_depthOf ({ frames := 2, cells := 0, slots := 0, locals := 50 } : Room)).room s mJ ([.ref (q 0), .int (nI p)] : List Value).toArray below meth cJ s.heap [] 0 0 (MQ below (vp_Si (fun r : Int32 => r = (xm_rd K p))) ([.ref (q 0), .int (nI p)] : List Value).toArray s 0 0 (fun _ => False)) (F0 mJ 4 ls []) := by
    intro N
    induction N with
    | zero => intro d fo ls hd7 hf hl hm; exact absurd hm (Nat.not_lt_zero _)
    | succ N ih4 =>
      intro d fo ls hd7 hf hl hm
      refine lv_iload_n hx hb d_M_depthOf_4 rfl (lv_at hl 3 rfl) ?_
      refine lv_bipush (v := nI 6) hx hb d_M_depthOf_5 (by decide +kernel) ?_
      refine lv_icmp_gt (tgt := 73) hx hb d_M_depthOf_7 (by decide) (fun hc7 => ?_) (fun hc7 => ?_)
      · skip
        rw [nI_ltI (by omega) (by omega)] at hc7
        refine lv_iload_n hx hb d_M_depthOf_73 rfl (lv_at hl 2 rfl) ?_
        exact W.iret (v := fo) hx hb hr (fun tJ htJ hWJ => ⟨_, rfl, xm_rd_e hf hc7, htJ⟩) (fun _ h => by cases h) d_M_depthOf_74
      · skip
        rw [nI_ltI (by omega) (by omega)] at hc7
        refine lv_iload_n hx hb d_M_depthOf_10 rfl (lv_at hl 1 rfl) ?_
        refine lv_iconst (v := nI 1) hx hb d_M_depthOf_11 (by decide +kernel) ?_
        refine lv_iload_n hx hb d_M_depthOf_12 rfl (lv_at hl 3 rfl) ?_
        refine lv_ishl hx hb d_M_depthOf_13 ?_
        refine xa_top (y := nI (2 ^ d)) (xw_shl (by omega)) ?_
        have hpw := xw_pow (d := d) (by omega)
        refine lv_icmp_ge (tgt := 67) hx hb d_M_depthOf_14 (by decide) (fun hc14 => ?_) (fun hc14 => ?_)
        · skip
          rw [nI_leI (by omega) (by omega)] at hc14
          refine lv_iinc (k := 3) (v := nI (d + 1)) (lv' := [(3, .int (nI (d + 1))), (0, .ref (q 0)), (1, .int (nI p)), (2, .int fo)]) hx hb d_M_depthOf_67 hl rfl (xn_inc _) (Nat.le_of_ble_eq_true rfl) rfl (fun ls hl => ?_)
          refine lv_goto (tgt := 4) hx hb d_M_depthOf_70 (by decide) ?_
          exact ih4 (d + 1) fo ls (by omega) (by first | exact xm_rd_y (by omega) (by omega) hc23 hc58 | exact xm_rd_n hf (by omega) (fun q => absurd q.1 (by omega)) | exact xm_rd_n hf (by omega) (fun q => by rw [hc23] at q; exact absurd q.2.1 (by decide)) | exact xm_rd_n hf (by omega) (fun q => by rw [hc58] at q; exact absurd q.2.2 (by decide))) (lv_sub hl [1, 2, 3, 0] rfl) (by omega)
        · skip
          rw [nI_leI (by omega) (by omega)] at hc14
          refine lv_aload_n hx hb d_M_depthOf_17 rfl (lv_at hl 0 rfl) ?_
          refine lv_iload_n hx hb d_M_depthOf_18 rfl (lv_at hl 3 rfl) ?_
          refine lv_iload_n hx hb d_M_depthOf_19 rfl (lv_at hl 1 rfl) ?_
          refine xa_cI (va_runV (As := [.int (nI d), .int (nI p)]) (rest := []) ⟨hx, hb, hml, hown, hts⟩ (c_M_good l D q cA lim bs bk bv rn wh rk rv bg bt sc sw sk sv ky vl K d p hM (by omega) (by omega)) (cwV 2 hts (zg_V zm_480 zm_482 zs_22 zm_7 zm_483) rfl rfl rfl (by decide +kernel) ⟨Nat.le_of_ble_eq_true rfl, Nat.le_of_ble_eq_true rfl⟩) (xp_preV (ci := 5) (q0 := 0) hK hP rfl rfl rfl hZ) rfl rfl hl.1 rfl (lv_room (Nat.le_of_ble_eq_true rfl)) d_M_depthOf_20 ⟨Nat.zero_le _, Nat.zero_le _⟩) ?_
          refine lv_if_eq (tgt := 67) hx hb d_M_depthOf_23 (by decide) (fun hc23 => ?_) (fun hc23 => ?_)
          · skip
            rw [xb_0] at hc23
            refine lv_iinc (k := 3) (v := nI (d + 1)) (lv' := [(3, .int (nI (d + 1))), (0, .ref (q 0)), (1, .int (nI p)), (2, .int fo)]) hx hb d_M_depthOf_67 hl rfl (xn_inc _) (Nat.le_of_ble_eq_true rfl) rfl (fun ls hl => ?_)
            refine lv_goto (tgt := 4) hx hb d_M_depthOf_70 (by decide) ?_
            exact ih4 (d + 1) fo ls (by omega) (by first | exact xm_rd_y (by omega) (by omega) hc23 hc58 | exact xm_rd_n hf (by omega) (fun q => absurd q.1 (by omega)) | exact xm_rd_n hf (by omega) (fun q => by rw [hc23] at q; exact absurd q.2.1 (by decide)) | exact xm_rd_n hf (by omega) (fun q => by rw [hc58] at q; exact absurd q.2.2 (by decide))) (lv_sub hl [1, 2, 3, 0] rfl) (by omega)
          · skip
            rw [xb_1] at hc23
            refine lv_iload_n hx hb d_M_depthOf_26 rfl (lv_at hl 3 rfl) ?_
            refine lv_if_eq (tgt := 49) hx hb d_M_depthOf_27 (by decide) (fun hc27 => ?_) (fun hc27 => ?_)
            · skip
              rw [xn_eq0 (by omega)] at hc27
              refine lv_iconst (v := nI 1) hx hb d_M_depthOf_49 (by decide +kernel) ?_
              refine lv_goto (tgt := 54) hx hb d_M_depthOf_50 (by decide) ?_
              refine xa_top (y := xb_i (xm_wh K p d)) (by first | exact xm_w1 (Or.inl hc27) | exact xm_w1 (Or.inr hc46) | exact xm_w0 hc27 hc46) ?_
              refine lv_istore (lv' := [(4, .int (xb_i (xm_wh K p d))), (0, .ref (q 0)), (1, .int (nI p)), (2, .int fo), (3, .int (nI d))]) hx hb d_M_depthOf_54 hl (Nat.le_of_ble_eq_true rfl) rfl (fun ls hl => ?_)
              refine lv_iload hx hb d_M_depthOf_56 (lv_at hl 0 rfl) ?_
              refine lv_if_eq (tgt := 65) hx hb d_M_depthOf_58 (by decide) (fun hc58 => ?_) (fun hc58 => ?_)
              · skip
                rw [xb_0] at hc58
                refine lv_iload_n hx hb d_M_depthOf_65 rfl (lv_at hl 3 rfl) ?_
                refine lv_istore_n (lv' := [(2, .int fo), (4, .int (xb_i (xm_wh K p d))), (0, .ref (q 0)), (1, .int (nI p)), (3, .int (nI d))]) hx hb d_M_depthOf_66 rfl hl (Nat.le_of_ble_eq_true rfl) rfl (fun ls hl => ?_)
                refine lv_iinc (k := 4) (v := nI (d + 1)) (lv' := [(3, .int (nI (d + 1))), (2, .int fo), (4, .int (xb_i (xm_wh K p d))), (0, .ref (q 0)), (1, .int (nI p))]) hx hb d_M_depthOf_67 hl rfl (xn_inc _) (Nat.le_of_ble_eq_true rfl) rfl (fun ls hl => ?_)
                refine lv_goto (tgt := 4) hx hb d_M_depthOf_70 (by decide) ?_
                exact ih4 (d + 1) fo ls (by omega) (by first | exact xm_rd_y (by omega) (by omega) hc23 hc58 | exact xm_rd_n hf (by omega) (fun q => absurd q.1 (by omega)) | exact xm_rd_n hf (by omega) (fun q => by rw [hc23] at q; exact absurd q.2.1 (by decide)) | exact xm_rd_n hf (by omega) (fun q => by rw [hc58] at q; exact absurd q.2.2 (by decide))) (lv_sub hl [3, 4, 1, 0] rfl) (by omega)
              · skip
                rw [xb_1] at hc58
                refine lv_iload_n hx hb d_M_depthOf_61 rfl (lv_at hl 4 rfl) ?_
                refine lv_goto (tgt := 66) hx hb d_M_depthOf_62 (by decide) ?_
                refine lv_istore_n (lv' := [(2, .int (nI d)), (4, .int (xb_i (xm_wh K p d))), (0, .ref (q 0)), (1, .int (nI p)), (3, .int (nI d))]) hx hb d_M_depthOf_66 rfl hl (Nat.le_of_ble_eq_true rfl) rfl (fun ls hl => ?_)
                refine lv_iinc (k := 4) (v := nI (d + 1)) (lv' := [(3, .int (nI (d + 1))), (2, .int (nI d)), (4, .int (xb_i (xm_wh K p d))), (0, .ref (q 0)), (1, .int (nI p))]) hx hb d_M_depthOf_67 hl rfl (xn_inc _) (Nat.le_of_ble_eq_true rfl) rfl (fun ls hl => ?_)
                refine lv_goto (tgt := 4) hx hb d_M_depthOf_70 (by decide) ?_
                exact ih4 (d + 1) (nI d) ls (by omega) (by first | exact xm_rd_y (by omega) (by omega) hc23 hc58 | exact xm_rd_n hf (by omega) (fun q => absurd q.1 (by omega)) | exact xm_rd_n hf (by omega) (fun q => by rw [hc23] at q; exact absurd q.2.1 (by decide)) | exact xm_rd_n hf (by omega) (fun q => by rw [hc58] at q; exact absurd q.2.2 (by decide))) (lv_sub hl [3, 4, 1, 0] rfl) (by omega)
            · skip
              rw [xn_eq0 (by omega)] at hc27
              refine lv_aload_n hx hb d_M_depthOf_30 rfl (lv_at hl 0 rfl) ?_
              refine lv_iload_n hx hb d_M_depthOf_31 rfl (lv_at hl 3 rfl) ?_
              refine lv_iconst (v := nI 1) hx hb d_M_depthOf_32 (by decide +kernel) ?_
              refine lv_isub hx hb d_M_depthOf_33 ?_
              refine xa_top (y := nI (d - 1)) (pk_sub (by omega)) ?_
              refine lv_iload_n hx hb d_M_depthOf_34 rfl (lv_at hl 1 rfl) ?_
              refine lv_iconst (v := nI 1) hx hb d_M_depthOf_35 (by decide +kernel) ?_
              refine lv_iload_n hx hb d_M_depthOf_36 rfl (lv_at hl 3 rfl) ?_
              refine lv_iconst (v := nI 1) hx hb d_M_depthOf_37 (by decide +kernel) ?_
              refine lv_isub hx hb d_M_depthOf_38 ?_
              refine xa_top (y := nI (d - 1)) (pk_sub (by omega)) ?_
              refine lv_ishl hx hb d_M_depthOf_39 ?_
              refine xa_top (y := nI (2 ^ (d - 1))) (xw_shl (by omega)) ?_
              have hpos := Nat.two_pow_pos (d - 1)
              refine lv_iconst (v := nI 1) hx hb d_M_depthOf_40 (by decide +kernel) ?_
              refine lv_isub hx hb d_M_depthOf_41 ?_
              refine xa_top (y := nI ((2 ^ (d - 1)) - 1)) (pk_sub (by omega)) ?_
              refine lv_iand hx hb d_M_depthOf_42 ?_
              refine xa_top (y := nI (p % 2 ^ (d - 1))) (xw_and (by omega) (by omega)) ?_
              have hm := Nat.mod_le p (2 ^ (d - 1))
              refine xa_cI (va_runV (As := [.int (nI (d - 1)), .int (nI (p % 2 ^ (d - 1)))]) (rest := []) ⟨hx, hb, hml, hown, hts⟩ (c_M_good l D q cA lim bs bk bv rn wh rk rv bg bt sc sw sk sv ky vl K (d - 1) (p % 2 ^ (d - 1)) hM (by omega) (by omega)) (cwV 2 hts (zg_V zm_480 zm_482 zs_22 zm_7 zm_483) rfl rfl rfl (by decide +kernel) ⟨Nat.le_of_ble_eq_true rfl, Nat.le_of_ble_eq_true rfl⟩) (xp_preV (ci := 5) (q0 := 0) hK hP rfl rfl rfl hZ) rfl rfl hl.1 rfl (lv_room (Nat.le_of_ble_eq_true rfl)) d_M_depthOf_43 ⟨Nat.zero_le _, Nat.zero_le _⟩) ?_
              refine lv_if_ne (tgt := 53) hx hb d_M_depthOf_46 (by decide) (fun hc46 => ?_) (fun hc46 => ?_)
              · skip
                rw [xb_1] at hc46
                refine lv_iconst (v := nI 0) hx hb d_M_depthOf_53 (by decide +kernel) ?_
                refine xa_top (y := xb_i (xm_wh K p d)) (by first | exact xm_w1 (Or.inl hc27) | exact xm_w1 (Or.inr hc46) | exact xm_w0 hc27 hc46) ?_
                refine lv_istore (lv' := [(4, .int (xb_i (xm_wh K p d))), (0, .ref (q 0)), (1, .int (nI p)), (2, .int fo), (3, .int (nI d))]) hx hb d_M_depthOf_54 hl (Nat.le_of_ble_eq_true rfl) rfl (fun ls hl => ?_)
                refine lv_iload hx hb d_M_depthOf_56 (lv_at hl 0 rfl) ?_
                refine lv_if_eq (tgt := 65) hx hb d_M_depthOf_58 (by decide) (fun hc58 => ?_) (fun hc58 => ?_)
                · skip
                  rw [xb_0] at hc58
                  refine lv_iload_n hx hb d_M_depthOf_65 rfl (lv_at hl 3 rfl) ?_
                  refine lv_istore_n (lv' := [(2, .int fo), (4, .int (xb_i (xm_wh K p d))), (0, .ref (q 0)), (1, .int (nI p)), (3, .int (nI d))]) hx hb d_M_depthOf_66 rfl hl (Nat.le_of_ble_eq_true rfl) rfl (fun ls hl => ?_)
                  refine lv_iinc (k := 4) (v := nI (d + 1)) (lv' := [(3, .int (nI (d + 1))), (2, .int fo), (4, .int (xb_i (xm_wh K p d))), (0, .ref (q 0)), (1, .int (nI p))]) hx hb d_M_depthOf_67 hl rfl (xn_inc _) (Nat.le_of_ble_eq_true rfl) rfl (fun ls hl => ?_)
                  refine lv_goto (tgt := 4) hx hb d_M_depthOf_70 (by decide) ?_
                  exact ih4 (d + 1) fo ls (by omega) (by first | exact xm_rd_y (by omega) (by omega) hc23 hc58 | exact xm_rd_n hf (by omega) (fun q => absurd q.1 (by omega)) | exact xm_rd_n hf (by omega) (fun q => by rw [hc23] at q; exact absurd q.2.1 (by decide)) | exact xm_rd_n hf (by omega) (fun q => by rw [hc58] at q; exact absurd q.2.2 (by decide))) (lv_sub hl [3, 4, 1, 0] rfl) (by omega)
                · skip
                  rw [xb_1] at hc58
                  refine lv_iload_n hx hb d_M_depthOf_61 rfl (lv_at hl 4 rfl) ?_
                  refine lv_goto (tgt := 66) hx hb d_M_depthOf_62 (by decide) ?_
                  refine lv_istore_n (lv' := [(2, .int (nI d)), (4, .int (xb_i (xm_wh K p d))), (0, .ref (q 0)), (1, .int (nI p)), (3, .int (nI d))]) hx hb d_M_depthOf_66 rfl hl (Nat.le_of_ble_eq_true rfl) rfl (fun ls hl => ?_)
                  refine lv_iinc (k := 4) (v := nI (d + 1)) (lv' := [(3, .int (nI (d + 1))), (2, .int (nI d)), (4, .int (xb_i (xm_wh K p d))), (0, .ref (q 0)), (1, .int (nI p))]) hx hb d_M_depthOf_67 hl rfl (xn_inc _) (Nat.le_of_ble_eq_true rfl) rfl (fun ls hl => ?_)
                  refine lv_goto (tgt := 4) hx hb d_M_depthOf_70 (by decide) ?_
                  exact ih4 (d + 1) (nI d) ls (by omega) (by first | exact xm_rd_y (by omega) (by omega) hc23 hc58 | exact xm_rd_n hf (by omega) (fun q => absurd q.1 (by omega)) | exact xm_rd_n hf (by omega) (fun q => by rw [hc23] at q; exact absurd q.2.1 (by decide)) | exact xm_rd_n hf (by omega) (fun q => by rw [hc58] at q; exact absurd q.2.2 (by decide))) (lv_sub hl [3, 4, 1, 0] rfl) (by omega)
              · skip
                rw [xb_0] at hc46
                refine lv_iconst (v := nI 1) hx hb d_M_depthOf_49 (by decide +kernel) ?_
                refine lv_goto (tgt := 54) hx hb d_M_depthOf_50 (by decide) ?_
                refine xa_top (y := xb_i (xm_wh K p d)) (by first | exact xm_w1 (Or.inl hc27) | exact xm_w1 (Or.inr hc46) | exact xm_w0 hc27 hc46) ?_
                refine lv_istore (lv' := [(4, .int (xb_i (xm_wh K p d))), (0, .ref (q 0)), (1, .int (nI p)), (2, .int fo), (3, .int (nI d))]) hx hb d_M_depthOf_54 hl (Nat.le_of_ble_eq_true rfl) rfl (fun ls hl => ?_)
                refine lv_iload hx hb d_M_depthOf_56 (lv_at hl 0 rfl) ?_
                refine lv_if_eq (tgt := 65) hx hb d_M_depthOf_58 (by decide) (fun hc58 => ?_) (fun hc58 => ?_)
                · skip
                  rw [xb_0] at hc58
                  refine lv_iload_n hx hb d_M_depthOf_65 rfl (lv_at hl 3 rfl) ?_
                  refine lv_istore_n (lv' := [(2, .int fo), (4, .int (xb_i (xm_wh K p d))), (0, .ref (q 0)), (1, .int (nI p)), (3, .int (nI d))]) hx hb d_M_depthOf_66 rfl hl (Nat.le_of_ble_eq_true rfl) rfl (fun ls hl => ?_)
                  refine lv_iinc (k := 4) (v := nI (d + 1)) (lv' := [(3, .int (nI (d + 1))), (2, .int fo), (4, .int (xb_i (xm_wh K p d))), (0, .ref (q 0)), (1, .int (nI p))]) hx hb d_M_depthOf_67 hl rfl (xn_inc _) (Nat.le_of_ble_eq_true rfl) rfl (fun ls hl => ?_)
                  refine lv_goto (tgt := 4) hx hb d_M_depthOf_70 (by decide) ?_
                  exact ih4 (d + 1) fo ls (by omega) (by first | exact xm_rd_y (by omega) (by omega) hc23 hc58 | exact xm_rd_n hf (by omega) (fun q => absurd q.1 (by omega)) | exact xm_rd_n hf (by omega) (fun q => by rw [hc23] at q; exact absurd q.2.1 (by decide)) | exact xm_rd_n hf (by omega) (fun q => by rw [hc58] at q; exact absurd q.2.2 (by decide))) (lv_sub hl [3, 4, 1, 0] rfl) (by omega)
                · skip
                  rw [xb_1] at hc58
                  refine lv_iload_n hx hb d_M_depthOf_61 rfl (lv_at hl 4 rfl) ?_
                  refine lv_goto (tgt := 66) hx hb d_M_depthOf_62 (by decide) ?_
                  refine lv_istore_n (lv' := [(2, .int (nI d)), (4, .int (xb_i (xm_wh K p d))), (0, .ref (q 0)), (1, .int (nI p)), (3, .int (nI d))]) hx hb d_M_depthOf_66 rfl hl (Nat.le_of_ble_eq_true rfl) rfl (fun ls hl => ?_)
                  refine lv_iinc (k := 4) (v := nI (d + 1)) (lv' := [(3, .int (nI (d + 1))), (2, .int (nI d)), (4, .int (xb_i (xm_wh K p d))), (0, .ref (q 0)), (1, .int (nI p))]) hx hb d_M_depthOf_67 hl rfl (xn_inc _) (Nat.le_of_ble_eq_true rfl) rfl (fun ls hl => ?_)
                  refine lv_goto (tgt := 4) hx hb d_M_depthOf_70 (by decide) ?_
                  exact ih4 (d + 1) (nI d) ls (by omega) (by first | exact xm_rd_y (by omega) (by omega) hc23 hc58 | exact xm_rd_n hf (by omega) (fun q => absurd q.1 (by omega)) | exact xm_rd_n hf (by omega) (fun q => by rw [hc23] at q; exact absurd q.2.1 (by decide)) | exact xm_rd_n hf (by omega) (fun q => by rw [hc58] at q; exact absurd q.2.2 (by decide))) (lv_sub hl [3, 4, 1, 0] rfl) (by omega)
  exact lp4 _ 0 ((-1)) ls (by omega) (by rw [if_neg (fun q => absurd q.1 (Nat.not_lt_zero _))]) (lv_sub hl [2, 3, 1, 0] rfl) (Nat.lt_succ_self _)
set_option maxHeartbeats 4000000 in
set_option maxRecDepth 100000 in
theorem c_M_bytes (l : Launch) (D : va_G) (q : Nat → Nat) (cA : Nat → ClassId) (lim : Int32) (bs : Int32) (bk : Nat → Int32) (bv : Nat → Int64) (rn : Int32) (wh : Nat → Int32) (rk : Nat → Int32) (rv : Nat → Int64) (bg : Nat → Int32) (bt : Int32) (sc : Int32) (sw : Nat → Int32) (sk : Nat → Int32) (sv : Nat → Int64) (kp : Int32) (ky : Nat → Int32) (vl : Nat → Int64) (v : Int64)  : Met l y_M_bytes zw_M_bytes ({ frames := 0, cells := 0, slots := 0, locals := 0 } : Room) (va_Pc [.ref (q 0), .long v] (xp_R D zz_cl (xw_tM cA) (xw_M q cA lim bs bk bv rn wh rk rv bg bt sc sw sk sv kp ky vl))) (vp_Si (fun r : Int32 => r = (nI (xv_by v)))) 0 0 (fun _ => False) := by
  refine Met.ofW (cc := b_M_bytes) (maxL := 7) (ret := (some .int)) (by decide) rfl ?_
  intro pJ eJ s mJ args below meth cJ s₁ B hml hv
  obtain ⟨rfl, hP, hK, hZ⟩ := hv
  have hx := B.exec
  have hb := B.bytes
  have hr := B.returns
  have hts := atoms_spec (ws := zw_M_bytes) B.pre
  have hown : s.vm.findClass R_M = some mJ.cls := findClass_of_methodNamed B.named
  have hlocks := B.notSynchronized
  have hl := lv_entry ([.ref (q 0), .long v]) (n := 7) (Nat.le_of_ble_eq_true rfl)
  rw [lg_entry_eq]
  generalize (lg_sl ([.ref (q 0), .long v]) ++ List.replicate (7 - (lg_sl ([.ref (q 0), .long v])).length) Slot.unset).toArray = ls at hl ⊢
  have hl : lv_has ls 7 [(0, .ref (q 0)), (1, .long v)] := hl
  refine lv_iconst (v := nI 1) hx hb d_M_bytes_0 (by decide +kernel) ?_
  refine lv_istore_n (lv' := [(3, .int (nI 1)), (0, .ref (q 0)), (1, .long v)]) hx hb d_M_bytes_1 rfl hl (Nat.le_of_ble_eq_true rfl) rfl (fun ls hl => ?_)
  refine lv_lload_n hx hb d_M_bytes_2 rfl (lv_at hl 2 rfl) ?_
  refine lv_bipush (v := nI 8) hx hb d_M_bytes_3 (by decide +kernel) ?_
  refine lv_lshr (v := v >>> ((nI 8).toInt64 &&& 63)) hx hb d_M_bytes_5 rfl ?_
  refine xa_topl (y := xv_r v 0) rfl ?_
  refine lv_lstore (lv' := [(4, .long (xv_r v 0)), (3, .int (nI 1)), (0, .ref (q 0)), (1, .long v)]) hx hb d_M_bytes_6 hl (Nat.le_of_ble_eq_true rfl) rfl (fun ls hl => ?_)
  refine lv_iconst (v := nI 0) hx hb d_M_bytes_8 (by decide +kernel) ?_
  refine lv_istore (lv' := [(6, .int (nI 0)), (4, .long (xv_r v 0)), (3, .int (nI 1)), (0, .ref (q 0)), (1, .long v)]) hx hb d_M_bytes_9 hl (Nat.le_of_ble_eq_true rfl) rfl (fun ls hl => ?_)
  have lp11 : ∀ (N : Nat) (j : Nat) (n : Nat) (ls : Array Slot), (j ≤ 7) → (n = xv_n v j) → lv_has ls 7 [(0, .ref (q 0)), (1, .long v), (3, .int (nI n)), (4, .long (xv_r v j)), (6, .int (nI j))] → 7 - j < N → W pJ l eJ (headSpec zw_M_bytes ({ frames := 0, cells := 0, slots := 0, locals := 0 } : Room)).room s mJ ([.ref (q 0), .long v] : List Value).toArray below meth cJ s.heap [] 0 0 (MQ below (vp_Si (fun r : Int32 => r = (nI (xv_by v)))) ([.ref (q 0), .long v] : List Value).toArray s 0 0 (fun _ => False)) (F0 mJ 11 ls []) := by
    intro N
    induction N with
    | zero => intro j n ls hj hn hl hm; exact absurd hm (Nat.not_lt_zero _)
    | succ N ih11 =>
      intro j n ls hj hn hl hm
      refine lv_iload hx hb d_M_bytes_11 (lv_at hl 4 rfl) ?_
      refine lv_bipush (v := nI 7) hx hb d_M_bytes_13 (by decide +kernel) ?_
      refine lv_icmp_ge (tgt := 52) hx hb d_M_bytes_15 (by decide) (fun hc15 => ?_) (fun hc15 => ?_)
      · skip
        rw [nI_leI (by omega) (by omega)] at hc15
        refine lv_lload_n hx hb d_M_bytes_52 rfl (lv_at hl 1 rfl) ?_
        refine lv_lconst (v := 0) hx hb d_M_bytes_53 (by decide +kernel) ?_
        refine W.lcmp hx hb d_M_bytes_54 ?_
        refine lv_if_ge (tgt := 63) hx hb d_M_bytes_55 (by decide) (fun hc55 => ?_) (fun hc55 => ?_)
        · skip
          rw [xl_ge] at hc55
          refine lv_iload_n hx hb d_M_bytes_63 rfl (lv_at hl 2 rfl) ?_
          exact W.iret (v := nI n) hx hb hr (fun tJ htJ hWJ => ⟨_, rfl, by first | rw [xv_neg (Classical.not_not.mp hc55)] | rw [hn, show j = 7 from by omega, xv_same hc55] | exact absurd hc21 hc55, htJ⟩) (fun _ h => by cases h) d_M_bytes_64
        · skip
          rw [xl_ge] at hc55
          refine lv_bipush (v := nI 8) hx hb d_M_bytes_58 (by decide +kernel) ?_
          refine lv_goto (tgt := 64) hx hb d_M_bytes_60 (by decide) ?_
          exact W.iret (v := nI 8) hx hb hr (fun tJ htJ hWJ => ⟨_, rfl, by first | rw [xv_neg (Classical.not_not.mp hc55)] | rw [hn, show j = 7 from by omega, xv_same hc55] | exact absurd hc21 hc55, htJ⟩) (fun _ h => by cases h) d_M_bytes_64
      · skip
        rw [nI_leI (by omega) (by omega)] at hc15
        refine lv_lload_n hx hb d_M_bytes_18 rfl (lv_at hl 1 rfl) ?_
        refine lv_lconst (v := 0) hx hb d_M_bytes_19 (by decide +kernel) ?_
        refine W.lcmp hx hb d_M_bytes_20 ?_
        refine lv_if_lt (tgt := 52) hx hb d_M_bytes_21 (by decide) (fun hc21 => ?_) (fun hc21 => ?_)
        · skip
          rw [xl_lt] at hc21
          refine lv_lload_n hx hb d_M_bytes_52 rfl (lv_at hl 1 rfl) ?_
          refine lv_lconst (v := 0) hx hb d_M_bytes_53 (by decide +kernel) ?_
          refine W.lcmp hx hb d_M_bytes_54 ?_
          refine lv_if_ge (tgt := 63) hx hb d_M_bytes_55 (by decide) (fun hc55 => ?_) (fun hc55 => ?_)
          · skip
            rw [xl_ge] at hc55
            refine lv_iload_n hx hb d_M_bytes_63 rfl (lv_at hl 2 rfl) ?_
            exact W.iret (v := nI n) hx hb hr (fun tJ htJ hWJ => ⟨_, rfl, by first | rw [xv_neg (Classical.not_not.mp hc55)] | rw [hn, show j = 7 from by omega, xv_same hc55] | exact absurd hc21 hc55, htJ⟩) (fun _ h => by cases h) d_M_bytes_64
          · skip
            rw [xl_ge] at hc55
            refine lv_bipush (v := nI 8) hx hb d_M_bytes_58 (by decide +kernel) ?_
            refine lv_goto (tgt := 64) hx hb d_M_bytes_60 (by decide) ?_
            exact W.iret (v := nI 8) hx hb hr (fun tJ htJ hWJ => ⟨_, rfl, by first | rw [xv_neg (Classical.not_not.mp hc55)] | rw [hn, show j = 7 from by omega, xv_same hc55] | exact absurd hc21 hc55, htJ⟩) (fun _ h => by cases h) d_M_bytes_64
        · skip
          rw [xl_lt] at hc21
          refine lv_lload hx hb d_M_bytes_24 (lv_at hl 3 rfl) ?_
          refine lv_lconst (v := 0) hx hb d_M_bytes_26 (by decide +kernel) ?_
          refine W.lcmp hx hb d_M_bytes_27 ?_
          refine lv_if_le (tgt := 37) hx hb d_M_bytes_28 (by decide) (fun hc28 => ?_) (fun hc28 => ?_)
          · skip
            rw [xl_le] at hc28
            refine lv_iload_n hx hb d_M_bytes_37 rfl (lv_at hl 2 rfl) ?_
            refine lv_istore_n (lv' := [(3, .int (nI n)), (0, .ref (q 0)), (1, .long v), (4, .long (xv_r v j)), (6, .int (nI j))]) hx hb d_M_bytes_38 rfl hl (Nat.le_of_ble_eq_true rfl) rfl (fun ls hl => ?_)
            refine lv_lload hx hb d_M_bytes_39 (lv_at hl 3 rfl) ?_
            refine lv_bipush (v := nI 8) hx hb d_M_bytes_41 (by decide +kernel) ?_
            refine lv_lshr (v := (xv_r v j) >>> ((nI 8).toInt64 &&& 63)) hx hb d_M_bytes_43 rfl ?_
            refine xa_topl (y := xv_r v (j + 1)) rfl ?_
            refine lv_lstore (lv' := [(4, .long (xv_r v (j + 1))), (3, .int (nI n)), (0, .ref (q 0)), (1, .long v), (6, .int (nI j))]) hx hb d_M_bytes_44 hl (Nat.le_of_ble_eq_true rfl) rfl (fun ls hl => ?_)
            refine lv_iinc (k := 4) (v := nI (j + 1)) (lv' := [(6, .int (nI (j + 1))), (4, .long (xv_r v (j + 1))), (3, .int (nI n)), (0, .ref (q 0)), (1, .long v)]) hx hb d_M_bytes_46 hl rfl (xn_inc _) (Nat.le_of_ble_eq_true rfl) rfl (fun ls hl => ?_)
            refine lv_goto (tgt := 11) hx hb d_M_bytes_49 (by decide) ?_
            exact ih11 (j + 1) n ls (by omega) (by first | rw [xv_n, if_pos (Classical.not_not.mp hc28), hn] | rw [xv_n, if_neg hc28, hn]) (lv_sub hl [3, 4, 2, 1, 0] rfl) (by omega)
          · skip
            rw [xl_le] at hc28
            refine lv_iload_n hx hb d_M_bytes_31 rfl (lv_at hl 2 rfl) ?_
            refine lv_iconst (v := nI 1) hx hb d_M_bytes_32 (by decide +kernel) ?_
            refine lv_iadd hx hb d_M_bytes_33 ?_
            refine xa_top (y := nI (n + 1)) (nI_add _ _) ?_
            refine lv_goto (tgt := 38) hx hb d_M_bytes_34 (by decide) ?_
            refine lv_istore_n (lv' := [(3, .int (nI (n + 1))), (0, .ref (q 0)), (1, .long v), (4, .long (xv_r v j)), (6, .int (nI j))]) hx hb d_M_bytes_38 rfl hl (Nat.le_of_ble_eq_true rfl) rfl (fun ls hl => ?_)
            refine lv_lload hx hb d_M_bytes_39 (lv_at hl 3 rfl) ?_
            refine lv_bipush (v := nI 8) hx hb d_M_bytes_41 (by decide +kernel) ?_
            refine lv_lshr (v := (xv_r v j) >>> ((nI 8).toInt64 &&& 63)) hx hb d_M_bytes_43 rfl ?_
            refine xa_topl (y := xv_r v (j + 1)) rfl ?_
            refine lv_lstore (lv' := [(4, .long (xv_r v (j + 1))), (3, .int (nI (n + 1))), (0, .ref (q 0)), (1, .long v), (6, .int (nI j))]) hx hb d_M_bytes_44 hl (Nat.le_of_ble_eq_true rfl) rfl (fun ls hl => ?_)
            refine lv_iinc (k := 4) (v := nI (j + 1)) (lv' := [(6, .int (nI (j + 1))), (4, .long (xv_r v (j + 1))), (3, .int (nI (n + 1))), (0, .ref (q 0)), (1, .long v)]) hx hb d_M_bytes_46 hl rfl (xn_inc _) (Nat.le_of_ble_eq_true rfl) rfl (fun ls hl => ?_)
            refine lv_goto (tgt := 11) hx hb d_M_bytes_49 (by decide) ?_
            exact ih11 (j + 1) (n + 1) ls (by omega) (by first | rw [xv_n, if_pos (Classical.not_not.mp hc28), hn] | rw [xv_n, if_neg hc28, hn]) (lv_sub hl [3, 4, 2, 1, 0] rfl) (by omega)
  exact lp11 _ 0 1 ls (by omega) rfl (lv_sub hl [3, 4, 2, 1, 0] rfl) (Nat.lt_succ_self _)
set_option maxHeartbeats 4000000 in
set_option maxRecDepth 100000 in
theorem c_M_valp (l : Launch) (D : va_G) (q : Nat → Nat) (cA : Nat → ClassId) (lim : Int32) (bs : Int32) (bk : Nat → Int32) (bv : Nat → Int64) (rn : Int32) (wh : Nat → Int32) (rk : Nat → Int32) (rv : Nat → Int64) (bg : Nat → Int32) (bt : Int32) (sc : Int32) (sw : Nat → Int32) (sk : Nat → Int32) (sv : Nat → Int64) (kp : Int32) (ky : Nat → Int32) (vl : Nat → Int64) (v : Int64)  : Met l y_M_valuePages zw_M_valuePages ({ frames := 1, cells := 0, slots := 0, locals := 26 } : Room) (va_Pc [.ref (q 0), .long v] (xp_R D zz_cl (xw_tM cA) (xw_M q cA lim bs bk bv rn wh rk rv bg bt sc sw sk sv kp ky vl))) (vp_Si (fun r : Int32 => r = (nI (xv_vp v)))) 0 0 (fun _ => False) := by
  refine Met.ofW (cc := b_M_valuePages) (maxL := 4) (ret := (some .int)) (by decide) rfl ?_
  intro pJ eJ s mJ args below meth cJ s₁ B hml hv
  obtain ⟨rfl, hP, hK, hZ⟩ := hv
  have hx := B.exec
  have hb := B.bytes
  have hr := B.returns
  have hts := atoms_spec (ws := zw_M_valuePages) B.pre
  have hown : s.vm.findClass R_M = some mJ.cls := findClass_of_methodNamed B.named
  have hlocks := B.notSynchronized
  have hl := lv_entry ([.ref (q 0), .long v]) (n := 4) (Nat.le_of_ble_eq_true rfl)
  rw [lg_entry_eq]
  generalize (lg_sl ([.ref (q 0), .long v]) ++ List.replicate (4 - (lg_sl ([.ref (q 0), .long v])).length) Slot.unset).toArray = ls at hl ⊢
  have hl : lv_has ls 4 [(0, .ref (q 0)), (1, .long v)] := hl
  have hby := xv_by_le v
  refine lv_aload_n hx hb d_M_valuePages_0 rfl (lv_at hl 0 rfl) ?_
  refine lv_lload_n hx hb d_M_valuePages_1 rfl (lv_at hl 1 rfl) ?_
  refine xa_cI (va_runV (As := [.long v]) (rest := []) ⟨hx, hb, hml, hown, hts⟩ (c_M_bytes l D q cA lim bs bk bv rn wh rk rv bg bt sc sw sk sv kp ky vl v) (cwV 1 hts (zg_V zm_500 zm_502 zs_27 zm_7 zm_503) rfl rfl rfl (by decide +kernel) ⟨Nat.le_of_ble_eq_true rfl, Nat.le_of_ble_eq_true rfl⟩) (xp_preV (ci := 5) (q0 := 0) hK hP rfl rfl rfl hZ) rfl rfl hl.1 rfl (lv_room (Nat.le_of_ble_eq_true rfl)) d_M_valuePages_2 ⟨Nat.zero_le _, Nat.zero_le _⟩) ?_
  refine lv_istore_n (lv' := [(3, .int (nI (xv_by v))), (0, .ref (q 0)), (1, .long v)]) hx hb d_M_valuePages_5 rfl hl (Nat.le_of_ble_eq_true rfl) rfl (fun ls hl => ?_)
  refine lv_iload_n hx hb d_M_valuePages_6 rfl (lv_at hl 0 rfl) ?_
  refine lv_iconst (v := nI 2) hx hb d_M_valuePages_7 (by decide +kernel) ?_
  refine lv_icmp_le (tgt := 19) hx hb d_M_valuePages_8 (by decide) (fun hc8 => ?_) (fun hc8 => ?_)
  · skip
    rw [nI_leI (by omega) (by omega)] at hc8
    refine lv_iconst (v := nI 0) hx hb d_M_valuePages_19 (by decide +kernel) ?_
    exact W.iret (v := nI 0) hx hb hr (fun tJ htJ hWJ => ⟨_, rfl, congrArg nI (by unfold xv_vp; split <;> omega), htJ⟩) (fun _ h => by cases h) d_M_valuePages_20
  · skip
    rw [nI_leI (by omega) (by omega)] at hc8
    refine lv_iload_n hx hb d_M_valuePages_11 rfl (lv_at hl 0 rfl) ?_
    refine lv_iconst (v := nI 1) hx hb d_M_valuePages_12 (by decide +kernel) ?_
    refine lv_iadd hx hb d_M_valuePages_13 ?_
    refine xa_top (y := nI (xv_by v + 1)) (nI_add _ _) ?_
    refine lv_iconst (v := nI 2) hx hb d_M_valuePages_14 (by decide +kernel) ?_
    refine lv_idiv hx hb d_M_valuePages_15 (by decide +kernel) ?_
    refine xa_top (y := nI ((xv_by v + 1) / 2)) (pk_div (by omega) (by omega) (by omega)) ?_
    refine lv_goto (tgt := 20) hx hb d_M_valuePages_16 (by decide) ?_
    exact W.iret (v := nI ((xv_by v + 1) / 2)) hx hb hr (fun tJ htJ hWJ => ⟨_, rfl, congrArg nI (by unfold xv_vp; split <;> omega), htJ⟩) (fun _ h => by cases h) d_M_valuePages_20
set_option maxHeartbeats 4000000 in
set_option maxRecDepth 100000 in
theorem c_M_great (l : Launch) (D : va_G) (q : Nat → Nat) (cA : Nat → ClassId) (lim : Int32) (bs : Int32) (bk : Nat → Int32) (bv : Nat → Int64) (rn : Int32) (wh : Nat → Int32) (rk : Nat → Int32) (rv : Nat → Int64) (bg : Nat → Int32) (bt : Int32) (sc : Int32) (sw : Nat → Int32) (sk : Nat → Int32) (sv : Nat → Int64) (ky : Nat → Int32) (vl : Nat → Int64) (K : List xk_E) (hM : xm_T ky vl K) : Met l y_M_greatest zw_M_greatest ({ frames := 3, cells := 0, slots := 0, locals := 74 } : Room) (va_Pc [.ref (q 0)] (xp_R D zz_cl (xw_tM cA) (xw_M q cA lim bs bk bv rn wh rk rv bg bt sc sw sk sv (nI K.length) ky vl))) (vp_Si (fun r : Int32 => r = (nI (xd_gm K 64)))) 0 0 (fun _ => False) := by
  refine Met.ofW (cc := b_M_greatest) (maxL := 4) (ret := (some .int)) (by decide) rfl ?_
  intro pJ eJ s mJ args below meth cJ s₁ B hml hv
  obtain ⟨rfl, hP, hK, hZ⟩ := hv
  have hx := B.exec
  have hb := B.bytes
  have hr := B.returns
  have hts := atoms_spec (ws := zw_M_greatest) B.pre
  have hown : s.vm.findClass R_M = some mJ.cls := findClass_of_methodNamed B.named
  have hlocks := B.notSynchronized
  have hl := lv_entry ([.ref (q 0)]) (n := 4) (Nat.le_of_ble_eq_true rfl)
  rw [lg_entry_eq]
  generalize (lg_sl ([.ref (q 0)]) ++ List.replicate (4 - (lg_sl ([.ref (q 0)])).length) Slot.unset).toArray = ls at hl ⊢
  have hl : lv_has ls 4 [(0, .ref (q 0))] := hl
  refine lv_iconst (v := nI 0) hx hb d_M_greatest_0 (by decide +kernel) ?_
  refine lv_istore_n (lv' := [(1, .int (nI 0)), (0, .ref (q 0))]) hx hb d_M_greatest_1 rfl hl (Nat.le_of_ble_eq_true rfl) rfl (fun ls hl => ?_)
  refine lv_iconst (v := nI 0) hx hb d_M_greatest_2 (by decide +kernel) ?_
  refine lv_istore_n (lv' := [(2, .int (nI 0)), (1, .int (nI 0)), (0, .ref (q 0))]) hx hb d_M_greatest_3 rfl hl (Nat.le_of_ble_eq_true rfl) rfl (fun ls hl => ?_)
  have lp4 : ∀ (N : Nat) (p : Nat) (ls : Array Slot), (p ≤ 64) → lv_has ls 4 [(0, .ref (q 0)), (1, .int (nI (xd_gm K p))), (2, .int (nI p))] → 64 - p < N → W pJ l eJ (headSpec zw_M_greatest ({ frames := 3, cells := 0, slots := 0, locals := 74 } : Room)).room s mJ ([.ref (q 0)] : List Value).toArray below meth cJ s.heap [] 0 0 (MQ below (vp_Si (fun r : Int32 => r = (nI (xd_gm K 64)))) ([.ref (q 0)] : List Value).toArray s 0 0 (fun _ => False)) (F0 mJ 4 ls []) := by
    intro N
    induction N with
    | zero => intro p ls hp hl hm; exact absurd hm (Nat.not_lt_zero _)
    | succ N ih4 =>
      intro p ls hp hl hm
      refine lv_iload_n hx hb d_M_greatest_4 rfl (lv_at hl 2 rfl) ?_
      refine lv_bipush (v := nI 64) hx hb d_M_greatest_5 (by decide +kernel) ?_
      refine lv_icmp_ge (tgt := 33) hx hb d_M_greatest_7 (by decide) (fun hc7 => ?_) (fun hc7 => ?_)
      · skip
        rw [nI_leI (by omega) (by omega)] at hc7
        refine lv_iload_n hx hb d_M_greatest_33 rfl (lv_at hl 1 rfl) ?_
        exact W.iret (v := nI (xd_gm K p)) hx hb hr (fun tJ htJ hWJ => ⟨_, rfl, by rw [show p = 64 from by omega], htJ⟩) (fun _ h => by cases h) d_M_greatest_34
      · skip
        rw [nI_leI (by omega) (by omega)] at hc7
        refine lv_aload_n hx hb d_M_greatest_10 rfl (lv_at hl 0 rfl) ?_
        refine lv_iload_n hx hb d_M_greatest_11 rfl (lv_at hl 2 rfl) ?_
        refine xa_cI (va_runV (As := [.int (nI p)]) (rest := []) ⟨hx, hb, hml, hown, hts⟩ (c_M_dep l D q cA lim bs bk bv rn wh rk rv bg bt sc sw sk sv ky vl K p hM (by omega)) (cwV 1 hts (zg_V zm_476 zm_478 zs_21 zm_7 zm_479) rfl rfl rfl (by decide +kernel) ⟨Nat.le_of_ble_eq_true rfl, Nat.le_of_ble_eq_true rfl⟩) (xp_preV (ci := 5) (q0 := 0) hK hP rfl rfl rfl hZ) rfl rfl hl.1 rfl (lv_room (Nat.le_of_ble_eq_true rfl)) d_M_greatest_12 ⟨Nat.zero_le _, Nat.zero_le _⟩) ?_
        refine lv_istore_n (lv' := [(3, .int (xm_rd K p)), (0, .ref (q 0)), (1, .int (nI (xd_gm K p))), (2, .int (nI p))]) hx hb d_M_greatest_15 rfl hl (Nat.le_of_ble_eq_true rfl) rfl (fun ls hl => ?_)
        refine lv_iload_n hx hb d_M_greatest_16 rfl (lv_at hl 0 rfl) ?_
        refine lv_iload_n hx hb d_M_greatest_17 rfl (lv_at hl 2 rfl) ?_
        refine lv_icmp_le (tgt := 25) hx hb d_M_greatest_18 (by decide) (fun hc18 => ?_) (fun hc18 => ?_)
        · skip
          refine lv_iload_n hx hb d_M_greatest_25 rfl (lv_at hl 2 rfl) ?_
          refine xa_top (y := nI (xd_gm K (p + 1))) (by first | exact xm_g1 hc18 | exact xm_g2 hc18) ?_
          refine lv_istore_n (lv' := [(1, .int (nI (xd_gm K (p + 1)))), (3, .int (xm_rd K p)), (0, .ref (q 0)), (2, .int (nI p))]) hx hb d_M_greatest_26 rfl hl (Nat.le_of_ble_eq_true rfl) rfl (fun ls hl => ?_)
          refine lv_iinc (k := 3) (v := nI (p + 1)) (lv' := [(2, .int (nI (p + 1))), (1, .int (nI (xd_gm K (p + 1)))), (3, .int (xm_rd K p)), (0, .ref (q 0))]) hx hb d_M_greatest_27 hl rfl (xn_inc _) (Nat.le_of_ble_eq_true rfl) rfl (fun ls hl => ?_)
          refine lv_goto (tgt := 4) hx hb d_M_greatest_30 (by decide) ?_
          exact ih4 (p + 1) ls (by omega) (lv_sub hl [3, 1, 0] rfl) (by omega)
        · skip
          refine lv_iload_n hx hb d_M_greatest_21 rfl (lv_at hl 0 rfl) ?_
          refine lv_goto (tgt := 26) hx hb d_M_greatest_22 (by decide) ?_
          refine xa_top (y := nI (xd_gm K (p + 1))) (by first | exact xm_g1 hc18 | exact xm_g2 hc18) ?_
          refine lv_istore_n (lv' := [(1, .int (nI (xd_gm K (p + 1)))), (3, .int (xm_rd K p)), (0, .ref (q 0)), (2, .int (nI p))]) hx hb d_M_greatest_26 rfl hl (Nat.le_of_ble_eq_true rfl) rfl (fun ls hl => ?_)
          refine lv_iinc (k := 3) (v := nI (p + 1)) (lv' := [(2, .int (nI (p + 1))), (1, .int (nI (xd_gm K (p + 1)))), (3, .int (xm_rd K p)), (0, .ref (q 0))]) hx hb d_M_greatest_27 hl rfl (xn_inc _) (Nat.le_of_ble_eq_true rfl) rfl (fun ls hl => ?_)
          refine lv_goto (tgt := 4) hx hb d_M_greatest_30 (by decide) ?_
          exact ih4 (p + 1) ls (by omega) (lv_sub hl [3, 1, 0] rfl) (by omega)
  exact lp4 _ 0 ls (by omega) (lv_sub hl [2, 1, 0] rfl) (Nat.lt_succ_self _)
set_option maxHeartbeats 4000000 in
set_option maxRecDepth 100000 in
theorem c_M_inUse (l : Launch) (D : va_G) (q : Nat → Nat) (cA : Nat → ClassId) (lim : Int32) (bs : Int32) (bk : Nat → Int32) (bv : Nat → Int64) (rn : Int32) (wh : Nat → Int32) (rk : Nat → Int32) (rv : Nat → Int64) (bg : Nat → Int32) (bt : Int32) (sc : Int32) (sw : Nat → Int32) (sk : Nat → Int32) (sv : Nat → Int64) (ky : Nat → Int32) (vl : Nat → Int64) (K : List xk_E) (hM : xm_T ky vl K) : Met l y_M_inUse zw_M_inUse ({ frames := 4, cells := 0, slots := 0, locals := 97 } : Room) (va_Pc [.ref (q 0)] (xp_R D zz_cl (xw_tM cA) (xw_M q cA lim bs bk bv rn wh rk rv bg bt sc sw sk sv (nI K.length) ky vl))) (vp_Si (fun r : Int32 => r = (nI (xd_pg K)))) 0 0 (fun _ => False) := by
  refine Met.ofW (cc := b_M_inUse) (maxL := 6) (ret := (some .int)) (by decide) rfl ?_
  intro pJ eJ s mJ args below meth cJ s₁ B hml hv
  obtain ⟨rfl, hP, hK, hZ⟩ := hv
  have hx := B.exec
  have hb := B.bytes
  have hr := B.returns
  have hts := atoms_spec (ws := zw_M_inUse) B.pre
  have hown : s.vm.findClass R_M = some mJ.cls := findClass_of_methodNamed B.named
  have hlocks := B.notSynchronized
  have hl := lv_entry ([.ref (q 0)]) (n := 6) (Nat.le_of_ble_eq_true rfl)
  rw [lg_entry_eq]
  generalize (lg_sl ([.ref (q 0)]) ++ List.replicate (6 - (lg_sl ([.ref (q 0)])).length) Slot.unset).toArray = ls at hl ⊢
  have hl : lv_has ls 6 [(0, .ref (q 0))] := hl
  have hlen := hM.1
  refine lv_iconst (v := nI 1) hx hb d_M_inUse_0 (by decide +kernel) ?_
  refine lv_aload_n hx hb d_M_inUse_1 rfl (lv_at hl 0 rfl) ?_
  refine xa_cI (va_runV (As := []) (rest := [.int (nI 1)]) ⟨hx, hb, hml, hown, hts⟩ (c_M_great l D q cA lim bs bk bv rn wh rk rv bg bt sc sw sk sv ky vl K hM) (cwV 0 hts (zg_V zm_472 zm_474 zs_20 zm_7 zm_475) rfl rfl rfl (by decide +kernel) ⟨Nat.le_of_ble_eq_true rfl, Nat.le_of_ble_eq_true rfl⟩) (xp_preV (ci := 5) (q0 := 0) hK hP rfl rfl rfl hZ) rfl rfl hl.1 rfl (lv_room (Nat.le_of_ble_eq_true rfl)) d_M_inUse_2 ⟨Nat.zero_le _, Nat.zero_le _⟩) ?_
  refine lv_ishl hx hb d_M_inUse_5 ?_
  refine xa_top (y := nI (2 ^ xd_gm K 64)) (xw_shl (xd_gm_le K 64)) ?_
  have hpw := xw_pow (xd_gm_le K 64)
  refine lv_istore_n (lv' := [(1, .int (nI (2 ^ xd_gm K 64))), (0, .ref (q 0))]) hx hb d_M_inUse_6 rfl hl (Nat.le_of_ble_eq_true rfl) rfl (fun ls hl => ?_)
  refine lv_iconst (v := nI 1) hx hb d_M_inUse_7 (by decide +kernel) ?_
  refine lv_iload_n hx hb d_M_inUse_8 rfl (lv_at hl 0 rfl) ?_
  refine lv_bipush (v := nI 15) hx hb d_M_inUse_9 (by decide +kernel) ?_
  refine lv_iadd hx hb d_M_inUse_11 ?_
  refine xa_top (y := nI (2 ^ xd_gm K 64 + 15)) (nI_add _ _) ?_
  refine lv_bipush (v := nI 16) hx hb d_M_inUse_12 (by decide +kernel) ?_
  refine lv_idiv hx hb d_M_inUse_14 (by decide +kernel) ?_
  refine xa_top (y := nI ((2 ^ xd_gm K 64 + 15) / 16)) (pk_div (by omega) (by omega) (by omega)) ?_
  refine lv_iadd hx hb d_M_inUse_15 ?_
  refine xa_top (y := nI (1 + (2 ^ xd_gm K 64 + 15) / 16)) (nI_add _ _) ?_
  refine lv_istore_n (lv' := [(2, .int (nI (1 + (2 ^ xd_gm K 64 + 15) / 16))), (1, .int (nI (2 ^ xd_gm K 64))), (0, .ref (q 0))]) hx hb d_M_inUse_16 rfl hl (Nat.le_of_ble_eq_true rfl) rfl (fun ls hl => ?_)
  refine lv_iconst (v := nI 0) hx hb d_M_inUse_17 (by decide +kernel) ?_
  refine lv_istore_n (lv' := [(3, .int (nI 0)), (2, .int (nI (1 + (2 ^ xd_gm K 64 + 15) / 16))), (1, .int (nI (2 ^ xd_gm K 64))), (0, .ref (q 0))]) hx hb d_M_inUse_18 rfl hl (Nat.le_of_ble_eq_true rfl) rfl (fun ls hl => ?_)
  have lp19 : ∀ (N : Nat) (p : Nat) (n : Nat) (ls : Array Slot), (p ≤ 64) → (n = 1 + (2 ^ xd_gm K 64 + 15) / 16 + xd_sp K p) → lv_has ls 6 [(0, .ref (q 0)), (1, .int (nI (2 ^ xd_gm K 64))), (2, .int (nI n)), (3, .int (nI p))] → 64 - p < N → W pJ l eJ (headSpec zw_M_inUse ({ frames := 4, cells := 0, slots := 0, locals := 97 } : Room)).room s mJ ([.ref (q 0)] : List Value).toArray below meth cJ s.heap [] 0 0 (MQ below (vp_Si (fun r : Int32 => r = (nI (xd_pg K)))) ([.ref (q 0)] : List Value).toArray s 0 0 (fun _ => False)) (F0 mJ 19 ls []) := by
    intro N
    induction N with
    | zero => intro p n ls hp hn hl hm; exact absurd hm (Nat.not_lt_zero _)
    | succ N ih19 =>
      intro p n ls hp hn hl hm
      refine lv_iload_n hx hb d_M_inUse_19 rfl (lv_at hl 3 rfl) ?_
      refine lv_bipush (v := nI 64) hx hb d_M_inUse_20 (by decide +kernel) ?_
      refine lv_icmp_ge (tgt := 70) hx hb d_M_inUse_22 (by decide) (fun hc22 => ?_) (fun hc22 => ?_)
      · skip
        rw [nI_leI (by omega) (by omega)] at hc22
        refine lv_iconst (v := nI 0) hx hb d_M_inUse_70 (by decide +kernel) ?_
        refine lv_istore_n (lv' := [(3, .int (nI 0)), (0, .ref (q 0)), (1, .int (nI (2 ^ xd_gm K 64))), (2, .int (nI n))]) hx hb d_M_inUse_71 rfl hl (Nat.le_of_ble_eq_true rfl) rfl (fun ls hl => ?_)
        have lp72 : ∀ (N : Nat) (i : Nat) (n : Nat) (ls : Array Slot), (i ≤ K.length) → (n = 1 + (2 ^ xd_gm K 64 + 15) / 16 + xd_sp K 64 + xd_vs (K.take i)) → lv_has ls 6 [(0, .ref (q 0)), (1, .int (nI (2 ^ xd_gm K 64))), (2, .int (nI n)), (3, .int (nI i))] → K.length - i < N → W pJ l eJ (headSpec zw_M_inUse ({ frames := 4, cells := 0, slots := 0, locals := 97 } : Room)).room s mJ ([.ref (q 0)] : List Value).toArray below meth cJ s.heap [] 0 0 (MQ below (vp_Si (fun r : Int32 => r = (nI (xd_pg K)))) ([.ref (q 0)] : List Value).toArray s 0 0 (fun _ => False)) (F0 mJ 72 ls []) := by
          intro N
          induction N with
          | zero => intro i n ls hi hn hl hm; exact absurd hm (Nat.not_lt_zero _)
          | succ N ih72 =>
            intro i n ls hi hn hl hm
            refine lv_iload_n hx hb d_M_inUse_72 rfl (lv_at hl 3 rfl) ?_
            refine lv_aload_n hx hb d_M_inUse_73 rfl (lv_at hl 0 rfl) ?_
            refine va_get (D := D) (ci := 5) (v := .int (nI K.length)) (C := R_M) (T := F_M) (N := 17) hx hb hts (zi_M _) hown hK hP 0 rfl rfl 14 (by decide) (hts _ (List.mem_cons_of_mem _ zm_390)) (fun _ h9 => h9) rfl d_M_inUse_74 ?_
            refine lv_icmp_ge (tgt := 99) hx hb d_M_inUse_77 (by decide) (fun hc77 => ?_) (fun hc77 => ?_)
            · skip
              rw [nI_leI (by omega) (by omega)] at hc77
              refine lv_iload_n hx hb d_M_inUse_99 rfl (lv_at hl 2 rfl) ?_
              exact W.iret (v := nI n) hx hb hr (fun tJ htJ hWJ => ⟨_, rfl, by rw [hn, show i = K.length from by omega, List.take_length]; rfl, htJ⟩) (fun _ h => by cases h) d_M_inUse_100
            · skip
              rw [nI_leI (by omega) (by omega)] at hc77
              obtain ⟨e, he⟩ : ∃ e, K[i]? = some e := ⟨_, List.getElem?_eq_getElem (by omega)⟩
              have hge := (xk_tie_f hM.2.2 he).2
              refine lv_iload_n hx hb d_M_inUse_80 rfl (lv_at hl 2 rfl) ?_
              refine lv_aload_n hx hb d_M_inUse_81 rfl (lv_at hl 0 rfl) ?_
              refine lv_aload_n hx hb d_M_inUse_82 rfl (lv_at hl 0 rfl) ?_
              refine va_get (D := D) (ci := 5) (v := .ref (q 11)) (C := R_M) (T := F_M) (N := 17) hx hb hts (zi_M _) hown hK hP 0 rfl rfl 16 (by decide) (hts _ (List.mem_cons_of_mem _ zm_392)) (fun _ h9 => h9) rfl d_M_inUse_83 ?_
              refine lv_iload_n hx hb d_M_inUse_86 rfl (lv_at hl 3 rfl) ?_
              refine xa_lald hx hb hK hP 11 10 rfl rfl (k := i) (by omega) (by decide) d_M_inUse_87 ?_
              refine xa_topl (y := e.2) hge ?_
              refine xa_cI (va_runV (As := [.long e.2]) (rest := [.int (nI n)]) ⟨hx, hb, hml, hown, hts⟩ (c_M_valp l D q cA lim bs bk bv rn wh rk rv bg bt sc sw sk sv (nI K.length) ky vl e.2) (cwV 1 hts (zg_V zm_496 zm_498 zs_26 zm_7 zm_499) rfl rfl rfl (by decide +kernel) ⟨Nat.le_of_ble_eq_true rfl, Nat.le_of_ble_eq_true rfl⟩) (xp_preV (ci := 5) (q0 := 0) hK hP rfl rfl rfl hZ) rfl rfl hl.1 rfl (lv_room (Nat.le_of_ble_eq_true rfl)) d_M_inUse_88 ⟨Nat.zero_le _, Nat.zero_le _⟩) ?_
              refine lv_iadd hx hb d_M_inUse_91 ?_
              refine xa_top (y := nI (n + xv_vp e.2)) (nI_add _ _) ?_
              refine lv_istore_n (lv' := [(2, .int (nI (n + xv_vp e.2))), (0, .ref (q 0)), (1, .int (nI (2 ^ xd_gm K 64))), (3, .int (nI i))]) hx hb d_M_inUse_92 rfl hl (Nat.le_of_ble_eq_true rfl) rfl (fun ls hl => ?_)
              refine lv_iinc (k := 3) (v := nI (i + 1)) (lv' := [(3, .int (nI (i + 1))), (2, .int (nI (n + xv_vp e.2))), (0, .ref (q 0)), (1, .int (nI (2 ^ xd_gm K 64)))]) hx hb d_M_inUse_93 hl rfl (xn_inc _) (Nat.le_of_ble_eq_true rfl) rfl (fun ls hl => ?_)
              refine lv_goto (tgt := 72) hx hb d_M_inUse_96 (by decide) ?_
              exact ih72 (i + 1) (n + xv_vp e.2) ls (by omega) (by rw [xd_vs_take he, hn]; omega) (lv_sub hl [2, 3, 1, 0] rfl) (by omega)
        exact lp72 _ 0 n ls (by omega) (by rw [hn, show p = 64 from by omega]; rfl) (lv_sub hl [1, 2, 3, 0] rfl) (Nat.lt_succ_self _)
      · skip
        rw [nI_leI (by omega) (by omega)] at hc22
        refine lv_aload_n hx hb d_M_inUse_25 rfl (lv_at hl 0 rfl) ?_
        refine lv_iload_n hx hb d_M_inUse_26 rfl (lv_at hl 3 rfl) ?_
        refine xa_cI (va_runV (As := [.int (nI p)]) (rest := []) ⟨hx, hb, hml, hown, hts⟩ (c_M_dep l D q cA lim bs bk bv rn wh rk rv bg bt sc sw sk sv ky vl K p hM (by omega)) (cwV 1 hts (zg_V zm_476 zm_478 zs_21 zm_7 zm_479) rfl rfl rfl (by decide +kernel) ⟨Nat.le_of_ble_eq_true rfl, Nat.le_of_ble_eq_true rfl⟩) (xp_preV (ci := 5) (q0 := 0) hK hP rfl rfl rfl hZ) rfl rfl hl.1 rfl (lv_room (Nat.le_of_ble_eq_true rfl)) d_M_inUse_27 ⟨Nat.zero_le _, Nat.zero_le _⟩) ?_
        refine lv_istore (lv' := [(4, .int (xm_rd K p)), (0, .ref (q 0)), (1, .int (nI (2 ^ xd_gm K 64))), (2, .int (nI n)), (3, .int (nI p))]) hx hb d_M_inUse_30 hl (Nat.le_of_ble_eq_true rfl) rfl (fun ls hl => ?_)
        refine lv_iload hx hb d_M_inUse_32 (lv_at hl 0 rfl) ?_
        refine lv_if_lt (tgt := 64) hx hb d_M_inUse_34 (by decide) (fun hc34 => ?_) (fun hc34 => ?_)
        · skip
          refine lv_iinc (k := 4) (v := nI (p + 1)) (lv' := [(3, .int (nI (p + 1))), (4, .int (xm_rd K p)), (0, .ref (q 0)), (1, .int (nI (2 ^ xd_gm K 64))), (2, .int (nI n))]) hx hb d_M_inUse_64 hl rfl (xn_inc _) (Nat.le_of_ble_eq_true rfl) rfl (fun ls hl => ?_)
          refine lv_goto (tgt := 19) hx hb d_M_inUse_67 (by decide) ?_
          exact ih19 (p + 1) n ls (by omega) (by first | (rw [hn, xd_sp, if_pos hpl]; omega) | rw [hn, xd_sp, if_neg (by rw [xm_rd_np hc34]; decide)]) (lv_sub hl [2, 3, 4, 0] rfl) (by omega)
        · skip
          have hpl := xm_rd_pl hc34
          have hrd := xm_rd_eq hpl
          refine lv_aload_n hx hb d_M_inUse_37 rfl (lv_at hl 1 rfl) ?_
          refine lv_iload hx hb d_M_inUse_38 (lv_at hl 0 rfl) ?_
          refine xa_top (y := nI (xd_dp K p)) hrd ?_
          refine lv_iload_n hx hb d_M_inUse_40 rfl (lv_at hl 4 rfl) ?_
          refine xa_cI (va_runV (As := [.int (nI (xd_dp K p)), .int (nI p)]) (rest := []) ⟨hx, hb, hml, hown, hts⟩ (c_M_count l D q cA lim bs bk bv rn wh rk rv bg bt sc sw sk sv ky vl K (xd_dp K p) p hM (by first | exact xd_dp_le _ _ | omega) (by omega)) (cwV 2 hts (zg_V zm_492 zm_494 zs_25 zm_7 zm_495) rfl rfl rfl (by decide +kernel) ⟨Nat.le_of_ble_eq_true rfl, Nat.le_of_ble_eq_true rfl⟩) (xp_preV (ci := 5) (q0 := 0) hK hP rfl rfl rfl hZ) rfl rfl hl.1 rfl (lv_room (Nat.le_of_ble_eq_true rfl)) d_M_inUse_41 ⟨Nat.zero_le _, Nat.zero_le _⟩) ?_
          refine lv_istore (lv' := [(5, .int (nI (xd_cn K (xd_dp K p) p))), (4, .int (xm_rd K p)), (0, .ref (q 0)), (1, .int (nI (2 ^ xd_gm K 64))), (2, .int (nI n)), (3, .int (nI p))]) hx hb d_M_inUse_44 hl (Nat.le_of_ble_eq_true rfl) rfl (fun ls hl => ?_)
          have hcn := xd_cn_le K (xd_dp K p) p
          refine lv_iload_n hx hb d_M_inUse_46 rfl (lv_at hl 4 rfl) ?_
          refine lv_iload hx hb d_M_inUse_47 (lv_at hl 0 rfl) ?_
          refine lv_if_ne (tgt := 56) hx hb d_M_inUse_49 (by decide) (fun hc49 => ?_) (fun hc49 => ?_)
          · skip
            rw [xn_ne0 (by omega)] at hc49
            refine lv_iload hx hb d_M_inUse_56 (lv_at hl 0 rfl) ?_
            refine lv_iconst (v := nI 3) hx hb d_M_inUse_58 (by decide +kernel) ?_
            refine lv_iadd hx hb d_M_inUse_59 ?_
            refine xa_top (y := nI (xd_cn K (xd_dp K p) p + 3)) (nI_add _ _) ?_
            refine lv_iconst (v := nI 4) hx hb d_M_inUse_60 (by decide +kernel) ?_
            refine lv_idiv hx hb d_M_inUse_61 (by decide +kernel) ?_
            refine xa_top (y := nI ((xd_cn K (xd_dp K p) p + 3) / 4)) (pk_div (by omega) (by omega) (by omega)) ?_
            refine xa_top (y := nI (xd_bp (xd_cn K (xd_dp K p) p))) (congrArg nI (by unfold xd_bp; omega)) ?_
            refine lv_iadd hx hb d_M_inUse_62 ?_
            refine xa_top (y := nI (n + xd_bp (xd_cn K (xd_dp K p) p))) (nI_add _ _) ?_
            refine lv_istore_n (lv' := [(2, .int (nI (n + xd_bp (xd_cn K (xd_dp K p) p)))), (5, .int (nI (xd_cn K (xd_dp K p) p))), (4, .int (xm_rd K p)), (0, .ref (q 0)), (1, .int (nI (2 ^ xd_gm K 64))), (3, .int (nI p))]) hx hb d_M_inUse_63 rfl hl (Nat.le_of_ble_eq_true rfl) rfl (fun ls hl => ?_)
            refine lv_iinc (k := 5) (v := nI (p + 1)) (lv' := [(3, .int (nI (p + 1))), (2, .int (nI (n + xd_bp (xd_cn K (xd_dp K p) p)))), (5, .int (nI (xd_cn K (xd_dp K p) p))), (4, .int (xm_rd K p)), (0, .ref (q 0)), (1, .int (nI (2 ^ xd_gm K 64)))]) hx hb d_M_inUse_64 hl rfl (xn_inc _) (Nat.le_of_ble_eq_true rfl) rfl (fun ls hl => ?_)
            refine lv_goto (tgt := 19) hx hb d_M_inUse_67 (by decide) ?_
            exact ih19 (p + 1) (n + xd_bp (xd_cn K (xd_dp K p) p)) ls (by omega) (by first | (rw [hn, xd_sp, if_pos hpl]; omega) | rw [hn, xd_sp, if_neg (by rw [xm_rd_np hc34]; decide)]) (lv_sub hl [4, 5, 1, 0] rfl) (by omega)
          · skip
            rw [xn_ne0 (by omega)] at hc49
            refine lv_iconst (v := nI 1) hx hb d_M_inUse_52 (by decide +kernel) ?_
            refine lv_goto (tgt := 62) hx hb d_M_inUse_53 (by decide) ?_
            refine xa_top (y := nI (xd_bp (xd_cn K (xd_dp K p) p))) (congrArg nI (by unfold xd_bp; omega)) ?_
            refine lv_iadd hx hb d_M_inUse_62 ?_
            refine xa_top (y := nI (n + xd_bp (xd_cn K (xd_dp K p) p))) (nI_add _ _) ?_
            refine lv_istore_n (lv' := [(2, .int (nI (n + xd_bp (xd_cn K (xd_dp K p) p)))), (5, .int (nI (xd_cn K (xd_dp K p) p))), (4, .int (xm_rd K p)), (0, .ref (q 0)), (1, .int (nI (2 ^ xd_gm K 64))), (3, .int (nI p))]) hx hb d_M_inUse_63 rfl hl (Nat.le_of_ble_eq_true rfl) rfl (fun ls hl => ?_)
            refine lv_iinc (k := 5) (v := nI (p + 1)) (lv' := [(3, .int (nI (p + 1))), (2, .int (nI (n + xd_bp (xd_cn K (xd_dp K p) p)))), (5, .int (nI (xd_cn K (xd_dp K p) p))), (4, .int (xm_rd K p)), (0, .ref (q 0)), (1, .int (nI (2 ^ xd_gm K 64)))]) hx hb d_M_inUse_64 hl rfl (xn_inc _) (Nat.le_of_ble_eq_true rfl) rfl (fun ls hl => ?_)
            refine lv_goto (tgt := 19) hx hb d_M_inUse_67 (by decide) ?_
            exact ih19 (p + 1) (n + xd_bp (xd_cn K (xd_dp K p) p)) ls (by omega) (by first | (rw [hn, xd_sp, if_pos hpl]; omega) | rw [hn, xd_sp, if_neg (by rw [xm_rd_np hc34]; decide)]) (lv_sub hl [4, 5, 1, 0] rfl) (by omega)
  exact lp19 _ 0 (1 + (2 ^ xd_gm K 64 + 15) / 16) ls (by omega) rfl (lv_sub hl [3, 2, 1, 0] rfl) (Nat.lt_succ_self _)
set_option maxHeartbeats 4000000 in
set_option maxRecDepth 100000 in
theorem c_M_find (l : Launch) (D : va_G) (q : Nat → Nat) (cA : Nat → ClassId) (lim : Int32) (bs : Int32) (bk : Nat → Int32) (bv : Nat → Int64) (rn : Int32) (wh : Nat → Int32) (rk : Nat → Int32) (rv : Nat → Int64) (bg : Nat → Int32) (bt : Int32) (sc : Int32) (sw : Nat → Int32) (sk : Nat → Int32) (sv : Nat → Int64) (ky : Nat → Int32) (vl : Nat → Int64) (K : List xk_E) (k : Int32) (hM : xm_T ky vl K) : Met l y_M_find zw_M_find ({ frames := 0, cells := 0, slots := 0, locals := 0 } : Room) (va_Pc [.ref (q 0), .int k] (xp_R D zz_cl (xw_tM cA) (xw_M q cA lim bs bk bv rn wh rk rv bg bt sc sw sk sv (nI K.length) ky vl))) (vp_Si (fun r : Int32 => r = (xm_fd K k))) 0 0 (fun _ => False) := by
  refine Met.ofW (cc := b_M_find) (maxL := 4) (ret := (some .int)) (by decide) rfl ?_
  intro pJ eJ s mJ args below meth cJ s₁ B hml hv
  obtain ⟨rfl, hP, hK, hZ⟩ := hv
  have hx := B.exec
  have hb := B.bytes
  have hr := B.returns
  have hts := atoms_spec (ws := zw_M_find) B.pre
  have hown : s.vm.findClass R_M = some mJ.cls := findClass_of_methodNamed B.named
  have hlocks := B.notSynchronized
  have hl := lv_entry ([.ref (q 0), .int k]) (n := 4) (Nat.le_of_ble_eq_true rfl)
  rw [lg_entry_eq]
  generalize (lg_sl ([.ref (q 0), .int k]) ++ List.replicate (4 - (lg_sl ([.ref (q 0), .int k])).length) Slot.unset).toArray = ls at hl ⊢
  have hl : lv_has ls 4 [(0, .ref (q 0)), (1, .int k)] := hl
  have hlen := hM.1
  refine lv_iconst (v := (-1)) hx hb d_M_find_0 (by decide +kernel) ?_
  refine lv_istore_n (lv' := [(2, .int ((-1))), (0, .ref (q 0)), (1, .int k)]) hx hb d_M_find_1 rfl hl (Nat.le_of_ble_eq_true rfl) rfl (fun ls hl => ?_)
  refine lv_iconst (v := nI 0) hx hb d_M_find_2 (by decide +kernel) ?_
  refine lv_istore_n (lv' := [(3, .int (nI 0)), (2, .int ((-1))), (0, .ref (q 0)), (1, .int k)]) hx hb d_M_find_3 rfl hl (Nat.le_of_ble_eq_true rfl) rfl (fun ls hl => ?_)
  have lp4 : ∀ (N : Nat) (i : Nat) (a_ : Int32) (ls : Array Slot), (i ≤ K.length) → (a_ = if xk_lo K k < i ∧ xk_has K k = true then nI (xk_lo K k) else (-1)) → lv_has ls 4 [(0, .ref (q 0)), (1, .int k), (2, .int a_), (3, .int (nI i))] → K.length - i < N → W pJ l eJ (headSpec zw_M_find ({ frames := 0, cells := 0, slots := 0, locals := 0 } : Room)).room s mJ ([.ref (q 0), .int k] : List Value).toArray below meth cJ s.heap [] 0 0 (MQ below (vp_Si (fun r : Int32 => r = (xm_fd K k))) ([.ref (q 0), .int k] : List Value).toArray s 0 0 (fun _ => False)) (F0 mJ 4 ls []) := by
    intro N
    induction N with
    | zero => intro i a_ ls hi ha hl hm; exact absurd hm (Nat.not_lt_zero _)
    | succ N ih4 =>
      intro i a_ ls hi ha hl hm
      refine lv_iload_n hx hb d_M_find_4 rfl (lv_at hl 3 rfl) ?_
      refine lv_aload_n hx hb d_M_find_5 rfl (lv_at hl 0 rfl) ?_
      refine va_get (D := D) (ci := 5) (v := .int (nI K.length)) (C := R_M) (T := F_M) (N := 17) hx hb hts (zi_M _) hown hK hP 0 rfl rfl 14 (by decide) (hts _ (List.mem_cons_of_mem _ zm_390)) (fun _ h9 => h9) rfl d_M_find_6 ?_
      refine lv_icmp_ge (tgt := 34) hx hb d_M_find_9 (by decide) (fun hc9 => ?_) (fun hc9 => ?_)
      · skip
        rw [nI_leI (by omega) (by omega)] at hc9
        refine lv_iload_n hx hb d_M_find_34 rfl (lv_at hl 2 rfl) ?_
        exact W.iret (v := a_) hx hb hr (fun tJ htJ hWJ => ⟨_, rfl, xm_f3 ha (by omega), htJ⟩) (fun _ h => by cases h) d_M_find_35
      · skip
        rw [nI_leI (by omega) (by omega)] at hc9
        obtain ⟨e, he⟩ : ∃ e, K[i]? = some e := ⟨_, List.getElem?_eq_getElem (by omega)⟩
        have hfe := (xk_tie_f hM.2.2 he).1
        refine lv_aload_n hx hb d_M_find_12 rfl (lv_at hl 0 rfl) ?_
        refine va_get (D := D) (ci := 5) (v := .ref (q 10)) (C := R_M) (T := F_M) (N := 17) hx hb hts (zi_M _) hown hK hP 0 rfl rfl 15 (by decide) (hts _ (List.mem_cons_of_mem _ zm_391)) (fun _ h9 => h9) rfl d_M_find_13 ?_
        refine lv_iload_n hx hb d_M_find_16 rfl (lv_at hl 3 rfl) ?_
        refine xa_iald hx hb hK hP 10 9 rfl rfl (k := i) (by omega) (by decide) d_M_find_17 ?_
        refine xa_top (y := e.1) hfe ?_
        refine lv_iload_n hx hb d_M_find_18 rfl (lv_at hl 1 rfl) ?_
        refine lv_icmp_ne (tgt := 26) hx hb d_M_find_19 (by decide) (fun hc19 => ?_) (fun hc19 => ?_)
        · skip
          refine lv_iload_n hx hb d_M_find_26 rfl (lv_at hl 2 rfl) ?_
          refine lv_istore_n (lv' := [(2, .int a_), (0, .ref (q 0)), (1, .int k), (3, .int (nI i))]) hx hb d_M_find_27 rfl hl (Nat.le_of_ble_eq_true rfl) rfl (fun ls hl => ?_)
          refine lv_iinc (k := 3) (v := nI (i + 1)) (lv' := [(3, .int (nI (i + 1))), (2, .int a_), (0, .ref (q 0)), (1, .int k)]) hx hb d_M_find_28 hl rfl (xn_inc _) (Nat.le_of_ble_eq_true rfl) rfl (fun ls hl => ?_)
          refine lv_goto (tgt := 4) hx hb d_M_find_31 (by decide) ?_
          exact ih4 (i + 1) a_ ls (by omega) (by first | exact xm_f1 hM.2.1 he hc19 | exact xm_f2 hM.2.1 ha he hc19) (lv_sub hl [2, 3, 1, 0] rfl) (by omega)
        · skip
          refine lv_iload_n hx hb d_M_find_22 rfl (lv_at hl 3 rfl) ?_
          refine lv_goto (tgt := 27) hx hb d_M_find_23 (by decide) ?_
          refine lv_istore_n (lv' := [(2, .int (nI i)), (0, .ref (q 0)), (1, .int k), (3, .int (nI i))]) hx hb d_M_find_27 rfl hl (Nat.le_of_ble_eq_true rfl) rfl (fun ls hl => ?_)
          refine lv_iinc (k := 3) (v := nI (i + 1)) (lv' := [(3, .int (nI (i + 1))), (2, .int (nI i)), (0, .ref (q 0)), (1, .int k)]) hx hb d_M_find_28 hl rfl (xn_inc _) (Nat.le_of_ble_eq_true rfl) rfl (fun ls hl => ?_)
          refine lv_goto (tgt := 4) hx hb d_M_find_31 (by decide) ?_
          exact ih4 (i + 1) (nI i) ls (by omega) (by first | exact xm_f1 hM.2.1 he hc19 | exact xm_f2 hM.2.1 ha he hc19) (lv_sub hl [2, 3, 1, 0] rfl) (by omega)
  exact lp4 _ 0 ((-1)) ls (Nat.zero_le _) (by rw [if_neg (fun q => absurd q.1 (Nat.not_lt_zero _))]) (lv_sub hl [2, 3, 1, 0] rfl) (Nat.lt_succ_self _)
set_option maxHeartbeats 4000000 in
set_option maxRecDepth 100000 in
theorem c_M_bktOf (l : Launch) (D : va_G) (q : Nat → Nat) (cA : Nat → ClassId) (lim : Int32) (bs : Int32) (bk : Nat → Int32) (bv : Nat → Int64) (rn : Int32) (wh : Nat → Int32) (rk : Nat → Int32) (rv : Nat → Int64) (bg : Nat → Int32) (bt : Int32) (sc : Int32) (sw : Nat → Int32) (sk : Nat → Int32) (sv : Nat → Int64) (ky : Nat → Int32) (vl : Nat → Int64) (K : List xk_E) (k : Int32) (hM : xm_T ky vl K) : Met l y_M_bucketOf zw_M_bucketOf ({ frames := 3, cells := 0, slots := 0, locals := 74 } : Room) (va_Pc [.ref (q 0), .int k] (xp_R D zz_cl (xw_tM cA) (xw_M q cA lim bs bk bv rn wh rk rv bg bt sc sw sk sv (nI K.length) ky vl))) (vp_Si (fun r : Int32 => r = (nI (xk_h k % 2 ^ xd_dp K (xk_h k))))) 0 0 (fun _ => False) := by
  refine Met.ofW (cc := b_M_bucketOf) (maxL := 6) (ret := (some .int)) (by decide) rfl ?_
  intro pJ eJ s mJ args below meth cJ s₁ B hml hv
  obtain ⟨rfl, hP, hK, hZ⟩ := hv
  have hx := B.exec
  have hb := B.bytes
  have hr := B.returns
  have hts := atoms_spec (ws := zw_M_bucketOf) B.pre
  have hown : s.vm.findClass R_M = some mJ.cls := findClass_of_methodNamed B.named
  have hlocks := B.notSynchronized
  have hl := lv_entry ([.ref (q 0), .int k]) (n := 6) (Nat.le_of_ble_eq_true rfl)
  rw [lg_entry_eq]
  generalize (lg_sl ([.ref (q 0), .int k]) ++ List.replicate (6 - (lg_sl ([.ref (q 0), .int k])).length) Slot.unset).toArray = ls at hl ⊢
  have hl : lv_has ls 6 [(0, .ref (q 0)), (1, .int k)] := hl
  have hh := xk_h_lt k
  have hm0 := Nat.mod_le (xk_h k) (2 ^ xd_dp K (xk_h k))
  refine lv_aload_n hx hb d_M_bucketOf_0 rfl (lv_at hl 0 rfl) ?_
  refine lv_iload_n hx hb d_M_bucketOf_1 rfl (lv_at hl 1 rfl) ?_
  refine xa_cI (va_runV (As := [.int k]) (rest := []) ⟨hx, hb, hml, hown, hts⟩ (c_M_hash l D q cA lim bs bk bv rn wh rk rv bg bt sc sw sk sv (nI K.length) ky vl k) (cwV 1 hts (zg_V zm_484 zm_486 zs_23 zm_7 zm_487) rfl rfl rfl (by decide +kernel) ⟨Nat.le_of_ble_eq_true rfl, Nat.le_of_ble_eq_true rfl⟩) (xp_preV (ci := 5) (q0 := 0) hK hP rfl rfl rfl hZ) rfl rfl hl.1 rfl (lv_room (Nat.le_of_ble_eq_true rfl)) d_M_bucketOf_2 ⟨Nat.zero_le _, Nat.zero_le _⟩) ?_
  refine lv_istore_n (lv' := [(2, .int (nI (xk_h k))), (0, .ref (q 0)), (1, .int k)]) hx hb d_M_bucketOf_5 rfl hl (Nat.le_of_ble_eq_true rfl) rfl (fun ls hl => ?_)
  refine lv_iconst (v := nI 0) hx hb d_M_bucketOf_6 (by decide +kernel) ?_
  refine lv_istore_n (lv' := [(3, .int (nI 0)), (2, .int (nI (xk_h k))), (0, .ref (q 0)), (1, .int k)]) hx hb d_M_bucketOf_7 rfl hl (Nat.le_of_ble_eq_true rfl) rfl (fun ls hl => ?_)
  refine lv_iconst (v := nI 0) hx hb d_M_bucketOf_8 (by decide +kernel) ?_
  refine lv_istore (lv' := [(4, .int (nI 0)), (3, .int (nI 0)), (2, .int (nI (xk_h k))), (0, .ref (q 0)), (1, .int k)]) hx hb d_M_bucketOf_9 hl (Nat.le_of_ble_eq_true rfl) rfl (fun ls hl => ?_)
  have lp11 : ∀ (N : Nat) (p : Nat) (pl : Nat) (ls : Array Slot), (p ≤ 64) → (pl = if xk_h k % 2 ^ xd_dp K (xk_h k) < p then xk_h k % 2 ^ xd_dp K (xk_h k) else 0) → lv_has ls 6 [(0, .ref (q 0)), (1, .int k), (2, .int (nI (xk_h k))), (3, .int (nI pl)), (4, .int (nI p))] → 64 - p < N → W pJ l eJ (headSpec zw_M_bucketOf ({ frames := 3, cells := 0, slots := 0, locals := 74 } : Room)).room s mJ ([.ref (q 0), .int k] : List Value).toArray below meth cJ s.heap [] 0 0 (MQ below (vp_Si (fun r : Int32 => r = (nI (xk_h k % 2 ^ xd_dp K (xk_h k))))) ([.ref (q 0), .int k] : List Value).toArray s 0 0 (fun _ => False)) (F0 mJ 11 ls []) := by
    intro N
    induction N with
    | zero => intro p pl ls hp hf hl hm; exact absurd hm (Nat.not_lt_zero _)
    | succ N ih11 =>
      intro p pl ls hp hf hl hm
      refine lv_iload hx hb d_M_bucketOf_11 (lv_at hl 4 rfl) ?_
      refine lv_bipush (v := nI 64) hx hb d_M_bucketOf_13 (by decide +kernel) ?_
      refine lv_icmp_ge (tgt := 56) hx hb d_M_bucketOf_15 (by decide) (fun hc15 => ?_) (fun hc15 => ?_)
      · skip
        rw [nI_leI (by omega) (by omega)] at hc15
        refine lv_iload_n hx hb d_M_bucketOf_56 rfl (lv_at hl 3 rfl) ?_
        exact W.iret (v := nI pl) hx hb hr (fun tJ htJ hWJ => ⟨_, rfl, by rw [hf, if_pos (by omega)], htJ⟩) (fun _ h => by cases h) d_M_bucketOf_57
      · skip
        rw [nI_leI (by omega) (by omega)] at hc15
        refine lv_aload_n hx hb d_M_bucketOf_18 rfl (lv_at hl 0 rfl) ?_
        refine lv_iload hx hb d_M_bucketOf_19 (lv_at hl 4 rfl) ?_
        refine xa_cI (va_runV (As := [.int (nI p)]) (rest := []) ⟨hx, hb, hml, hown, hts⟩ (c_M_dep l D q cA lim bs bk bv rn wh rk rv bg bt sc sw sk sv ky vl K p hM (by omega)) (cwV 1 hts (zg_V zm_476 zm_478 zs_21 zm_7 zm_479) rfl rfl rfl (by decide +kernel) ⟨Nat.le_of_ble_eq_true rfl, Nat.le_of_ble_eq_true rfl⟩) (xp_preV (ci := 5) (q0 := 0) hK hP rfl rfl rfl hZ) rfl rfl hl.1 rfl (lv_room (Nat.le_of_ble_eq_true rfl)) d_M_bucketOf_21 ⟨Nat.zero_le _, Nat.zero_le _⟩) ?_
        refine lv_istore (lv' := [(5, .int (xm_rd K p)), (0, .ref (q 0)), (1, .int k), (2, .int (nI (xk_h k))), (3, .int (nI pl)), (4, .int (nI p))]) hx hb d_M_bucketOf_24 hl (Nat.le_of_ble_eq_true rfl) rfl (fun ls hl => ?_)
        refine lv_iload hx hb d_M_bucketOf_26 (lv_at hl 0 rfl) ?_
        refine lv_if_lt (tgt := 48) hx hb d_M_bucketOf_28 (by decide) (fun hc28 => ?_) (fun hc28 => ?_)
        · skip
          refine lv_iload_n hx hb d_M_bucketOf_48 rfl (lv_at hl 4 rfl) ?_
          refine lv_istore_n (lv' := [(3, .int (nI pl)), (5, .int (xm_rd K p)), (0, .ref (q 0)), (1, .int k), (2, .int (nI (xk_h k))), (4, .int (nI p))]) hx hb d_M_bucketOf_49 rfl hl (Nat.le_of_ble_eq_true rfl) rfl (fun ls hl => ?_)
          refine lv_iinc (k := 5) (v := nI (p + 1)) (lv' := [(4, .int (nI (p + 1))), (3, .int (nI pl)), (5, .int (xm_rd K p)), (0, .ref (q 0)), (1, .int k), (2, .int (nI (xk_h k)))]) hx hb d_M_bucketOf_50 hl rfl (xn_inc _) (Nat.le_of_ble_eq_true rfl) rfl (fun ls hl => ?_)
          refine lv_goto (tgt := 11) hx hb d_M_bucketOf_53 (by decide) ?_
          exact ih11 (p + 1) pl ls (by omega) (by first | exact xm_by hpl (by simpa using hc40) | exact xm_bn hf (fun q => by rw [xm_rd_np hc28] at q; exact absurd q.1 (by decide)) | exact xm_bn hf (fun q => absurd q.2 (by simpa using hc40))) (lv_sub hl [3, 4, 5, 1, 0] rfl) (by omega)
        · skip
          have hpl := xm_rd_pl hc28
          have hrd := xm_rd_eq hpl
          refine lv_aload_n hx hb d_M_bucketOf_31 rfl (lv_at hl 1 rfl) ?_
          refine lv_iload_n hx hb d_M_bucketOf_32 rfl (lv_at hl 3 rfl) ?_
          refine lv_iload hx hb d_M_bucketOf_33 (lv_at hl 0 rfl) ?_
          refine xa_top (y := nI (xd_dp K p)) hrd ?_
          refine lv_iload hx hb d_M_bucketOf_35 (lv_at hl 5 rfl) ?_
          refine xa_cI (va_runV (As := [.int (nI (xk_h k)), .int (nI (xd_dp K p)), .int (nI p)]) (rest := []) ⟨hx, hb, hml, hown, hts⟩ (c_M_inC l D q cA lim bs bk bv rn wh rk rv bg bt sc sw sk sv (nI K.length) ky vl (xk_h k) (xd_dp K p) p (by first | exact xk_h_lt _ | omega) (by first | exact xd_dp_le _ _ | omega) (by omega)) (cwV 3 hts (zg_V zm_488 zm_490 zs_24 zm_7 zm_491) rfl rfl rfl (by decide +kernel) ⟨Nat.le_of_ble_eq_true rfl, Nat.le_of_ble_eq_true rfl⟩) (xp_preV (ci := 5) (q0 := 0) hK hP rfl rfl rfl hZ) rfl rfl hl.1 rfl (lv_room (Nat.le_of_ble_eq_true rfl)) d_M_bucketOf_37 ⟨Nat.zero_le _, Nat.zero_le _⟩) ?_
          refine lv_if_eq (tgt := 48) hx hb d_M_bucketOf_40 (by decide) (fun hc40 => ?_) (fun hc40 => ?_)
          · skip
            rw [xb_0] at hc40
            refine lv_iload_n hx hb d_M_bucketOf_48 rfl (lv_at hl 4 rfl) ?_
            refine lv_istore_n (lv' := [(3, .int (nI pl)), (5, .int (xm_rd K p)), (0, .ref (q 0)), (1, .int k), (2, .int (nI (xk_h k))), (4, .int (nI p))]) hx hb d_M_bucketOf_49 rfl hl (Nat.le_of_ble_eq_true rfl) rfl (fun ls hl => ?_)
            refine lv_iinc (k := 5) (v := nI (p + 1)) (lv' := [(4, .int (nI (p + 1))), (3, .int (nI pl)), (5, .int (xm_rd K p)), (0, .ref (q 0)), (1, .int k), (2, .int (nI (xk_h k)))]) hx hb d_M_bucketOf_50 hl rfl (xn_inc _) (Nat.le_of_ble_eq_true rfl) rfl (fun ls hl => ?_)
            refine lv_goto (tgt := 11) hx hb d_M_bucketOf_53 (by decide) ?_
            exact ih11 (p + 1) pl ls (by omega) (by first | exact xm_by hpl (by simpa using hc40) | exact xm_bn hf (fun q => by rw [xm_rd_np hc28] at q; exact absurd q.1 (by decide)) | exact xm_bn hf (fun q => absurd q.2 (by simpa using hc40))) (lv_sub hl [3, 4, 5, 1, 0] rfl) (by omega)
          · skip
            rw [xb_1] at hc40
            refine lv_iload hx hb d_M_bucketOf_43 (lv_at hl 5 rfl) ?_
            refine lv_goto (tgt := 49) hx hb d_M_bucketOf_45 (by decide) ?_
            refine lv_istore_n (lv' := [(3, .int (nI p)), (5, .int (xm_rd K p)), (0, .ref (q 0)), (1, .int k), (2, .int (nI (xk_h k))), (4, .int (nI p))]) hx hb d_M_bucketOf_49 rfl hl (Nat.le_of_ble_eq_true rfl) rfl (fun ls hl => ?_)
            refine lv_iinc (k := 5) (v := nI (p + 1)) (lv' := [(4, .int (nI (p + 1))), (3, .int (nI p)), (5, .int (xm_rd K p)), (0, .ref (q 0)), (1, .int k), (2, .int (nI (xk_h k)))]) hx hb d_M_bucketOf_50 hl rfl (xn_inc _) (Nat.le_of_ble_eq_true rfl) rfl (fun ls hl => ?_)
            refine lv_goto (tgt := 11) hx hb d_M_bucketOf_53 (by decide) ?_
            exact ih11 (p + 1) p ls (by omega) (by first | exact xm_by hpl (by simpa using hc40) | exact xm_bn hf (fun q => by rw [xm_rd_np hc28] at q; exact absurd q.1 (by decide)) | exact xm_bn hf (fun q => absurd q.2 (by simpa using hc40))) (lv_sub hl [3, 4, 5, 1, 0] rfl) (by omega)
  exact lp11 _ 0 0 ls (by omega) (by rw [if_neg (Nat.not_lt_zero _)]) (lv_sub hl [3, 4, 2, 1, 0] rfl) (Nat.lt_succ_self _)
set_option maxHeartbeats 4000000 in
set_option maxRecDepth 100000 in
theorem c_M_set (l : Launch) (D : va_G) (q : Nat → Nat) (cA : Nat → ClassId) (lim : Int32) (bs : Int32) (bk : Nat → Int32) (bv : Nat → Int64) (rn : Int32) (wh : Nat → Int32) (rk : Nat → Int32) (rv : Nat → Int64) (bg : Nat → Int32) (bt : Int32) (sc : Int32) (sw : Nat → Int32) (sk : Nat → Int32) (sv : Nat → Int64) (ky : Nat → Int32) (vl : Nat → Int64) (sz : Nat) (K : List xk_E) (k : Int32) (v : Int64) (hM : xm_T ky vl K) (hl65 : (xk_set K k v).length ≤ 65) : Met l y_M_set zw_M_set ({ frames := 1, cells := 0, slots := 0, locals := 23 } : Room) (va_Pc [.ref (q 0), .int k, .long v] (xp_Q D zz_cl (xw_tM cA) sz (xw_M q cA lim bs bk bv rn wh rk rv bg bt sc sw sk sv (nI K.length) ky vl))) (va_Qv (fun u : (Nat → Int32) × (Nat → Int64) => xm_T u.1 u.2 (xk_set K k v)) (fun (u : (Nat → Int32) × (Nat → Int64)) (t : State) => va_P D zz_cl (xw_M q cA lim bs bk bv rn wh rk rv bg bt sc sw sk sv (nI (xk_set K k v).length) u.1 u.2) t.heap) (va_A (xw_M q cA lim bs bk bv rn wh rk rv bg bt sc sw sk sv (nI K.length) ky vl) sz)) 0 0 (va_A (xw_M q cA lim bs bk bv rn wh rk rv bg bt sc sw sk sv (nI K.length) ky vl) sz) := by
  refine Met.ofW (cc := b_M_set) (maxL := 7) (ret := none) (by decide) rfl ?_
  intro pJ eJ s mJ args below meth cJ s₁ B hml hv
  obtain ⟨rfl, hsz, hP, hK, hD0, hZ⟩ := hv
  have hx := B.exec
  have hb := B.bytes
  have hr := B.returns
  have hts := atoms_spec (ws := zw_M_set) B.pre
  have hown : s.vm.findClass R_M = some mJ.cls := findClass_of_methodNamed B.named
  have hlocks := B.notSynchronized
  subst hsz
  have hD := hD0.self (sz := s.heap.size)
  generalize hAe : va_A (xw_M q cA lim bs bk bv rn wh rk rv bg bt sc sw sk sv (nI K.length) ky vl) s.heap.size = A at hD ⊢
  have hA : ∀ q : Nat, s.heap.size ≤ q → A q := fun q h => by rw [← hAe]; exact Or.inr h
  have hS : va_S A s.heap s.heap [] := va_S.rf
  have hl := lv_entry ([.ref (q 0), .int k, .long v]) (n := 7) (Nat.le_of_ble_eq_true rfl)
  rw [lg_entry_eq]
  generalize (lg_sl ([.ref (q 0), .int k, .long v]) ++ List.replicate (7 - (lg_sl ([.ref (q 0), .int k, .long v])).length) Slot.unset).toArray = ls at hl ⊢
  have hl : lv_has ls 7 [(0, .ref (q 0)), (1, .int k), (2, .long v)] := hl
  have hlen := hM.1
  have hlo := xk_lo_le K k
  refine lv_aload_n hx hb d_M_set_0 rfl (lv_at hl 0 rfl) ?_
  refine lv_iload_n hx hb d_M_set_1 rfl (lv_at hl 1 rfl) ?_
  refine xa_cI (va_runV (As := [.int k]) (rest := []) ⟨hx, hb, hml, hown, hts⟩ (c_M_find l D q cA lim bs bk bv rn wh rk rv bg bt sc sw sk sv ky vl K k hM) (cwV 1 hts (zg_V zm_452 zm_454 zs_15 zm_7 zm_455) rfl rfl rfl (by decide +kernel) ⟨Nat.le_of_ble_eq_true rfl, Nat.le_of_ble_eq_true rfl⟩) (xp_preV (ci := 5) (q0 := 0) hK hP rfl rfl rfl hZ) rfl rfl hl.1 rfl (lv_room (Nat.le_of_ble_eq_true rfl)) d_M_set_2 ⟨Nat.zero_le _, Nat.zero_le _⟩) ?_
  refine lv_istore (lv' := [(4, .int (xm_fd K k)), (0, .ref (q 0)), (1, .int k), (2, .long v)]) hx hb d_M_set_5 hl (Nat.le_of_ble_eq_true rfl) rfl (fun ls hl => ?_)
  refine lv_iload hx hb d_M_set_7 (lv_at hl 0 rfl) ?_
  refine lv_if_lt (tgt := 21) hx hb d_M_set_9 (by decide) (fun hc9 => ?_) (fun hc9 => ?_)
  · skip
    have hk := xm_fd_f hM.1 hc9
    refine lv_iconst (v := nI 0) hx hb d_M_set_21 (by decide +kernel) ?_
    refine lv_istore (lv' := [(5, .int (nI 0)), (4, .int (xm_fd K k)), (0, .ref (q 0)), (1, .int k), (2, .long v)]) hx hb d_M_set_22 hl (Nat.le_of_ble_eq_true rfl) rfl (fun ls hl => ?_)
    refine lv_iconst (v := nI 0) hx hb d_M_set_24 (by decide +kernel) ?_
    refine lv_istore (lv' := [(6, .int (nI 0)), (5, .int (nI 0)), (4, .int (xm_fd K k)), (0, .ref (q 0)), (1, .int k), (2, .long v)]) hx hb d_M_set_25 hl (Nat.le_of_ble_eq_true rfl) rfl (fun ls hl => ?_)
    have lp27 : ∀ (N : Nat) (i : Nat) (t : Nat) (ls : Array Slot), (i ≤ K.length) → (t = min i (xk_lo K k)) → lv_has ls 7 [(0, .ref (q 0)), (1, .int k), (2, .long v), (4, .int (xm_fd K k)), (5, .int (nI t)), (6, .int (nI i))] → K.length - i < N → W pJ l eJ (headSpec zw_M_set ({ frames := 1, cells := 0, slots := 0, locals := 23 } : Room)).room s mJ ([.ref (q 0), .int k, .long v] : List Value).toArray below meth cJ s.heap [] 0 0 (MQ below (va_Qv (fun u : (Nat → Int32) × (Nat → Int64) => xm_T u.1 u.2 (xk_set K k v)) (fun (u : (Nat → Int32) × (Nat → Int64)) (t : State) => va_P D zz_cl (xw_M q cA lim bs bk bv rn wh rk rv bg bt sc sw sk sv (nI (xk_set K k v).length) u.1 u.2) t.heap) A) ([.ref (q 0), .int k, .long v] : List Value).toArray s 0 0 A) (F0 mJ 27 ls []) := by
      intro N
      induction N with
      | zero => intro i t ls hi ht hl hm; exact absurd hm (Nat.not_lt_zero _)
      | succ N ih27 =>
        intro i t ls hi ht hl hm
        refine lv_iload hx hb d_M_set_27 (lv_at hl 5 rfl) ?_
        refine lv_aload_n hx hb d_M_set_29 rfl (lv_at hl 0 rfl) ?_
        refine va_get (D := D) (ci := 5) (v := .int (nI K.length)) (C := R_M) (T := F_M) (N := 17) hx hb hts (zi_M _) hown hK hP 0 rfl rfl 14 (by decide) (hts _ (List.mem_cons_of_mem _ zm_390)) (fun _ h9 => h9) rfl d_M_set_30 ?_
        refine lv_icmp_ge (tgt := 64) hx hb d_M_set_33 (by decide) (fun hc33 => ?_) (fun hc33 => ?_)
        · skip
          rw [nI_leI (by omega) (by omega)] at hc33
          have htl : t = xk_lo K k := by omega
          rw [show ky = xm_sh ky K.length K.length from (xm_sh_0 ky _).symm] at hP hD
          rw [show vl = xm_sh vl K.length K.length from (xm_sh_0 vl _).symm] at hP hD
          refine lv_aload_n hx hb d_M_set_64 rfl (lv_at hl 0 rfl) ?_
          refine va_get (D := D) (ci := 5) (v := .int (nI K.length)) (C := R_M) (T := F_M) (N := 17) hx hb hts (zi_M _) hown hK hP 0 rfl rfl 14 (by decide) (hts _ (List.mem_cons_of_mem _ zm_390)) (fun _ h9 => h9) rfl d_M_set_65 ?_
          refine lv_istore (lv' := [(6, .int (nI K.length)), (0, .ref (q 0)), (1, .int k), (2, .long v), (4, .int (xm_fd K k)), (5, .int (nI t))]) hx hb d_M_set_68 hl (Nat.le_of_ble_eq_true rfl) rfl (fun ls hl => ?_)
          have lp70 : ∀ (N : Nat) (i : Nat) (ls : Array Slot) (H : Heap) (locs : List Loc), (t ≤ i) → (i ≤ K.length) → lv_has ls 7 [(0, .ref (q 0)), (1, .int k), (2, .long v), (4, .int (xm_fd K k)), (5, .int (nI t)), (6, .int (nI i))] → va_P D zz_cl (xw_M q cA lim bs bk bv rn wh rk rv bg bt sc sw sk sv (nI K.length) (xm_sh ky K.length i) (xm_sh vl K.length i)) H → va_D A (xw_M q cA lim bs bk bv rn wh rk rv bg bt sc sw sk sv (nI K.length) (xm_sh ky K.length i) (xm_sh vl K.length i)) → va_S A s.heap H locs → i < N → W pJ l eJ (headSpec zw_M_set ({ frames := 1, cells := 0, slots := 0, locals := 23 } : Room)).room s mJ ([.ref (q 0), .int k, .long v] : List Value).toArray below meth cJ H locs 0 0 (MQ below (va_Qv (fun u : (Nat → Int32) × (Nat → Int64) => xm_T u.1 u.2 (xk_set K k v)) (fun (u : (Nat → Int32) × (Nat → Int64)) (t : State) => va_P D zz_cl (xw_M q cA lim bs bk bv rn wh rk rv bg bt sc sw sk sv (nI (xk_set K k v).length) u.1 u.2) t.heap) A) ([.ref (q 0), .int k, .long v] : List Value).toArray s 0 0 A) (F0 mJ 70 ls []) := by
            intro N
            induction N with
            | zero => intro i ls H locs hti hin hl hP hD hS hm; exact absurd hm (Nat.not_lt_zero _)
            | succ N ih70 =>
              intro i ls H locs hti hin hl hP hD hS hm
              refine lv_iload hx hb d_M_set_70 (lv_at hl 5 rfl) ?_
              refine lv_iload hx hb d_M_set_72 (lv_at hl 4 rfl) ?_
              refine lv_icmp_le (tgt := 115) hx hb d_M_set_74 (by decide) (fun hc74 => ?_) (fun hc74 => ?_)
              · skip
                rw [nI_leI (by omega) (by omega)] at hc74
                rw [show xm_sh ky K.length i = xm_sh ky K.length t from by rw [show i = t from by omega]] at hP hD
                rw [show xm_sh vl K.length i = xm_sh vl K.length t from by rw [show i = t from by omega]] at hP hD
                refine lv_aload_n hx hb d_M_set_115 rfl (lv_at hl 0 rfl) ?_
                refine va_get (D := D) (ci := 5) (v := .ref (q 10)) (C := R_M) (T := F_M) (N := 17) hx hb hts (zi_M _) hown hK hP 0 rfl rfl 15 (by decide) (hts _ (List.mem_cons_of_mem _ zm_391)) (fun _ h9 => h9) rfl d_M_set_116 ?_
                refine lv_iload hx hb d_M_set_119 (lv_at hl 4 rfl) ?_
                refine lv_iload_n hx hb d_M_set_121 rfl (lv_at hl 1 rfl) ?_
                refine xa_iast (ws' := (xw_M q cA lim bs bk bv rn wh rk rv bg bt sc sw sk sv (nI K.length) (upd (xm_sh ky K.length t) t k) (xm_sh vl K.length t))) hx hb hK hP hD hS 10 9 rfl rfl (k := t) (by omega) (by decide) rfl d_M_set_122 (fun H locs hP hD hS => ?_)
                refine lv_aload_n hx hb d_M_set_123 rfl (lv_at hl 0 rfl) ?_
                refine va_get (D := D) (ci := 5) (v := .ref (q 11)) (C := R_M) (T := F_M) (N := 17) hx hb hts (zi_M _) hown hK hP 0 rfl rfl 16 (by decide) (hts _ (List.mem_cons_of_mem _ zm_392)) (fun _ h9 => h9) rfl d_M_set_124 ?_
                refine lv_iload hx hb d_M_set_127 (lv_at hl 4 rfl) ?_
                refine lv_lload_n hx hb d_M_set_129 rfl (lv_at hl 2 rfl) ?_
                refine xa_last (ws' := (xw_M q cA lim bs bk bv rn wh rk rv bg bt sc sw sk sv (nI K.length) (upd (xm_sh ky K.length t) t k) (vp_updL (xm_sh vl K.length t) t v))) hx hb hK hP hD hS 11 10 rfl rfl (k := t) (by omega) (by decide) rfl d_M_set_130 (fun H locs hP hD hS => ?_)
                refine lv_aload_n hx hb d_M_set_131 rfl (lv_at hl 0 rfl) ?_
                refine lv_aload_n hx hb d_M_set_132 rfl (lv_at hl 0 rfl) ?_
                refine va_get (D := D) (ci := 5) (v := .int (nI K.length)) (C := R_M) (T := F_M) (N := 17) hx hb hts (zi_M _) hown hK hP 0 rfl rfl 14 (by decide) (hts _ (List.mem_cons_of_mem _ zm_390)) (fun _ h9 => h9) rfl d_M_set_133 ?_
                refine lv_iconst (v := nI 1) hx hb d_M_set_136 (by decide +kernel) ?_
                refine lv_iadd hx hb d_M_set_137 ?_
                refine xa_top (y := nI (K.length + 1)) (nI_add _ _) ?_
                refine xa_put (ws' := (xw_M q cA lim bs bk bv rn wh rk rv bg bt sc sw sk sv (nI (K.length + 1)) (upd (xm_sh ky K.length t) t k) (vp_updL (xm_sh vl K.length t) t v))) (ci := 5) (v := .int (nI (K.length + 1))) (ty := .int) (C := R_M) (T := F_M) (N := 17) hx hb hts (zi_M _) t_M t_M_ok n_M hown hK hP hD hS 0 rfl rfl 14 (by decide) (hts _ (List.mem_cons_of_mem _ zm_390)) (fun _ h9 => h9) rfl (by decide +kernel) (rfl) (rfl) (Nat.le_of_ble_eq_true rfl) rfl d_M_set_138 (fun H locs hP hD hS => ?_)
                exact W.vret hx hb hr (fun tJ htJ hWJ => ⟨⟨(upd (xm_sh ky K.length t) t k, vp_updL (xm_sh vl K.length t) t v), rfl, xm_T_ins hM hk hl65 (fun j hj => by rw [htl]; exact xm_sh_ins ky _ _ _ hj) (fun j hj => by rw [htl]; exact xm_sh_insL vl _ _ _ hj), by dsimp only; rw [htJ]; rw [xk_set_len, hk]; exact hP⟩, hS.F htJ⟩) hS.2.2 d_M_set_141
              · skip
                rw [nI_leI (by omega) (by omega)] at hc74
                refine lv_aload_n hx hb d_M_set_77 rfl (lv_at hl 0 rfl) ?_
                refine va_get (D := D) (ci := 5) (v := .ref (q 10)) (C := R_M) (T := F_M) (N := 17) hx hb hts (zi_M _) hown hK hP 0 rfl rfl 15 (by decide) (hts _ (List.mem_cons_of_mem _ zm_391)) (fun _ h9 => h9) rfl d_M_set_78 ?_
                refine lv_iload hx hb d_M_set_81 (lv_at hl 5 rfl) ?_
                refine lv_aload_n hx hb d_M_set_83 rfl (lv_at hl 0 rfl) ?_
                refine va_get (D := D) (ci := 5) (v := .ref (q 10)) (C := R_M) (T := F_M) (N := 17) hx hb hts (zi_M _) hown hK hP 0 rfl rfl 15 (by decide) (hts _ (List.mem_cons_of_mem _ zm_391)) (fun _ h9 => h9) rfl d_M_set_84 ?_
                refine lv_iload hx hb d_M_set_87 (lv_at hl 5 rfl) ?_
                refine lv_iconst (v := nI 1) hx hb d_M_set_89 (by decide +kernel) ?_
                refine lv_isub hx hb d_M_set_90 ?_
                refine xa_top (y := nI (i - 1)) (pk_sub (by omega)) ?_
                refine xa_iald hx hb hK hP 10 9 rfl rfl (k := i - 1) (by omega) (by decide) d_M_set_91 ?_
                refine xa_top (y := ky (i - 1)) (xm_sh_at ky (by omega)) ?_
                refine xa_iast (ws' := (xw_M q cA lim bs bk bv rn wh rk rv bg bt sc sw sk sv (nI K.length) (upd (xm_sh ky K.length i) i (ky (i - 1))) (xm_sh vl K.length i))) hx hb hK hP hD hS 10 9 rfl rfl (k := i) (by omega) (by decide) rfl d_M_set_92 (fun H locs hP hD hS => ?_)
                rw [show upd (xm_sh ky K.length i) i (ky (i - 1)) = xm_sh ky K.length (i - 1) from xm_sh_up ky (by omega) (by omega)] at hP hD
                refine lv_aload_n hx hb d_M_set_93 rfl (lv_at hl 0 rfl) ?_
                refine va_get (D := D) (ci := 5) (v := .ref (q 11)) (C := R_M) (T := F_M) (N := 17) hx hb hts (zi_M _) hown hK hP 0 rfl rfl 16 (by decide) (hts _ (List.mem_cons_of_mem _ zm_392)) (fun _ h9 => h9) rfl d_M_set_94 ?_
                refine lv_iload hx hb d_M_set_97 (lv_at hl 5 rfl) ?_
                refine lv_aload_n hx hb d_M_set_99 rfl (lv_at hl 0 rfl) ?_
                refine va_get (D := D) (ci := 5) (v := .ref (q 11)) (C := R_M) (T := F_M) (N := 17) hx hb hts (zi_M _) hown hK hP 0 rfl rfl 16 (by decide) (hts _ (List.mem_cons_of_mem _ zm_392)) (fun _ h9 => h9) rfl d_M_set_100 ?_
                refine lv_iload hx hb d_M_set_103 (lv_at hl 5 rfl) ?_
                refine lv_iconst (v := nI 1) hx hb d_M_set_105 (by decide +kernel) ?_
                refine lv_isub hx hb d_M_set_106 ?_
                refine xa_top (y := nI (i - 1)) (pk_sub (by omega)) ?_
                refine xa_lald hx hb hK hP 11 10 rfl rfl (k := i - 1) (by omega) (by decide) d_M_set_107 ?_
                refine xa_topl (y := vl (i - 1)) (xm_sh_at vl (by omega)) ?_
                refine xa_last (ws' := (xw_M q cA lim bs bk bv rn wh rk rv bg bt sc sw sk sv (nI K.length) (xm_sh ky K.length (i - 1)) (vp_updL (xm_sh vl K.length i) i (vl (i - 1))))) hx hb hK hP hD hS 11 10 rfl rfl (k := i) (by omega) (by decide) rfl d_M_set_108 (fun H locs hP hD hS => ?_)
                rw [show vp_updL (xm_sh vl K.length i) i (vl (i - 1)) = xm_sh vl K.length (i - 1) from xm_sh_upL vl (by omega) (by omega)] at hP hD
                refine lv_iinc (k := 5) (v := nI (i - 1)) (lv' := [(6, .int (nI (i - 1))), (0, .ref (q 0)), (1, .int k), (2, .long v), (4, .int (xm_fd K k)), (5, .int (nI t))]) hx hb d_M_set_109 hl rfl (xn_dec (by omega)) (Nat.le_of_ble_eq_true rfl) rfl (fun ls hl => ?_)
                refine lv_goto (tgt := 70) hx hb d_M_set_112 (by decide) ?_
                exact ih70 (i - 1) ls _ _ (by omega) (by omega) (lv_sub hl [1, 2, 3, 4, 5, 0] rfl) hP hD hS (by omega)
          exact lp70 _ K.length ls _ _ (by omega) (Nat.le_refl _) (lv_sub hl [1, 2, 3, 4, 5, 0] rfl) hP hD hS (Nat.lt_succ_self _)
        · skip
          rw [nI_leI (by omega) (by omega)] at hc33
          obtain ⟨e, he⟩ : ∃ e, K[i]? = some e := ⟨_, List.getElem?_eq_getElem (by omega)⟩
          have hfe := (xk_tie_f hM.2.2 he).1
          refine lv_aload_n hx hb d_M_set_36 rfl (lv_at hl 0 rfl) ?_
          refine va_get (D := D) (ci := 5) (v := .ref (q 10)) (C := R_M) (T := F_M) (N := 17) hx hb hts (zi_M _) hown hK hP 0 rfl rfl 15 (by decide) (hts _ (List.mem_cons_of_mem _ zm_391)) (fun _ h9 => h9) rfl d_M_set_37 ?_
          refine lv_iload hx hb d_M_set_40 (lv_at hl 5 rfl) ?_
          refine xa_iald hx hb hK hP 10 9 rfl rfl (k := i) (by omega) (by decide) d_M_set_42 ?_
          refine xa_top (y := e.1) hfe ?_
          refine lv_iload_n hx hb d_M_set_43 rfl (lv_at hl 1 rfl) ?_
          refine lv_icmp_ge (tgt := 54) hx hb d_M_set_44 (by decide) (fun hc44 => ?_) (fun hc44 => ?_)
          · skip
            refine lv_iload hx hb d_M_set_54 (lv_at hl 4 rfl) ?_
            refine xa_top (y := nI (min (i + 1) (xk_lo K k))) (congrArg nI (by first | (have z9 := (xk_below hM.2.1 he).mp (xk_nle hc44); omega) | (have z9 : ¬ i < xk_lo K k := fun z => xk_nlt2 hc44 ((xk_below hM.2.1 he).mpr z); omega))) ?_
            refine lv_istore (lv' := [(5, .int (nI (min (i + 1) (xk_lo K k)))), (0, .ref (q 0)), (1, .int k), (2, .long v), (4, .int (xm_fd K k)), (6, .int (nI i))]) hx hb d_M_set_56 hl (Nat.le_of_ble_eq_true rfl) rfl (fun ls hl => ?_)
            refine lv_iinc (k := 5) (v := nI (i + 1)) (lv' := [(6, .int (nI (i + 1))), (5, .int (nI (min (i + 1) (xk_lo K k)))), (0, .ref (q 0)), (1, .int k), (2, .long v), (4, .int (xm_fd K k))]) hx hb d_M_set_58 hl rfl (xn_inc _) (Nat.le_of_ble_eq_true rfl) rfl (fun ls hl => ?_)
            refine lv_goto (tgt := 27) hx hb d_M_set_61 (by decide) ?_
            exact ih27 (i + 1) (min (i + 1) (xk_lo K k)) ls (by omega) rfl (lv_sub hl [2, 3, 4, 5, 1, 0] rfl) (by omega)
          · skip
            refine lv_iload hx hb d_M_set_47 (lv_at hl 5 rfl) ?_
            refine lv_iconst (v := nI 1) hx hb d_M_set_49 (by decide +kernel) ?_
            refine lv_iadd hx hb d_M_set_50 ?_
            refine xa_top (y := nI (i + 1)) (nI_add _ _) ?_
            refine lv_goto (tgt := 56) hx hb d_M_set_51 (by decide) ?_
            refine xa_top (y := nI (min (i + 1) (xk_lo K k))) (congrArg nI (by first | (have z9 := (xk_below hM.2.1 he).mp (xk_nle hc44); omega) | (have z9 : ¬ i < xk_lo K k := fun z => xk_nlt2 hc44 ((xk_below hM.2.1 he).mpr z); omega))) ?_
            refine lv_istore (lv' := [(5, .int (nI (min (i + 1) (xk_lo K k)))), (0, .ref (q 0)), (1, .int k), (2, .long v), (4, .int (xm_fd K k)), (6, .int (nI i))]) hx hb d_M_set_56 hl (Nat.le_of_ble_eq_true rfl) rfl (fun ls hl => ?_)
            refine lv_iinc (k := 5) (v := nI (i + 1)) (lv' := [(6, .int (nI (i + 1))), (5, .int (nI (min (i + 1) (xk_lo K k)))), (0, .ref (q 0)), (1, .int k), (2, .long v), (4, .int (xm_fd K k))]) hx hb d_M_set_58 hl rfl (xn_inc _) (Nat.le_of_ble_eq_true rfl) rfl (fun ls hl => ?_)
            refine lv_goto (tgt := 27) hx hb d_M_set_61 (by decide) ?_
            exact ih27 (i + 1) (min (i + 1) (xk_lo K k)) ls (by omega) rfl (lv_sub hl [2, 3, 4, 5, 1, 0] rfl) (by omega)
    exact lp27 _ 0 0 ls (Nat.zero_le _) (by omega) (lv_sub hl [3, 4, 5, 2, 1, 0] rfl) (Nat.lt_succ_self _)
  · skip
    have hk := xm_fd_t hc9
    have hfd := xm_fd_eq hk
    have hhl := xk_has_lt hk
    refine lv_aload_n hx hb d_M_set_12 rfl (lv_at hl 1 rfl) ?_
    refine va_get (D := D) (ci := 5) (v := .ref (q 11)) (C := R_M) (T := F_M) (N := 17) hx hb hts (zi_M _) hown hK hP 0 rfl rfl 16 (by decide) (hts _ (List.mem_cons_of_mem _ zm_392)) (fun _ h9 => h9) rfl d_M_set_13 ?_
    refine lv_iload hx hb d_M_set_16 (lv_at hl 0 rfl) ?_
    refine xa_top (y := nI (xk_lo K k)) hfd ?_
    refine lv_lload_n hx hb d_M_set_18 rfl (lv_at hl 3 rfl) ?_
    refine xa_last (ws' := (xw_M q cA lim bs bk bv rn wh rk rv bg bt sc sw sk sv (nI K.length) ky (vp_updL vl (xk_lo K k) v))) hx hb hK hP hD hS 11 10 rfl rfl (k := xk_lo K k) (by omega) (by decide) rfl d_M_set_19 (fun H locs hP hD hS => ?_)
    exact W.vret hx hb hr (fun tJ htJ hWJ => ⟨⟨(ky, vp_updL vl (xk_lo K k) v), rfl, xm_T_put hM v hk, by dsimp only; rw [htJ]; rw [xk_set_len, if_pos hk]; exact hP⟩, hS.F htJ⟩) hS.2.2 d_M_set_20
set_option maxHeartbeats 4000000 in
set_option maxRecDepth 100000 in
theorem c_M_remove (l : Launch) (D : va_G) (q : Nat → Nat) (cA : Nat → ClassId) (lim : Int32) (bs : Int32) (bk : Nat → Int32) (bv : Nat → Int64) (rn : Int32) (wh : Nat → Int32) (rk : Nat → Int32) (rv : Nat → Int64) (bg : Nat → Int32) (bt : Int32) (sc : Int32) (sw : Nat → Int32) (sk : Nat → Int32) (sv : Nat → Int64) (ky : Nat → Int32) (vl : Nat → Int64) (sz : Nat) (K : List xk_E) (k : Int32) (hM : xm_T ky vl K) : Met l y_M_remove zw_M_remove ({ frames := 1, cells := 0, slots := 0, locals := 23 } : Room) (va_Pc [.ref (q 0), .int k] (xp_Q D zz_cl (xw_tM cA) sz (xw_M q cA lim bs bk bv rn wh rk rv bg bt sc sw sk sv (nI K.length) ky vl))) (va_Qv (fun u : (Nat → Int32) × (Nat → Int64) => xm_T u.1 u.2 (xk_rem K k)) (fun (u : (Nat → Int32) × (Nat → Int64)) (t : State) => va_P D zz_cl (xw_M q cA lim bs bk bv rn wh rk rv bg bt sc sw sk sv (nI (xk_rem K k).length) u.1 u.2) t.heap) (va_A (xw_M q cA lim bs bk bv rn wh rk rv bg bt sc sw sk sv (nI K.length) ky vl) sz)) 0 0 (va_A (xw_M q cA lim bs bk bv rn wh rk rv bg bt sc sw sk sv (nI K.length) ky vl) sz) := by
  refine Met.ofW (cc := b_M_remove) (maxL := 4) (ret := none) (by decide) rfl ?_
  intro pJ eJ s mJ args below meth cJ s₁ B hml hv
  obtain ⟨rfl, hsz, hP, hK, hD0, hZ⟩ := hv
  have hx := B.exec
  have hb := B.bytes
  have hr := B.returns
  have hts := atoms_spec (ws := zw_M_remove) B.pre
  have hown : s.vm.findClass R_M = some mJ.cls := findClass_of_methodNamed B.named
  have hlocks := B.notSynchronized
  subst hsz
  have hD := hD0.self (sz := s.heap.size)
  generalize hAe : va_A (xw_M q cA lim bs bk bv rn wh rk rv bg bt sc sw sk sv (nI K.length) ky vl) s.heap.size = A at hD ⊢
  have hA : ∀ q : Nat, s.heap.size ≤ q → A q := fun q h => by rw [← hAe]; exact Or.inr h
  have hS : va_S A s.heap s.heap [] := va_S.rf
  have hl := lv_entry ([.ref (q 0), .int k]) (n := 4) (Nat.le_of_ble_eq_true rfl)
  rw [lg_entry_eq]
  generalize (lg_sl ([.ref (q 0), .int k]) ++ List.replicate (4 - (lg_sl ([.ref (q 0), .int k])).length) Slot.unset).toArray = ls at hl ⊢
  have hl : lv_has ls 4 [(0, .ref (q 0)), (1, .int k)] := hl
  have hlen := hM.1
  refine lv_aload_n hx hb d_M_remove_0 rfl (lv_at hl 0 rfl) ?_
  refine lv_iload_n hx hb d_M_remove_1 rfl (lv_at hl 1 rfl) ?_
  refine xa_cI (va_runV (As := [.int k]) (rest := []) ⟨hx, hb, hml, hown, hts⟩ (c_M_find l D q cA lim bs bk bv rn wh rk rv bg bt sc sw sk sv ky vl K k hM) (cwV 1 hts (zg_V zm_452 zm_454 zs_15 zm_7 zm_455) rfl rfl rfl (by decide +kernel) ⟨Nat.le_of_ble_eq_true rfl, Nat.le_of_ble_eq_true rfl⟩) (xp_preV (ci := 5) (q0 := 0) hK hP rfl rfl rfl hZ) rfl rfl hl.1 rfl (lv_room (Nat.le_of_ble_eq_true rfl)) d_M_remove_2 ⟨Nat.zero_le _, Nat.zero_le _⟩) ?_
  refine lv_istore_n (lv' := [(2, .int (xm_fd K k)), (0, .ref (q 0)), (1, .int k)]) hx hb d_M_remove_5 rfl hl (Nat.le_of_ble_eq_true rfl) rfl (fun ls hl => ?_)
  refine lv_iload_n hx hb d_M_remove_6 rfl (lv_at hl 0 rfl) ?_
  refine lv_if_ge (tgt := 11) hx hb d_M_remove_7 (by decide) (fun hc7 => ?_) (fun hc7 => ?_)
  · skip
    have hk := xm_fd_t (xk_nlt2 hc7)
    have hfd := xm_fd_eq hk
    have hhl := xk_has_lt hk
    refine lv_aload_n hx hb d_M_remove_11 rfl (lv_at hl 1 rfl) ?_
    refine lv_aload_n hx hb d_M_remove_12 rfl (lv_at hl 1 rfl) ?_
    refine va_get (D := D) (ci := 5) (v := .int (nI K.length)) (C := R_M) (T := F_M) (N := 17) hx hb hts (zi_M _) hown hK hP 0 rfl rfl 14 (by decide) (hts _ (List.mem_cons_of_mem _ zm_390)) (fun _ h9 => h9) rfl d_M_remove_13 ?_
    refine lv_iconst (v := nI 1) hx hb d_M_remove_16 (by decide +kernel) ?_
    refine lv_isub hx hb d_M_remove_17 ?_
    refine xa_top (y := nI (K.length - 1)) (pk_sub (by omega)) ?_
    refine xa_put (ws' := (xw_M q cA lim bs bk bv rn wh rk rv bg bt sc sw sk sv (nI (K.length - 1)) ky vl)) (ci := 5) (v := .int (nI (K.length - 1))) (ty := .int) (C := R_M) (T := F_M) (N := 17) hx hb hts (zi_M _) t_M t_M_ok n_M hown hK hP hD hS 0 rfl rfl 14 (by decide) (hts _ (List.mem_cons_of_mem _ zm_390)) (fun _ h9 => h9) rfl (by decide +kernel) (rfl) (rfl) (Nat.le_of_ble_eq_true rfl) rfl d_M_remove_18 (fun H locs hP hD hS => ?_)
    rw [show ky = xm_dn ky (xk_lo K k) (xk_lo K k) from (xm_dn_0 ky _).symm] at hP hD
    rw [show vl = xm_dn vl (xk_lo K k) (xk_lo K k) from (xm_dn_0 vl _).symm] at hP hD
    refine lv_iload_n hx hb d_M_remove_21 rfl (lv_at hl 0 rfl) ?_
    refine xa_top (y := nI (xk_lo K k)) hfd ?_
    refine lv_istore_n (lv' := [(3, .int (nI (xk_lo K k))), (2, .int (xm_fd K k)), (0, .ref (q 0)), (1, .int k)]) hx hb d_M_remove_22 rfl hl (Nat.le_of_ble_eq_true rfl) rfl (fun ls hl => ?_)
    have lp23 : ∀ (N : Nat) (i : Nat) (ls : Array Slot) (H : Heap) (locs : List Loc), (xk_lo K k ≤ i) → (i ≤ K.length - 1) → lv_has ls 4 [(0, .ref (q 0)), (1, .int k), (2, .int (xm_fd K k)), (3, .int (nI i))] → va_P D zz_cl (xw_M q cA lim bs bk bv rn wh rk rv bg bt sc sw sk sv (nI (K.length - 1)) (xm_dn ky (xk_lo K k) i) (xm_dn vl (xk_lo K k) i)) H → va_D A (xw_M q cA lim bs bk bv rn wh rk rv bg bt sc sw sk sv (nI (K.length - 1)) (xm_dn ky (xk_lo K k) i) (xm_dn vl (xk_lo K k) i)) → va_S A s.heap H locs → K.length - 1 - i < N → W pJ l eJ (headSpec zw_M_remove ({ frames := 1, cells := 0, slots := 0, locals := 23 } : Room)).room s mJ ([.ref (q 0), .int k] : List Value).toArray below meth cJ H locs 0 0 (MQ below (va_Qv (fun u : (Nat → Int32) × (Nat → Int64) => xm_T u.1 u.2 (xk_rem K k)) (fun (u : (Nat → Int32) × (Nat → Int64)) (t : State) => va_P D zz_cl (xw_M q cA lim bs bk bv rn wh rk rv bg bt sc sw sk sv (nI (xk_rem K k).length) u.1 u.2) t.heap) A) ([.ref (q 0), .int k] : List Value).toArray s 0 0 A) (F0 mJ 23 ls []) := by
      intro N
      induction N with
      | zero => intro i ls H locs hli hin hl hP hD hS hm; exact absurd hm (Nat.not_lt_zero _)
      | succ N ih23 =>
        intro i ls H locs hli hin hl hP hD hS hm
        refine lv_iload_n hx hb d_M_remove_23 rfl (lv_at hl 3 rfl) ?_
        refine lv_aload_n hx hb d_M_remove_24 rfl (lv_at hl 0 rfl) ?_
        refine va_get (D := D) (ci := 5) (v := .int (nI (K.length - 1))) (C := R_M) (T := F_M) (N := 17) hx hb hts (zi_M _) hown hK hP 0 rfl rfl 14 (by decide) (hts _ (List.mem_cons_of_mem _ zm_390)) (fun _ h9 => h9) rfl d_M_remove_25 ?_
        refine lv_icmp_ge (tgt := 65) hx hb d_M_remove_28 (by decide) (fun hc28 => ?_) (fun hc28 => ?_)
        · skip
          rw [nI_leI (by omega) (by omega)] at hc28
          rw [show xm_dn ky (xk_lo K k) i = xm_dn ky (xk_lo K k) (K.length - 1) from by rw [show i = K.length - 1 from by omega]] at hP hD
          rw [show xm_dn vl (xk_lo K k) i = xm_dn vl (xk_lo K k) (K.length - 1) from by rw [show i = K.length - 1 from by omega]] at hP hD
          exact W.vret hx hb hr (fun tJ htJ hWJ => ⟨⟨(xm_dn ky (xk_lo K k) (K.length - 1), xm_dn vl (xk_lo K k) (K.length - 1)), rfl, xm_T_del hM hk (fun j hj => xm_dn_del ky _ _ hj) (fun j hj => xm_dn_del vl _ _ hj), by dsimp only; rw [htJ]; rw [xk_rem_len, if_pos hk]; exact hP⟩, hS.F htJ⟩) hS.2.2 d_M_remove_65
        · skip
          rw [nI_leI (by omega) (by omega)] at hc28
          refine lv_aload_n hx hb d_M_remove_31 rfl (lv_at hl 0 rfl) ?_
          refine va_get (D := D) (ci := 5) (v := .ref (q 10)) (C := R_M) (T := F_M) (N := 17) hx hb hts (zi_M _) hown hK hP 0 rfl rfl 15 (by decide) (hts _ (List.mem_cons_of_mem _ zm_391)) (fun _ h9 => h9) rfl d_M_remove_32 ?_
          refine lv_iload_n hx hb d_M_remove_35 rfl (lv_at hl 3 rfl) ?_
          refine lv_aload_n hx hb d_M_remove_36 rfl (lv_at hl 0 rfl) ?_
          refine va_get (D := D) (ci := 5) (v := .ref (q 10)) (C := R_M) (T := F_M) (N := 17) hx hb hts (zi_M _) hown hK hP 0 rfl rfl 15 (by decide) (hts _ (List.mem_cons_of_mem _ zm_391)) (fun _ h9 => h9) rfl d_M_remove_37 ?_
          refine lv_iload_n hx hb d_M_remove_40 rfl (lv_at hl 3 rfl) ?_
          refine lv_iconst (v := nI 1) hx hb d_M_remove_41 (by decide +kernel) ?_
          refine lv_iadd hx hb d_M_remove_42 ?_
          refine xa_top (y := nI (i + 1)) (nI_add _ _) ?_
          refine xa_iald hx hb hK hP 10 9 rfl rfl (k := i + 1) (by omega) (by decide) d_M_remove_43 ?_
          refine xa_top (y := ky (i + 1)) (xm_dn_at ky _ i) ?_
          refine xa_iast (ws' := (xw_M q cA lim bs bk bv rn wh rk rv bg bt sc sw sk sv (nI (K.length - 1)) (upd (xm_dn ky (xk_lo K k) i) i (ky (i + 1))) (xm_dn vl (xk_lo K k) i))) hx hb hK hP hD hS 10 9 rfl rfl (k := i) (by omega) (by decide) rfl d_M_remove_44 (fun H locs hP hD hS => ?_)
          rw [show upd (xm_dn ky (xk_lo K k) i) i (ky (i + 1)) = xm_dn ky (xk_lo K k) (i + 1) from xm_dn_up ky hli] at hP hD
          refine lv_aload_n hx hb d_M_remove_45 rfl (lv_at hl 0 rfl) ?_
          refine va_get (D := D) (ci := 5) (v := .ref (q 11)) (C := R_M) (T := F_M) (N := 17) hx hb hts (zi_M _) hown hK hP 0 rfl rfl 16 (by decide) (hts _ (List.mem_cons_of_mem _ zm_392)) (fun _ h9 => h9) rfl d_M_remove_46 ?_
          refine lv_iload_n hx hb d_M_remove_49 rfl (lv_at hl 3 rfl) ?_
          refine lv_aload_n hx hb d_M_remove_50 rfl (lv_at hl 0 rfl) ?_
          refine va_get (D := D) (ci := 5) (v := .ref (q 11)) (C := R_M) (T := F_M) (N := 17) hx hb hts (zi_M _) hown hK hP 0 rfl rfl 16 (by decide) (hts _ (List.mem_cons_of_mem _ zm_392)) (fun _ h9 => h9) rfl d_M_remove_51 ?_
          refine lv_iload_n hx hb d_M_remove_54 rfl (lv_at hl 3 rfl) ?_
          refine lv_iconst (v := nI 1) hx hb d_M_remove_55 (by decide +kernel) ?_
          refine lv_iadd hx hb d_M_remove_56 ?_
          refine xa_top (y := nI (i + 1)) (nI_add _ _) ?_
          refine xa_lald hx hb hK hP 11 10 rfl rfl (k := i + 1) (by omega) (by decide) d_M_remove_57 ?_
          refine xa_topl (y := vl (i + 1)) (xm_dn_at vl _ i) ?_
          refine xa_last (ws' := (xw_M q cA lim bs bk bv rn wh rk rv bg bt sc sw sk sv (nI (K.length - 1)) (xm_dn ky (xk_lo K k) (i + 1)) (vp_updL (xm_dn vl (xk_lo K k) i) i (vl (i + 1))))) hx hb hK hP hD hS 11 10 rfl rfl (k := i) (by omega) (by decide) rfl d_M_remove_58 (fun H locs hP hD hS => ?_)
          rw [show vp_updL (xm_dn vl (xk_lo K k) i) i (vl (i + 1)) = xm_dn vl (xk_lo K k) (i + 1) from xm_dn_upL vl hli] at hP hD
          refine lv_iinc (k := 3) (v := nI (i + 1)) (lv' := [(3, .int (nI (i + 1))), (0, .ref (q 0)), (1, .int k), (2, .int (xm_fd K k))]) hx hb d_M_remove_59 hl rfl (xn_inc _) (Nat.le_of_ble_eq_true rfl) rfl (fun ls hl => ?_)
          refine lv_goto (tgt := 23) hx hb d_M_remove_62 (by decide) ?_
          exact ih23 (i + 1) ls _ _ (by omega) (by omega) (lv_sub hl [1, 2, 3, 0] rfl) hP hD hS (by omega)
    exact lp23 _ (xk_lo K k) ls _ _ (Nat.le_refl _) (by omega) (lv_sub hl [2, 3, 1, 0] rfl) hP hD hS (Nat.lt_succ_self _)
  · skip
    have hk := xm_fd_f hM.1 (xk_nle hc7)
    exact W.vret hx hb hr (fun tJ htJ hWJ => ⟨⟨(ky, vl), rfl, by rw [xk_rem_no hk]; exact hM, by dsimp only; rw [htJ]; rw [xk_rem_no hk]; exact hP⟩, hS.F htJ⟩) hS.2.2 d_M_remove_10
