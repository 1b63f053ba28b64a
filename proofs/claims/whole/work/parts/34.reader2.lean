/-! Walks: specs_d (printed by run.py) -/
set_option maxHeartbeats 4000000 in
set_option maxRecDepth 100000 in
theorem c_E_has (l : Launch) (D : va_G) (q : Nat → Nat) (cA : Nat → ClassId) (lim : Int32) (kf : Nat → Int32) (kg : Nat → Int64) (af : Nat → Int32) (bf : Nat → Int32) (rk : Nat → Int32) (rv : Nat → Int64) (rm : Nat → Int32) (rs : Nat → Int32) (rn : Int32) (bp : Nat → Int32) (bk : Nat → Int32) (bv : Nat → Int64) (bo : Int32) (bn : Int32) (K : List xk_E) (k : Int32) (hT : xw_KT kf kg af bf K) : Met l y_E_has zw_E_has ({ frames := 2, cells := 0, slots := 0, locals := 43 } : Room) (va_Pc [.ref (q 0), .int k] (xp_R D zz_cl (xw_tC cA) (xw_C q cA lim kf kg (nI K.length) af bf rk rv rm rs rn bp bk bv bo bn))) (vp_Si (fun r : Int32 => r = (xb_i (xk_has K k)))) 0 0 (fun _ => False) := by
  refine Met.ofW (cc := b_E_has) (maxL := 2) (ret := (some .boolean)) (by decide) rfl ?_
  intro pJ eJ s mJ args below meth cJ s₁ B hml hv
  obtain ⟨rfl, hP, hK, hZ⟩ := hv
  have hx := B.exec
  have hb := B.bytes
  have hr := B.returns
  have hts := atoms_spec (ws := zw_E_has) B.pre
  have hown : s.vm.findClass R_E = some mJ.cls := findClass_of_methodNamed B.named
  have hlocks := B.notSynchronized
  have hl := lv_entry ([.ref (q 0), .int k]) (n := 2) (Nat.le_of_ble_eq_true rfl)
  rw [lg_entry_eq]
  generalize (lg_sl ([.ref (q 0), .int k]) ++ List.replicate (2 - (lg_sl ([.ref (q 0), .int k])).length) Slot.unset).toArray = ls at hl ⊢
  have hl : lv_has ls 2 [(0, .ref (q 0)), (1, .int k)] := hl
  refine lv_aload_n hx hb d_E_has_0 rfl (lv_at hl 0 rfl) ?_
  refine va_get (D := D) (ci := 0) (v := .ref (q 1)) (C := R_E) (T := F_E) (N := 4) hx hb hts (zi_E _) hown hK hP 0 rfl rfl 1 (by decide) (hts _ (List.mem_cons_of_mem _ zm_114)) (fun _ h9 => h9) rfl d_E_has_1 ?_
  refine lv_iload_n hx hb d_E_has_4 rfl (lv_at hl 1 rfl) ?_
  refine xa_cI (va_runV (As := [.int k]) (rest := []) ⟨hx, hb, hml, hown, hts⟩ (c_K_holds l D q cA lim kf kg af bf rk rv rm rs rn bp bk bv bo bn K k hT) (cwV 1 hts (zg_V zm_134 zm_135 zm_136 zm_3 zm_137) rfl rfl rfl (by decide +kernel) ⟨Nat.le_of_ble_eq_true rfl, Nat.le_of_ble_eq_true rfl⟩) (xp_preV (ci := 1) (q0 := 1) hK hP rfl rfl rfl hZ) rfl rfl hl.1 rfl (lv_room (Nat.le_of_ble_eq_true rfl)) d_E_has_5 ⟨Nat.zero_le _, Nat.zero_le _⟩) ?_
  exact W.zret (ty := .boolean) (v := xb_i (xk_has K k)) hx hb hr (xb_nar _) (fun tJ htJ hWJ => ⟨_, rfl, rfl, htJ⟩) (fun _ h => by cases h) d_E_has_8
set_option maxHeartbeats 4000000 in
set_option maxRecDepth 100000 in
theorem c_E_get (l : Launch) (D : va_G) (q : Nat → Nat) (cA : Nat → ClassId) (lim : Int32) (kf : Nat → Int32) (kg : Nat → Int64) (af : Nat → Int32) (bf : Nat → Int32) (rk : Nat → Int32) (rv : Nat → Int64) (rm : Nat → Int32) (rs : Nat → Int32) (rn : Int32) (bp : Nat → Int32) (bk : Nat → Int32) (bv : Nat → Int64) (bo : Int32) (bn : Int32) (K : List xk_E) (k : Int32) (hT : xw_KT kf kg af bf K) : Met l y_E_get zw_E_get ({ frames := 2, cells := 0, slots := 0, locals := 44 } : Room) (va_Pc [.ref (q 0), .int k] (xp_R D zz_cl (xw_tC cA) (xw_C q cA lim kf kg (nI K.length) af bf rk rv rm rs rn bp bk bv bo bn))) (vp_Sl (fun r : Int64 => r = (xk_get K k))) 0 0 (fun _ => False) := by
  refine Met.ofW (cc := b_E_get) (maxL := 2) (ret := (some .long)) (by decide) rfl ?_
  intro pJ eJ s mJ args below meth cJ s₁ B hml hv
  obtain ⟨rfl, hP, hK, hZ⟩ := hv
  have hx := B.exec
  have hb := B.bytes
  have hr := B.returns
  have hts := atoms_spec (ws := zw_E_get) B.pre
  have hown : s.vm.findClass R_E = some mJ.cls := findClass_of_methodNamed B.named
  have hlocks := B.notSynchronized
  have hl := lv_entry ([.ref (q 0), .int k]) (n := 2) (Nat.le_of_ble_eq_true rfl)
  rw [lg_entry_eq]
  generalize (lg_sl ([.ref (q 0), .int k]) ++ List.replicate (2 - (lg_sl ([.ref (q 0), .int k])).length) Slot.unset).toArray = ls at hl ⊢
  have hl : lv_has ls 2 [(0, .ref (q 0)), (1, .int k)] := hl
  refine lv_aload_n hx hb d_E_get_0 rfl (lv_at hl 0 rfl) ?_
  refine va_get (D := D) (ci := 0) (v := .ref (q 1)) (C := R_E) (T := F_E) (N := 4) hx hb hts (zi_E _) hown hK hP 0 rfl rfl 1 (by decide) (hts _ (List.mem_cons_of_mem _ zm_114)) (fun _ h9 => h9) rfl d_E_get_1 ?_
  refine lv_iload_n hx hb d_E_get_4 rfl (lv_at hl 1 rfl) ?_
  refine xa_cJ (va_runV (As := [.int k]) (rest := []) ⟨hx, hb, hml, hown, hts⟩ (c_K_valueOf l D q cA lim kf kg af bf rk rv rm rs rn bp bk bv bo bn K k hT) (cwV 1 hts (zg_V zm_150 zm_151 zm_152 zm_3 zm_153) rfl rfl rfl (by decide +kernel) ⟨Nat.le_of_ble_eq_true rfl, Nat.le_of_ble_eq_true rfl⟩) (xp_preV (ci := 1) (q0 := 1) hK hP rfl rfl rfl hZ) rfl rfl hl.1 rfl (lv_room (Nat.le_of_ble_eq_true rfl)) d_E_get_5 ⟨Nat.zero_le _, Nat.zero_le _⟩) ?_
  exact W.lret (v := xk_get K k) hx hb hr (fun tJ htJ hWJ => ⟨_, rfl, rfl, htJ⟩) (fun _ h => by cases h) d_E_get_8
set_option maxHeartbeats 4000000 in
set_option maxRecDepth 100000 in
theorem c_E_reads (l : Launch) (D : va_G) (q : Nat → Nat) (cA : Nat → ClassId) (lim : Int32) (kf : Nat → Int32) (kg : Nat → Int64) (af : Nat → Int32) (bf : Nat → Int32) (rk : Nat → Int32) (rv : Nat → Int64) (rm : Nat → Int32) (rs : Nat → Int32) (rn : Int32) (bp : Nat → Int32) (bk : Nat → Int32) (bv : Nat → Int64) (bo : Int32) (bn : Int32) (K : List xk_E) (k : Int32) (hT : xw_KT kf kg af bf K) : Met l y_E_reads zw_E_reads ({ frames := 4, cells := 0, slots := 0, locals := 90 } : Room) (va_Pc [.ref (q 0), .int k] (xp_R D zz_cl (xw_tC cA) (xw_C q cA lim kf kg (nI K.length) af bf rk rv rm rs rn bp bk bv bo bn))) (vp_Si (fun r : Int32 => r = (nI (1 + xo_rd K k + (if xk_has K k = true then xv_vp (xk_get K k) else 0))))) 0 0 (fun _ => False) := by
  refine Met.ofW (cc := b_E_reads) (maxL := 3) (ret := (some .int)) (by decide) rfl ?_
  intro pJ eJ s mJ args below meth cJ s₁ B hml hv
  obtain ⟨rfl, hP, hK, hZ⟩ := hv
  have hx := B.exec
  have hb := B.bytes
  have hr := B.returns
  have hts := atoms_spec (ws := zw_E_reads) B.pre
  have hown : s.vm.findClass R_E = some mJ.cls := findClass_of_methodNamed B.named
  have hlocks := B.notSynchronized
  have hl := lv_entry ([.ref (q 0), .int k]) (n := 3) (Nat.le_of_ble_eq_true rfl)
  rw [lg_entry_eq]
  generalize (lg_sl ([.ref (q 0), .int k]) ++ List.replicate (3 - (lg_sl ([.ref (q 0), .int k])).length) Slot.unset).toArray = ls at hl ⊢
  have hl : lv_has ls 3 [(0, .ref (q 0)), (1, .int k)] := hl
  refine lv_aload_n hx hb d_E_reads_0 rfl (lv_at hl 0 rfl) ?_
  refine va_get (D := D) (ci := 0) (v := .ref (q 1)) (C := R_E) (T := F_E) (N := 4) hx hb hts (zi_E _) hown hK hP 0 rfl rfl 1 (by decide) (hts _ (List.mem_cons_of_mem _ zm_114)) (fun _ h9 => h9) rfl d_E_reads_1 ?_
  refine lv_iload_n hx hb d_E_reads_4 rfl (lv_at hl 1 rfl) ?_
  refine xa_cI (va_runV (As := [.int k]) (rest := []) ⟨hx, hb, hml, hown, hts⟩ (c_K_holds l D q cA lim kf kg af bf rk rv rm rs rn bp bk bv bo bn K k hT) (cwV 1 hts (zg_V zm_134 zm_135 zm_136 zm_3 zm_137) rfl rfl rfl (by decide +kernel) ⟨Nat.le_of_ble_eq_true rfl, Nat.le_of_ble_eq_true rfl⟩) (xp_preV (ci := 1) (q0 := 1) hK hP rfl rfl rfl hZ) rfl rfl hl.1 rfl (lv_room (Nat.le_of_ble_eq_true rfl)) d_E_reads_5 ⟨Nat.zero_le _, Nat.zero_le _⟩) ?_
  refine lv_if_eq (tgt := 25) hx hb d_E_reads_8 (by decide) (fun hc8 => ?_) (fun hc8 => ?_)
  · skip
    rw [xb_0] at hc8
    refine lv_iconst (v := nI 0) hx hb d_E_reads_25 (by decide +kernel) ?_
    refine lv_istore_n (lv' := [(2, .int (nI 0)), (0, .ref (q 0)), (1, .int k)]) hx hb d_E_reads_26 rfl hl (Nat.le_of_ble_eq_true rfl) rfl (fun ls hl => ?_)
    refine lv_iconst (v := nI 1) hx hb d_E_reads_27 (by decide +kernel) ?_
    refine lv_aload_n hx hb d_E_reads_28 rfl (lv_at hl 1 rfl) ?_
    refine va_get (D := D) (ci := 0) (v := .ref (q 1)) (C := R_E) (T := F_E) (N := 4) hx hb hts (zi_E _) hown hK hP 0 rfl rfl 1 (by decide) (hts _ (List.mem_cons_of_mem _ zm_114)) (fun _ h9 => h9) rfl d_E_reads_29 ?_
    refine lv_iload_n hx hb d_E_reads_32 rfl (lv_at hl 2 rfl) ?_
    refine xa_cI (va_runV (As := [.int k]) (rest := [.int (nI 1)]) ⟨hx, hb, hml, hown, hts⟩ (c_K_bpu l D q cA lim kf kg af bf rk rv rm rs rn bp bk bv bo bn K k hT) (cwV 1 hts (zg_V zm_266 zm_267 zm_268 zm_3 zm_269) rfl rfl rfl (by decide +kernel) ⟨Nat.le_of_ble_eq_true rfl, Nat.le_of_ble_eq_true rfl⟩) (xp_preV (ci := 1) (q0 := 1) hK hP rfl rfl rfl hZ) rfl rfl hl.1 rfl (lv_room (Nat.le_of_ble_eq_true rfl)) d_E_reads_33 ⟨Nat.zero_le _, Nat.zero_le _⟩) ?_
    refine lv_iadd hx hb d_E_reads_36 ?_
    refine xa_top (y := nI (1 + xo_rd K k)) (nI_add _ _) ?_
    refine lv_iload_n hx hb d_E_reads_37 rfl (lv_at hl 0 rfl) ?_
    refine lv_iadd hx hb d_E_reads_38 ?_
    refine xa_top (y := nI (1 + xo_rd K k + 0)) (nI_add _ _) ?_
    exact W.iret (v := nI (1 + xo_rd K k + 0)) hx hb hr (fun tJ htJ hWJ => ⟨_, rfl, by first | rw [if_pos hc8] | rw [if_neg (by simp [hc8])], htJ⟩) (fun _ h => by cases h) d_E_reads_39
  · skip
    rw [xb_1] at hc8
    refine lv_aload_n hx hb d_E_reads_11 rfl (lv_at hl 0 rfl) ?_
    refine va_get (D := D) (ci := 0) (v := .ref (q 1)) (C := R_E) (T := F_E) (N := 4) hx hb hts (zi_E _) hown hK hP 0 rfl rfl 1 (by decide) (hts _ (List.mem_cons_of_mem _ zm_114)) (fun _ h9 => h9) rfl d_E_reads_12 ?_
    refine lv_iload_n hx hb d_E_reads_15 rfl (lv_at hl 1 rfl) ?_
    refine xa_cJ (va_runV (As := [.int k]) (rest := []) ⟨hx, hb, hml, hown, hts⟩ (c_K_valueOf l D q cA lim kf kg af bf rk rv rm rs rn bp bk bv bo bn K k hT) (cwV 1 hts (zg_V zm_150 zm_151 zm_152 zm_3 zm_153) rfl rfl rfl (by decide +kernel) ⟨Nat.le_of_ble_eq_true rfl, Nat.le_of_ble_eq_true rfl⟩) (xp_preV (ci := 1) (q0 := 1) hK hP rfl rfl rfl hZ) rfl rfl hl.1 rfl (lv_room (Nat.le_of_ble_eq_true rfl)) d_E_reads_16 ⟨Nat.zero_le _, Nat.zero_le _⟩) ?_
    refine xa_cI (va_runS (As := [.long (xk_get K k)]) (rest := []) ⟨hx, hb, hml, hown, hts⟩ (c_E_valp l (xk_get K k)) (cwS 1 hts (zg_S zm_265 zm_223 zm_1 zm_224) rfl rfl rfl (by decide +kernel) ⟨Nat.le_of_ble_eq_true rfl, Nat.le_of_ble_eq_true rfl⟩) xp_preS rfl rfl hl.1 rfl (lv_room (Nat.le_of_ble_eq_true rfl)) d_E_reads_19 ⟨Nat.zero_le _, Nat.zero_le _⟩) ?_
    refine lv_goto (tgt := 26) hx hb d_E_reads_22 (by decide) ?_
    refine lv_istore_n (lv' := [(2, .int (nI (xv_vp (xk_get K k)))), (0, .ref (q 0)), (1, .int k)]) hx hb d_E_reads_26 rfl hl (Nat.le_of_ble_eq_true rfl) rfl (fun ls hl => ?_)
    refine lv_iconst (v := nI 1) hx hb d_E_reads_27 (by decide +kernel) ?_
    refine lv_aload_n hx hb d_E_reads_28 rfl (lv_at hl 1 rfl) ?_
    refine va_get (D := D) (ci := 0) (v := .ref (q 1)) (C := R_E) (T := F_E) (N := 4) hx hb hts (zi_E _) hown hK hP 0 rfl rfl 1 (by decide) (hts _ (List.mem_cons_of_mem _ zm_114)) (fun _ h9 => h9) rfl d_E_reads_29 ?_
    refine lv_iload_n hx hb d_E_reads_32 rfl (lv_at hl 2 rfl) ?_
    refine xa_cI (va_runV (As := [.int k]) (rest := [.int (nI 1)]) ⟨hx, hb, hml, hown, hts⟩ (c_K_bpu l D q cA lim kf kg af bf rk rv rm rs rn bp bk bv bo bn K k hT) (cwV 1 hts (zg_V zm_266 zm_267 zm_268 zm_3 zm_269) rfl rfl rfl (by decide +kernel) ⟨Nat.le_of_ble_eq_true rfl, Nat.le_of_ble_eq_true rfl⟩) (xp_preV (ci := 1) (q0 := 1) hK hP rfl rfl rfl hZ) rfl rfl hl.1 rfl (lv_room (Nat.le_of_ble_eq_true rfl)) d_E_reads_33 ⟨Nat.zero_le _, Nat.zero_le _⟩) ?_
    refine lv_iadd hx hb d_E_reads_36 ?_
    refine xa_top (y := nI (1 + xo_rd K k)) (nI_add _ _) ?_
    refine lv_iload_n hx hb d_E_reads_37 rfl (lv_at hl 0 rfl) ?_
    refine lv_iadd hx hb d_E_reads_38 ?_
    refine xa_top (y := nI (1 + xo_rd K k + xv_vp (xk_get K k))) (nI_add _ _) ?_
    exact W.iret (v := nI (1 + xo_rd K k + xv_vp (xk_get K k))) hx hb hr (fun tJ htJ hWJ => ⟨_, rfl, by first | rw [if_pos hc8] | rw [if_neg (by simp [hc8])], htJ⟩) (fun _ h => by cases h) d_E_reads_39
set_option maxHeartbeats 4000000 in
set_option maxRecDepth 100000 in
theorem c_E_size (l : Launch) (D : va_G) (q : Nat → Nat) (cA : Nat → ClassId) (lim : Int32) (kf : Nat → Int32) (kg : Nat → Int64) (af : Nat → Int32) (bf : Nat → Int32) (rk : Nat → Int32) (rv : Nat → Int64) (rm : Nat → Int32) (rs : Nat → Int32) (rn : Int32) (bp : Nat → Int32) (bk : Nat → Int32) (bv : Nat → Int64) (bo : Int32) (bn : Int32) (K : List xk_E) (hT : xw_KT kf kg af bf K) : Met l y_E_size zw_E_size ({ frames := 0, cells := 0, slots := 0, locals := 0 } : Room) (va_Pc [.ref (q 0)] (xp_R D zz_cl (xw_tC cA) (xw_C q cA lim kf kg (nI K.length) af bf rk rv rm rs rn bp bk bv bo bn))) (vp_Si (fun r : Int32 => r = (nI K.length))) 0 0 (fun _ => False) := by
  refine Met.ofW (cc := b_E_size) (maxL := 1) (ret := (some .int)) (by decide) rfl ?_
  intro pJ eJ s mJ args below meth cJ s₁ B hml hv
  obtain ⟨rfl, hP, hK, hZ⟩ := hv
  have hx := B.exec
  have hb := B.bytes
  have hr := B.returns
  have hts := atoms_spec (ws := zw_E_size) B.pre
  have hown : s.vm.findClass R_E = some mJ.cls := findClass_of_methodNamed B.named
  have hlocks := B.notSynchronized
  have hl := lv_entry ([.ref (q 0)]) (n := 1) (Nat.le_of_ble_eq_true rfl)
  rw [lg_entry_eq]
  generalize (lg_sl ([.ref (q 0)]) ++ List.replicate (1 - (lg_sl ([.ref (q 0)])).length) Slot.unset).toArray = ls at hl ⊢
  have hl : lv_has ls 1 [(0, .ref (q 0))] := hl
  refine lv_aload_n hx hb d_E_size_0 rfl (lv_at hl 0 rfl) ?_
  refine va_get (D := D) (ci := 0) (v := .ref (q 1)) (C := R_E) (T := F_E) (N := 4) hx hb hts (zi_E _) hown hK hP 0 rfl rfl 1 (by decide) (hts _ (List.mem_cons_of_mem _ zm_114)) (fun _ h9 => h9) rfl d_E_size_1 ?_
  refine va_getN (D := D) (ci := 1) (v := .int (nI K.length)) (C := R_K) (T := F_K) (N := 4) hx hb hts (zi_K _) hown hK hP 1 rfl rfl 3 (by decide) (va_Nw.use rfl (hZ _ zn_49)) (fun _ h9 => h9) rfl d_E_size_4 ?_
  exact W.iret (v := nI K.length) hx hb hr (fun tJ htJ hWJ => ⟨_, rfl, rfl, htJ⟩) (fun _ h => by cases h) d_E_size_7
set_option maxHeartbeats 4000000 in
set_option maxRecDepth 100000 in
theorem c_E_pages (l : Launch) (D : va_G) (q : Nat → Nat) (cA : Nat → ClassId) (lim : Int32) (kf : Nat → Int32) (kg : Nat → Int64) (af : Nat → Int32) (bf : Nat → Int32) (rk : Nat → Int32) (rv : Nat → Int64) (rm : Nat → Int32) (rs : Nat → Int32) (rn : Int32) (bp : Nat → Int32) (bk : Nat → Int32) (bv : Nat → Int64) (bo : Int32) (bn : Int32) (K : List xk_E) (hT : xw_KT kf kg af bf K) : Met l y_E_pages zw_E_pages ({ frames := 5, cells := 0, slots := 0, locals := 108 } : Room) (va_Pc [.ref (q 0)] (xp_R D zz_cl (xw_tC cA) (xw_C q cA lim kf kg (nI K.length) af bf rk rv rm rs rn bp bk bv bo bn))) (vp_Si (fun r : Int32 => r = (nI (xd_pg K)))) 0 0 (fun _ => False) := by
  refine Met.ofW (cc := b_E_pages) (maxL := 1) (ret := (some .int)) (by decide) rfl ?_
  intro pJ eJ s mJ args below meth cJ s₁ B hml hv
  obtain ⟨rfl, hP, hK, hZ⟩ := hv
  have hx := B.exec
  have hb := B.bytes
  have hr := B.returns
  have hts := atoms_spec (ws := zw_E_pages) B.pre
  have hown : s.vm.findClass R_E = some mJ.cls := findClass_of_methodNamed B.named
  have hlocks := B.notSynchronized
  have hl := lv_entry ([.ref (q 0)]) (n := 1) (Nat.le_of_ble_eq_true rfl)
  rw [lg_entry_eq]
  generalize (lg_sl ([.ref (q 0)]) ++ List.replicate (1 - (lg_sl ([.ref (q 0)])).length) Slot.unset).toArray = ls at hl ⊢
  have hl : lv_has ls 1 [(0, .ref (q 0))] := hl
  refine lv_aload_n hx hb d_E_pages_0 rfl (lv_at hl 0 rfl) ?_
  refine va_get (D := D) (ci := 0) (v := .ref (q 1)) (C := R_E) (T := F_E) (N := 4) hx hb hts (zi_E _) hown hK hP 0 rfl rfl 1 (by decide) (hts _ (List.mem_cons_of_mem _ zm_114)) (fun _ h9 => h9) rfl d_E_pages_1 ?_
  refine xa_cI (va_runV (As := []) (rest := []) ⟨hx, hb, hml, hown, hts⟩ (c_K_pages l D q cA lim kf kg af bf rk rv rm rs rn bp bk bv bo bn K hT) (cwV 0 hts (zg_V zm_187 zm_188 zm_189 zm_3 zm_190) rfl rfl rfl (by decide +kernel) ⟨Nat.le_of_ble_eq_true rfl, Nat.le_of_ble_eq_true rfl⟩) (xp_preV (ci := 1) (q0 := 1) hK hP rfl rfl rfl hZ) rfl rfl hl.1 rfl (lv_room (Nat.le_of_ble_eq_true rfl)) d_E_pages_4 ⟨Nat.zero_le _, Nat.zero_le _⟩) ?_
  exact W.iret (v := nI (xd_pg K)) hx hb hr (fun tJ htJ hWJ => ⟨_, rfl, rfl, htJ⟩) (fun _ h => by cases h) d_E_pages_7
set_option maxHeartbeats 4000000 in
set_option maxRecDepth 100000 in
theorem c_E_gdep (l : Launch) (D : va_G) (q : Nat → Nat) (cA : Nat → ClassId) (lim : Int32) (kf : Nat → Int32) (kg : Nat → Int64) (af : Nat → Int32) (bf : Nat → Int32) (rk : Nat → Int32) (rv : Nat → Int64) (rm : Nat → Int32) (rs : Nat → Int32) (rn : Int32) (bp : Nat → Int32) (bk : Nat → Int32) (bv : Nat → Int64) (bo : Int32) (bn : Int32) (K : List xk_E) (hT : xw_KT kf kg af bf K) : Met l y_E_globalDepth zw_E_globalDepth ({ frames := 3, cells := 0, slots := 0, locals := 66 } : Room) (va_Pc [.ref (q 0)] (xp_R D zz_cl (xw_tC cA) (xw_C q cA lim kf kg (nI K.length) af bf rk rv rm rs rn bp bk bv bo bn))) (vp_Si (fun r : Int32 => r = (nI (xd_gm K 64)))) 0 0 (fun _ => False) := by
  refine Met.ofW (cc := b_E_globalDepth) (maxL := 1) (ret := (some .int)) (by decide) rfl ?_
  intro pJ eJ s mJ args below meth cJ s₁ B hml hv
  obtain ⟨rfl, hP, hK, hZ⟩ := hv
  have hx := B.exec
  have hb := B.bytes
  have hr := B.returns
  have hts := atoms_spec (ws := zw_E_globalDepth) B.pre
  have hown : s.vm.findClass R_E = some mJ.cls := findClass_of_methodNamed B.named
  have hlocks := B.notSynchronized
  have hl := lv_entry ([.ref (q 0)]) (n := 1) (Nat.le_of_ble_eq_true rfl)
  rw [lg_entry_eq]
  generalize (lg_sl ([.ref (q 0)]) ++ List.replicate (1 - (lg_sl ([.ref (q 0)])).length) Slot.unset).toArray = ls at hl ⊢
  have hl : lv_has ls 1 [(0, .ref (q 0))] := hl
  refine lv_aload_n hx hb d_E_globalDepth_0 rfl (lv_at hl 0 rfl) ?_
  refine va_get (D := D) (ci := 0) (v := .ref (q 1)) (C := R_E) (T := F_E) (N := 4) hx hb hts (zi_E _) hown hK hP 0 rfl rfl 1 (by decide) (hts _ (List.mem_cons_of_mem _ zm_114)) (fun _ h9 => h9) rfl d_E_globalDepth_1 ?_
  refine va_getN (D := D) (ci := 1) (v := .ref (q 2)) (C := R_K) (T := F_K) (N := 4) hx hb hts (zi_K _) hown hK hP 1 rfl rfl 2 (by decide) (va_Nw.use rfl (hZ _ zn_47)) (fun _ h9 => h9) rfl d_E_globalDepth_4 ?_
  refine xa_cI (va_runV (As := []) (rest := []) ⟨hx, hb, hml, hown, hts⟩ (c_C_deep l D q cA lim kf kg af bf rk rv rm rs rn bp bk bv bo bn K hT) (cwV 0 hts (zg_V zm_334 zm_192 zm_193 zm_4 zm_194) rfl rfl rfl (by decide +kernel) ⟨Nat.le_of_ble_eq_true rfl, Nat.le_of_ble_eq_true rfl⟩) (xp_preV (ci := 2) (q0 := 2) hK hP rfl rfl rfl hZ) rfl rfl hl.1 rfl (lv_room (Nat.le_of_ble_eq_true rfl)) d_E_globalDepth_7 ⟨Nat.zero_le _, Nat.zero_le _⟩) ?_
  exact W.iret (v := nI (xd_gm K 64)) hx hb hr (fun tJ htJ hWJ => ⟨_, rfl, rfl, htJ⟩) (fun _ h => by cases h) d_E_globalDepth_10
set_option maxHeartbeats 4000000 in
set_option maxRecDepth 100000 in
theorem c_E_ldep (l : Launch) (D : va_G) (q : Nat → Nat) (cA : Nat → ClassId) (lim : Int32) (kf : Nat → Int32) (kg : Nat → Int64) (af : Nat → Int32) (bf : Nat → Int32) (rk : Nat → Int32) (rv : Nat → Int64) (rm : Nat → Int32) (rs : Nat → Int32) (rn : Int32) (bp : Nat → Int32) (bk : Nat → Int32) (bv : Nat → Int64) (bo : Int32) (bn : Int32) (K : List xk_E) (k : Int32) (hT : xw_KT kf kg af bf K) : Met l y_E_localDepth zw_E_localDepth ({ frames := 2, cells := 0, slots := 0, locals := 44 } : Room) (va_Pc [.ref (q 0), .int k] (xp_R D zz_cl (xw_tC cA) (xw_C q cA lim kf kg (nI K.length) af bf rk rv rm rs rn bp bk bv bo bn))) (vp_Si (fun r : Int32 => r = (nI (xd_dp K (xk_h k))))) 0 0 (fun _ => False) := by
  refine Met.ofW (cc := b_E_localDepth) (maxL := 2) (ret := (some .int)) (by decide) rfl ?_
  intro pJ eJ s mJ args below meth cJ s₁ B hml hv
  obtain ⟨rfl, hP, hK, hZ⟩ := hv
  have hx := B.exec
  have hb := B.bytes
  have hr := B.returns
  have hts := atoms_spec (ws := zw_E_localDepth) B.pre
  have hown : s.vm.findClass R_E = some mJ.cls := findClass_of_methodNamed B.named
  have hlocks := B.notSynchronized
  have hl := lv_entry ([.ref (q 0), .int k]) (n := 2) (Nat.le_of_ble_eq_true rfl)
  rw [lg_entry_eq]
  generalize (lg_sl ([.ref (q 0), .int k]) ++ List.replicate (2 - (lg_sl ([.ref (q 0), .int k])).length) Slot.unset).toArray = ls at hl ⊢
  have hl : lv_has ls 2 [(0, .ref (q 0)), (1, .int k)] := hl
  have hh := xk_h_lt k
  refine lv_aload_n hx hb d_E_localDepth_0 rfl (lv_at hl 0 rfl) ?_
  refine va_get (D := D) (ci := 0) (v := .ref (q 1)) (C := R_E) (T := F_E) (N := 4) hx hb hts (zi_E _) hown hK hP 0 rfl rfl 1 (by decide) (hts _ (List.mem_cons_of_mem _ zm_114)) (fun _ h9 => h9) rfl d_E_localDepth_1 ?_
  refine va_getN (D := D) (ci := 1) (v := .ref (q 2)) (C := R_K) (T := F_K) (N := 4) hx hb hts (zi_K _) hown hK hP 1 rfl rfl 2 (by decide) (va_Nw.use rfl (hZ _ zn_47)) (fun _ h9 => h9) rfl d_E_localDepth_4 ?_
  refine lv_iload_n hx hb d_E_localDepth_7 rfl (lv_at hl 1 rfl) ?_
  refine xa_cI (va_runS (As := [.int k]) (rest := [.ref (q 2)]) ⟨hx, hb, hml, hown, hts⟩ (c_E_hash l k) (cwS 1 hts (zg_S zm_339 zm_174 zm_1 zm_175) rfl rfl rfl (by decide +kernel) ⟨Nat.le_of_ble_eq_true rfl, Nat.le_of_ble_eq_true rfl⟩) xp_preS rfl rfl hl.1 rfl (lv_room (Nat.le_of_ble_eq_true rfl)) d_E_localDepth_8 ⟨Nat.zero_le _, Nat.zero_le _⟩) ?_
  refine xa_cI (va_runV (As := [.int (nI (xk_h k))]) (rest := []) ⟨hx, hb, hml, hown, hts⟩ (c_C_dep l D q cA lim kf kg af bf rk rv rm rs rn bp bk bv bo bn K (xk_h k) hT (by omega)) (cwV 1 hts (zg_V zm_340 zm_196 zm_197 zm_4 zm_198) rfl rfl rfl (by decide +kernel) ⟨Nat.le_of_ble_eq_true rfl, Nat.le_of_ble_eq_true rfl⟩) (xp_preV (ci := 2) (q0 := 2) hK hP rfl rfl rfl hZ) rfl rfl hl.1 rfl (lv_room (Nat.le_of_ble_eq_true rfl)) d_E_localDepth_11 ⟨Nat.zero_le _, Nat.zero_le _⟩) ?_
  exact W.iret (v := nI (xd_dp K (xk_h k))) hx hb hr (fun tJ htJ hWJ => ⟨_, rfl, rfl, htJ⟩) (fun _ h => by cases h) d_E_localDepth_14
set_option maxHeartbeats 4000000 in
set_option maxRecDepth 100000 in
theorem c_E_bkts (l : Launch) (D : va_G) (q : Nat → Nat) (cA : Nat → ClassId) (lim : Int32) (kf : Nat → Int32) (kg : Nat → Int64) (af : Nat → Int32) (bf : Nat → Int32) (rk : Nat → Int32) (rv : Nat → Int64) (rm : Nat → Int32) (rs : Nat → Int32) (rn : Int32) (bp : Nat → Int32) (bk : Nat → Int32) (bv : Nat → Int64) (bo : Int32) (bn : Int32) (K : List xk_E) (hT : xw_KT kf kg af bf K) : Met l y_E_buckets zw_E_buckets ({ frames := 5, cells := 0, slots := 0, locals := 108 } : Room) (va_Pc [.ref (q 0)] (xp_R D zz_cl (xw_tC cA) (xw_C q cA lim kf kg (nI K.length) af bf rk rv rm rs rn bp bk bv bo bn))) (vp_Si (fun r : Int32 => r = (nI ((xo_pls K 64).length)))) 0 0 (fun _ => False) := by
  refine Met.ofW (cc := b_E_buckets) (maxL := 1) (ret := (some .int)) (by decide) rfl ?_
  intro pJ eJ s mJ args below meth cJ s₁ B hml hv
  obtain ⟨rfl, hP, hK, hZ⟩ := hv
  have hx := B.exec
  have hb := B.bytes
  have hr := B.returns
  have hts := atoms_spec (ws := zw_E_buckets) B.pre
  have hown : s.vm.findClass R_E = some mJ.cls := findClass_of_methodNamed B.named
  have hlocks := B.notSynchronized
  have hl := lv_entry ([.ref (q 0)]) (n := 1) (Nat.le_of_ble_eq_true rfl)
  rw [lg_entry_eq]
  generalize (lg_sl ([.ref (q 0)]) ++ List.replicate (1 - (lg_sl ([.ref (q 0)])).length) Slot.unset).toArray = ls at hl ⊢
  have hl : lv_has ls 1 [(0, .ref (q 0))] := hl
  refine lv_aload_n hx hb d_E_buckets_0 rfl (lv_at hl 0 rfl) ?_
  refine va_get (D := D) (ci := 0) (v := .ref (q 1)) (C := R_E) (T := F_E) (N := 4) hx hb hts (zi_E _) hown hK hP 0 rfl rfl 1 (by decide) (hts _ (List.mem_cons_of_mem _ zm_114)) (fun _ h9 => h9) rfl d_E_buckets_1 ?_
  refine va_getN (D := D) (ci := 1) (v := .ref (q 2)) (C := R_K) (T := F_K) (N := 4) hx hb hts (zi_K _) hown hK hP 1 rfl rfl 2 (by decide) (va_Nw.use rfl (hZ _ zn_47)) (fun _ h9 => h9) rfl d_E_buckets_4 ?_
  refine xa_cI (va_runV (As := []) (rest := []) ⟨hx, hb, hml, hown, hts⟩ (c_C_cntP l D q cA lim kf kg af bf rk rv rm rs rn bp bk bv bo bn K hT) (cwV 0 hts (zg_V zm_345 zm_346 zm_347 zm_4 zm_348) rfl rfl rfl (by decide +kernel) ⟨Nat.le_of_ble_eq_true rfl, Nat.le_of_ble_eq_true rfl⟩) (xp_preV (ci := 2) (q0 := 2) hK hP rfl rfl rfl hZ) rfl rfl hl.1 rfl (lv_room (Nat.le_of_ble_eq_true rfl)) d_E_buckets_7 ⟨Nat.zero_le _, Nat.zero_le _⟩) ?_
  exact W.iret (v := nI ((xo_pls K 64).length)) hx hb hr (fun tJ htJ hWJ => ⟨_, rfl, rfl, htJ⟩) (fun _ h => by cases h) d_E_buckets_10
set_option maxHeartbeats 4000000 in
set_option maxRecDepth 100000 in
theorem c_E_keyAt (l : Launch) (D : va_G) (q : Nat → Nat) (cA : Nat → ClassId) (lim : Int32) (kf : Nat → Int32) (kg : Nat → Int64) (af : Nat → Int32) (bf : Nat → Int32) (rk : Nat → Int32) (rv : Nat → Int64) (rm : Nat → Int32) (rs : Nat → Int32) (rn : Int32) (bp : Nat → Int32) (bk : Nat → Int32) (bv : Nat → Int64) (bo : Int32) (bn : Int32) (K : List xk_E) (x : Int32) (hT : xw_KT kf kg af bf K) : Met l y_E_keyAt zw_E_keyAt ({ frames := 5, cells := 0, slots := 0, locals := 114 } : Room) (va_Pc [.ref (q 0), .int x] (xp_R D zz_cl (xw_tC cA) (xw_C q cA lim kf kg (nI K.length) af bf rk rv rm rs rn bp bk bv bo bn))) (vp_Si (fun r : Int32 => r = (xo_ka K x))) 0 0 (fun _ => False) := by
  refine Met.ofW (cc := b_E_keyAt) (maxL := 2) (ret := (some .int)) (by decide) rfl ?_
  intro pJ eJ s mJ args below meth cJ s₁ B hml hv
  obtain ⟨rfl, hP, hK, hZ⟩ := hv
  have hx := B.exec
  have hb := B.bytes
  have hr := B.returns
  have hts := atoms_spec (ws := zw_E_keyAt) B.pre
  have hown : s.vm.findClass R_E = some mJ.cls := findClass_of_methodNamed B.named
  have hlocks := B.notSynchronized
  have hl := lv_entry ([.ref (q 0), .int x]) (n := 2) (Nat.le_of_ble_eq_true rfl)
  rw [lg_entry_eq]
  generalize (lg_sl ([.ref (q 0), .int x]) ++ List.replicate (2 - (lg_sl ([.ref (q 0), .int x])).length) Slot.unset).toArray = ls at hl ⊢
  have hl : lv_has ls 2 [(0, .ref (q 0)), (1, .int x)] := hl
  refine lv_aload_n hx hb d_E_keyAt_0 rfl (lv_at hl 0 rfl) ?_
  refine va_get (D := D) (ci := 0) (v := .ref (q 1)) (C := R_E) (T := F_E) (N := 4) hx hb hts (zi_E _) hown hK hP 0 rfl rfl 1 (by decide) (hts _ (List.mem_cons_of_mem _ zm_114)) (fun _ h9 => h9) rfl d_E_keyAt_1 ?_
  refine lv_iload_n hx hb d_E_keyAt_4 rfl (lv_at hl 1 rfl) ?_
  refine xa_cI (va_runV (As := [.int x]) (rest := []) ⟨hx, hb, hml, hown, hts⟩ (c_K_kipo l D q cA lim kf kg af bf rk rv rm rs rn bp bk bv bo bn K x hT) (cwV 1 hts (zg_V zm_359 zm_360 zm_361 zm_3 zm_362) rfl rfl rfl (by decide +kernel) ⟨Nat.le_of_ble_eq_true rfl, Nat.le_of_ble_eq_true rfl⟩) (xp_preV (ci := 1) (q0 := 1) hK hP rfl rfl rfl hZ) rfl rfl hl.1 rfl (lv_room (Nat.le_of_ble_eq_true rfl)) d_E_keyAt_5 ⟨Nat.zero_le _, Nat.zero_le _⟩) ?_
  exact W.iret (v := xo_ka K x) hx hb hr (fun tJ htJ hWJ => ⟨_, rfl, rfl, htJ⟩) (fun _ h => by cases h) d_E_keyAt_8
set_option maxHeartbeats 4000000 in
set_option maxRecDepth 100000 in
theorem c_E_bAt (l : Launch) (D : va_G) (q : Nat → Nat) (cA : Nat → ClassId) (lim : Int32) (kf : Nat → Int32) (kg : Nat → Int64) (af : Nat → Int32) (bf : Nat → Int32) (rk : Nat → Int32) (rv : Nat → Int64) (rm : Nat → Int32) (rs : Nat → Int32) (rn : Int32) (bp : Nat → Int32) (bk : Nat → Int32) (bv : Nat → Int64) (bo : Int32) (bn : Int32) (K : List xk_E) (x : Int32) (hT : xw_KT kf kg af bf K) : Met l y_E_bucketAt zw_E_bucketAt ({ frames := 4, cells := 0, slots := 0, locals := 86 } : Room) (va_Pc [.ref (q 0), .int x] (xp_R D zz_cl (xw_tC cA) (xw_C q cA lim kf kg (nI K.length) af bf rk rv rm rs rn bp bk bv bo bn))) (vp_Si (fun r : Int32 => r = (xo_at K x))) 0 0 (fun _ => False) := by
  refine Met.ofW (cc := b_E_bucketAt) (maxL := 4) (ret := (some .int)) (by decide) rfl ?_
  intro pJ eJ s mJ args below meth cJ s₁ B hml hv
  obtain ⟨rfl, hP, hK, hZ⟩ := hv
  have hx := B.exec
  have hb := B.bytes
  have hr := B.returns
  have hts := atoms_spec (ws := zw_E_bucketAt) B.pre
  have hown : s.vm.findClass R_E = some mJ.cls := findClass_of_methodNamed B.named
  have hlocks := B.notSynchronized
  have hl := lv_entry ([.ref (q 0), .int x]) (n := 4) (Nat.le_of_ble_eq_true rfl)
  rw [lg_entry_eq]
  generalize (lg_sl ([.ref (q 0), .int x]) ++ List.replicate (4 - (lg_sl ([.ref (q 0), .int x])).length) Slot.unset).toArray = ls at hl ⊢
  have hl : lv_has ls 4 [(0, .ref (q 0)), (1, .int x)] := hl
  refine lv_iload_n hx hb d_E_bucketAt_0 rfl (lv_at hl 1 rfl) ?_
  refine lv_if_ge (tgt := 6) hx hb d_E_bucketAt_1 (by decide) (fun hc1 => ?_) (fun hc1 => ?_)
  · skip
    obtain ⟨j, hj, hxj⟩ := nI_of (xk_nlt2 hc1)
    refine lv_iload_n hx hb d_E_bucketAt_6 rfl (lv_at hl 1 rfl) ?_
    refine xa_top (y := nI j) hxj ?_
    refine lv_istore_n (lv' := [(2, .int (nI j)), (0, .ref (q 0)), (1, .int x)]) hx hb d_E_bucketAt_7 rfl hl (Nat.le_of_ble_eq_true rfl) rfl (fun ls hl => ?_)
    refine lv_iconst (v := nI 0) hx hb d_E_bucketAt_8 (by decide +kernel) ?_
    refine lv_istore_n (lv' := [(3, .int (nI 0)), (2, .int (nI j)), (0, .ref (q 0)), (1, .int x)]) hx hb d_E_bucketAt_9 rfl hl (Nat.le_of_ble_eq_true rfl) rfl (fun ls hl => ?_)
    have lp10 : ∀ (N : Nat) (p : Nat) (t : Nat) (ls : Array Slot), (p ≤ 64) → (t + (xo_pls K p).length = j) → lv_has ls 4 [(0, .ref (q 0)), (1, .int x), (2, .int (nI t)), (3, .int (nI p))] → 64 - p < N → W pJ l eJ (headSpec zw_E_bucketAt ({ frames := 4, cells := 0, slots := 0, locals := 86 } : Room)).room s mJ ([.ref (q 0), .int x] : List Value).toArray below meth cJ s.heap [] 0 0 (MQ below (vp_Si (fun r : Int32 => r = (xo_at K x))) ([.ref (q 0), .int x] : List Value).toArray s 0 0 (fun _ => False)) (F0 mJ 10 ls []) := by
      intro N
      induction N with
      | zero => intro p t ls hp ht hl hm; exact absurd hm (Nat.not_lt_zero _)
      | succ N ih10 =>
        intro p t ls hp ht hl hm
        refine lv_iload_n hx hb d_E_bucketAt_10 rfl (lv_at hl 3 rfl) ?_
        refine lv_bipush (v := nI 64) hx hb d_E_bucketAt_11 (by decide +kernel) ?_
        refine lv_icmp_ge (tgt := 45) hx hb d_E_bucketAt_13 (by decide) (fun hc13 => ?_) (fun hc13 => ?_)
        · skip
          rw [nI_leI (by omega) (by omega)] at hc13
          refine lv_iconst (v := (-1)) hx hb d_E_bucketAt_45 (by decide +kernel) ?_
          exact W.iret (v := (-1)) hx hb hr (fun tJ htJ hWJ => ⟨_, rfl, by rw [hxj]; exact xw_atE hj (by rw [show p = 64 from by omega] at ht; omega), htJ⟩) (fun _ h => by cases h) d_E_bucketAt_46
        · skip
          rw [nI_leI (by omega) (by omega)] at hc13
          refine lv_aload_n hx hb d_E_bucketAt_16 rfl (lv_at hl 0 rfl) ?_
          refine va_get (D := D) (ci := 0) (v := .ref (q 1)) (C := R_E) (T := F_E) (N := 4) hx hb hts (zi_E _) hown hK hP 0 rfl rfl 1 (by decide) (hts _ (List.mem_cons_of_mem _ zm_114)) (fun _ h9 => h9) rfl d_E_bucketAt_17 ?_
          refine va_getN (D := D) (ci := 1) (v := .ref (q 2)) (C := R_K) (T := F_K) (N := 4) hx hb hts (zi_K _) hown hK hP 1 rfl rfl 2 (by decide) (va_Nw.use rfl (hZ _ zn_47)) (fun _ h9 => h9) rfl d_E_bucketAt_20 ?_
          refine lv_iload_n hx hb d_E_bucketAt_23 rfl (lv_at hl 3 rfl) ?_
          refine xa_cI (va_runV (As := [.int (nI p)]) (rest := []) ⟨hx, hb, hml, hown, hts⟩ (c_C_isP l D q cA lim kf kg af bf rk rv rm rs rn bp bk bv bo bn K p hT (by omega)) (cwV 1 hts (zg_V zm_354 zm_208 zm_209 zm_4 zm_210) rfl rfl rfl (by decide +kernel) ⟨Nat.le_of_ble_eq_true rfl, Nat.le_of_ble_eq_true rfl⟩) (xp_preV (ci := 2) (q0 := 2) hK hP rfl rfl rfl hZ) rfl rfl hl.1 rfl (lv_room (Nat.le_of_ble_eq_true rfl)) d_E_bucketAt_24 ⟨Nat.zero_le _, Nat.zero_le _⟩) ?_
          refine lv_if_eq (tgt := 39) hx hb d_E_bucketAt_27 (by decide) (fun hc27 => ?_) (fun hc27 => ?_)
          · skip
            rw [xb_0] at hc27
            refine lv_iinc (k := 3) (v := nI (p + 1)) (lv' := [(3, .int (nI (p + 1))), (0, .ref (q 0)), (1, .int x), (2, .int (nI t))]) hx hb d_E_bucketAt_39 hl rfl (xn_inc _) (Nat.le_of_ble_eq_true rfl) rfl (fun ls hl => ?_)
            refine lv_goto (tgt := 10) hx hb d_E_bucketAt_42 (by decide) ?_
            exact ih10 (p + 1) t ls (by omega) (by first | (rw [xo_pls_len, if_pos hc27]; omega) | (rw [xo_pls_len, if_neg (by simp [hc27])]; exact ht)) (lv_sub hl [1, 2, 3, 0] rfl) (by omega)
          · skip
            rw [xb_1] at hc27
            refine lv_iload_n hx hb d_E_bucketAt_30 rfl (lv_at hl 2 rfl) ?_
            refine lv_if_ne (tgt := 36) hx hb d_E_bucketAt_31 (by decide) (fun hc31 => ?_) (fun hc31 => ?_)
            · skip
              rw [xn_ne0 (by omega)] at hc31
              refine lv_iinc (k := 2) (v := nI (t - 1)) (lv' := [(2, .int (nI (t - 1))), (0, .ref (q 0)), (1, .int x), (3, .int (nI p))]) hx hb d_E_bucketAt_36 hl rfl (xn_dec (by omega)) (Nat.le_of_ble_eq_true rfl) rfl (fun ls hl => ?_)
              refine lv_iinc (k := 3) (v := nI (p + 1)) (lv' := [(3, .int (nI (p + 1))), (2, .int (nI (t - 1))), (0, .ref (q 0)), (1, .int x)]) hx hb d_E_bucketAt_39 hl rfl (xn_inc _) (Nat.le_of_ble_eq_true rfl) rfl (fun ls hl => ?_)
              refine lv_goto (tgt := 10) hx hb d_E_bucketAt_42 (by decide) ?_
              exact ih10 (p + 1) (t - 1) ls (by omega) (by first | (rw [xo_pls_len, if_pos hc27]; omega) | (rw [xo_pls_len, if_neg (by simp [hc27])]; exact ht)) (lv_sub hl [2, 3, 1, 0] rfl) (by omega)
            · skip
              rw [xn_ne0 (by omega)] at hc31
              refine lv_iload_n hx hb d_E_bucketAt_34 rfl (lv_at hl 3 rfl) ?_
              exact W.iret (v := nI p) hx hb hr (fun tJ htJ hWJ => ⟨_, rfl, by rw [hxj, ← ht, hc31, Nat.zero_add]; exact (xo_at_hit (by omega) hc27).symm, htJ⟩) (fun _ h => by cases h) d_E_bucketAt_35
    exact lp10 _ 0 j ls (by omega) rfl (lv_sub hl [2, 3, 1, 0] rfl) (Nat.lt_succ_self _)
  · skip
    refine lv_iconst (v := (-1)) hx hb d_E_bucketAt_4 (by decide +kernel) ?_
    exact W.iret (v := (-1)) hx hb hr (fun tJ htJ hWJ => ⟨_, rfl, (xo_at_neg (xk_nle hc1)).symm, htJ⟩) (fun _ h => by cases h) d_E_bucketAt_5
set_option maxHeartbeats 4000000 in
set_option maxRecDepth 100000 in
theorem c_E_unfl (l : Launch) (D : va_G) (q : Nat → Nat) (cA : Nat → ClassId) (lim : Int32) (kf : Nat → Int32) (kg : Nat → Int64) (kn : Int32) (af : Nat → Int32) (bf : Nat → Int32) (rk : Nat → Int32) (rv : Nat → Int64) (rm : Nat → Int32) (rs : Nat → Int32) (bp : Nat → Int32) (bk : Nat → Int32) (bv : Nat → Int64) (bo : Int32) (bn : Int32) (n : Nat)  : Met l y_E_unflushed zw_E_unflushed ({ frames := 0, cells := 0, slots := 0, locals := 0 } : Room) (va_Pc [.ref (q 0)] (xp_R D zz_cl (xw_tC cA) (xw_C q cA lim kf kg kn af bf rk rv rm rs (nI n) bp bk bv bo bn))) (vp_Si (fun r : Int32 => r = (nI n))) 0 0 (fun _ => False) := by
  refine Met.ofW (cc := b_E_unflushed) (maxL := 1) (ret := (some .int)) (by decide) rfl ?_
  intro pJ eJ s mJ args below meth cJ s₁ B hml hv
  obtain ⟨rfl, hP, hK, hZ⟩ := hv
  have hx := B.exec
  have hb := B.bytes
  have hr := B.returns
  have hts := atoms_spec (ws := zw_E_unflushed) B.pre
  have hown : s.vm.findClass R_E = some mJ.cls := findClass_of_methodNamed B.named
  have hlocks := B.notSynchronized
  have hl := lv_entry ([.ref (q 0)]) (n := 1) (Nat.le_of_ble_eq_true rfl)
  rw [lg_entry_eq]
  generalize (lg_sl ([.ref (q 0)]) ++ List.replicate (1 - (lg_sl ([.ref (q 0)])).length) Slot.unset).toArray = ls at hl ⊢
  have hl : lv_has ls 1 [(0, .ref (q 0))] := hl
  refine lv_aload_n hx hb d_E_unflushed_0 rfl (lv_at hl 0 rfl) ?_
  refine va_get (D := D) (ci := 0) (v := .ref (q 3)) (C := R_E) (T := F_E) (N := 4) hx hb hts (zi_E _) hown hK hP 0 rfl rfl 2 (by decide) (hts _ (List.mem_cons_of_mem _ zm_115)) (fun _ h9 => h9) rfl d_E_unflushed_1 ?_
  refine va_getN (D := D) (ci := 3) (v := .int (nI n)) (C := R_R) (T := F_R) (N := 5) hx hb hts (zi_R _) hown hK hP 3 rfl rfl 4 (by decide) (va_Nw.use rfl (hZ _ zn_72)) (fun _ h9 => h9) rfl d_E_unflushed_4 ?_
  exact W.iret (v := nI n) hx hb hr (fun tJ htJ hWJ => ⟨_, rfl, rfl, htJ⟩) (fun _ h => by cases h) d_E_unflushed_7
set_option maxHeartbeats 4000000 in
set_option maxRecDepth 100000 in
theorem c_E_steps (l : Launch) (D : va_G) (q : Nat → Nat) (cA : Nat → ClassId) (lim : Int32) (kf : Nat → Int32) (kg : Nat → Int64) (kn : Int32) (af : Nat → Int32) (bf : Nat → Int32) (rk : Nat → Int32) (rv : Nat → Int64) (rm : Nat → Int32) (rs : Nat → Int32) (rn : Int32) (bp : Nat → Int32) (bk : Nat → Int32) (bv : Nat → Int64) (n : Nat) (bt : Bool)  : Met l y_E_steps zw_E_steps ({ frames := 0, cells := 0, slots := 0, locals := 0 } : Room) (va_Pc [.ref (q 0)] (xp_R D zz_cl (xw_tC cA) (xw_C q cA lim kf kg kn af bf rk rv rm rs rn bp bk bv (xb_i bt) (nI n)))) (vp_Si (fun r : Int32 => r = (if bt = true then nI n else (-1)))) 0 0 (fun _ => False) := by
  refine Met.ofW (cc := b_E_steps) (maxL := 1) (ret := (some .int)) (by decide) rfl ?_
  intro pJ eJ s mJ args below meth cJ s₁ B hml hv
  obtain ⟨rfl, hP, hK, hZ⟩ := hv
  have hx := B.exec
  have hb := B.bytes
  have hr := B.returns
  have hts := atoms_spec (ws := zw_E_steps) B.pre
  have hown : s.vm.findClass R_E = some mJ.cls := findClass_of_methodNamed B.named
  have hlocks := B.notSynchronized
  have hl := lv_entry ([.ref (q 0)]) (n := 1) (Nat.le_of_ble_eq_true rfl)
  rw [lg_entry_eq]
  generalize (lg_sl ([.ref (q 0)]) ++ List.replicate (1 - (lg_sl ([.ref (q 0)])).length) Slot.unset).toArray = ls at hl ⊢
  have hl : lv_has ls 1 [(0, .ref (q 0))] := hl
  refine lv_aload_n hx hb d_E_steps_0 rfl (lv_at hl 0 rfl) ?_
  refine va_get (D := D) (ci := 0) (v := .ref (q 4)) (C := R_E) (T := F_E) (N := 4) hx hb hts (zi_E _) hown hK hP 0 rfl rfl 3 (by decide) (hts _ (List.mem_cons_of_mem _ zm_116)) (fun _ h9 => h9) rfl d_E_steps_1 ?_
  refine va_getN (D := D) (ci := 4) (v := .int (xb_i bt)) (C := R_B) (T := F_B) (N := 5) hx hb hts (zi_B _) hown hK hP 4 rfl rfl 3 (by decide) (va_Nw.use rfl (hZ _ zn_98)) (fun _ h9 => h9) rfl d_E_steps_4 ?_
  refine lv_if_eq (tgt := 20) hx hb d_E_steps_7 (by decide) (fun hc7 => ?_) (fun hc7 => ?_)
  · skip
    rw [xb_0] at hc7
    refine lv_iconst (v := (-1)) hx hb d_E_steps_20 (by decide +kernel) ?_
    exact W.iret (v := (-1)) hx hb hr (fun tJ htJ hWJ => ⟨_, rfl, by first | rw [if_pos hc7] | rw [if_neg (by simp [hc7])], htJ⟩) (fun _ h => by cases h) d_E_steps_21
  · skip
    rw [xb_1] at hc7
    refine lv_aload_n hx hb d_E_steps_10 rfl (lv_at hl 0 rfl) ?_
    refine va_get (D := D) (ci := 0) (v := .ref (q 4)) (C := R_E) (T := F_E) (N := 4) hx hb hts (zi_E _) hown hK hP 0 rfl rfl 3 (by decide) (hts _ (List.mem_cons_of_mem _ zm_116)) (fun _ h9 => h9) rfl d_E_steps_11 ?_
    refine va_getN (D := D) (ci := 4) (v := .int (nI n)) (C := R_B) (T := F_B) (N := 5) hx hb hts (zi_B _) hown hK hP 4 rfl rfl 4 (by decide) (va_Nw.use rfl (hZ _ zn_100)) (fun _ h9 => h9) rfl d_E_steps_14 ?_
    refine lv_goto (tgt := 21) hx hb d_E_steps_17 (by decide) ?_
    exact W.iret (v := nI n) hx hb hr (fun tJ htJ hWJ => ⟨_, rfl, by first | rw [if_pos hc7] | rw [if_neg (by simp [hc7])], htJ⟩) (fun _ h => by cases h) d_E_steps_21
set_option maxHeartbeats 4000000 in
set_option maxRecDepth 100000 in
theorem c_E_steps2 (l : Launch) (D : va_G) (q : Nat → Nat) (cA : Nat → ClassId) (lim : Int32) (kf : Nat → Int32) (kg : Nat → Int64) (af : Nat → Int32) (bf : Nat → Int32) (rk : Nat → Int32) (rv : Nat → Int64) (rm : Nat → Int32) (rs : Nat → Int32) (bp : Nat → Int32) (bk : Nat → Int32) (bv : Nat → Int64) (bo : Int32) (sz : Nat) (B0 : List xk_E) (R0 : List xs_R) (ST : List xs_O) (n : Nat) (hT : xw_KT kf kg af bf (xs_S B0 R0 n)) (hcn : xs_cn B0 R0 n rk rv rm) (hbt : xs_bt ST bp bk bv) (hR : ∀ i o, ST[i]? = some o → R0[n + i]? = some (o.1, o.2.1, o.2.2, n)) (hl65 : ∀ i, i ≤ n + ST.length → (xs_S B0 R0 i).length ≤ 65) (hn : n ≤ 64) (hst : ST.length ≤ 5) : Met l y_E_doStepsOfBatch zw_E_doStepsOfBatch ({ frames := 5, cells := 0, slots := 0, locals := 131 } : Room) (va_Pc [.ref (q 0)] (xp_Q D zz_cl (xw_tC cA) sz (xw_C q cA lim kf kg (nI (xs_S B0 R0 n).length) af bf rk rv rm rs (nI n) bp bk bv bo (nI ST.length)))) (va_Qv (fun u : (Nat → Int32) × (Nat → Int64) × (Nat → Int32) × (Nat → Int32) × (Nat → Int32) × (Nat → Int64) × (Nat → Int32) × (Nat → Int32) => xw_KT u.1 u.2.1 u.2.2.1 u.2.2.2.1 (xs_S B0 R0 (n + ST.length)) ∧ xs_cn B0 R0 (n + ST.length) u.2.2.2.2.1 u.2.2.2.2.2.1 u.2.2.2.2.2.2.1 ∧ ∀ j, j < n → u.2.2.2.2.2.2.2 j = rs j) (fun (u : (Nat → Int32) × (Nat → Int64) × (Nat → Int32) × (Nat → Int32) × (Nat → Int32) × (Nat → Int64) × (Nat → Int32) × (Nat → Int32)) (t : State) => va_P D zz_cl (xw_C q cA lim u.1 u.2.1 (nI (xs_S B0 R0 (n + ST.length)).length) u.2.2.1 u.2.2.2.1 u.2.2.2.2.1 u.2.2.2.2.2.1 u.2.2.2.2.2.2.1 u.2.2.2.2.2.2.2 (nI (n + ST.length)) bp bk bv bo (nI ST.length)) t.heap) (va_A (xw_C q cA lim kf kg (nI (xs_S B0 R0 n).length) af bf rk rv rm rs (nI n) bp bk bv bo (nI ST.length)) sz)) 0 0 (va_A (xw_C q cA lim kf kg (nI (xs_S B0 R0 n).length) af bf rk rv rm rs (nI n) bp bk bv bo (nI ST.length)) sz) := by
  refine Met.ofW (cc := b_E_doStepsOfBatch) (maxL := 2) (ret := none) (by decide) rfl ?_
  intro pJ eJ s mJ args below meth cJ s₁ B hml hv
  obtain ⟨rfl, hsz, hP, hK, hD0, hZ⟩ := hv
  have hx := B.exec
  have hb := B.bytes
  have hr := B.returns
  have hts := atoms_spec (ws := zw_E_doStepsOfBatch) B.pre
  have hown : s.vm.findClass R_E = some mJ.cls := findClass_of_methodNamed B.named
  have hlocks := B.notSynchronized
  subst hsz
  have hD := hD0.self (sz := s.heap.size)
  generalize hAe : va_A (xw_C q cA lim kf kg (nI (xs_S B0 R0 n).length) af bf rk rv rm rs (nI n) bp bk bv bo (nI ST.length)) s.heap.size = A at hD ⊢
  have hA : ∀ q : Nat, s.heap.size ≤ q → A q := fun q h => by rw [← hAe]; exact Or.inr h
  have hS : va_S A s.heap s.heap [] := va_S.rf
  have hl := lv_entry ([.ref (q 0)]) (n := 2) (Nat.le_of_ble_eq_true rfl)
  rw [lg_entry_eq]
  generalize (lg_sl ([.ref (q 0)]) ++ List.replicate (2 - (lg_sl ([.ref (q 0)])).length) Slot.unset).toArray = ls at hl ⊢
  have hl : lv_has ls 2 [(0, .ref (q 0))] := hl
  refine lv_iconst (v := nI 0) hx hb d_E_doStepsOfBatch_0 (by decide +kernel) ?_
  refine lv_istore_n (lv' := [(1, .int (nI 0)), (0, .ref (q 0))]) hx hb d_E_doStepsOfBatch_1 rfl hl (Nat.le_of_ble_eq_true rfl) rfl (fun ls hl => ?_)
  have lp2 : ∀ (N : Nat) (i : Nat) (kf1 : Nat → Int32) (kg1 : Nat → Int64) (af1 : Nat → Int32) (bf1 : Nat → Int32) (rk1 : Nat → Int32) (rv1 : Nat → Int64) (rm1 : Nat → Int32) (rs1 : Nat → Int32) (ls : Array Slot) (H : Heap) (locs : List Loc), (i ≤ ST.length) → (xw_KT kf1 kg1 af1 bf1 (xs_S B0 R0 (n + i))) → (xs_cn B0 R0 (n + i) rk1 rv1 rm1) → (∀ j, j < n → rs1 j = rs j) → lv_has ls 2 [(0, .ref (q 0)), (1, .int (nI i))] → va_P D zz_cl (xw_C q cA lim kf1 kg1 (nI (xs_S B0 R0 (n + i)).length) af1 bf1 rk1 rv1 rm1 rs1 (nI (n + i)) bp bk bv bo (nI ST.length)) H → va_D A (xw_C q cA lim kf1 kg1 (nI (xs_S B0 R0 (n + i)).length) af1 bf1 rk1 rv1 rm1 rs1 (nI (n + i)) bp bk bv bo (nI ST.length)) → va_S A s.heap H locs → ST.length - i < N → W pJ l eJ (headSpec zw_E_doStepsOfBatch ({ frames := 5, cells := 0, slots := 0, locals := 131 } : Room)).room s mJ ([.ref (q 0)] : List Value).toArray below meth cJ H locs 0 0 (MQ below (va_Qv (fun u : (Nat → Int32) × (Nat → Int64) × (Nat → Int32) × (Nat → Int32) × (Nat → Int32) × (Nat → Int64) × (Nat → Int32) × (Nat → Int32) => xw_KT u.1 u.2.1 u.2.2.1 u.2.2.2.1 (xs_S B0 R0 (n + ST.length)) ∧ xs_cn B0 R0 (n + ST.length) u.2.2.2.2.1 u.2.2.2.2.2.1 u.2.2.2.2.2.2.1 ∧ ∀ j, j < n → u.2.2.2.2.2.2.2 j = rs j) (fun (u : (Nat → Int32) × (Nat → Int64) × (Nat → Int32) × (Nat → Int32) × (Nat → Int32) × (Nat → Int64) × (Nat → Int32) × (Nat → Int32)) (t : State) => va_P D zz_cl (xw_C q cA lim u.1 u.2.1 (nI (xs_S B0 R0 (n + ST.length)).length) u.2.2.1 u.2.2.2.1 u.2.2.2.2.1 u.2.2.2.2.2.1 u.2.2.2.2.2.2.1 u.2.2.2.2.2.2.2 (nI (n + ST.length)) bp bk bv bo (nI ST.length)) t.heap) A) ([.ref (q 0)] : List Value).toArray s 0 0 A) (F0 mJ 2 ls []) := by
    intro N
    induction N with
    | zero => intro i kf1 kg1 af1 bf1 rk1 rv1 rm1 rs1 ls H locs hi hT1 hcn1 hrs1 hl hP hD hS hm; exact absurd hm (Nat.not_lt_zero _)
    | succ N ih2 =>
      intro i kf1 kg1 af1 bf1 rk1 rv1 rm1 rs1 ls H locs hi hT1 hcn1 hrs1 hl hP hD hS hm
      refine lv_iload_n hx hb d_E_doStepsOfBatch_2 rfl (lv_at hl 1 rfl) ?_
      refine lv_aload_n hx hb d_E_doStepsOfBatch_3 rfl (lv_at hl 0 rfl) ?_
      refine va_get (D := D) (ci := 0) (v := .ref (q 4)) (C := R_E) (T := F_E) (N := 4) hx hb hts (zi_E _) hown hK hP 0 rfl rfl 3 (by decide) (hts _ (List.mem_cons_of_mem _ zm_116)) (fun _ h9 => h9) rfl d_E_doStepsOfBatch_4 ?_
      refine va_getN (D := D) (ci := 4) (v := .int (nI ST.length)) (C := R_B) (T := F_B) (N := 5) hx hb hts (zi_B _) hown hK hP 4 rfl rfl 4 (by decide) (va_Nw.use rfl (hZ _ zn_100)) (fun _ h9 => h9) rfl d_E_doStepsOfBatch_7 ?_
      refine lv_icmp_ge (tgt := 69) hx hb d_E_doStepsOfBatch_10 (by decide) (fun hc10 => ?_) (fun hc10 => ?_)
      · skip
        rw [nI_leI (by omega) (by omega)] at hc10
        have e9 : i = ST.length := by omega
        rw [show nI (xs_S B0 R0 (n + i)).length = nI (xs_S B0 R0 (n + ST.length)).length from by rw [e9]] at hP hD
        rw [show nI (n + i) = nI (n + ST.length) from by rw [e9]] at hP hD
        exact W.vret hx hb hr (fun tJ htJ hWJ => ⟨⟨(kf1, kg1, af1, bf1, rk1, rv1, rm1, rs1), rfl, ⟨by rw [← e9]; exact hT1, by rw [← e9]; exact hcn1, hrs1⟩, by dsimp only; rw [htJ]; exact hP⟩, hS.F htJ⟩) hS.2.2 d_E_doStepsOfBatch_69
      · skip
        rw [nI_leI (by omega) (by omega)] at hc10
        obtain ⟨o, ho⟩ : ∃ o, ST[i]? = some o := ⟨_, List.getElem?_eq_getElem (by omega)⟩
        obtain ⟨ho1, ho2, ho3, ho4⟩ := hbt i o ho
        have hri := hR i o ho
        have hsx := xs_S_succ (B := B0) hri
        refine lv_aload_n hx hb d_E_doStepsOfBatch_13 rfl (lv_at hl 0 rfl) ?_
        refine va_get (D := D) (ci := 0) (v := .ref (q 4)) (C := R_E) (T := F_E) (N := 4) hx hb hts (zi_E _) hown hK hP 0 rfl rfl 3 (by decide) (hts _ (List.mem_cons_of_mem _ zm_116)) (fun _ h9 => h9) rfl d_E_doStepsOfBatch_14 ?_
        refine va_getN (D := D) (ci := 4) (v := .ref (q 13)) (C := R_B) (T := F_B) (N := 5) hx hb hts (zi_B _) hown hK hP 4 rfl rfl 0 (by decide) (va_Nw.use rfl (hZ _ zn_92)) (fun _ h9 => h9) rfl d_E_doStepsOfBatch_17 ?_
        refine lv_iload_n hx hb d_E_doStepsOfBatch_20 rfl (lv_at hl 1 rfl) ?_
        refine xa_zald hx hb hK hP 13 8 rfl rfl (k := i) (by omega) (by decide) d_E_doStepsOfBatch_21 ?_
        refine xa_top (y := xb_i (decide (o.1 = 0))) ho2 ?_
        refine lv_if_eq (tgt := 50) hx hb d_E_doStepsOfBatch_22 (by decide) (fun hc22 => ?_) (fun hc22 => ?_)
        · skip
          rw [xb_0] at hc22
          have hw0 : o.1 = 1 := by (have z : ¬ o.1 = 0 := (by simpa using hc22)); omega
          have hsy : xs_S B0 R0 (n + i + 1) = xk_rem (xs_S B0 R0 (n + i)) o.2.1 := by rw [hsx]; simp [xs_ap, hw0]
          refine lv_aload_n hx hb d_E_doStepsOfBatch_50 rfl (lv_at hl 0 rfl) ?_
          refine lv_aload_n hx hb d_E_doStepsOfBatch_51 rfl (lv_at hl 0 rfl) ?_
          refine va_get (D := D) (ci := 0) (v := .ref (q 4)) (C := R_E) (T := F_E) (N := 4) hx hb hts (zi_E _) hown hK hP 0 rfl rfl 3 (by decide) (hts _ (List.mem_cons_of_mem _ zm_116)) (fun _ h9 => h9) rfl d_E_doStepsOfBatch_52 ?_
          refine va_getN (D := D) (ci := 4) (v := .ref (q 14)) (C := R_B) (T := F_B) (N := 5) hx hb hts (zi_B _) hown hK hP 4 rfl rfl 1 (by decide) (va_Nw.use rfl (hZ _ zn_94)) (fun _ h9 => h9) rfl d_E_doStepsOfBatch_55 ?_
          refine lv_iload_n hx hb d_E_doStepsOfBatch_58 rfl (lv_at hl 1 rfl) ?_
          refine xa_iald hx hb hK hP 14 9 rfl rfl (k := i) (by omega) (by decide) d_E_doStepsOfBatch_59 ?_
          refine xa_top (y := o.2.1) ho3 ?_
          refine xa_cMV (va_runV (As := [.int o.2.1]) (rest := []) ⟨hx, hb, hml, hown, hts⟩ (c_E_rar l D q cA lim kf1 kg1 af1 bf1 rk1 rv1 rm1 rs1 bp bk bv bo (nI ST.length) H.size (xs_S B0 R0 (n + i)) (n + i) o.2.1 hT1 (by omega)) (cwV 1 hts (zg_V zm_249 zm_251 zs_8 zm_1 zm_252) rfl rfl rfl (by decide +kernel) ⟨Nat.le_of_ble_eq_true rfl, Nat.le_of_ble_eq_true rfl⟩) (xp_preVQ (ci := 0) (q0 := 0) hK hP hD rfl rfl rfl hZ) rfl rfl hl.1 rfl (lv_room (Nat.le_of_ble_eq_true rfl)) d_E_doStepsOfBatch_60 ⟨Nat.zero_le _, Nat.zero_le _⟩) hS (xa_F hD hS hA) (fun u H locs hp60 hP hS => ?_)
          obtain ⟨kf2_60, kg2_60, af2_60, bf2_60⟩ := u
          have hP : va_P D zz_cl (xw_C q cA lim kf2_60 kg2_60 (nI (xk_rem (xs_S B0 R0 (n + i)) o.2.1).length) af2_60 bf2_60 (upd rk1 (n + i) o.2.1) (vp_updL rv1 (n + i) (xk_get (xs_S B0 R0 (n + i)) o.2.1)) (upd rm1 (n + i) (xw_fo (xk_has (xs_S B0 R0 (n + i)) o.2.1))) (upd rs1 (n + i) (nI (n + i))) (nI (n + i + 1)) bp bk bv bo (nI ST.length)) H := hP
          have hD : va_D A (xw_C q cA lim kf2_60 kg2_60 (nI (xk_rem (xs_S B0 R0 (n + i)) o.2.1).length) af2_60 bf2_60 (upd rk1 (n + i) o.2.1) (vp_updL rv1 (n + i) (xk_get (xs_S B0 R0 (n + i)) o.2.1)) (upd rm1 (n + i) (xw_fo (xk_has (xs_S B0 R0 (n + i)) o.2.1))) (upd rs1 (n + i) (nI (n + i))) (nI (n + i + 1)) bp bk bv bo (nI ST.length)) := xa_E hD rfl
          have hp60 : xw_KT kf2_60 kg2_60 af2_60 bf2_60 (xk_rem (xs_S B0 R0 (n + i)) o.2.1) := hp60
          rw [show nI (xk_rem (xs_S B0 R0 (n + i)) o.2.1).length = nI (xs_S B0 R0 (n + i + 1)).length from by rw [hsy]] at hP hD
          refine lv_iinc (k := 1) (v := nI (i + 1)) (lv' := [(1, .int (nI (i + 1))), (0, .ref (q 0))]) hx hb d_E_doStepsOfBatch_63 hl rfl (xn_inc _) (Nat.le_of_ble_eq_true rfl) rfl (fun ls hl => ?_)
          refine lv_goto (tgt := 2) hx hb d_E_doStepsOfBatch_66 (by decide) ?_
          exact ih2 (i + 1) kf2_60 kg2_60 af2_60 bf2_60 (upd rk1 (n + i) o.2.1) (vp_updL rv1 (n + i) (xk_get (xs_S B0 R0 (n + i)) o.2.1)) (upd rm1 (n + i) (xw_fo (xk_has (xs_S B0 R0 (n + i)) o.2.1))) (upd rs1 (n + i) (nI (n + i))) ls _ _ (by omega) (by first | (rw [hsy.symm] at hp44; exact hp44) | (rw [hsy.symm] at hp60; exact hp60)) (xs_cn_up hcn1 hri rfl (by simp [xs_fm, xw_fo, hw0]) (by simp [xs_fv, hw0])) (fun j hj => by rw [pk_un (by omega)]; exact hrs1 j hj) (lv_sub hl [1, 0] rfl) hP hD hS (by omega)
        · skip
          rw [xb_1] at hc22
          have hw0 : o.1 = 0 := by simpa using hc22
          have hsy : xs_S B0 R0 (n + i + 1) = xk_set (xs_S B0 R0 (n + i)) o.2.1 o.2.2 := by rw [hsx]; simp [xs_ap, hw0]
          have hro := xw_room (K := xs_S B0 R0 (n + i)) (k := o.2.1) (v := o.2.2) (by rw [← hsy]; exact hl65 _ (by omega))
          refine lv_aload_n hx hb d_E_doStepsOfBatch_25 rfl (lv_at hl 0 rfl) ?_
          refine lv_aload_n hx hb d_E_doStepsOfBatch_26 rfl (lv_at hl 0 rfl) ?_
          refine va_get (D := D) (ci := 0) (v := .ref (q 4)) (C := R_E) (T := F_E) (N := 4) hx hb hts (zi_E _) hown hK hP 0 rfl rfl 3 (by decide) (hts _ (List.mem_cons_of_mem _ zm_116)) (fun _ h9 => h9) rfl d_E_doStepsOfBatch_27 ?_
          refine va_getN (D := D) (ci := 4) (v := .ref (q 14)) (C := R_B) (T := F_B) (N := 5) hx hb hts (zi_B _) hown hK hP 4 rfl rfl 1 (by decide) (va_Nw.use rfl (hZ _ zn_94)) (fun _ h9 => h9) rfl d_E_doStepsOfBatch_30 ?_
          refine lv_iload_n hx hb d_E_doStepsOfBatch_33 rfl (lv_at hl 1 rfl) ?_
          refine xa_iald hx hb hK hP 14 9 rfl rfl (k := i) (by omega) (by decide) d_E_doStepsOfBatch_34 ?_
          refine xa_top (y := o.2.1) ho3 ?_
          refine lv_aload_n hx hb d_E_doStepsOfBatch_35 rfl (lv_at hl 0 rfl) ?_
          refine va_get (D := D) (ci := 0) (v := .ref (q 4)) (C := R_E) (T := F_E) (N := 4) hx hb hts (zi_E _) hown hK hP 0 rfl rfl 3 (by decide) (hts _ (List.mem_cons_of_mem _ zm_116)) (fun _ h9 => h9) rfl d_E_doStepsOfBatch_36 ?_
          refine va_getN (D := D) (ci := 4) (v := .ref (q 15)) (C := R_B) (T := F_B) (N := 5) hx hb hts (zi_B _) hown hK hP 4 rfl rfl 2 (by decide) (va_Nw.use rfl (hZ _ zn_96)) (fun _ h9 => h9) rfl d_E_doStepsOfBatch_39 ?_
          refine lv_iload_n hx hb d_E_doStepsOfBatch_42 rfl (lv_at hl 1 rfl) ?_
          refine xa_lald hx hb hK hP 15 10 rfl rfl (k := i) (by omega) (by decide) d_E_doStepsOfBatch_43 ?_
          refine xa_topl (y := o.2.2) ho4 ?_
          refine xa_cMV (va_runV (As := [.int o.2.1, .long o.2.2]) (rest := []) ⟨hx, hb, hml, hown, hts⟩ (c_E_ras l D q cA lim kf1 kg1 af1 bf1 rk1 rv1 rm1 rs1 bp bk bv bo (nI ST.length) H.size (xs_S B0 R0 (n + i)) (n + i) o.2.1 o.2.2 hT1 (by omega) hro) (cwV 2 hts (zg_V zm_146 zm_148 zs_2 zm_1 zm_149) rfl rfl rfl (by decide +kernel) ⟨Nat.le_of_ble_eq_true rfl, Nat.le_of_ble_eq_true rfl⟩) (xp_preVQ (ci := 0) (q0 := 0) hK hP hD rfl rfl rfl hZ) rfl rfl hl.1 rfl (lv_room (Nat.le_of_ble_eq_true rfl)) d_E_doStepsOfBatch_44 ⟨Nat.zero_le _, Nat.zero_le _⟩) hS (xa_F hD hS hA) (fun u H locs hp44 hP hS => ?_)
          obtain ⟨kf2_44, kg2_44, af2_44, bf2_44⟩ := u
          have hP : va_P D zz_cl (xw_C q cA lim kf2_44 kg2_44 (nI (xk_set (xs_S B0 R0 (n + i)) o.2.1 o.2.2).length) af2_44 bf2_44 (upd rk1 (n + i) o.2.1) (vp_updL rv1 (n + i) (xk_get (xs_S B0 R0 (n + i)) o.2.1)) (upd rm1 (n + i) (xw_fo (xk_has (xs_S B0 R0 (n + i)) o.2.1))) (upd rs1 (n + i) (nI (n + i))) (nI (n + i + 1)) bp bk bv bo (nI ST.length)) H := hP
          have hD : va_D A (xw_C q cA lim kf2_44 kg2_44 (nI (xk_set (xs_S B0 R0 (n + i)) o.2.1 o.2.2).length) af2_44 bf2_44 (upd rk1 (n + i) o.2.1) (vp_updL rv1 (n + i) (xk_get (xs_S B0 R0 (n + i)) o.2.1)) (upd rm1 (n + i) (xw_fo (xk_has (xs_S B0 R0 (n + i)) o.2.1))) (upd rs1 (n + i) (nI (n + i))) (nI (n + i + 1)) bp bk bv bo (nI ST.length)) := xa_E hD rfl
          have hp44 : xw_KT kf2_44 kg2_44 af2_44 bf2_44 (xk_set (xs_S B0 R0 (n + i)) o.2.1 o.2.2) := hp44
          rw [show nI (xk_set (xs_S B0 R0 (n + i)) o.2.1 o.2.2).length = nI (xs_S B0 R0 (n + i + 1)).length from by rw [hsy]] at hP hD
          refine lv_goto (tgt := 63) hx hb d_E_doStepsOfBatch_47 (by decide) ?_
          refine lv_iinc (k := 1) (v := nI (i + 1)) (lv' := [(1, .int (nI (i + 1))), (0, .ref (q 0))]) hx hb d_E_doStepsOfBatch_63 hl rfl (xn_inc _) (Nat.le_of_ble_eq_true rfl) rfl (fun ls hl => ?_)
          refine lv_goto (tgt := 2) hx hb d_E_doStepsOfBatch_66 (by decide) ?_
          exact ih2 (i + 1) kf2_44 kg2_44 af2_44 bf2_44 (upd rk1 (n + i) o.2.1) (vp_updL rv1 (n + i) (xk_get (xs_S B0 R0 (n + i)) o.2.1)) (upd rm1 (n + i) (xw_fo (xk_has (xs_S B0 R0 (n + i)) o.2.1))) (upd rs1 (n + i) (nI (n + i))) ls _ _ (by omega) (by first | (rw [hsy.symm] at hp44; exact hp44) | (rw [hsy.symm] at hp60; exact hp60)) (xs_cn_up hcn1 hri rfl (by simp [xs_fm, xw_fo, hw0]) (by simp [xs_fv, hw0])) (fun j hj => by rw [pk_un (by omega)]; exact hrs1 j hj) (lv_sub hl [1, 0] rfl) hP hD hS (by omega)
  exact lp2 _ 0 kf kg af bf rk rv rm rs ls _ _ (Nat.zero_le _) hT hcn (fun _ _ => rfl) (lv_sub hl [1, 0] rfl) hP hD hS (Nat.lt_succ_self _)
