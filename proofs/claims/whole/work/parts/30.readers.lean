/-! Walks: specs_a (printed by run.py) -/
set_option maxHeartbeats 4000000 in
set_option maxRecDepth 100000 in
theorem c_E_hash (l : Launch)  (k : Int32)  : Met l y_E_hash zw_E_hash ({ frames := 0, cells := 0, slots := 0, locals := 0 } : Room) (va_Pc [.int k] (fun _ => True)) (vp_Si (fun r : Int32 => r = nI (xk_h k))) 0 0 (fun _ => False) := by
  refine Met.ofW (cc := b_E_hash) (maxL := 1) (ret := (some .int)) (by decide) rfl ?_
  intro pJ eJ s mJ args below meth cJ s₁ B hml hv
  obtain ⟨rfl, -⟩ := hv
  have hx := B.exec
  have hb := B.bytes
  have hr := B.returns
  have hts := atoms_spec (ws := zw_E_hash) B.pre
  have hown : s.vm.findClass R_E = some mJ.cls := findClass_of_methodNamed B.named
  have hlocks := B.notSynchronized
  have hl := lv_entry ([.int k]) (n := 1) (Nat.le_of_ble_eq_true rfl)
  rw [lg_entry_eq]
  generalize (lg_sl ([.int k]) ++ List.replicate (1 - (lg_sl ([.int k])).length) Slot.unset).toArray = ls at hl ⊢
  have hl : lv_has ls 1 [(0, .int k)] := hl
  refine lv_iload_n hx hb d_E_hash_0 rfl (lv_at hl 0 rfl) ?_
  refine lv_iload_n hx hb d_E_hash_1 rfl (lv_at hl 0 rfl) ?_
  refine lv_bipush (v := nI 6) hx hb d_E_hash_2 (by decide +kernel) ?_
  refine lv_iushr (v := xk_u k (nI 6)) hx hb d_E_hash_4 rfl ?_
  refine lv_ixor hx hb d_E_hash_5 ?_
  refine lv_iload_n hx hb d_E_hash_6 rfl (lv_at hl 0 rfl) ?_
  refine lv_bipush (v := nI 12) hx hb d_E_hash_7 (by decide +kernel) ?_
  refine lv_iushr (v := xk_u k (nI 12)) hx hb d_E_hash_9 rfl ?_
  refine lv_ixor hx hb d_E_hash_10 ?_
  refine lv_iload_n hx hb d_E_hash_11 rfl (lv_at hl 0 rfl) ?_
  refine lv_bipush (v := nI 18) hx hb d_E_hash_12 (by decide +kernel) ?_
  refine lv_iushr (v := xk_u k (nI 18)) hx hb d_E_hash_14 rfl ?_
  refine lv_ixor hx hb d_E_hash_15 ?_
  refine lv_iload_n hx hb d_E_hash_16 rfl (lv_at hl 0 rfl) ?_
  refine lv_bipush (v := nI 24) hx hb d_E_hash_17 (by decide +kernel) ?_
  refine lv_iushr (v := xk_u k (nI 24)) hx hb d_E_hash_19 rfl ?_
  refine lv_ixor hx hb d_E_hash_20 ?_
  refine lv_iload_n hx hb d_E_hash_21 rfl (lv_at hl 0 rfl) ?_
  refine lv_bipush (v := nI 30) hx hb d_E_hash_22 (by decide +kernel) ?_
  refine lv_iushr (v := xk_u k (nI 30)) hx hb d_E_hash_24 rfl ?_
  refine lv_ixor hx hb d_E_hash_25 ?_
  refine lv_bipush (v := nI 63) hx hb d_E_hash_26 (by decide +kernel) ?_
  refine lv_iand hx hb d_E_hash_28 ?_
  refine xa_top (y := nI (xk_h k)) (xk_h_eq k) ?_
  exact W.iret (v := nI (xk_h k)) hx hb hr (fun t ht hW => ⟨_, rfl, rfl, ht⟩) (fun _ h => by cases h) d_E_hash_29
set_option maxHeartbeats 4000000 in
set_option maxRecDepth 100000 in
theorem c_E_dirp (l : Launch)  (n : Nat) (hn : n < 1000) : Met l y_E_directoryPages zw_E_directoryPages ({ frames := 0, cells := 0, slots := 0, locals := 0 } : Room) (va_Pc [.int (nI n)] (fun _ => True)) (vp_Si (fun r : Int32 => r = nI ((n + 15) / 16))) 0 0 (fun _ => False) := by
  refine Met.ofW (cc := b_E_directoryPages) (maxL := 1) (ret := (some .int)) (by decide) rfl ?_
  intro pJ eJ s mJ args below meth cJ s₁ B hml hv
  obtain ⟨rfl, -⟩ := hv
  have hx := B.exec
  have hb := B.bytes
  have hr := B.returns
  have hts := atoms_spec (ws := zw_E_directoryPages) B.pre
  have hown : s.vm.findClass R_E = some mJ.cls := findClass_of_methodNamed B.named
  have hlocks := B.notSynchronized
  have hl := lv_entry ([.int (nI n)]) (n := 1) (Nat.le_of_ble_eq_true rfl)
  rw [lg_entry_eq]
  generalize (lg_sl ([.int (nI n)]) ++ List.replicate (1 - (lg_sl ([.int (nI n)])).length) Slot.unset).toArray = ls at hl ⊢
  have hl : lv_has ls 1 [(0, .int (nI n))] := hl
  refine lv_iload_n hx hb d_E_directoryPages_0 rfl (lv_at hl 0 rfl) ?_
  refine lv_bipush (v := nI 16) hx hb d_E_directoryPages_1 (by decide +kernel) ?_
  refine lv_iadd hx hb d_E_directoryPages_3 ?_
  refine xa_top (y := nI (n + 16)) (nI_add _ _) ?_
  refine lv_iconst (v := nI 1) hx hb d_E_directoryPages_4 (by decide +kernel) ?_
  refine lv_isub hx hb d_E_directoryPages_5 ?_
  refine xa_top (y := nI ((n + 16) - 1)) (pk_sub (by omega)) ?_
  refine lv_bipush (v := nI 16) hx hb d_E_directoryPages_6 (by decide +kernel) ?_
  refine lv_idiv hx hb d_E_directoryPages_8 (by decide +kernel) ?_
  refine xa_top (y := nI (((n + 16) - 1) / 16)) (pk_div (by omega) (by omega) (by omega)) ?_
  exact W.iret (v := nI (((n + 16) - 1) / 16)) hx hb hr (fun t ht hW => ⟨_, rfl, congrArg nI (by omega), ht⟩) (fun _ h => by cases h) d_E_directoryPages_9
set_option maxHeartbeats 4000000 in
set_option maxRecDepth 100000 in
theorem c_E_bktp (l : Launch)  (n : Nat) (hn : n < 1000) : Met l y_E_bucketPages zw_E_bucketPages ({ frames := 1, cells := 0, slots := 0, locals := 21 } : Room) (va_Pc [.int (nI n)] (fun _ => True)) (vp_Si (fun r : Int32 => r = nI (xd_bp n))) 0 0 (fun _ => False) := by
  refine Met.ofW (cc := b_E_bucketPages) (maxL := 1) (ret := (some .int)) (by decide) rfl ?_
  intro pJ eJ s mJ args below meth cJ s₁ B hml hv
  obtain ⟨rfl, -⟩ := hv
  have hx := B.exec
  have hb := B.bytes
  have hr := B.returns
  have hts := atoms_spec (ws := zw_E_bucketPages) B.pre
  have hown : s.vm.findClass R_E = some mJ.cls := findClass_of_methodNamed B.named
  have hlocks := B.notSynchronized
  have hl := lv_entry ([.int (nI n)]) (n := 1) (Nat.le_of_ble_eq_true rfl)
  rw [lg_entry_eq]
  generalize (lg_sl ([.int (nI n)]) ++ List.replicate (1 - (lg_sl ([.int (nI n)])).length) Slot.unset).toArray = ls at hl ⊢
  have hl : lv_has ls 1 [(0, .int (nI n))] := hl
  refine lv_iconst (v := nI 1) hx hb d_E_bucketPages_0 (by decide +kernel) ?_
  refine lv_iload_n hx hb d_E_bucketPages_1 rfl (lv_at hl 0 rfl) ?_
  refine lv_iconst (v := nI 4) hx hb d_E_bucketPages_2 (by decide +kernel) ?_
  refine lv_iadd hx hb d_E_bucketPages_3 ?_
  refine xa_top (y := nI (n + 4)) (nI_add _ _) ?_
  refine lv_iconst (v := nI 1) hx hb d_E_bucketPages_4 (by decide +kernel) ?_
  refine lv_isub hx hb d_E_bucketPages_5 ?_
  refine xa_top (y := nI ((n + 4) - 1)) (pk_sub (by omega)) ?_
  refine lv_iconst (v := nI 4) hx hb d_E_bucketPages_6 (by decide +kernel) ?_
  refine lv_idiv hx hb d_E_bucketPages_7 (by decide +kernel) ?_
  refine xa_top (y := nI (((n + 4) - 1) / 4)) (pk_div (by omega) (by omega) (by omega)) ?_
  refine va_mmax hx hb (hml.trans hl.1.symm) hown (hts _ (List.mem_cons_of_mem _ zm_20)) (hts _ (List.mem_cons_of_mem _ zm_21)) (hts _ (List.mem_cons_of_mem _ zm_2)) (hts _ (List.mem_cons_of_mem _ zm_22)) (Nat.le_of_ble_eq_true rfl) (Nat.le_of_ble_eq_true rfl) (Nat.zero_le _) (Nat.zero_le _) d_E_bucketPages_8 ?_
  refine xa_top (y := nI (max 1 (((n + 4) - 1) / 4))) (xn_max (by omega) (by omega)) ?_
  exact W.iret (v := nI (max 1 (((n + 4) - 1) / 4))) hx hb hr (fun t ht hW => ⟨_, rfl, congrArg nI (by unfold xd_bp; omega), ht⟩) (fun _ h => by cases h) d_E_bucketPages_11
set_option maxHeartbeats 4000000 in
set_option maxRecDepth 100000 in
theorem c_E_byte (l : Launch)  (v : Int64)  : Met l y_E_bytesOf zw_E_bytesOf ({ frames := 0, cells := 0, slots := 0, locals := 0 } : Room) (va_Pc [.long v] (fun _ => True)) (vp_Si (fun r : Int32 => r = nI (xv_by v))) 0 0 (fun _ => False) := by
  refine Met.ofW (cc := b_E_bytesOf) (maxL := 3) (ret := (some .int)) (by decide) rfl ?_
  intro pJ eJ s mJ args below meth cJ s₁ B hml hv
  obtain ⟨rfl, -⟩ := hv
  have hx := B.exec
  have hb := B.bytes
  have hr := B.returns
  have hts := atoms_spec (ws := zw_E_bytesOf) B.pre
  have hown : s.vm.findClass R_E = some mJ.cls := findClass_of_methodNamed B.named
  have hlocks := B.notSynchronized
  have hl := lv_entry ([.long v]) (n := 3) (Nat.le_of_ble_eq_true rfl)
  rw [lg_entry_eq]
  generalize (lg_sl ([.long v]) ++ List.replicate (3 - (lg_sl ([.long v])).length) Slot.unset).toArray = ls at hl ⊢
  have hl : lv_has ls 3 [(0, .long v)] := hl
  refine lv_iconst (v := nI 1) hx hb d_E_bytesOf_0 (by decide +kernel) ?_
  refine lv_istore_n (lv' := [(2, .int (nI 1)), (0, .long v)]) hx hb d_E_bytesOf_1 rfl hl (Nat.le_of_ble_eq_true rfl) rfl (fun ls hl => ?_)
  have lp2 : ∀ (N : Nat) (b : Nat) (ls : Array Slot), (1 ≤ b) → (b ≤ 8) → (xv_by v = xv_R v b (8 - b)) → lv_has ls 3 [(0, .long v), (2, .int (nI b))] → 8 - b < N → W pJ l eJ (headSpec zw_E_bytesOf ({ frames := 0, cells := 0, slots := 0, locals := 0 } : Room)).room s mJ ([.long v] : List Value).toArray below meth cJ s.heap [] 0 0 (MQ below (vp_Si (fun r : Int32 => r = nI (xv_by v))) ([.long v] : List Value).toArray s 0 0 (fun _ => False)) (F0 mJ 2 ls []) := by
    intro N
    induction N with
    | zero => intro b ls hb1 hb8 hbv hl hm; exact absurd hm (Nat.not_lt_zero _)
    | succ N ih2 =>
      intro b ls hb1 hb8 hbv hl hm
      refine lv_iload_n hx hb d_E_bytesOf_2 rfl (lv_at hl 1 rfl) ?_
      refine lv_bipush (v := nI 8) hx hb d_E_bytesOf_3 (by decide +kernel) ?_
      refine lv_icmp_ge (tgt := 27) hx hb d_E_bytesOf_5 (by decide) (fun hc5 => ?_) (fun hc5 => ?_)
      · skip
        rw [nI_leI (by omega) (by omega)] at hc5
        refine lv_bipush (v := nI 8) hx hb d_E_bytesOf_27 (by decide +kernel) ?_
        exact W.iret (v := nI 8) hx hb hr (fun t ht hW => ⟨_, rfl, by rw [hbv, show b = 8 from by omega]; rfl, ht⟩) (fun _ h => by cases h) d_E_bytesOf_29
      · skip
        rw [nI_leI (by omega) (by omega)] at hc5
        refine lv_lload_n hx hb d_E_bytesOf_8 rfl (lv_at hl 0 rfl) ?_
        refine lv_bipush (v := nI 8) hx hb d_E_bytesOf_9 (by decide +kernel) ?_
        refine lv_iload_n hx hb d_E_bytesOf_11 rfl (lv_at hl 1 rfl) ?_
        refine lv_imul hx hb d_E_bytesOf_12 ?_
        refine xa_top (y := nI (8 * b)) (pk_mul _ _) ?_
        refine lv_lushr (v := xk_lu v (nI (8 * b))) hx hb d_E_bytesOf_13 rfl ?_
        refine lv_lconst (v := 0) hx hb d_E_bytesOf_14 (by decide +kernel) ?_
        refine W.lcmp hx hb d_E_bytesOf_15 ?_
        refine lv_if_ne (tgt := 21) hx hb d_E_bytesOf_16 (by decide) (fun hc16 => ?_) (fun hc16 => ?_)
        · skip
          rw [xl_ne] at hc16
          refine lv_iinc (k := 1) (v := nI (b + 1)) (lv' := [(2, .int (nI (b + 1))), (0, .long v)]) hx hb d_E_bytesOf_21 hl rfl (xn_inc _) (Nat.le_of_ble_eq_true rfl) rfl (fun ls hl => ?_)
          refine lv_goto (tgt := 2) hx hb d_E_bytesOf_24 (by decide) ?_
          exact ih2 (b + 1) ls (by omega) (by omega) (by rw [hbv, show 8 - b = (8 - (b + 1)) + 1 from by omega, xv_R, if_neg hc16]) (lv_sub hl [1, 0] rfl) (by omega)
        · skip
          rw [xl_ne] at hc16
          refine lv_iload_n hx hb d_E_bytesOf_19 rfl (lv_at hl 1 rfl) ?_
          exact W.iret (v := nI b) hx hb hr (fun t ht hW => ⟨_, rfl, by rw [hbv, show 8 - b = (7 - b) + 1 from by omega, xv_R, if_pos hc16], ht⟩) (fun _ h => by cases h) d_E_bytesOf_20
  exact lp2 _ 1 ls (by omega) (by omega) rfl (lv_sub hl [1, 0] rfl) (Nat.lt_succ_self _)
set_option maxHeartbeats 4000000 in
set_option maxRecDepth 100000 in
theorem c_E_valp (l : Launch)  (v : Int64)  : Met l y_E_valuePages zw_E_valuePages ({ frames := 1, cells := 0, slots := 0, locals := 22 } : Room) (va_Pc [.long v] (fun _ => True)) (vp_Si (fun r : Int32 => r = nI (xv_vp v))) 0 0 (fun _ => False) := by
  refine Met.ofW (cc := b_E_valuePages) (maxL := 3) (ret := (some .int)) (by decide) rfl ?_
  intro pJ eJ s mJ args below meth cJ s₁ B hml hv
  obtain ⟨rfl, -⟩ := hv
  have hx := B.exec
  have hb := B.bytes
  have hr := B.returns
  have hts := atoms_spec (ws := zw_E_valuePages) B.pre
  have hown : s.vm.findClass R_E = some mJ.cls := findClass_of_methodNamed B.named
  have hlocks := B.notSynchronized
  have hl := lv_entry ([.long v]) (n := 3) (Nat.le_of_ble_eq_true rfl)
  rw [lg_entry_eq]
  generalize (lg_sl ([.long v]) ++ List.replicate (3 - (lg_sl ([.long v])).length) Slot.unset).toArray = ls at hl ⊢
  have hl : lv_has ls 3 [(0, .long v)] := hl
  have hby := xv_by_le v
  refine lv_lload_n hx hb d_E_valuePages_0 rfl (lv_at hl 0 rfl) ?_
  refine xa_cI (va_runS (As := [.long v]) (rest := []) ⟨hx, hb, hml, hown, hts⟩ (c_E_byte l v) (cwS 1 hts (zg_S zm_225 zm_226 zm_1 zm_227) rfl rfl rfl (by decide +kernel) ⟨Nat.le_of_ble_eq_true rfl, Nat.le_of_ble_eq_true rfl⟩) xp_preS rfl rfl hl.1 rfl (lv_room (Nat.le_of_ble_eq_true rfl)) d_E_valuePages_1 ⟨Nat.zero_le _, Nat.zero_le _⟩) ?_
  refine lv_istore_n (lv' := [(2, .int (nI (xv_by v))), (0, .long v)]) hx hb d_E_valuePages_4 rfl hl (Nat.le_of_ble_eq_true rfl) rfl (fun ls hl => ?_)
  refine lv_iload_n hx hb d_E_valuePages_5 rfl (lv_at hl 0 rfl) ?_
  refine lv_iconst (v := nI 2) hx hb d_E_valuePages_6 (by decide +kernel) ?_
  refine lv_icmp_le (tgt := 20) hx hb d_E_valuePages_7 (by decide) (fun hc7 => ?_) (fun hc7 => ?_)
  · skip
    rw [nI_leI (by omega) (by omega)] at hc7
    refine lv_iconst (v := nI 0) hx hb d_E_valuePages_20 (by decide +kernel) ?_
    exact W.iret (v := nI 0) hx hb hr (fun t ht hW => ⟨_, rfl, congrArg nI (by unfold xv_vp; split <;> omega), ht⟩) (fun _ h => by cases h) d_E_valuePages_21
  · skip
    rw [nI_leI (by omega) (by omega)] at hc7
    refine lv_iload_n hx hb d_E_valuePages_10 rfl (lv_at hl 0 rfl) ?_
    refine lv_iconst (v := nI 2) hx hb d_E_valuePages_11 (by decide +kernel) ?_
    refine lv_iadd hx hb d_E_valuePages_12 ?_
    refine xa_top (y := nI (xv_by v + 2)) (nI_add _ _) ?_
    refine lv_iconst (v := nI 1) hx hb d_E_valuePages_13 (by decide +kernel) ?_
    refine lv_isub hx hb d_E_valuePages_14 ?_
    refine xa_top (y := nI ((xv_by v + 2) - 1)) (pk_sub (by omega)) ?_
    refine lv_iconst (v := nI 2) hx hb d_E_valuePages_15 (by decide +kernel) ?_
    refine lv_idiv hx hb d_E_valuePages_16 (by decide +kernel) ?_
    refine xa_top (y := nI (((xv_by v + 2) - 1) / 2)) (pk_div (by omega) (by omega) (by omega)) ?_
    refine lv_goto (tgt := 21) hx hb d_E_valuePages_17 (by decide) ?_
    exact W.iret (v := nI (((xv_by v + 2) - 1) / 2)) hx hb hr (fun t ht hW => ⟨_, rfl, congrArg nI (by unfold xv_vp; split <;> omega), ht⟩) (fun _ h => by cases h) d_E_valuePages_21
set_option maxHeartbeats 4000000 in
set_option maxRecDepth 100000 in
theorem c_C_cell (l : Launch)  (d : Nat) (h : Nat) (hd : d ≤ 6) (hh : h < 64) : Met l y_C_cell zw_C_cell ({ frames := 0, cells := 0, slots := 0, locals := 0 } : Room) (va_Pc [.int (nI d), .int (nI h)] (fun _ => True)) (vp_Si (fun r : Int32 => r = nI (2 ^ d + h % 2 ^ d))) 0 0 (fun _ => False) := by
  refine Met.ofW (cc := b_C_cell) (maxL := 3) (ret := (some .int)) (by decide) rfl ?_
  intro pJ eJ s mJ args below meth cJ s₁ B hml hv
  obtain ⟨rfl, -⟩ := hv
  have hx := B.exec
  have hb := B.bytes
  have hr := B.returns
  have hts := atoms_spec (ws := zw_C_cell) B.pre
  have hown : s.vm.findClass R_C = some mJ.cls := findClass_of_methodNamed B.named
  have hlocks := B.notSynchronized
  have hl := lv_entry ([.int (nI d), .int (nI h)]) (n := 3) (Nat.le_of_ble_eq_true rfl)
  rw [lg_entry_eq]
  generalize (lg_sl ([.int (nI d), .int (nI h)]) ++ List.replicate (3 - (lg_sl ([.int (nI d), .int (nI h)])).length) Slot.unset).toArray = ls at hl ⊢
  have hl : lv_has ls 3 [(0, .int (nI d)), (1, .int (nI h))] := hl
  have hpos := Nat.two_pow_pos d
  refine lv_iconst (v := nI 1) hx hb d_C_cell_0 (by decide +kernel) ?_
  refine lv_iload_n hx hb d_C_cell_1 rfl (lv_at hl 0 rfl) ?_
  refine lv_ishl hx hb d_C_cell_2 ?_
  refine xa_top (y := nI (2 ^ d)) (xw_shl hd) ?_
  refine lv_istore_n (lv' := [(2, .int (nI (2 ^ d))), (0, .int (nI d)), (1, .int (nI h))]) hx hb d_C_cell_3 rfl hl (Nat.le_of_ble_eq_true rfl) rfl (fun ls hl => ?_)
  refine lv_iload_n hx hb d_C_cell_4 rfl (lv_at hl 0 rfl) ?_
  refine lv_iload_n hx hb d_C_cell_5 rfl (lv_at hl 2 rfl) ?_
  refine lv_iload_n hx hb d_C_cell_6 rfl (lv_at hl 0 rfl) ?_
  refine lv_iconst (v := nI 1) hx hb d_C_cell_7 (by decide +kernel) ?_
  refine lv_isub hx hb d_C_cell_8 ?_
  refine xa_top (y := nI ((2 ^ d) - 1)) (pk_sub (by omega)) ?_
  refine lv_iand hx hb d_C_cell_9 ?_
  refine xa_top (y := nI (h % 2 ^ d)) (xw_and (by omega) hd) ?_
  refine lv_iadd hx hb d_C_cell_10 ?_
  refine xa_top (y := nI (2 ^ d + h % 2 ^ d)) (nI_add _ _) ?_
  exact W.iret (v := nI (2 ^ d + h % 2 ^ d)) hx hb hr (fun t ht hW => ⟨_, rfl, rfl, ht⟩) (fun _ h => by cases h) d_C_cell_11
set_option maxHeartbeats 4000000 in
set_option maxRecDepth 100000 in
theorem c_C_good (l : Launch) (D : va_G) (q : Nat → Nat) (cA : Nat → ClassId) (lim : Int32) (kf : Nat → Int32) (kg : Nat → Int64) (af : Nat → Int32) (bf : Nat → Int32) (rk : Nat → Int32) (rv : Nat → Int64) (rm : Nat → Int32) (rs : Nat → Int32) (rn : Int32) (bp : Nat → Int32) (bk : Nat → Int32) (bv : Nat → Int64) (bo : Int32) (bn : Int32) (K : List xk_E) (d : Nat) (p : Nat) (hT : xw_KT kf kg af bf K) (hd : d ≤ 6) (hp : p < 2 ^ d) : Met l y_C_isGood zw_C_isGood ({ frames := 0, cells := 0, slots := 0, locals := 0 } : Room) (va_Pc [.ref (q 2), .int (nI (2 ^ d + p))] (xp_R D zz_cl (xw_tC cA) (xw_C q cA lim kf kg (nI K.length) af bf rk rv rm rs rn bp bk bv bo bn))) (vp_Si (fun r : Int32 => r = xb_i (xd_gd K d p))) 0 0 (fun _ => False) := by
  refine Met.ofW (cc := b_C_isGood) (maxL := 2) (ret := (some .boolean)) (by decide) rfl ?_
  intro pJ eJ s mJ args below meth cJ s₁ B hml hv
  obtain ⟨rfl, hP, hK, hZ⟩ := hv
  have hx := B.exec
  have hb := B.bytes
  have hr := B.returns
  have hts := atoms_spec (ws := zw_C_isGood) B.pre
  have hown : s.vm.findClass R_C = some mJ.cls := findClass_of_methodNamed B.named
  have hlocks := B.notSynchronized
  have hl := lv_entry ([.ref (q 2), .int (nI (2 ^ d + p))]) (n := 2) (Nat.le_of_ble_eq_true rfl)
  rw [lg_entry_eq]
  generalize (lg_sl ([.ref (q 2), .int (nI (2 ^ d + p))]) ++ List.replicate (2 - (lg_sl ([.ref (q 2), .int (nI (2 ^ d + p))])).length) Slot.unset).toArray = ls at hl ⊢
  have hl : lv_has ls 2 [(0, .ref (q 2)), (1, .int (nI (2 ^ d + p)))] := hl
  have hi := xw_cell hd hp
  have hcn := xd_cn_le K d p
  have hhc := xd_hc_le K d p
  have hlen := hT.1
  refine lv_aload_n hx hb d_C_isGood_0 rfl (lv_at hl 0 rfl) ?_
  refine va_get (D := D) (ci := 2) (v := .ref (q 7)) (C := R_C) (T := F_C) (N := 2) hx hb hts (zi_C _) hown hK hP 2 rfl rfl 0 (by decide) (hts _ (List.mem_cons_of_mem _ zm_35)) (fun _ h9 => h9) rfl d_C_isGood_1 ?_
  refine lv_iload_n hx hb d_C_isGood_4 rfl (lv_at hl 1 rfl) ?_
  refine xa_iald hx hb hK hP 7 2 rfl rfl (k := 2 ^ d + p) (by omega) (by decide) d_C_isGood_5 ?_
  refine xa_top (y := nI (xd_cn K d p)) ((hT.2.2.2 d p hd hp).1) ?_
  refine lv_iconst (v := nI 4) hx hb d_C_isGood_6 (by decide +kernel) ?_
  refine lv_icmp_le (tgt := 20) hx hb d_C_isGood_7 (by decide) (fun hc7 => ?_) (fun hc7 => ?_)
  · skip
    rw [nI_leI (by omega) (by omega)] at hc7
    refine lv_iconst (v := nI 1) hx hb d_C_isGood_20 (by decide +kernel) ?_
    refine lv_goto (tgt := 25) hx hb d_C_isGood_21 (by decide) ?_
    exact W.zret (ty := .boolean) (v := nI 1) hx hb hr (by decide +kernel) (fun t ht hW => ⟨_, rfl, by first | exact xw_g1 (Or.inl hc7) | exact xw_g1 (Or.inr hc17) | exact xw_g0 hc7 hc17, ht⟩) (fun _ h => by cases h) d_C_isGood_25
  · skip
    rw [nI_leI (by omega) (by omega)] at hc7
    refine lv_aload_n hx hb d_C_isGood_10 rfl (lv_at hl 0 rfl) ?_
    refine va_get (D := D) (ci := 2) (v := .ref (q 8)) (C := R_C) (T := F_C) (N := 2) hx hb hts (zi_C _) hown hK hP 2 rfl rfl 1 (by decide) (hts _ (List.mem_cons_of_mem _ zm_36)) (fun _ h9 => h9) rfl d_C_isGood_11 ?_
    refine lv_iload_n hx hb d_C_isGood_14 rfl (lv_at hl 1 rfl) ?_
    refine xa_iald hx hb hK hP 8 3 rfl rfl (k := 2 ^ d + p) (by omega) (by decide) d_C_isGood_15 ?_
    refine xa_top (y := nI (xd_hc K d p)) ((hT.2.2.2 d p hd hp).2) ?_
    refine lv_iconst (v := nI 1) hx hb d_C_isGood_16 (by decide +kernel) ?_
    refine lv_icmp_ne (tgt := 24) hx hb d_C_isGood_17 (by decide) (fun hc17 => ?_) (fun hc17 => ?_)
    · skip
      rw [nI_eq (by omega) (by omega)] at hc17
      refine lv_iconst (v := nI 0) hx hb d_C_isGood_24 (by decide +kernel) ?_
      exact W.zret (ty := .boolean) (v := nI 0) hx hb hr (by decide +kernel) (fun t ht hW => ⟨_, rfl, by first | exact xw_g1 (Or.inl hc7) | exact xw_g1 (Or.inr hc17) | exact xw_g0 hc7 hc17, ht⟩) (fun _ h => by cases h) d_C_isGood_25
    · skip
      rw [nI_eq (by omega) (by omega)] at hc17
      refine lv_iconst (v := nI 1) hx hb d_C_isGood_20 (by decide +kernel) ?_
      refine lv_goto (tgt := 25) hx hb d_C_isGood_21 (by decide) ?_
      exact W.zret (ty := .boolean) (v := nI 1) hx hb hr (by decide +kernel) (fun t ht hW => ⟨_, rfl, by first | exact xw_g1 (Or.inl hc7) | exact xw_g1 (Or.inr hc17) | exact xw_g0 hc7 hc17, ht⟩) (fun _ h => by cases h) d_C_isGood_25
set_option maxHeartbeats 4000000 in
set_option maxRecDepth 100000 in
theorem c_C_dep (l : Launch) (D : va_G) (q : Nat → Nat) (cA : Nat → ClassId) (lim : Int32) (kf : Nat → Int32) (kg : Nat → Int64) (af : Nat → Int32) (bf : Nat → Int32) (rk : Nat → Int32) (rv : Nat → Int64) (rm : Nat → Int32) (rs : Nat → Int32) (rn : Int32) (bp : Nat → Int32) (bk : Nat → Int32) (bv : Nat → Int64) (bo : Int32) (bn : Int32) (K : List xk_E) (h : Nat) (hT : xw_KT kf kg af bf K) (hh : h < 64) : Met l y_C_depthOf zw_C_depthOf ({ frames := 1, cells := 0, slots := 0, locals := 22 } : Room) (va_Pc [.ref (q 2), .int (nI h)] (xp_R D zz_cl (xw_tC cA) (xw_C q cA lim kf kg (nI K.length) af bf rk rv rm rs rn bp bk bv bo bn))) (vp_Si (fun r : Int32 => r = nI (xd_dp K h))) 0 0 (fun _ => False) := by
  refine Met.ofW (cc := b_C_depthOf) (maxL := 3) (ret := (some .int)) (by decide) rfl ?_
  intro pJ eJ s mJ args below meth cJ s₁ B hml hv
  obtain ⟨rfl, hP, hK, hZ⟩ := hv
  have hx := B.exec
  have hb := B.bytes
  have hr := B.returns
  have hts := atoms_spec (ws := zw_C_depthOf) B.pre
  have hown : s.vm.findClass R_C = some mJ.cls := findClass_of_methodNamed B.named
  have hlocks := B.notSynchronized
  have hl := lv_entry ([.ref (q 2), .int (nI h)]) (n := 3) (Nat.le_of_ble_eq_true rfl)
  rw [lg_entry_eq]
  generalize (lg_sl ([.ref (q 2), .int (nI h)]) ++ List.replicate (3 - (lg_sl ([.ref (q 2), .int (nI h)])).length) Slot.unset).toArray = ls at hl ⊢
  have hl : lv_has ls 3 [(0, .ref (q 2)), (1, .int (nI h))] := hl
  refine lv_iconst (v := nI 0) hx hb d_C_depthOf_0 (by decide +kernel) ?_
  refine lv_istore_n (lv' := [(2, .int (nI 0)), (0, .ref (q 2)), (1, .int (nI h))]) hx hb d_C_depthOf_1 rfl hl (Nat.le_of_ble_eq_true rfl) rfl (fun ls hl => ?_)
  have lp2 : ∀ (N : Nat) (d : Nat) (ls : Array Slot), (d ≤ 6) → (xd_dp K h = xd_dR K h d (6 - d)) → lv_has ls 3 [(0, .ref (q 2)), (1, .int (nI h)), (2, .int (nI d))] → 6 - d < N → W pJ l eJ (headSpec zw_C_depthOf ({ frames := 1, cells := 0, slots := 0, locals := 22 } : Room)).room s mJ ([.ref (q 2), .int (nI h)] : List Value).toArray below meth cJ s.heap [] 0 0 (MQ below (vp_Si (fun r : Int32 => r = nI (xd_dp K h))) ([.ref (q 2), .int (nI h)] : List Value).toArray s 0 0 (fun _ => False)) (F0 mJ 2 ls []) := by
    intro N
    induction N with
    | zero => intro d ls hd6 hdr hl hm; exact absurd hm (Nat.not_lt_zero _)
    | succ N ih2 =>
      intro d ls hd6 hdr hl hm
      refine lv_iload_n hx hb d_C_depthOf_2 rfl (lv_at hl 2 rfl) ?_
      refine lv_bipush (v := nI 6) hx hb d_C_depthOf_3 (by decide +kernel) ?_
      refine lv_icmp_ge (tgt := 28) hx hb d_C_depthOf_5 (by decide) (fun hc5 => ?_) (fun hc5 => ?_)
      · skip
        rw [nI_leI (by omega) (by omega)] at hc5
        refine lv_bipush (v := nI 6) hx hb d_C_depthOf_28 (by decide +kernel) ?_
        exact W.iret (v := nI 6) hx hb hr (fun t ht hW => ⟨_, rfl, by rw [hdr, show d = 6 from by omega]; rfl, ht⟩) (fun _ h => by cases h) d_C_depthOf_30
      · skip
        rw [nI_leI (by omega) (by omega)] at hc5
        refine lv_aload_n hx hb d_C_depthOf_8 rfl (lv_at hl 0 rfl) ?_
        refine lv_iload_n hx hb d_C_depthOf_9 rfl (lv_at hl 2 rfl) ?_
        refine lv_iload_n hx hb d_C_depthOf_10 rfl (lv_at hl 1 rfl) ?_
        refine xa_cI (va_runS (As := [.int (nI d), .int (nI h)]) (rest := [.ref (q 2)]) ⟨hx, hb, hml, hown, hts⟩ (c_C_cell l d h (by omega) (by omega)) (cwS 2 hts (zg_S zm_180 zm_181 zm_4 zm_182) rfl rfl rfl (by decide +kernel) ⟨Nat.le_of_ble_eq_true rfl, Nat.le_of_ble_eq_true rfl⟩) xp_preS rfl rfl hl.1 rfl (lv_room (Nat.le_of_ble_eq_true rfl)) d_C_depthOf_11 ⟨Nat.zero_le _, Nat.zero_le _⟩) ?_
        refine xa_cI (va_runV (As := [.int (nI (2 ^ d + h % 2 ^ d))]) (rest := []) ⟨hx, hb, hml, hown, hts⟩ (c_C_good l D q cA lim kf kg af bf rk rv rm rs rn bp bk bv bo bn K d (h % 2 ^ d) hT (by omega) (Nat.mod_lt _ (Nat.two_pow_pos _))) (cwV 1 hts (zg_V zm_199 zm_201 zs_6 zm_4 zm_202) rfl rfl rfl (by decide +kernel) ⟨Nat.le_of_ble_eq_true rfl, Nat.le_of_ble_eq_true rfl⟩) (xp_preV (ci := 2) (q0 := 2) hK hP rfl rfl rfl hZ) rfl rfl hl.1 rfl (lv_room (Nat.le_of_ble_eq_true rfl)) d_C_depthOf_14 ⟨Nat.zero_le _, Nat.zero_le _⟩) ?_
        refine lv_if_eq (tgt := 22) hx hb d_C_depthOf_17 (by decide) (fun hc17 => ?_) (fun hc17 => ?_)
        · skip
          rw [xb_0] at hc17
          refine lv_iinc (k := 2) (v := nI (d + 1)) (lv' := [(2, .int (nI (d + 1))), (0, .ref (q 2)), (1, .int (nI h))]) hx hb d_C_depthOf_22 hl rfl (xn_inc _) (Nat.le_of_ble_eq_true rfl) rfl (fun ls hl => ?_)
          refine lv_goto (tgt := 2) hx hb d_C_depthOf_25 (by decide) ?_
          exact ih2 (d + 1) ls (by omega) (by rw [hdr, show 6 - d = (6 - (d + 1)) + 1 from by omega, xd_dR, if_neg (by simp [hc17])]) (lv_sub hl [1, 2, 0] rfl) (by omega)
        · skip
          rw [xb_1] at hc17
          refine lv_iload_n hx hb d_C_depthOf_20 rfl (lv_at hl 2 rfl) ?_
          exact W.iret (v := nI d) hx hb hr (fun t ht hW => ⟨_, rfl, by rw [hdr, show 6 - d = (5 - d) + 1 from by omega, xd_dR, if_pos hc17], ht⟩) (fun _ h => by cases h) d_C_depthOf_21
  exact lp2 _ 0 ls (by omega) rfl (lv_sub hl [1, 2, 0] rfl) (Nat.lt_succ_self _)
set_option maxHeartbeats 4000000 in
set_option maxRecDepth 100000 in
theorem c_C_deep (l : Launch) (D : va_G) (q : Nat → Nat) (cA : Nat → ClassId) (lim : Int32) (kf : Nat → Int32) (kg : Nat → Int64) (af : Nat → Int32) (bf : Nat → Int32) (rk : Nat → Int32) (rv : Nat → Int64) (rm : Nat → Int32) (rs : Nat → Int32) (rn : Int32) (bp : Nat → Int32) (bk : Nat → Int32) (bv : Nat → Int64) (bo : Int32) (bn : Int32) (K : List xk_E) (hT : xw_KT kf kg af bf K) : Met l y_C_deepest zw_C_deepest ({ frames := 2, cells := 0, slots := 0, locals := 44 } : Room) (va_Pc [.ref (q 2)] (xp_R D zz_cl (xw_tC cA) (xw_C q cA lim kf kg (nI K.length) af bf rk rv rm rs rn bp bk bv bo bn))) (vp_Si (fun r : Int32 => r = nI (xd_gm K 64))) 0 0 (fun _ => False) := by
  refine Met.ofW (cc := b_C_deepest) (maxL := 3) (ret := (some .int)) (by decide) rfl ?_
  intro pJ eJ s mJ args below meth cJ s₁ B hml hv
  obtain ⟨rfl, hP, hK, hZ⟩ := hv
  have hx := B.exec
  have hb := B.bytes
  have hr := B.returns
  have hts := atoms_spec (ws := zw_C_deepest) B.pre
  have hown : s.vm.findClass R_C = some mJ.cls := findClass_of_methodNamed B.named
  have hlocks := B.notSynchronized
  have hl := lv_entry ([.ref (q 2)]) (n := 3) (Nat.le_of_ble_eq_true rfl)
  rw [lg_entry_eq]
  generalize (lg_sl ([.ref (q 2)]) ++ List.replicate (3 - (lg_sl ([.ref (q 2)])).length) Slot.unset).toArray = ls at hl ⊢
  have hl : lv_has ls 3 [(0, .ref (q 2))] := hl
  refine lv_iconst (v := nI 0) hx hb d_C_deepest_0 (by decide +kernel) ?_
  refine lv_istore_n (lv' := [(1, .int (nI 0)), (0, .ref (q 2))]) hx hb d_C_deepest_1 rfl hl (Nat.le_of_ble_eq_true rfl) rfl (fun ls hl => ?_)
  refine lv_iconst (v := nI 0) hx hb d_C_deepest_2 (by decide +kernel) ?_
  refine lv_istore_n (lv' := [(2, .int (nI 0)), (1, .int (nI 0)), (0, .ref (q 2))]) hx hb d_C_deepest_3 rfl hl (Nat.le_of_ble_eq_true rfl) rfl (fun ls hl => ?_)
  have lp4 : ∀ (N : Nat) (p : Nat) (ls : Array Slot), (p ≤ 64) → lv_has ls 3 [(0, .ref (q 2)), (1, .int (nI (xd_gm K p))), (2, .int (nI p))] → 64 - p < N → W pJ l eJ (headSpec zw_C_deepest ({ frames := 2, cells := 0, slots := 0, locals := 44 } : Room)).room s mJ ([.ref (q 2)] : List Value).toArray below meth cJ s.heap [] 0 0 (MQ below (vp_Si (fun r : Int32 => r = nI (xd_gm K 64))) ([.ref (q 2)] : List Value).toArray s 0 0 (fun _ => False)) (F0 mJ 4 ls []) := by
    intro N
    induction N with
    | zero => intro p ls hp hl hm; exact absurd hm (Nat.not_lt_zero _)
    | succ N ih4 =>
      intro p ls hp hl hm
      refine lv_iload_n hx hb d_C_deepest_4 rfl (lv_at hl 2 rfl) ?_
      refine lv_bipush (v := nI 64) hx hb d_C_deepest_5 (by decide +kernel) ?_
      refine lv_icmp_ge (tgt := 26) hx hb d_C_deepest_7 (by decide) (fun hc7 => ?_) (fun hc7 => ?_)
      · skip
        rw [nI_leI (by omega) (by omega)] at hc7
        refine lv_iload_n hx hb d_C_deepest_26 rfl (lv_at hl 1 rfl) ?_
        exact W.iret (v := nI (xd_gm K p)) hx hb hr (fun t ht hW => ⟨_, rfl, by rw [show p = 64 from by omega], ht⟩) (fun _ h => by cases h) d_C_deepest_27
      · skip
        rw [nI_leI (by omega) (by omega)] at hc7
        refine lv_iload_n hx hb d_C_deepest_10 rfl (lv_at hl 1 rfl) ?_
        refine lv_aload_n hx hb d_C_deepest_11 rfl (lv_at hl 0 rfl) ?_
        refine lv_iload_n hx hb d_C_deepest_12 rfl (lv_at hl 2 rfl) ?_
        refine xa_cI (va_runV (As := [.int (nI p)]) (rest := [.int (nI (xd_gm K p))]) ⟨hx, hb, hml, hown, hts⟩ (c_C_dep l D q cA lim kf kg af bf rk rv rm rs rn bp bk bv bo bn K p hT (by omega)) (cwV 1 hts (zg_V zm_195 zm_196 zm_197 zm_4 zm_198) rfl rfl rfl (by decide +kernel) ⟨Nat.le_of_ble_eq_true rfl, Nat.le_of_ble_eq_true rfl⟩) (xp_preV (ci := 2) (q0 := 2) hK hP rfl rfl rfl hZ) rfl rfl hl.1 rfl (lv_room (Nat.le_of_ble_eq_true rfl)) d_C_deepest_13 ⟨Nat.zero_le _, Nat.zero_le _⟩) ?_
        have h6 := xd_gm_le K p
        have h7 := xd_dp_le K p
        refine va_mmax hx hb (hml.trans hl.1.symm) hown (hts _ (List.mem_cons_of_mem _ zm_203)) (hts _ (List.mem_cons_of_mem _ zm_21)) (hts _ (List.mem_cons_of_mem _ zm_2)) (hts _ (List.mem_cons_of_mem _ zm_22)) (Nat.le_of_ble_eq_true rfl) (Nat.le_of_ble_eq_true rfl) (Nat.zero_le _) (Nat.zero_le _) d_C_deepest_16 ?_
        refine xa_top (y := nI (max (xd_gm K p) (xd_dp K p))) (xn_max (by omega) (by omega)) ?_
        refine lv_istore_n (lv' := [(1, .int (nI (max (xd_gm K p) (xd_dp K p)))), (0, .ref (q 2)), (2, .int (nI p))]) hx hb d_C_deepest_19 rfl hl (Nat.le_of_ble_eq_true rfl) rfl (fun ls hl => ?_)
        refine lv_iinc (k := 2) (v := nI (p + 1)) (lv' := [(2, .int (nI (p + 1))), (1, .int (nI (max (xd_gm K p) (xd_dp K p)))), (0, .ref (q 2))]) hx hb d_C_deepest_20 hl rfl (xn_inc _) (Nat.le_of_ble_eq_true rfl) rfl (fun ls hl => ?_)
        refine lv_goto (tgt := 4) hx hb d_C_deepest_23 (by decide) ?_
        exact ih4 (p + 1) ls (by omega) (lv_sub hl [2, 1, 0] rfl) (by omega)
  exact lp4 _ 0 ls (by omega) (lv_sub hl [2, 1, 0] rfl) (Nat.lt_succ_self _)
set_option maxHeartbeats 4000000 in
set_option maxRecDepth 100000 in
theorem c_C_mask (l : Launch) (D : va_G) (q : Nat → Nat) (cA : Nat → ClassId) (lim : Int32) (kf : Nat → Int32) (kg : Nat → Int64) (af : Nat → Int32) (bf : Nat → Int32) (rk : Nat → Int32) (rv : Nat → Int64) (rm : Nat → Int32) (rs : Nat → Int32) (rn : Int32) (bp : Nat → Int32) (bk : Nat → Int32) (bv : Nat → Int64) (bo : Int32) (bn : Int32) (K : List xk_E) (h : Nat) (hT : xw_KT kf kg af bf K) (hh : h < 64) : Met l y_C_maskOf zw_C_maskOf ({ frames := 2, cells := 0, slots := 0, locals := 44 } : Room) (va_Pc [.ref (q 2), .int (nI h)] (xp_R D zz_cl (xw_tC cA) (xw_C q cA lim kf kg (nI K.length) af bf rk rv rm rs rn bp bk bv bo bn))) (vp_Si (fun r : Int32 => r = nI (2 ^ xd_dp K h - 1))) 0 0 (fun _ => False) := by
  refine Met.ofW (cc := b_C_maskOf) (maxL := 2) (ret := (some .int)) (by decide) rfl ?_
  intro pJ eJ s mJ args below meth cJ s₁ B hml hv
  obtain ⟨rfl, hP, hK, hZ⟩ := hv
  have hx := B.exec
  have hb := B.bytes
  have hr := B.returns
  have hts := atoms_spec (ws := zw_C_maskOf) B.pre
  have hown : s.vm.findClass R_C = some mJ.cls := findClass_of_methodNamed B.named
  have hlocks := B.notSynchronized
  have hl := lv_entry ([.ref (q 2), .int (nI h)]) (n := 2) (Nat.le_of_ble_eq_true rfl)
  rw [lg_entry_eq]
  generalize (lg_sl ([.ref (q 2), .int (nI h)]) ++ List.replicate (2 - (lg_sl ([.ref (q 2), .int (nI h)])).length) Slot.unset).toArray = ls at hl ⊢
  have hl : lv_has ls 2 [(0, .ref (q 2)), (1, .int (nI h))] := hl
  have h6 := xd_dp_le K h
  have hpos := Nat.two_pow_pos (xd_dp K h)
  refine lv_iconst (v := nI 1) hx hb d_C_maskOf_0 (by decide +kernel) ?_
  refine lv_aload_n hx hb d_C_maskOf_1 rfl (lv_at hl 0 rfl) ?_
  refine lv_iload_n hx hb d_C_maskOf_2 rfl (lv_at hl 1 rfl) ?_
  refine xa_cI (va_runV (As := [.int (nI h)]) (rest := [.int (nI 1)]) ⟨hx, hb, hml, hown, hts⟩ (c_C_dep l D q cA lim kf kg af bf rk rv rm rs rn bp bk bv bo bn K h hT (by omega)) (cwV 1 hts (zg_V zm_195 zm_196 zm_197 zm_4 zm_198) rfl rfl rfl (by decide +kernel) ⟨Nat.le_of_ble_eq_true rfl, Nat.le_of_ble_eq_true rfl⟩) (xp_preV (ci := 2) (q0 := 2) hK hP rfl rfl rfl hZ) rfl rfl hl.1 rfl (lv_room (Nat.le_of_ble_eq_true rfl)) d_C_maskOf_3 ⟨Nat.zero_le _, Nat.zero_le _⟩) ?_
  refine lv_ishl hx hb d_C_maskOf_6 ?_
  refine xa_top (y := nI (2 ^ xd_dp K h)) (xw_shl h6) ?_
  refine lv_iconst (v := nI 1) hx hb d_C_maskOf_7 (by decide +kernel) ?_
  refine lv_isub hx hb d_C_maskOf_8 ?_
  refine xa_top (y := nI ((2 ^ xd_dp K h) - 1)) (pk_sub (by omega)) ?_
  exact W.iret (v := nI ((2 ^ xd_dp K h) - 1)) hx hb hr (fun t ht hW => ⟨_, rfl, rfl, ht⟩) (fun _ h => by cases h) d_C_maskOf_9
set_option maxHeartbeats 4000000 in
set_option maxRecDepth 100000 in
theorem c_C_isP (l : Launch) (D : va_G) (q : Nat → Nat) (cA : Nat → ClassId) (lim : Int32) (kf : Nat → Int32) (kg : Nat → Int64) (af : Nat → Int32) (bf : Nat → Int32) (rk : Nat → Int32) (rv : Nat → Int64) (rm : Nat → Int32) (rs : Nat → Int32) (rn : Int32) (bp : Nat → Int32) (bk : Nat → Int32) (bv : Nat → Int64) (bo : Int32) (bn : Int32) (K : List xk_E) (h : Nat) (hT : xw_KT kf kg af bf K) (hh : h < 64) : Met l y_C_isPlace zw_C_isPlace ({ frames := 3, cells := 0, slots := 0, locals := 65 } : Room) (va_Pc [.ref (q 2), .int (nI h)] (xp_R D zz_cl (xw_tC cA) (xw_C q cA lim kf kg (nI K.length) af bf rk rv rm rs rn bp bk bv bo bn))) (vp_Si (fun r : Int32 => r = xb_i (xd_pl K h))) 0 0 (fun _ => False) := by
  refine Met.ofW (cc := b_C_isPlace) (maxL := 2) (ret := (some .boolean)) (by decide) rfl ?_
  intro pJ eJ s mJ args below meth cJ s₁ B hml hv
  obtain ⟨rfl, hP, hK, hZ⟩ := hv
  have hx := B.exec
  have hb := B.bytes
  have hr := B.returns
  have hts := atoms_spec (ws := zw_C_isPlace) B.pre
  have hown : s.vm.findClass R_C = some mJ.cls := findClass_of_methodNamed B.named
  have hlocks := B.notSynchronized
  have hl := lv_entry ([.ref (q 2), .int (nI h)]) (n := 2) (Nat.le_of_ble_eq_true rfl)
  rw [lg_entry_eq]
  generalize (lg_sl ([.ref (q 2), .int (nI h)]) ++ List.replicate (2 - (lg_sl ([.ref (q 2), .int (nI h)])).length) Slot.unset).toArray = ls at hl ⊢
  have hl : lv_has ls 2 [(0, .ref (q 2)), (1, .int (nI h))] := hl
  have hm := Nat.mod_le h (2 ^ xd_dp K h)
  refine lv_iload_n hx hb d_C_isPlace_0 rfl (lv_at hl 1 rfl) ?_
  refine lv_aload_n hx hb d_C_isPlace_1 rfl (lv_at hl 0 rfl) ?_
  refine lv_iload_n hx hb d_C_isPlace_2 rfl (lv_at hl 1 rfl) ?_
  refine xa_cI (va_runV (As := [.int (nI h)]) (rest := [.int (nI h)]) ⟨hx, hb, hml, hown, hts⟩ (c_C_mask l D q cA lim kf kg af bf rk rv rm rs rn bp bk bv bo bn K h hT (by omega)) (cwV 1 hts (zg_V zm_211 zm_212 zm_213 zm_4 zm_214) rfl rfl rfl (by decide +kernel) ⟨Nat.le_of_ble_eq_true rfl, Nat.le_of_ble_eq_true rfl⟩) (xp_preV (ci := 2) (q0 := 2) hK hP rfl rfl rfl hZ) rfl rfl hl.1 rfl (lv_room (Nat.le_of_ble_eq_true rfl)) d_C_isPlace_3 ⟨Nat.zero_le _, Nat.zero_le _⟩) ?_
  refine lv_iand hx hb d_C_isPlace_6 ?_
  refine xa_top (y := nI (h % 2 ^ xd_dp K h)) (xw_and (by omega) (xd_dp_le K h)) ?_
  refine lv_iload_n hx hb d_C_isPlace_7 rfl (lv_at hl 1 rfl) ?_
  refine lv_icmp_ne (tgt := 15) hx hb d_C_isPlace_8 (by decide) (fun hc8 => ?_) (fun hc8 => ?_)
  · skip
    rw [nI_eq (by omega) (by omega)] at hc8
    refine lv_iconst (v := nI 0) hx hb d_C_isPlace_15 (by decide +kernel) ?_
    exact W.zret (ty := .boolean) (v := nI 0) hx hb hr (by decide +kernel) (fun t ht hW => ⟨_, rfl, by first | (rw [xd_pl_iff.mpr hc8]; exact xb_t.symm) | (rw [xw_pl0 hc8]; exact xb_f.symm), ht⟩) (fun _ h => by cases h) d_C_isPlace_16
  · skip
    rw [nI_eq (by omega) (by omega)] at hc8
    refine lv_iconst (v := nI 1) hx hb d_C_isPlace_11 (by decide +kernel) ?_
    refine lv_goto (tgt := 16) hx hb d_C_isPlace_12 (by decide) ?_
    exact W.zret (ty := .boolean) (v := nI 1) hx hb hr (by decide +kernel) (fun t ht hW => ⟨_, rfl, by first | (rw [xd_pl_iff.mpr hc8]; exact xb_t.symm) | (rw [xw_pl0 hc8]; exact xb_f.symm), ht⟩) (fun _ h => by cases h) d_C_isPlace_16
set_option maxHeartbeats 4000000 in
set_option maxRecDepth 100000 in
theorem c_C_cntP (l : Launch) (D : va_G) (q : Nat → Nat) (cA : Nat → ClassId) (lim : Int32) (kf : Nat → Int32) (kg : Nat → Int64) (af : Nat → Int32) (bf : Nat → Int32) (rk : Nat → Int32) (rv : Nat → Int64) (rm : Nat → Int32) (rs : Nat → Int32) (rn : Int32) (bp : Nat → Int32) (bk : Nat → Int32) (bv : Nat → Int64) (bo : Int32) (bn : Int32) (K : List xk_E) (hT : xw_KT kf kg af bf K) : Met l y_C_countPlaces zw_C_countPlaces ({ frames := 4, cells := 0, slots := 0, locals := 86 } : Room) (va_Pc [.ref (q 2)] (xp_R D zz_cl (xw_tC cA) (xw_C q cA lim kf kg (nI K.length) af bf rk rv rm rs rn bp bk bv bo bn))) (vp_Si (fun r : Int32 => r = nI ((xo_pls K 64).length))) 0 0 (fun _ => False) := by
  refine Met.ofW (cc := b_C_countPlaces) (maxL := 3) (ret := (some .int)) (by decide) rfl ?_
  intro pJ eJ s mJ args below meth cJ s₁ B hml hv
  obtain ⟨rfl, hP, hK, hZ⟩ := hv
  have hx := B.exec
  have hb := B.bytes
  have hr := B.returns
  have hts := atoms_spec (ws := zw_C_countPlaces) B.pre
  have hown : s.vm.findClass R_C = some mJ.cls := findClass_of_methodNamed B.named
  have hlocks := B.notSynchronized
  have hl := lv_entry ([.ref (q 2)]) (n := 3) (Nat.le_of_ble_eq_true rfl)
  rw [lg_entry_eq]
  generalize (lg_sl ([.ref (q 2)]) ++ List.replicate (3 - (lg_sl ([.ref (q 2)])).length) Slot.unset).toArray = ls at hl ⊢
  have hl : lv_has ls 3 [(0, .ref (q 2))] := hl
  refine lv_iconst (v := nI 0) hx hb d_C_countPlaces_0 (by decide +kernel) ?_
  refine lv_istore_n (lv' := [(1, .int (nI 0)), (0, .ref (q 2))]) hx hb d_C_countPlaces_1 rfl hl (Nat.le_of_ble_eq_true rfl) rfl (fun ls hl => ?_)
  refine lv_iconst (v := nI 0) hx hb d_C_countPlaces_2 (by decide +kernel) ?_
  refine lv_istore_n (lv' := [(2, .int (nI 0)), (1, .int (nI 0)), (0, .ref (q 2))]) hx hb d_C_countPlaces_3 rfl hl (Nat.le_of_ble_eq_true rfl) rfl (fun ls hl => ?_)
  have lp4 : ∀ (N : Nat) (p : Nat) (n : Nat) (ls : Array Slot), (p ≤ 64) → (n = (xo_pls K p).length) → lv_has ls 3 [(0, .ref (q 2)), (1, .int (nI n)), (2, .int (nI p))] → 64 - p < N → W pJ l eJ (headSpec zw_C_countPlaces ({ frames := 4, cells := 0, slots := 0, locals := 86 } : Room)).room s mJ ([.ref (q 2)] : List Value).toArray below meth cJ s.heap [] 0 0 (MQ below (vp_Si (fun r : Int32 => r = nI ((xo_pls K 64).length))) ([.ref (q 2)] : List Value).toArray s 0 0 (fun _ => False)) (F0 mJ 4 ls []) := by
    intro N
    induction N with
    | zero => intro p n ls hp hn hl hm; exact absurd hm (Nat.not_lt_zero _)
    | succ N ih4 =>
      intro p n ls hp hn hl hm
      refine lv_iload_n hx hb d_C_countPlaces_4 rfl (lv_at hl 2 rfl) ?_
      refine lv_bipush (v := nI 64) hx hb d_C_countPlaces_5 (by decide +kernel) ?_
      refine lv_icmp_ge (tgt := 27) hx hb d_C_countPlaces_7 (by decide) (fun hc7 => ?_) (fun hc7 => ?_)
      · skip
        rw [nI_leI (by omega) (by omega)] at hc7
        refine lv_iload_n hx hb d_C_countPlaces_27 rfl (lv_at hl 1 rfl) ?_
        exact W.iret (v := nI n) hx hb hr (fun t ht hW => ⟨_, rfl, by rw [hn, show p = 64 from by omega], ht⟩) (fun _ h => by cases h) d_C_countPlaces_28
      · skip
        rw [nI_leI (by omega) (by omega)] at hc7
        refine lv_aload_n hx hb d_C_countPlaces_10 rfl (lv_at hl 0 rfl) ?_
        refine lv_iload_n hx hb d_C_countPlaces_11 rfl (lv_at hl 2 rfl) ?_
        refine xa_cI (va_runV (As := [.int (nI p)]) (rest := []) ⟨hx, hb, hml, hown, hts⟩ (c_C_isP l D q cA lim kf kg af bf rk rv rm rs rn bp bk bv bo bn K p hT (by omega)) (cwV 1 hts (zg_V zm_349 zm_208 zm_209 zm_4 zm_210) rfl rfl rfl (by decide +kernel) ⟨Nat.le_of_ble_eq_true rfl, Nat.le_of_ble_eq_true rfl⟩) (xp_preV (ci := 2) (q0 := 2) hK hP rfl rfl rfl hZ) rfl rfl hl.1 rfl (lv_room (Nat.le_of_ble_eq_true rfl)) d_C_countPlaces_12 ⟨Nat.zero_le _, Nat.zero_le _⟩) ?_
        refine lv_if_eq (tgt := 21) hx hb d_C_countPlaces_15 (by decide) (fun hc15 => ?_) (fun hc15 => ?_)
        · skip
          rw [xb_0] at hc15
          refine lv_iinc (k := 2) (v := nI (p + 1)) (lv' := [(2, .int (nI (p + 1))), (0, .ref (q 2)), (1, .int (nI n))]) hx hb d_C_countPlaces_21 hl rfl (xn_inc _) (Nat.le_of_ble_eq_true rfl) rfl (fun ls hl => ?_)
          refine lv_goto (tgt := 4) hx hb d_C_countPlaces_24 (by decide) ?_
          exact ih4 (p + 1) n ls (by omega) (by rw [xo_pls_len, hc15, hn]; rfl) (lv_sub hl [1, 2, 0] rfl) (by omega)
        · skip
          rw [xb_1] at hc15
          refine lv_iinc (k := 1) (v := nI (n + 1)) (lv' := [(1, .int (nI (n + 1))), (0, .ref (q 2)), (2, .int (nI p))]) hx hb d_C_countPlaces_18 hl rfl (xn_inc _) (Nat.le_of_ble_eq_true rfl) rfl (fun ls hl => ?_)
          refine lv_iinc (k := 2) (v := nI (p + 1)) (lv' := [(2, .int (nI (p + 1))), (1, .int (nI (n + 1))), (0, .ref (q 2))]) hx hb d_C_countPlaces_21 hl rfl (xn_inc _) (Nat.le_of_ble_eq_true rfl) rfl (fun ls hl => ?_)
          refine lv_goto (tgt := 4) hx hb d_C_countPlaces_24 (by decide) ?_
          exact ih4 (p + 1) (n + 1) ls (by omega) (by rw [xo_pls_len, hc15, hn]; rfl) (lv_sub hl [2, 1, 0] rfl) (by omega)
  exact lp4 _ 0 0 ls (by omega) rfl (lv_sub hl [2, 1, 0] rfl) (Nat.lt_succ_self _)
set_option maxHeartbeats 4000000 in
set_option maxRecDepth 100000 in
theorem c_C_kob (l : Launch) (D : va_G) (q : Nat → Nat) (cA : Nat → ClassId) (lim : Int32) (kf : Nat → Int32) (kg : Nat → Int64) (af : Nat → Int32) (bf : Nat → Int32) (rk : Nat → Int32) (rv : Nat → Int64) (rm : Nat → Int32) (rs : Nat → Int32) (rn : Int32) (bp : Nat → Int32) (bk : Nat → Int32) (bv : Nat → Int64) (bo : Int32) (bn : Int32) (K : List xk_E) (h : Nat) (hT : xw_KT kf kg af bf K) (hh : h < 64) : Met l y_C_keysOfBucket zw_C_keysOfBucket ({ frames := 2, cells := 0, slots := 0, locals := 44 } : Room) (va_Pc [.ref (q 2), .int (nI h)] (xp_R D zz_cl (xw_tC cA) (xw_C q cA lim kf kg (nI K.length) af bf rk rv rm rs rn bp bk bv bo bn))) (vp_Si (fun r : Int32 => r = nI (xd_cn K (xd_dp K h) (h % 2 ^ xd_dp K h)))) 0 0 (fun _ => False) := by
  refine Met.ofW (cc := b_C_keysOfBucket) (maxL := 2) (ret := (some .int)) (by decide) rfl ?_
  intro pJ eJ s mJ args below meth cJ s₁ B hml hv
  obtain ⟨rfl, hP, hK, hZ⟩ := hv
  have hx := B.exec
  have hb := B.bytes
  have hr := B.returns
  have hts := atoms_spec (ws := zw_C_keysOfBucket) B.pre
  have hown : s.vm.findClass R_C = some mJ.cls := findClass_of_methodNamed B.named
  have hlocks := B.notSynchronized
  have hl := lv_entry ([.ref (q 2), .int (nI h)]) (n := 2) (Nat.le_of_ble_eq_true rfl)
  rw [lg_entry_eq]
  generalize (lg_sl ([.ref (q 2), .int (nI h)]) ++ List.replicate (2 - (lg_sl ([.ref (q 2), .int (nI h)])).length) Slot.unset).toArray = ls at hl ⊢
  have hl : lv_has ls 2 [(0, .ref (q 2)), (1, .int (nI h))] := hl
  have h6 := xd_dp_le K h
  refine lv_aload_n hx hb d_C_keysOfBucket_0 rfl (lv_at hl 0 rfl) ?_
  refine va_get (D := D) (ci := 2) (v := .ref (q 7)) (C := R_C) (T := F_C) (N := 2) hx hb hts (zi_C _) hown hK hP 2 rfl rfl 0 (by decide) (hts _ (List.mem_cons_of_mem _ zm_35)) (fun _ h9 => h9) rfl d_C_keysOfBucket_1 ?_
  refine lv_aload_n hx hb d_C_keysOfBucket_4 rfl (lv_at hl 0 rfl) ?_
  refine lv_iload_n hx hb d_C_keysOfBucket_5 rfl (lv_at hl 1 rfl) ?_
  refine xa_cI (va_runV (As := [.int (nI h)]) (rest := [.ref (q 7)]) ⟨hx, hb, hml, hown, hts⟩ (c_C_dep l D q cA lim kf kg af bf rk rv rm rs rn bp bk bv bo bn K h hT (by omega)) (cwV 1 hts (zg_V zm_195 zm_196 zm_197 zm_4 zm_198) rfl rfl rfl (by decide +kernel) ⟨Nat.le_of_ble_eq_true rfl, Nat.le_of_ble_eq_true rfl⟩) (xp_preV (ci := 2) (q0 := 2) hK hP rfl rfl rfl hZ) rfl rfl hl.1 rfl (lv_room (Nat.le_of_ble_eq_true rfl)) d_C_keysOfBucket_6 ⟨Nat.zero_le _, Nat.zero_le _⟩) ?_
  refine lv_iload_n hx hb d_C_keysOfBucket_9 rfl (lv_at hl 1 rfl) ?_
  refine xa_cI (va_runS (As := [.int (nI (xd_dp K h)), .int (nI h)]) (rest := [.ref (q 7)]) ⟨hx, hb, hml, hown, hts⟩ (c_C_cell l (xd_dp K h) h (by omega) (by omega)) (cwS 2 hts (zg_S zm_180 zm_181 zm_4 zm_182) rfl rfl rfl (by decide +kernel) ⟨Nat.le_of_ble_eq_true rfl, Nat.le_of_ble_eq_true rfl⟩) xp_preS rfl rfl hl.1 rfl (lv_room (Nat.le_of_ble_eq_true rfl)) d_C_keysOfBucket_10 ⟨Nat.zero_le _, Nat.zero_le _⟩) ?_
  refine xa_iald hx hb hK hP 7 2 rfl rfl (k := 2 ^ (xd_dp K h) + h % 2 ^ (xd_dp K h)) (xw_cell h6 (Nat.mod_lt _ (Nat.two_pow_pos _))) (by decide) d_C_keysOfBucket_13 ?_
  refine xa_top (y := nI (xd_cn K (xd_dp K h) (h % 2 ^ xd_dp K h))) ((hT.2.2.2 _ _ h6 (Nat.mod_lt _ (Nat.two_pow_pos _))).1) ?_
  exact W.iret (v := nI (xd_cn K (xd_dp K h) (h % 2 ^ xd_dp K h))) hx hb hr (fun t ht hW => ⟨_, rfl, rfl, ht⟩) (fun _ h => by cases h) d_C_keysOfBucket_14
set_option maxHeartbeats 4000000 in
set_option maxRecDepth 100000 in
theorem c_K_below (l : Launch) (D : va_G) (q : Nat → Nat) (cA : Nat → ClassId) (lim : Int32) (kf : Nat → Int32) (kg : Nat → Int64) (af : Nat → Int32) (bf : Nat → Int32) (rk : Nat → Int32) (rv : Nat → Int64) (rm : Nat → Int32) (rs : Nat → Int32) (rn : Int32) (bp : Nat → Int32) (bk : Nat → Int32) (bv : Nat → Int64) (bo : Int32) (bn : Int32) (K : List xk_E) (k : Int32) (hT : xw_KT kf kg af bf K) : Met l y_K_keysBelow zw_K_keysBelow ({ frames := 0, cells := 0, slots := 0, locals := 0 } : Room) (va_Pc [.ref (q 1), .int k] (xp_R D zz_cl (xw_tC cA) (xw_C q cA lim kf kg (nI K.length) af bf rk rv rm rs rn bp bk bv bo bn))) (vp_Si (fun r : Int32 => r = nI (xk_lo K k))) 0 0 (fun _ => False) := by
  refine Met.ofW (cc := b_K_keysBelow) (maxL := 3) (ret := (some .int)) (by decide) rfl ?_
  intro pJ eJ s mJ args below meth cJ s₁ B hml hv
  obtain ⟨rfl, hP, hK, hZ⟩ := hv
  have hx := B.exec
  have hb := B.bytes
  have hr := B.returns
  have hts := atoms_spec (ws := zw_K_keysBelow) B.pre
  have hown : s.vm.findClass R_K = some mJ.cls := findClass_of_methodNamed B.named
  have hlocks := B.notSynchronized
  have hl := lv_entry ([.ref (q 1), .int k]) (n := 3) (Nat.le_of_ble_eq_true rfl)
  rw [lg_entry_eq]
  generalize (lg_sl ([.ref (q 1), .int k]) ++ List.replicate (3 - (lg_sl ([.ref (q 1), .int k])).length) Slot.unset).toArray = ls at hl ⊢
  have hl : lv_has ls 3 [(0, .ref (q 1)), (1, .int k)] := hl
  have hlen := hT.1
  refine lv_iconst (v := nI 0) hx hb d_K_keysBelow_0 (by decide +kernel) ?_
  refine lv_istore_n (lv' := [(2, .int (nI 0)), (0, .ref (q 1)), (1, .int k)]) hx hb d_K_keysBelow_1 rfl hl (Nat.le_of_ble_eq_true rfl) rfl (fun ls hl => ?_)
  have lp2 : ∀ (N : Nat) (b : Nat) (ls : Array Slot), (b ≤ K.length) → (∀ (j : Nat) (e : xk_E), j < b → K[j]? = some e → e.1 < k) → lv_has ls 3 [(0, .ref (q 1)), (1, .int k), (2, .int (nI b))] → K.length - b < N → W pJ l eJ (headSpec zw_K_keysBelow ({ frames := 0, cells := 0, slots := 0, locals := 0 } : Room)).room s mJ ([.ref (q 1), .int k] : List Value).toArray below meth cJ s.heap [] 0 0 (MQ below (vp_Si (fun r : Int32 => r = nI (xk_lo K k))) ([.ref (q 1), .int k] : List Value).toArray s 0 0 (fun _ => False)) (F0 mJ 2 ls []) := by
    intro N
    induction N with
    | zero => intro b ls hbl hbk hl hm; exact absurd hm (Nat.not_lt_zero _)
    | succ N ih2 =>
      intro b ls hbl hbk hl hm
      refine lv_iload_n hx hb d_K_keysBelow_2 rfl (lv_at hl 2 rfl) ?_
      refine lv_aload_n hx hb d_K_keysBelow_3 rfl (lv_at hl 0 rfl) ?_
      refine va_get (D := D) (ci := 1) (v := .int (nI K.length)) (C := R_K) (T := F_K) (N := 4) hx hb hts (zi_K _) hown hK hP 1 rfl rfl 3 (by decide) (hts _ (List.mem_cons_of_mem _ zm_48)) (fun _ h9 => h9) rfl d_K_keysBelow_4 ?_
      refine lv_icmp_ge (tgt := 26) hx hb d_K_keysBelow_7 (by decide) (fun hc7 => ?_) (fun hc7 => ?_)
      · skip
        rw [nI_leI (by omega) (by omega)] at hc7
        refine lv_iload_n hx hb d_K_keysBelow_26 rfl (lv_at hl 2 rfl) ?_
        exact W.iret (v := nI b) hx hb hr (fun t ht hW => ⟨_, rfl, congrArg nI (xk_lo_eq hbl hbk (fun x hx => by first | exact xw_none (by omega) hx | exact xw_nlt he hc17 hx)), ht⟩) (fun _ h => by cases h) d_K_keysBelow_27
      · skip
        rw [nI_leI (by omega) (by omega)] at hc7
        obtain ⟨e, he⟩ : ∃ e, K[b]? = some e := ⟨_, List.getElem?_eq_getElem (by omega)⟩
        have hfe := (xk_tie_f hT.2.2.1 he).1
        refine lv_aload_n hx hb d_K_keysBelow_10 rfl (lv_at hl 0 rfl) ?_
        refine va_get (D := D) (ci := 1) (v := .ref (q 5)) (C := R_K) (T := F_K) (N := 4) hx hb hts (zi_K _) hown hK hP 1 rfl rfl 0 (by decide) (hts _ (List.mem_cons_of_mem _ zm_44)) (fun _ h9 => h9) rfl d_K_keysBelow_11 ?_
        refine lv_iload_n hx hb d_K_keysBelow_14 rfl (lv_at hl 2 rfl) ?_
        refine xa_iald hx hb hK hP 5 0 rfl rfl (k := b) (by omega) (by decide) d_K_keysBelow_15 ?_
        refine xa_top (y := e.1) hfe ?_
        refine lv_iload_n hx hb d_K_keysBelow_16 rfl (lv_at hl 1 rfl) ?_
        refine lv_icmp_ge (tgt := 26) hx hb d_K_keysBelow_17 (by decide) (fun hc17 => ?_) (fun hc17 => ?_)
        · skip
          refine lv_iload_n hx hb d_K_keysBelow_26 rfl (lv_at hl 2 rfl) ?_
          exact W.iret (v := nI b) hx hb hr (fun t ht hW => ⟨_, rfl, congrArg nI (xk_lo_eq hbl hbk (fun x hx => by first | exact xw_none (by omega) hx | exact xw_nlt he hc17 hx)), ht⟩) (fun _ h => by cases h) d_K_keysBelow_27
        · skip
          refine lv_iinc (k := 2) (v := nI (b + 1)) (lv' := [(2, .int (nI (b + 1))), (0, .ref (q 1)), (1, .int k)]) hx hb d_K_keysBelow_20 hl rfl (xn_inc _) (Nat.le_of_ble_eq_true rfl) rfl (fun ls hl => ?_)
          refine lv_goto (tgt := 2) hx hb d_K_keysBelow_23 (by decide) ?_
          exact ih2 (b + 1) ls (by omega) (fun j x hj hx => xw_lts hbk he (xk_nle hc17) j x hj hx) (lv_sub hl [1, 2, 0] rfl) (by omega)
  exact lp2 _ 0 ls (by omega) (fun j e hj => by omega) (lv_sub hl [1, 2, 0] rfl) (Nat.lt_succ_self _)
set_option maxHeartbeats 4000000 in
set_option maxRecDepth 100000 in
theorem c_K_isAt (l : Launch) (D : va_G) (q : Nat → Nat) (cA : Nat → ClassId) (lim : Int32) (kf : Nat → Int32) (kg : Nat → Int64) (af : Nat → Int32) (bf : Nat → Int32) (rk : Nat → Int32) (rv : Nat → Int64) (rm : Nat → Int32) (rs : Nat → Int32) (rn : Int32) (bp : Nat → Int32) (bk : Nat → Int32) (bv : Nat → Int64) (bo : Int32) (bn : Int32) (K : List xk_E) (k : Int32) (hT : xw_KT kf kg af bf K) : Met l y_K_isAt zw_K_isAt ({ frames := 0, cells := 0, slots := 0, locals := 0 } : Room) (va_Pc [.ref (q 1), .int (nI (xk_lo K k)), .int k] (xp_R D zz_cl (xw_tC cA) (xw_C q cA lim kf kg (nI K.length) af bf rk rv rm rs rn bp bk bv bo bn))) (vp_Si (fun r : Int32 => r = xb_i (xk_has K k))) 0 0 (fun _ => False) := by
  refine Met.ofW (cc := b_K_isAt) (maxL := 3) (ret := (some .boolean)) (by decide) rfl ?_
  intro pJ eJ s mJ args below meth cJ s₁ B hml hv
  obtain ⟨rfl, hP, hK, hZ⟩ := hv
  have hx := B.exec
  have hb := B.bytes
  have hr := B.returns
  have hts := atoms_spec (ws := zw_K_isAt) B.pre
  have hown : s.vm.findClass R_K = some mJ.cls := findClass_of_methodNamed B.named
  have hlocks := B.notSynchronized
  have hl := lv_entry ([.ref (q 1), .int (nI (xk_lo K k)), .int k]) (n := 3) (Nat.le_of_ble_eq_true rfl)
  rw [lg_entry_eq]
  generalize (lg_sl ([.ref (q 1), .int (nI (xk_lo K k)), .int k]) ++ List.replicate (3 - (lg_sl ([.ref (q 1), .int (nI (xk_lo K k)), .int k])).length) Slot.unset).toArray = ls at hl ⊢
  have hl : lv_has ls 3 [(0, .ref (q 1)), (1, .int (nI (xk_lo K k))), (2, .int k)] := hl
  have hlen := hT.1
  have hlo := xk_lo_le K k
  refine lv_iload_n hx hb d_K_isAt_0 rfl (lv_at hl 1 rfl) ?_
  refine lv_aload_n hx hb d_K_isAt_1 rfl (lv_at hl 0 rfl) ?_
  refine va_get (D := D) (ci := 1) (v := .int (nI K.length)) (C := R_K) (T := F_K) (N := 4) hx hb hts (zi_K _) hown hK hP 1 rfl rfl 3 (by decide) (hts _ (List.mem_cons_of_mem _ zm_48)) (fun _ h9 => h9) rfl d_K_isAt_2 ?_
  refine lv_icmp_ge (tgt := 22) hx hb d_K_isAt_5 (by decide) (fun hc5 => ?_) (fun hc5 => ?_)
  · skip
    rw [nI_leI (by omega) (by omega)] at hc5
    refine lv_iconst (v := nI 0) hx hb d_K_isAt_22 (by decide +kernel) ?_
    exact W.zret (ty := .boolean) (v := nI 0) hx hb hr (by decide +kernel) (fun t ht hW => ⟨_, rfl, by first | (rw [xw_hT he hc15]; exact xb_t.symm) | (rw [xw_hF he hc15]; exact xb_f.symm) | (rw [xw_hL hc5]; exact xb_f.symm), ht⟩) (fun _ h => by cases h) d_K_isAt_23
  · skip
    rw [nI_leI (by omega) (by omega)] at hc5
    obtain ⟨e, he⟩ : ∃ e, K[xk_lo K k]? = some e := ⟨_, List.getElem?_eq_getElem (by omega)⟩
    have hfe := (xk_tie_f hT.2.2.1 he).1
    refine lv_aload_n hx hb d_K_isAt_8 rfl (lv_at hl 0 rfl) ?_
    refine va_get (D := D) (ci := 1) (v := .ref (q 5)) (C := R_K) (T := F_K) (N := 4) hx hb hts (zi_K _) hown hK hP 1 rfl rfl 0 (by decide) (hts _ (List.mem_cons_of_mem _ zm_44)) (fun _ h9 => h9) rfl d_K_isAt_9 ?_
    refine lv_iload_n hx hb d_K_isAt_12 rfl (lv_at hl 1 rfl) ?_
    refine xa_iald hx hb hK hP 5 0 rfl rfl (k := xk_lo K k) (by omega) (by decide) d_K_isAt_13 ?_
    refine xa_top (y := e.1) hfe ?_
    refine lv_iload_n hx hb d_K_isAt_14 rfl (lv_at hl 2 rfl) ?_
    refine lv_icmp_ne (tgt := 22) hx hb d_K_isAt_15 (by decide) (fun hc15 => ?_) (fun hc15 => ?_)
    · skip
      refine lv_iconst (v := nI 0) hx hb d_K_isAt_22 (by decide +kernel) ?_
      exact W.zret (ty := .boolean) (v := nI 0) hx hb hr (by decide +kernel) (fun t ht hW => ⟨_, rfl, by first | (rw [xw_hT he hc15]; exact xb_t.symm) | (rw [xw_hF he hc15]; exact xb_f.symm) | (rw [xw_hL hc5]; exact xb_f.symm), ht⟩) (fun _ h => by cases h) d_K_isAt_23
    · skip
      refine lv_iconst (v := nI 1) hx hb d_K_isAt_18 (by decide +kernel) ?_
      refine lv_goto (tgt := 23) hx hb d_K_isAt_19 (by decide) ?_
      exact W.zret (ty := .boolean) (v := nI 1) hx hb hr (by decide +kernel) (fun t ht hW => ⟨_, rfl, by first | (rw [xw_hT he hc15]; exact xb_t.symm) | (rw [xw_hF he hc15]; exact xb_f.symm) | (rw [xw_hL hc5]; exact xb_f.symm), ht⟩) (fun _ h => by cases h) d_K_isAt_23
set_option maxHeartbeats 4000000 in
set_option maxRecDepth 100000 in
theorem c_K_holds (l : Launch) (D : va_G) (q : Nat → Nat) (cA : Nat → ClassId) (lim : Int32) (kf : Nat → Int32) (kg : Nat → Int64) (af : Nat → Int32) (bf : Nat → Int32) (rk : Nat → Int32) (rv : Nat → Int64) (rm : Nat → Int32) (rs : Nat → Int32) (rn : Int32) (bp : Nat → Int32) (bk : Nat → Int32) (bv : Nat → Int64) (bo : Int32) (bn : Int32) (K : List xk_E) (k : Int32) (hT : xw_KT kf kg af bf K) : Met l y_K_holds zw_K_holds ({ frames := 1, cells := 0, slots := 0, locals := 22 } : Room) (va_Pc [.ref (q 1), .int k] (xp_R D zz_cl (xw_tC cA) (xw_C q cA lim kf kg (nI K.length) af bf rk rv rm rs rn bp bk bv bo bn))) (vp_Si (fun r : Int32 => r = xb_i (xk_has K k))) 0 0 (fun _ => False) := by
  refine Met.ofW (cc := b_K_holds) (maxL := 2) (ret := (some .boolean)) (by decide) rfl ?_
  intro pJ eJ s mJ args below meth cJ s₁ B hml hv
  obtain ⟨rfl, hP, hK, hZ⟩ := hv
  have hx := B.exec
  have hb := B.bytes
  have hr := B.returns
  have hts := atoms_spec (ws := zw_K_holds) B.pre
  have hown : s.vm.findClass R_K = some mJ.cls := findClass_of_methodNamed B.named
  have hlocks := B.notSynchronized
  have hl := lv_entry ([.ref (q 1), .int k]) (n := 2) (Nat.le_of_ble_eq_true rfl)
  rw [lg_entry_eq]
  generalize (lg_sl ([.ref (q 1), .int k]) ++ List.replicate (2 - (lg_sl ([.ref (q 1), .int k])).length) Slot.unset).toArray = ls at hl ⊢
  have hl : lv_has ls 2 [(0, .ref (q 1)), (1, .int k)] := hl
  refine lv_aload_n hx hb d_K_holds_0 rfl (lv_at hl 0 rfl) ?_
  refine lv_aload_n hx hb d_K_holds_1 rfl (lv_at hl 0 rfl) ?_
  refine lv_iload_n hx hb d_K_holds_2 rfl (lv_at hl 1 rfl) ?_
  refine xa_cI (va_runV (As := [.int k]) (rest := [.ref (q 1)]) ⟨hx, hb, hml, hown, hts⟩ (c_K_below l D q cA lim kf kg af bf rk rv rm rs rn bp bk bv bo bn K k hT) (cwV 1 hts (zg_V zm_138 zm_140 zs_0 zm_3 zm_141) rfl rfl rfl (by decide +kernel) ⟨Nat.le_of_ble_eq_true rfl, Nat.le_of_ble_eq_true rfl⟩) (xp_preV (ci := 1) (q0 := 1) hK hP rfl rfl rfl hZ) rfl rfl hl.1 rfl (lv_room (Nat.le_of_ble_eq_true rfl)) d_K_holds_3 ⟨Nat.zero_le _, Nat.zero_le _⟩) ?_
  refine lv_iload_n hx hb d_K_holds_6 rfl (lv_at hl 1 rfl) ?_
  refine xa_cI (va_runV (As := [.int (nI (xk_lo K k)), .int k]) (rest := []) ⟨hx, hb, hml, hown, hts⟩ (c_K_isAt l D q cA lim kf kg af bf rk rv rm rs rn bp bk bv bo bn K k hT) (cwV 2 hts (zg_V zm_142 zm_144 zs_1 zm_3 zm_145) rfl rfl rfl (by decide +kernel) ⟨Nat.le_of_ble_eq_true rfl, Nat.le_of_ble_eq_true rfl⟩) (xp_preV (ci := 1) (q0 := 1) hK hP rfl rfl rfl hZ) rfl rfl hl.1 rfl (lv_room (Nat.le_of_ble_eq_true rfl)) d_K_holds_7 ⟨Nat.zero_le _, Nat.zero_le _⟩) ?_
  exact W.zret (ty := .boolean) (v := xb_i (xk_has K k)) hx hb hr (xb_nar _) (fun t ht hW => ⟨_, rfl, rfl, ht⟩) (fun _ h => by cases h) d_K_holds_10
set_option maxHeartbeats 4000000 in
set_option maxRecDepth 100000 in
theorem c_K_valueOf (l : Launch) (D : va_G) (q : Nat → Nat) (cA : Nat → ClassId) (lim : Int32) (kf : Nat → Int32) (kg : Nat → Int64) (af : Nat → Int32) (bf : Nat → Int32) (rk : Nat → Int32) (rv : Nat → Int64) (rm : Nat → Int32) (rs : Nat → Int32) (rn : Int32) (bp : Nat → Int32) (bk : Nat → Int32) (bv : Nat → Int64) (bo : Int32) (bn : Int32) (K : List xk_E) (k : Int32) (hT : xw_KT kf kg af bf K) : Met l y_K_valueOf zw_K_valueOf ({ frames := 1, cells := 0, slots := 0, locals := 22 } : Room) (va_Pc [.ref (q 1), .int k] (xp_R D zz_cl (xw_tC cA) (xw_C q cA lim kf kg (nI K.length) af bf rk rv rm rs rn bp bk bv bo bn))) (vp_Sl (fun r : Int64 => r = xk_get K k)) 0 0 (fun _ => False) := by
  refine Met.ofW (cc := b_K_valueOf) (maxL := 3) (ret := (some .long)) (by decide) rfl ?_
  intro pJ eJ s mJ args below meth cJ s₁ B hml hv
  obtain ⟨rfl, hP, hK, hZ⟩ := hv
  have hx := B.exec
  have hb := B.bytes
  have hr := B.returns
  have hts := atoms_spec (ws := zw_K_valueOf) B.pre
  have hown : s.vm.findClass R_K = some mJ.cls := findClass_of_methodNamed B.named
  have hlocks := B.notSynchronized
  have hl := lv_entry ([.ref (q 1), .int k]) (n := 3) (Nat.le_of_ble_eq_true rfl)
  rw [lg_entry_eq]
  generalize (lg_sl ([.ref (q 1), .int k]) ++ List.replicate (3 - (lg_sl ([.ref (q 1), .int k])).length) Slot.unset).toArray = ls at hl ⊢
  have hl : lv_has ls 3 [(0, .ref (q 1)), (1, .int k)] := hl
  have hlen := hT.1
  refine lv_aload_n hx hb d_K_valueOf_0 rfl (lv_at hl 0 rfl) ?_
  refine lv_iload_n hx hb d_K_valueOf_1 rfl (lv_at hl 1 rfl) ?_
  refine xa_cI (va_runV (As := [.int k]) (rest := []) ⟨hx, hb, hml, hown, hts⟩ (c_K_below l D q cA lim kf kg af bf rk rv rm rs rn bp bk bv bo bn K k hT) (cwV 1 hts (zg_V zm_138 zm_140 zs_0 zm_3 zm_141) rfl rfl rfl (by decide +kernel) ⟨Nat.le_of_ble_eq_true rfl, Nat.le_of_ble_eq_true rfl⟩) (xp_preV (ci := 1) (q0 := 1) hK hP rfl rfl rfl hZ) rfl rfl hl.1 rfl (lv_room (Nat.le_of_ble_eq_true rfl)) d_K_valueOf_2 ⟨Nat.zero_le _, Nat.zero_le _⟩) ?_
  refine lv_istore_n (lv' := [(2, .int (nI (xk_lo K k))), (0, .ref (q 1)), (1, .int k)]) hx hb d_K_valueOf_5 rfl hl (Nat.le_of_ble_eq_true rfl) rfl (fun ls hl => ?_)
  refine lv_aload_n hx hb d_K_valueOf_6 rfl (lv_at hl 1 rfl) ?_
  refine lv_iload_n hx hb d_K_valueOf_7 rfl (lv_at hl 0 rfl) ?_
  refine lv_iload_n hx hb d_K_valueOf_8 rfl (lv_at hl 2 rfl) ?_
  refine xa_cI (va_runV (As := [.int (nI (xk_lo K k)), .int k]) (rest := []) ⟨hx, hb, hml, hown, hts⟩ (c_K_isAt l D q cA lim kf kg af bf rk rv rm rs rn bp bk bv bo bn K k hT) (cwV 2 hts (zg_V zm_142 zm_144 zs_1 zm_3 zm_145) rfl rfl rfl (by decide +kernel) ⟨Nat.le_of_ble_eq_true rfl, Nat.le_of_ble_eq_true rfl⟩) (xp_preV (ci := 1) (q0 := 1) hK hP rfl rfl rfl hZ) rfl rfl hl.1 rfl (lv_room (Nat.le_of_ble_eq_true rfl)) d_K_valueOf_9 ⟨Nat.zero_le _, Nat.zero_le _⟩) ?_
  refine lv_if_eq (tgt := 24) hx hb d_K_valueOf_12 (by decide) (fun hc12 => ?_) (fun hc12 => ?_)
  · skip
    rw [xb_0] at hc12
    refine lv_lconst (v := 0) hx hb d_K_valueOf_24 (by decide +kernel) ?_
    exact W.lret (v := 0) hx hb hr (fun t ht hW => ⟨_, rfl, by first | rfl | exact (xk_get_0 hc12).symm, ht⟩) (fun _ h => by cases h) d_K_valueOf_25
  · skip
    rw [xb_1] at hc12
    have hhl := xk_has_lt hc12
    have hge := (xk_tie_f hT.2.2.1 (xk_has_at hc12)).2
    refine lv_aload_n hx hb d_K_valueOf_15 rfl (lv_at hl 1 rfl) ?_
    refine va_get (D := D) (ci := 1) (v := .ref (q 6)) (C := R_K) (T := F_K) (N := 4) hx hb hts (zi_K _) hown hK hP 1 rfl rfl 1 (by decide) (hts _ (List.mem_cons_of_mem _ zm_45)) (fun _ h9 => h9) rfl d_K_valueOf_16 ?_
    refine lv_iload_n hx hb d_K_valueOf_19 rfl (lv_at hl 0 rfl) ?_
    refine xa_lald hx hb hK hP 6 1 rfl rfl (k := xk_lo K k) (by omega) (by decide) d_K_valueOf_20 ?_
    refine xa_topl (y := xk_get K k) hge ?_
    refine lv_goto (tgt := 25) hx hb d_K_valueOf_21 (by decide) ?_
    exact W.lret (v := xk_get K k) hx hb hr (fun t ht hW => ⟨_, rfl, by first | rfl | exact (xk_get_0 hc12).symm, ht⟩) (fun _ h => by cases h) d_K_valueOf_25
set_option maxHeartbeats 4000000 in
set_option maxRecDepth 100000 in
theorem c_K_pages (l : Launch) (D : va_G) (q : Nat → Nat) (cA : Nat → ClassId) (lim : Int32) (kf : Nat → Int32) (kg : Nat → Int64) (af : Nat → Int32) (bf : Nat → Int32) (rk : Nat → Int32) (rv : Nat → Int64) (rm : Nat → Int32) (rs : Nat → Int32) (rn : Int32) (bp : Nat → Int32) (bk : Nat → Int32) (bv : Nat → Int64) (bo : Int32) (bn : Int32) (K : List xk_E) (hT : xw_KT kf kg af bf K) : Met l y_K_pagesInUse zw_K_pagesInUse ({ frames := 4, cells := 0, slots := 0, locals := 86 } : Room) (va_Pc [.ref (q 1)] (xp_R D zz_cl (xw_tC cA) (xw_C q cA lim kf kg (nI K.length) af bf rk rv rm rs rn bp bk bv bo bn))) (vp_Si (fun r : Int32 => r = nI (xd_pg K))) 0 0 (fun _ => False) := by
  refine Met.ofW (cc := b_K_pagesInUse) (maxL := 3) (ret := (some .int)) (by decide) rfl ?_
  intro pJ eJ s mJ args below meth cJ s₁ B hml hv
  obtain ⟨rfl, hP, hK, hZ⟩ := hv
  have hx := B.exec
  have hb := B.bytes
  have hr := B.returns
  have hts := atoms_spec (ws := zw_K_pagesInUse) B.pre
  have hown : s.vm.findClass R_K = some mJ.cls := findClass_of_methodNamed B.named
  have hlocks := B.notSynchronized
  have hl := lv_entry ([.ref (q 1)]) (n := 3) (Nat.le_of_ble_eq_true rfl)
  rw [lg_entry_eq]
  generalize (lg_sl ([.ref (q 1)]) ++ List.replicate (3 - (lg_sl ([.ref (q 1)])).length) Slot.unset).toArray = ls at hl ⊢
  have hl : lv_has ls 3 [(0, .ref (q 1))] := hl
  have hlen := hT.1
  refine lv_iconst (v := nI 1) hx hb d_K_pagesInUse_0 (by decide +kernel) ?_
  refine lv_iconst (v := nI 1) hx hb d_K_pagesInUse_1 (by decide +kernel) ?_
  refine lv_aload_n hx hb d_K_pagesInUse_2 rfl (lv_at hl 0 rfl) ?_
  refine va_get (D := D) (ci := 1) (v := .ref (q 2)) (C := R_K) (T := F_K) (N := 4) hx hb hts (zi_K _) hown hK hP 1 rfl rfl 2 (by decide) (hts _ (List.mem_cons_of_mem _ zm_46)) (fun _ h9 => h9) rfl d_K_pagesInUse_3 ?_
  refine xa_cI (va_runV (As := []) (rest := [.int (nI 1), .int (nI 1)]) ⟨hx, hb, hml, hown, hts⟩ (c_C_deep l D q cA lim kf kg af bf rk rv rm rs rn bp bk bv bo bn K hT) (cwV 0 hts (zg_V zm_191 zm_192 zm_193 zm_4 zm_194) rfl rfl rfl (by decide +kernel) ⟨Nat.le_of_ble_eq_true rfl, Nat.le_of_ble_eq_true rfl⟩) (xp_preV (ci := 2) (q0 := 2) hK hP rfl rfl rfl hZ) rfl rfl hl.1 rfl (lv_room (Nat.le_of_ble_eq_true rfl)) d_K_pagesInUse_6 ⟨Nat.zero_le _, Nat.zero_le _⟩) ?_
  refine lv_ishl hx hb d_K_pagesInUse_9 ?_
  refine xa_top (y := nI (2 ^ xd_gm K 64)) (xw_shl (xd_gm_le K 64)) ?_
  have hpw := xw_pow (xd_gm_le K 64)
  refine xa_cI (va_runSN (As := [.int (nI (2 ^ xd_gm K 64))]) (rest := [.int (nI 1)]) ⟨hx, hb, hml, hown, hts⟩ (c_E_dirp l (2 ^ xd_gm K 64) (by omega)) ⟨(va_cnB 1 hts (zg_C zm_206) rfl rfl rfl (hZ _ zn_204) (hts _ (List.mem_cons_of_mem _ zm_1)) (by decide +kernel) ⟨Nat.le_of_ble_eq_true rfl, Nat.le_of_ble_eq_true rfl⟩), (hts _ (List.mem_cons_of_mem _ zm_205)), trivial⟩ xp_preS rfl rfl hl.1 rfl (lv_room (Nat.le_of_ble_eq_true rfl)) d_K_pagesInUse_10 ⟨Nat.zero_le _, Nat.zero_le _⟩) ?_
  refine lv_iadd hx hb d_K_pagesInUse_13 ?_
  refine xa_top (y := nI (1 + (2 ^ xd_gm K 64 + 15) / 16)) (nI_add _ _) ?_
  refine lv_istore_n (lv' := [(1, .int (nI (1 + (2 ^ xd_gm K 64 + 15) / 16))), (0, .ref (q 1))]) hx hb d_K_pagesInUse_14 rfl hl (Nat.le_of_ble_eq_true rfl) rfl (fun ls hl => ?_)
  refine lv_iconst (v := nI 0) hx hb d_K_pagesInUse_15 (by decide +kernel) ?_
  refine lv_istore_n (lv' := [(2, .int (nI 0)), (1, .int (nI (1 + (2 ^ xd_gm K 64 + 15) / 16))), (0, .ref (q 1))]) hx hb d_K_pagesInUse_16 rfl hl (Nat.le_of_ble_eq_true rfl) rfl (fun ls hl => ?_)
  have lp17 : ∀ (N : Nat) (p : Nat) (n : Nat) (ls : Array Slot), (p ≤ 64) → (n = 1 + (2 ^ xd_gm K 64 + 15) / 16 + xd_sp K p) → lv_has ls 3 [(0, .ref (q 1)), (1, .int (nI n)), (2, .int (nI p))] → 64 - p < N → W pJ l eJ (headSpec zw_K_pagesInUse ({ frames := 4, cells := 0, slots := 0, locals := 86 } : Room)).room s mJ ([.ref (q 1)] : List Value).toArray below meth cJ s.heap [] 0 0 (MQ below (vp_Si (fun r : Int32 => r = nI (xd_pg K))) ([.ref (q 1)] : List Value).toArray s 0 0 (fun _ => False)) (F0 mJ 17 ls []) := by
    intro N
    induction N with
    | zero => intro p n ls hp hn hl hm; exact absurd hm (Nat.not_lt_zero _)
    | succ N ih17 =>
      intro p n ls hp hn hl hm
      refine lv_iload_n hx hb d_K_pagesInUse_17 rfl (lv_at hl 2 rfl) ?_
      refine lv_bipush (v := nI 64) hx hb d_K_pagesInUse_18 (by decide +kernel) ?_
      refine lv_icmp_ge (tgt := 54) hx hb d_K_pagesInUse_20 (by decide) (fun hc20 => ?_) (fun hc20 => ?_)
      · skip
        rw [nI_leI (by omega) (by omega)] at hc20
        refine lv_iconst (v := nI 0) hx hb d_K_pagesInUse_54 (by decide +kernel) ?_
        refine lv_istore_n (lv' := [(2, .int (nI 0)), (0, .ref (q 1)), (1, .int (nI n))]) hx hb d_K_pagesInUse_55 rfl hl (Nat.le_of_ble_eq_true rfl) rfl (fun ls hl => ?_)
        have lp56 : ∀ (N : Nat) (i : Nat) (n : Nat) (ls : Array Slot), (i ≤ K.length) → (n = 1 + (2 ^ xd_gm K 64 + 15) / 16 + xd_sp K 64 + xd_vs (K.take i)) → lv_has ls 3 [(0, .ref (q 1)), (1, .int (nI n)), (2, .int (nI i))] → K.length - i < N → W pJ l eJ (headSpec zw_K_pagesInUse ({ frames := 4, cells := 0, slots := 0, locals := 86 } : Room)).room s mJ ([.ref (q 1)] : List Value).toArray below meth cJ s.heap [] 0 0 (MQ below (vp_Si (fun r : Int32 => r = nI (xd_pg K))) ([.ref (q 1)] : List Value).toArray s 0 0 (fun _ => False)) (F0 mJ 56 ls []) := by
          intro N
          induction N with
          | zero => intro i n ls hi hn hl hm; exact absurd hm (Nat.not_lt_zero _)
          | succ N ih56 =>
            intro i n ls hi hn hl hm
            refine lv_iload_n hx hb d_K_pagesInUse_56 rfl (lv_at hl 2 rfl) ?_
            refine lv_aload_n hx hb d_K_pagesInUse_57 rfl (lv_at hl 0 rfl) ?_
            refine va_get (D := D) (ci := 1) (v := .int (nI K.length)) (C := R_K) (T := F_K) (N := 4) hx hb hts (zi_K _) hown hK hP 1 rfl rfl 3 (by decide) (hts _ (List.mem_cons_of_mem _ zm_48)) (fun _ h9 => h9) rfl d_K_pagesInUse_58 ?_
            refine lv_icmp_ge (tgt := 82) hx hb d_K_pagesInUse_61 (by decide) (fun hc61 => ?_) (fun hc61 => ?_)
            · skip
              rw [nI_leI (by omega) (by omega)] at hc61
              refine lv_iload_n hx hb d_K_pagesInUse_82 rfl (lv_at hl 1 rfl) ?_
              exact W.iret (v := nI n) hx hb hr (fun t ht hW => ⟨_, rfl, by rw [hn, show i = K.length from by omega, List.take_length]; rfl, ht⟩) (fun _ h => by cases h) d_K_pagesInUse_83
            · skip
              rw [nI_leI (by omega) (by omega)] at hc61
              obtain ⟨e, he⟩ : ∃ e, K[i]? = some e := ⟨_, List.getElem?_eq_getElem (by omega)⟩
              have hge := (xk_tie_f hT.2.2.1 he).2
              refine lv_iload_n hx hb d_K_pagesInUse_64 rfl (lv_at hl 1 rfl) ?_
              refine lv_aload_n hx hb d_K_pagesInUse_65 rfl (lv_at hl 0 rfl) ?_
              refine va_get (D := D) (ci := 1) (v := .ref (q 6)) (C := R_K) (T := F_K) (N := 4) hx hb hts (zi_K _) hown hK hP 1 rfl rfl 1 (by decide) (hts _ (List.mem_cons_of_mem _ zm_45)) (fun _ h9 => h9) rfl d_K_pagesInUse_66 ?_
              refine lv_iload_n hx hb d_K_pagesInUse_69 rfl (lv_at hl 2 rfl) ?_
              refine xa_lald hx hb hK hP 6 1 rfl rfl (k := i) (by omega) (by decide) d_K_pagesInUse_70 ?_
              refine xa_topl (y := e.2) hge ?_
              refine xa_cI (va_runSN (As := [.long e.2]) (rest := [.int (nI n)]) ⟨hx, hb, hml, hown, hts⟩ (c_E_valp l e.2) ⟨(va_cnB 1 hts (zg_C zm_224) rfl rfl rfl (hZ _ zn_222) (hts _ (List.mem_cons_of_mem _ zm_1)) (by decide +kernel) ⟨Nat.le_of_ble_eq_true rfl, Nat.le_of_ble_eq_true rfl⟩), (hts _ (List.mem_cons_of_mem _ zm_223)), trivial⟩ xp_preS rfl rfl hl.1 rfl (lv_room (Nat.le_of_ble_eq_true rfl)) d_K_pagesInUse_71 ⟨Nat.zero_le _, Nat.zero_le _⟩) ?_
              refine lv_iadd hx hb d_K_pagesInUse_74 ?_
              refine xa_top (y := nI (n + xv_vp e.2)) (nI_add _ _) ?_
              refine lv_istore_n (lv' := [(1, .int (nI (n + xv_vp e.2))), (0, .ref (q 1)), (2, .int (nI i))]) hx hb d_K_pagesInUse_75 rfl hl (Nat.le_of_ble_eq_true rfl) rfl (fun ls hl => ?_)
              refine lv_iinc (k := 2) (v := nI (i + 1)) (lv' := [(2, .int (nI (i + 1))), (1, .int (nI (n + xv_vp e.2))), (0, .ref (q 1))]) hx hb d_K_pagesInUse_76 hl rfl (xn_inc _) (Nat.le_of_ble_eq_true rfl) rfl (fun ls hl => ?_)
              refine lv_goto (tgt := 56) hx hb d_K_pagesInUse_79 (by decide) ?_
              exact ih56 (i + 1) (n + xv_vp e.2) ls (by omega) (by rw [xd_vs_take he, hn]; omega) (lv_sub hl [2, 1, 0] rfl) (by omega)
        exact lp56 _ 0 n ls (by omega) (by rw [hn, show p = 64 from by omega]; rfl) (lv_sub hl [1, 2, 0] rfl) (Nat.lt_succ_self _)
      · skip
        rw [nI_leI (by omega) (by omega)] at hc20
        refine lv_aload_n hx hb d_K_pagesInUse_23 rfl (lv_at hl 0 rfl) ?_
        refine va_get (D := D) (ci := 1) (v := .ref (q 2)) (C := R_K) (T := F_K) (N := 4) hx hb hts (zi_K _) hown hK hP 1 rfl rfl 2 (by decide) (hts _ (List.mem_cons_of_mem _ zm_46)) (fun _ h9 => h9) rfl d_K_pagesInUse_24 ?_
        refine lv_iload_n hx hb d_K_pagesInUse_27 rfl (lv_at hl 2 rfl) ?_
        refine xa_cI (va_runV (As := [.int (nI p)]) (rest := []) ⟨hx, hb, hml, hown, hts⟩ (c_C_isP l D q cA lim kf kg af bf rk rv rm rs rn bp bk bv bo bn K p hT (by omega)) (cwV 1 hts (zg_V zm_207 zm_208 zm_209 zm_4 zm_210) rfl rfl rfl (by decide +kernel) ⟨Nat.le_of_ble_eq_true rfl, Nat.le_of_ble_eq_true rfl⟩) (xp_preV (ci := 2) (q0 := 2) hK hP rfl rfl rfl hZ) rfl rfl hl.1 rfl (lv_room (Nat.le_of_ble_eq_true rfl)) d_K_pagesInUse_28 ⟨Nat.zero_le _, Nat.zero_le _⟩) ?_
        refine lv_if_eq (tgt := 48) hx hb d_K_pagesInUse_31 (by decide) (fun hc31 => ?_) (fun hc31 => ?_)
        · skip
          rw [xb_0] at hc31
          refine lv_iinc (k := 2) (v := nI (p + 1)) (lv' := [(2, .int (nI (p + 1))), (0, .ref (q 1)), (1, .int (nI n))]) hx hb d_K_pagesInUse_48 hl rfl (xn_inc _) (Nat.le_of_ble_eq_true rfl) rfl (fun ls hl => ?_)
          refine lv_goto (tgt := 17) hx hb d_K_pagesInUse_51 (by decide) ?_
          exact ih17 (p + 1) n ls (by omega) (by first | (rw [hn, xd_sp, if_pos hc31, xd_pl_iff.mp hc31]; omega) | rw [hn, xd_sp, if_neg (by simp [hc31])]) (lv_sub hl [1, 2, 0] rfl) (by omega)
        · skip
          rw [xb_1] at hc31
          refine lv_iload_n hx hb d_K_pagesInUse_34 rfl (lv_at hl 1 rfl) ?_
          refine lv_aload_n hx hb d_K_pagesInUse_35 rfl (lv_at hl 0 rfl) ?_
          refine va_get (D := D) (ci := 1) (v := .ref (q 2)) (C := R_K) (T := F_K) (N := 4) hx hb hts (zi_K _) hown hK hP 1 rfl rfl 2 (by decide) (hts _ (List.mem_cons_of_mem _ zm_46)) (fun _ h9 => h9) rfl d_K_pagesInUse_36 ?_
          refine lv_iload_n hx hb d_K_pagesInUse_39 rfl (lv_at hl 2 rfl) ?_
          refine xa_cI (va_runV (As := [.int (nI p)]) (rest := [.int (nI n)]) ⟨hx, hb, hml, hown, hts⟩ (c_C_kob l D q cA lim kf kg af bf rk rv rm rs rn bp bk bv bo bn K p hT (by omega)) (cwV 1 hts (zg_V zm_215 zm_216 zm_217 zm_4 zm_218) rfl rfl rfl (by decide +kernel) ⟨Nat.le_of_ble_eq_true rfl, Nat.le_of_ble_eq_true rfl⟩) (xp_preV (ci := 2) (q0 := 2) hK hP rfl rfl rfl hZ) rfl rfl hl.1 rfl (lv_room (Nat.le_of_ble_eq_true rfl)) d_K_pagesInUse_40 ⟨Nat.zero_le _, Nat.zero_le _⟩) ?_
          have hcn := xd_cn_le K (xd_dp K p) (p % 2 ^ xd_dp K p)
          refine xa_cI (va_runSN (As := [.int (nI (xd_cn K (xd_dp K p) (p % 2 ^ xd_dp K p)))]) (rest := [.int (nI n)]) ⟨hx, hb, hml, hown, hts⟩ (c_E_bktp l (xd_cn K (xd_dp K p) (p % 2 ^ xd_dp K p)) (by omega)) ⟨(va_cnB 1 hts (zg_C zm_221) rfl rfl rfl (hZ _ zn_219) (hts _ (List.mem_cons_of_mem _ zm_1)) (by decide +kernel) ⟨Nat.le_of_ble_eq_true rfl, Nat.le_of_ble_eq_true rfl⟩), (hts _ (List.mem_cons_of_mem _ zm_220)), trivial⟩ xp_preS rfl rfl hl.1 rfl (lv_room (Nat.le_of_ble_eq_true rfl)) d_K_pagesInUse_43 ⟨Nat.zero_le _, Nat.zero_le _⟩) ?_
          refine lv_iadd hx hb d_K_pagesInUse_46 ?_
          refine xa_top (y := nI (n + xd_bp (xd_cn K (xd_dp K p) (p % 2 ^ xd_dp K p)))) (nI_add _ _) ?_
          refine lv_istore_n (lv' := [(1, .int (nI (n + xd_bp (xd_cn K (xd_dp K p) (p % 2 ^ xd_dp K p))))), (0, .ref (q 1)), (2, .int (nI p))]) hx hb d_K_pagesInUse_47 rfl hl (Nat.le_of_ble_eq_true rfl) rfl (fun ls hl => ?_)
          refine lv_iinc (k := 2) (v := nI (p + 1)) (lv' := [(2, .int (nI (p + 1))), (1, .int (nI (n + xd_bp (xd_cn K (xd_dp K p) (p % 2 ^ xd_dp K p))))), (0, .ref (q 1))]) hx hb d_K_pagesInUse_48 hl rfl (xn_inc _) (Nat.le_of_ble_eq_true rfl) rfl (fun ls hl => ?_)
          refine lv_goto (tgt := 17) hx hb d_K_pagesInUse_51 (by decide) ?_
          exact ih17 (p + 1) (n + xd_bp (xd_cn K (xd_dp K p) (p % 2 ^ xd_dp K p))) ls (by omega) (by first | (rw [hn, xd_sp, if_pos hc31, xd_pl_iff.mp hc31]; omega) | rw [hn, xd_sp, if_neg (by simp [hc31])]) (lv_sub hl [2, 1, 0] rfl) (by omega)
  exact lp17 _ 0 (1 + (2 ^ xd_gm K 64 + 15) / 16) ls (by omega) rfl (lv_sub hl [2, 1, 0] rfl) (Nat.lt_succ_self _)
