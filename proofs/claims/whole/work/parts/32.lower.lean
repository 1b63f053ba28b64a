/-! Walks: specs_c (printed by run.py) -/
set_option maxHeartbeats 4000000 in
set_option maxRecDepth 100000 in
theorem c_R_append (l : Launch) (D : va_G) (q : Nat → Nat) (cA : Nat → ClassId) (lim : Int32) (kf : Nat → Int32) (kg : Nat → Int64) (kn : Int32) (af : Nat → Int32) (bf : Nat → Int32) (rk : Nat → Int32) (rv : Nat → Int64) (rm : Nat → Int32) (rs : Nat → Int32) (bp : Nat → Int32) (bk : Nat → Int32) (bv : Nat → Int64) (bo : Int32) (bn : Int32) (sz : Nat) (n : Nat) (k : Int32) (v : Int64) (fo : Int32) (hn : n < 70) : Met l y_R_append zw_R_append ({ frames := 0, cells := 0, slots := 0, locals := 0 } : Room) (va_Pc [.ref (q 3), .int k, .long v, .int fo] (xp_Q D zz_cl (xw_tC cA) sz (xw_C q cA lim kf kg kn af bf rk rv rm rs (nI n) bp bk bv bo bn))) (va_Qv (fun u : Unit => True) (fun (u : Unit) (t : State) => va_P D zz_cl (xw_C q cA lim kf kg kn af bf (upd rk n k) (vp_updL rv n v) (upd rm n fo) (upd rs n (nI n)) (nI (n + 1)) bp bk bv bo bn) t.heap) (va_A (xw_C q cA lim kf kg kn af bf rk rv rm rs (nI n) bp bk bv bo bn) sz)) 0 0 (va_A (xw_C q cA lim kf kg kn af bf rk rv rm rs (nI n) bp bk bv bo bn) sz) := by
  refine Met.ofW (cc := b_R_append) (maxL := 5) (ret := none) (by decide) rfl ?_
  intro pJ eJ s mJ args below meth cJ s₁ B hml hv
  obtain ⟨rfl, hsz, hP, hK, hD0, hZ⟩ := hv
  have hx := B.exec
  have hb := B.bytes
  have hr := B.returns
  have hts := atoms_spec (ws := zw_R_append) B.pre
  have hown : s.vm.findClass R_R = some mJ.cls := findClass_of_methodNamed B.named
  have hlocks := B.notSynchronized
  subst hsz
  have hD := hD0.self (sz := s.heap.size)
  generalize hAe : va_A (xw_C q cA lim kf kg kn af bf rk rv rm rs (nI n) bp bk bv bo bn) s.heap.size = A at hD ⊢
  have hA : ∀ q : Nat, s.heap.size ≤ q → A q := fun q h => by rw [← hAe]; exact Or.inr h
  have hS : va_S A s.heap s.heap [] := va_S.rf
  have hl := lv_entry ([.ref (q 3), .int k, .long v, .int fo]) (n := 5) (Nat.le_of_ble_eq_true rfl)
  rw [lg_entry_eq]
  generalize (lg_sl ([.ref (q 3), .int k, .long v, .int fo]) ++ List.replicate (5 - (lg_sl ([.ref (q 3), .int k, .long v, .int fo])).length) Slot.unset).toArray = ls at hl ⊢
  have hl : lv_has ls 5 [(0, .ref (q 3)), (1, .int k), (2, .long v), (4, .int fo)] := hl
  refine lv_aload_n hx hb d_R_append_0 rfl (lv_at hl 0 rfl) ?_
  refine va_get (D := D) (ci := 3) (v := .int (nI n)) (C := R_R) (T := F_R) (N := 5) hx hb hts (zi_R _) hown hK hP 3 rfl rfl 4 (by decide) (hts _ (List.mem_cons_of_mem _ zm_73)) (fun _ h9 => h9) rfl d_R_append_1 ?_
  refine lv_bipush (v := nI 70) hx hb d_R_append_4 (by decide +kernel) ?_
  refine lv_icmp_ge (tgt := 63) hx hb d_R_append_6 (by decide) (fun hc6 => ?_) (fun hc6 => ?_)
  · skip
    rw [nI_leI (by omega) (by omega)] at hc6
    exfalso
    omega
  · skip
    rw [nI_leI (by omega) (by omega)] at hc6
    refine lv_aload_n hx hb d_R_append_9 rfl (lv_at hl 0 rfl) ?_
    refine va_get (D := D) (ci := 3) (v := .ref (q 9)) (C := R_R) (T := F_R) (N := 5) hx hb hts (zi_R _) hown hK hP 3 rfl rfl 0 (by decide) (hts _ (List.mem_cons_of_mem _ zm_65)) (fun _ h9 => h9) rfl d_R_append_10 ?_
    refine lv_aload_n hx hb d_R_append_13 rfl (lv_at hl 0 rfl) ?_
    refine va_get (D := D) (ci := 3) (v := .int (nI n)) (C := R_R) (T := F_R) (N := 5) hx hb hts (zi_R _) hown hK hP 3 rfl rfl 4 (by decide) (hts _ (List.mem_cons_of_mem _ zm_73)) (fun _ h9 => h9) rfl d_R_append_14 ?_
    refine lv_iload_n hx hb d_R_append_17 rfl (lv_at hl 1 rfl) ?_
    refine xa_iast (ws' := (xw_C q cA lim kf kg kn af bf (upd rk n k) rv rm rs (nI n) bp bk bv bo bn)) hx hb hK hP hD hS 9 4 rfl rfl (k := n) (by omega) (by decide) rfl d_R_append_18 (fun H locs hP hD hS => ?_)
    refine lv_aload_n hx hb d_R_append_19 rfl (lv_at hl 0 rfl) ?_
    refine va_get (D := D) (ci := 3) (v := .ref (q 10)) (C := R_R) (T := F_R) (N := 5) hx hb hts (zi_R _) hown hK hP 3 rfl rfl 1 (by decide) (hts _ (List.mem_cons_of_mem _ zm_67)) (fun _ h9 => h9) rfl d_R_append_20 ?_
    refine lv_aload_n hx hb d_R_append_23 rfl (lv_at hl 0 rfl) ?_
    refine va_get (D := D) (ci := 3) (v := .int (nI n)) (C := R_R) (T := F_R) (N := 5) hx hb hts (zi_R _) hown hK hP 3 rfl rfl 4 (by decide) (hts _ (List.mem_cons_of_mem _ zm_73)) (fun _ h9 => h9) rfl d_R_append_24 ?_
    refine lv_lload_n hx hb d_R_append_27 rfl (lv_at hl 2 rfl) ?_
    refine xa_last (ws' := (xw_C q cA lim kf kg kn af bf (upd rk n k) (vp_updL rv n v) rm rs (nI n) bp bk bv bo bn)) hx hb hK hP hD hS 10 5 rfl rfl (k := n) (by omega) (by decide) rfl d_R_append_28 (fun H locs hP hD hS => ?_)
    refine lv_aload_n hx hb d_R_append_29 rfl (lv_at hl 0 rfl) ?_
    refine va_get (D := D) (ci := 3) (v := .ref (q 11)) (C := R_R) (T := F_R) (N := 5) hx hb hts (zi_R _) hown hK hP 3 rfl rfl 2 (by decide) (hts _ (List.mem_cons_of_mem _ zm_69)) (fun _ h9 => h9) rfl d_R_append_30 ?_
    refine lv_aload_n hx hb d_R_append_33 rfl (lv_at hl 0 rfl) ?_
    refine va_get (D := D) (ci := 3) (v := .int (nI n)) (C := R_R) (T := F_R) (N := 5) hx hb hts (zi_R _) hown hK hP 3 rfl rfl 4 (by decide) (hts _ (List.mem_cons_of_mem _ zm_73)) (fun _ h9 => h9) rfl d_R_append_34 ?_
    refine lv_iload hx hb d_R_append_37 (lv_at hl 3 rfl) ?_
    refine xa_iast (ws' := (xw_C q cA lim kf kg kn af bf (upd rk n k) (vp_updL rv n v) (upd rm n fo) rs (nI n) bp bk bv bo bn)) hx hb hK hP hD hS 11 6 rfl rfl (k := n) (by omega) (by decide) rfl d_R_append_39 (fun H locs hP hD hS => ?_)
    refine lv_aload_n hx hb d_R_append_40 rfl (lv_at hl 0 rfl) ?_
    refine va_get (D := D) (ci := 3) (v := .ref (q 12)) (C := R_R) (T := F_R) (N := 5) hx hb hts (zi_R _) hown hK hP 3 rfl rfl 3 (by decide) (hts _ (List.mem_cons_of_mem _ zm_71)) (fun _ h9 => h9) rfl d_R_append_41 ?_
    refine lv_aload_n hx hb d_R_append_44 rfl (lv_at hl 0 rfl) ?_
    refine va_get (D := D) (ci := 3) (v := .int (nI n)) (C := R_R) (T := F_R) (N := 5) hx hb hts (zi_R _) hown hK hP 3 rfl rfl 4 (by decide) (hts _ (List.mem_cons_of_mem _ zm_73)) (fun _ h9 => h9) rfl d_R_append_45 ?_
    refine lv_aload_n hx hb d_R_append_48 rfl (lv_at hl 0 rfl) ?_
    refine va_get (D := D) (ci := 3) (v := .int (nI n)) (C := R_R) (T := F_R) (N := 5) hx hb hts (zi_R _) hown hK hP 3 rfl rfl 4 (by decide) (hts _ (List.mem_cons_of_mem _ zm_73)) (fun _ h9 => h9) rfl d_R_append_49 ?_
    refine xa_iast (ws' := (xw_C q cA lim kf kg kn af bf (upd rk n k) (vp_updL rv n v) (upd rm n fo) (upd rs n (nI n)) (nI n) bp bk bv bo bn)) hx hb hK hP hD hS 12 7 rfl rfl (k := n) (by omega) (by decide) rfl d_R_append_52 (fun H locs hP hD hS => ?_)
    refine lv_aload_n hx hb d_R_append_53 rfl (lv_at hl 0 rfl) ?_
    refine lv_dup hx hb d_R_append_54 rfl ?_
    refine va_get (D := D) (ci := 3) (v := .int (nI n)) (C := R_R) (T := F_R) (N := 5) hx hb hts (zi_R _) hown hK hP 3 rfl rfl 4 (by decide) (hts _ (List.mem_cons_of_mem _ zm_73)) (fun _ h9 => h9) rfl d_R_append_55 ?_
    refine lv_iconst (v := nI 1) hx hb d_R_append_58 (by decide +kernel) ?_
    refine lv_iadd hx hb d_R_append_59 ?_
    refine xa_top (y := nI (n + 1)) (nI_add _ _) ?_
    refine xa_put (ws' := (xw_C q cA lim kf kg kn af bf (upd rk n k) (vp_updL rv n v) (upd rm n fo) (upd rs n (nI n)) (nI (n + 1)) bp bk bv bo bn)) (ci := 3) (v := .int (nI (n + 1))) (ty := .int) (C := R_R) (T := F_R) (N := 5) hx hb hts (zi_R _) t_R t_R_ok n_R hown hK hP hD hS 3 rfl rfl 4 (by decide) (hts _ (List.mem_cons_of_mem _ zm_73)) (fun _ h9 => h9) rfl (by decide +kernel) (rfl) (rfl) (Nat.le_of_ble_eq_true rfl) rfl d_R_append_60 (fun H locs hP hD hS => ?_)
    exact W.vret hx hb hr (fun tJ htJ hWJ => ⟨⟨(), rfl, trivial, by dsimp only; rw [htJ]; exact hP⟩, hS.F htJ⟩) hS.2.2 d_R_append_63
set_option maxHeartbeats 4000000 in
set_option maxRecDepth 100000 in
theorem c_R_write (l : Launch) (D : va_G) (q : Nat → Nat) (cA : Nat → ClassId) (lim : Int32) (kf : Nat → Int32) (kg : Nat → Int64) (kn : Int32) (af : Nat → Int32) (bf : Nat → Int32) (rk : Nat → Int32) (rv : Nat → Int64) (rm : Nat → Int32) (rs : Nat → Int32) (bp : Nat → Int32) (bk : Nat → Int32) (bv : Nat → Int64) (bo : Int32) (bn : Int32) (sz : Nat) (n : Nat) (k : Int32) (b : Bool) (v : Int64) (hn : n < 70) : Met l y_R_write zw_R_write ({ frames := 1, cells := 0, slots := 0, locals := 24 } : Room) (va_Pc [.ref (q 3), .int k, .int (xb_i b), .long v] (xp_Q D zz_cl (xw_tC cA) sz (xw_C q cA lim kf kg kn af bf rk rv rm rs (nI n) bp bk bv bo bn))) (va_Qv (fun u : Unit => True) (fun (u : Unit) (t : State) => va_P D zz_cl (xw_C q cA lim kf kg kn af bf (upd rk n k) (vp_updL rv n v) (upd rm n (xw_fo b)) (upd rs n (nI n)) (nI (n + 1)) bp bk bv bo bn) t.heap) (va_A (xw_C q cA lim kf kg kn af bf rk rv rm rs (nI n) bp bk bv bo bn) sz)) 0 0 (va_A (xw_C q cA lim kf kg kn af bf rk rv rm rs (nI n) bp bk bv bo bn) sz) := by
  refine Met.ofW (cc := b_R_write) (maxL := 5) (ret := none) (by decide) rfl ?_
  intro pJ eJ s mJ args below meth cJ s₁ B hml hv
  obtain ⟨rfl, hsz, hP, hK, hD0, hZ⟩ := hv
  have hx := B.exec
  have hb := B.bytes
  have hr := B.returns
  have hts := atoms_spec (ws := zw_R_write) B.pre
  have hown : s.vm.findClass R_R = some mJ.cls := findClass_of_methodNamed B.named
  have hlocks := B.notSynchronized
  subst hsz
  have hD := hD0.self (sz := s.heap.size)
  generalize hAe : va_A (xw_C q cA lim kf kg kn af bf rk rv rm rs (nI n) bp bk bv bo bn) s.heap.size = A at hD ⊢
  have hA : ∀ q : Nat, s.heap.size ≤ q → A q := fun q h => by rw [← hAe]; exact Or.inr h
  have hS : va_S A s.heap s.heap [] := va_S.rf
  have hl := lv_entry ([.ref (q 3), .int k, .int (xb_i b), .long v]) (n := 5) (Nat.le_of_ble_eq_true rfl)
  rw [lg_entry_eq]
  generalize (lg_sl ([.ref (q 3), .int k, .int (xb_i b), .long v]) ++ List.replicate (5 - (lg_sl ([.ref (q 3), .int k, .int (xb_i b), .long v])).length) Slot.unset).toArray = ls at hl ⊢
  have hl : lv_has ls 5 [(0, .ref (q 3)), (1, .int k), (2, .int (xb_i b)), (3, .long v)] := hl
  refine lv_aload_n hx hb d_R_write_0 rfl (lv_at hl 0 rfl) ?_
  refine lv_iload_n hx hb d_R_write_1 rfl (lv_at hl 1 rfl) ?_
  refine lv_lload_n hx hb d_R_write_2 rfl (lv_at hl 3 rfl) ?_
  refine lv_iload_n hx hb d_R_write_3 rfl (lv_at hl 2 rfl) ?_
  refine lv_if_eq (tgt := 11) hx hb d_R_write_4 (by decide) (fun hc4 => ?_) (fun hc4 => ?_)
  · skip
    rw [xb_0] at hc4
    refine lv_iconst (v := nI 1) hx hb d_R_write_11 (by decide +kernel) ?_
    refine xa_top (y := xw_fo b) (by rw [hc4]; rfl) ?_
    refine xa_cMV (va_runV (As := [.int k, .long v, .int (xw_fo b)]) (rest := []) ⟨hx, hb, hml, hown, hts⟩ (c_R_append l D q cA lim kf kg kn af bf rk rv rm rs bp bk bv bo bn s.heap.size n k v (xw_fo b) (by omega)) (cwV 3 hts (zg_V zm_158 zm_160 zs_3 zm_5 zm_161) rfl rfl rfl (by decide +kernel) ⟨Nat.le_of_ble_eq_true rfl, Nat.le_of_ble_eq_true rfl⟩) (xp_preVQ (ci := 3) (q0 := 3) hK hP hD rfl rfl rfl hZ) rfl rfl hl.1 rfl (lv_room (Nat.le_of_ble_eq_true rfl)) d_R_write_12 ⟨Nat.zero_le _, Nat.zero_le _⟩) hS (xa_F hD hS hA) (fun u H locs hp12 hP hS => ?_)
    have hP : va_P D zz_cl (xw_C q cA lim kf kg kn af bf (upd rk n k) (vp_updL rv n v) (upd rm n (xw_fo b)) (upd rs n (nI n)) (nI (n + 1)) bp bk bv bo bn) H := hP
    have hD : va_D A (xw_C q cA lim kf kg kn af bf (upd rk n k) (vp_updL rv n v) (upd rm n (xw_fo b)) (upd rs n (nI n)) (nI (n + 1)) bp bk bv bo bn) := xa_E hD rfl
    exact W.vret hx hb hr (fun tJ htJ hWJ => ⟨⟨(), rfl, trivial, by dsimp only; rw [htJ]; exact hP⟩, hS.F htJ⟩) hS.2.2 d_R_write_15
  · skip
    rw [xb_1] at hc4
    refine lv_iconst (v := nI 2) hx hb d_R_write_7 (by decide +kernel) ?_
    refine lv_goto (tgt := 12) hx hb d_R_write_8 (by decide) ?_
    refine xa_top (y := xw_fo b) (by rw [hc4]; rfl) ?_
    refine xa_cMV (va_runV (As := [.int k, .long v, .int (xw_fo b)]) (rest := []) ⟨hx, hb, hml, hown, hts⟩ (c_R_append l D q cA lim kf kg kn af bf rk rv rm rs bp bk bv bo bn s.heap.size n k v (xw_fo b) (by omega)) (cwV 3 hts (zg_V zm_158 zm_160 zs_3 zm_5 zm_161) rfl rfl rfl (by decide +kernel) ⟨Nat.le_of_ble_eq_true rfl, Nat.le_of_ble_eq_true rfl⟩) (xp_preVQ (ci := 3) (q0 := 3) hK hP hD rfl rfl rfl hZ) rfl rfl hl.1 rfl (lv_room (Nat.le_of_ble_eq_true rfl)) d_R_write_12 ⟨Nat.zero_le _, Nat.zero_le _⟩) hS (xa_F hD hS hA) (fun u H locs hp12 hP hS => ?_)
    have hP : va_P D zz_cl (xw_C q cA lim kf kg kn af bf (upd rk n k) (vp_updL rv n v) (upd rm n (xw_fo b)) (upd rs n (nI n)) (nI (n + 1)) bp bk bv bo bn) H := hP
    have hD : va_D A (xw_C q cA lim kf kg kn af bf (upd rk n k) (vp_updL rv n v) (upd rm n (xw_fo b)) (upd rs n (nI n)) (nI (n + 1)) bp bk bv bo bn) := xa_E hD rfl
    exact W.vret hx hb hr (fun tJ htJ hWJ => ⟨⟨(), rfl, trivial, by dsimp only; rw [htJ]; exact hP⟩, hS.F htJ⟩) hS.2.2 d_R_write_15
set_option maxHeartbeats 4000000 in
set_option maxRecDepth 100000 in
theorem c_R_close (l : Launch) (D : va_G) (q : Nat → Nat) (cA : Nat → ClassId) (lim : Int32) (kf : Nat → Int32) (kg : Nat → Int64) (kn : Int32) (af : Nat → Int32) (bf : Nat → Int32) (rk : Nat → Int32) (rv : Nat → Int64) (rm : Nat → Int32) (rs : Nat → Int32) (bp : Nat → Int32) (bk : Nat → Int32) (bv : Nat → Int64) (bo : Int32) (bn : Int32) (sz : Nat) (n : Nat) (f : Nat) (hn : n < 70) (hf : f ≤ n) : Met l y_R_closeBatch zw_R_closeBatch ({ frames := 1, cells := 0, slots := 0, locals := 24 } : Room) (va_Pc [.ref (q 3), .int (nI f)] (xp_Q D zz_cl (xw_tC cA) sz (xw_C q cA lim kf kg kn af bf rk rv rm rs (nI n) bp bk bv bo bn))) (va_Qv (fun u : Unit => True) (fun (u : Unit) (t : State) => va_P D zz_cl (xw_C q cA lim kf kg kn af bf (upd rk n (nI 0)) (vp_updL rv n 0) (upd rm n (nI 0)) (xw_fi (upd rs n (nI n)) f (n + 1) (nI f)) (nI (n + 1)) bp bk bv bo bn) t.heap) (va_A (xw_C q cA lim kf kg kn af bf rk rv rm rs (nI n) bp bk bv bo bn) sz)) 0 0 (va_A (xw_C q cA lim kf kg kn af bf rk rv rm rs (nI n) bp bk bv bo bn) sz) := by
  refine Met.ofW (cc := b_R_closeBatch) (maxL := 3) (ret := none) (by decide) rfl ?_
  intro pJ eJ s mJ args below meth cJ s₁ B hml hv
  obtain ⟨rfl, hsz, hP, hK, hD0, hZ⟩ := hv
  have hx := B.exec
  have hb := B.bytes
  have hr := B.returns
  have hts := atoms_spec (ws := zw_R_closeBatch) B.pre
  have hown : s.vm.findClass R_R = some mJ.cls := findClass_of_methodNamed B.named
  have hlocks := B.notSynchronized
  subst hsz
  have hD := hD0.self (sz := s.heap.size)
  generalize hAe : va_A (xw_C q cA lim kf kg kn af bf rk rv rm rs (nI n) bp bk bv bo bn) s.heap.size = A at hD ⊢
  have hA : ∀ q : Nat, s.heap.size ≤ q → A q := fun q h => by rw [← hAe]; exact Or.inr h
  have hS : va_S A s.heap s.heap [] := va_S.rf
  have hl := lv_entry ([.ref (q 3), .int (nI f)]) (n := 3) (Nat.le_of_ble_eq_true rfl)
  rw [lg_entry_eq]
  generalize (lg_sl ([.ref (q 3), .int (nI f)]) ++ List.replicate (3 - (lg_sl ([.ref (q 3), .int (nI f)])).length) Slot.unset).toArray = ls at hl ⊢
  have hl : lv_has ls 3 [(0, .ref (q 3)), (1, .int (nI f))] := hl
  refine lv_aload_n hx hb d_R_closeBatch_0 rfl (lv_at hl 0 rfl) ?_
  refine lv_iconst (v := nI 0) hx hb d_R_closeBatch_1 (by decide +kernel) ?_
  refine lv_lconst (v := 0) hx hb d_R_closeBatch_2 (by decide +kernel) ?_
  refine lv_iconst (v := nI 0) hx hb d_R_closeBatch_3 (by decide +kernel) ?_
  refine xa_cMV (va_runV (As := [.int (nI 0), .long 0, .int (nI 0)]) (rest := []) ⟨hx, hb, hml, hown, hts⟩ (c_R_append l D q cA lim kf kg kn af bf rk rv rm rs bp bk bv bo bn s.heap.size n (nI 0) 0 (nI 0) (by omega)) (cwV 3 hts (zg_V zm_158 zm_160 zs_3 zm_5 zm_161) rfl rfl rfl (by decide +kernel) ⟨Nat.le_of_ble_eq_true rfl, Nat.le_of_ble_eq_true rfl⟩) (xp_preVQ (ci := 3) (q0 := 3) hK hP hD rfl rfl rfl hZ) rfl rfl hl.1 rfl (lv_room (Nat.le_of_ble_eq_true rfl)) d_R_closeBatch_4 ⟨Nat.zero_le _, Nat.zero_le _⟩) hS (xa_F hD hS hA) (fun u H locs hp4 hP hS => ?_)
  have hP : va_P D zz_cl (xw_C q cA lim kf kg kn af bf (upd rk n (nI 0)) (vp_updL rv n 0) (upd rm n (nI 0)) (upd rs n (nI n)) (nI (n + 1)) bp bk bv bo bn) H := hP
  have hD : va_D A (xw_C q cA lim kf kg kn af bf (upd rk n (nI 0)) (vp_updL rv n 0) (upd rm n (nI 0)) (upd rs n (nI n)) (nI (n + 1)) bp bk bv bo bn) := xa_E hD rfl
  rw [show upd rs n (nI n) = xw_fi (upd rs n (nI n)) f f (nI f) from xw_fi_0 _ _ _] at hP hD
  refine lv_iload_n hx hb d_R_closeBatch_7 rfl (lv_at hl 1 rfl) ?_
  refine lv_istore_n (lv' := [(2, .int (nI f)), (0, .ref (q 3)), (1, .int (nI f))]) hx hb d_R_closeBatch_8 rfl hl (Nat.le_of_ble_eq_true rfl) rfl (fun ls hl => ?_)
  have lp9 : ∀ (N : Nat) (i : Nat) (ls : Array Slot) (H : Heap) (locs : List Loc), (f ≤ i) → (i ≤ n + 1) → lv_has ls 3 [(0, .ref (q 3)), (1, .int (nI f)), (2, .int (nI i))] → va_P D zz_cl (xw_C q cA lim kf kg kn af bf (upd rk n (nI 0)) (vp_updL rv n 0) (upd rm n (nI 0)) (xw_fi (upd rs n (nI n)) f i (nI f)) (nI (n + 1)) bp bk bv bo bn) H → va_D A (xw_C q cA lim kf kg kn af bf (upd rk n (nI 0)) (vp_updL rv n 0) (upd rm n (nI 0)) (xw_fi (upd rs n (nI n)) f i (nI f)) (nI (n + 1)) bp bk bv bo bn) → va_S A s.heap H locs → n + 1 - i < N → W pJ l eJ (headSpec zw_R_closeBatch ({ frames := 1, cells := 0, slots := 0, locals := 24 } : Room)).room s mJ ([.ref (q 3), .int (nI f)] : List Value).toArray below meth cJ H locs 0 0 (MQ below (va_Qv (fun u : Unit => True) (fun (u : Unit) (t : State) => va_P D zz_cl (xw_C q cA lim kf kg kn af bf (upd rk n (nI 0)) (vp_updL rv n 0) (upd rm n (nI 0)) (xw_fi (upd rs n (nI n)) f (n + 1) (nI f)) (nI (n + 1)) bp bk bv bo bn) t.heap) A) ([.ref (q 3), .int (nI f)] : List Value).toArray s 0 0 A) (F0 mJ 9 ls []) := by
    intro N
    induction N with
    | zero => intro i ls H locs hfi hin hl hP hD hS hm; exact absurd hm (Nat.not_lt_zero _)
    | succ N ih9 =>
      intro i ls H locs hfi hin hl hP hD hS hm
      refine lv_iload_n hx hb d_R_closeBatch_9 rfl (lv_at hl 2 rfl) ?_
      refine lv_aload_n hx hb d_R_closeBatch_10 rfl (lv_at hl 0 rfl) ?_
      refine va_get (D := D) (ci := 3) (v := .int (nI (n + 1))) (C := R_R) (T := F_R) (N := 5) hx hb hts (zi_R _) hown hK hP 3 rfl rfl 4 (by decide) (hts _ (List.mem_cons_of_mem _ zm_73)) (fun _ h9 => h9) rfl d_R_closeBatch_11 ?_
      refine lv_icmp_ge (tgt := 30) hx hb d_R_closeBatch_14 (by decide) (fun hc14 => ?_) (fun hc14 => ?_)
      · skip
        rw [nI_leI (by omega) (by omega)] at hc14
        obtain rfl : i = n + 1 := by omega
        exact W.vret hx hb hr (fun tJ htJ hWJ => ⟨⟨(), rfl, trivial, by dsimp only; rw [htJ]; exact hP⟩, hS.F htJ⟩) hS.2.2 d_R_closeBatch_30
      · skip
        rw [nI_leI (by omega) (by omega)] at hc14
        refine lv_aload_n hx hb d_R_closeBatch_17 rfl (lv_at hl 0 rfl) ?_
        refine va_get (D := D) (ci := 3) (v := .ref (q 12)) (C := R_R) (T := F_R) (N := 5) hx hb hts (zi_R _) hown hK hP 3 rfl rfl 3 (by decide) (hts _ (List.mem_cons_of_mem _ zm_71)) (fun _ h9 => h9) rfl d_R_closeBatch_18 ?_
        refine lv_iload_n hx hb d_R_closeBatch_21 rfl (lv_at hl 2 rfl) ?_
        refine lv_iload_n hx hb d_R_closeBatch_22 rfl (lv_at hl 1 rfl) ?_
        refine xa_iast (ws' := (xw_C q cA lim kf kg kn af bf (upd rk n (nI 0)) (vp_updL rv n 0) (upd rm n (nI 0)) (upd (xw_fi (upd rs n (nI n)) f i (nI f)) i (nI f)) (nI (n + 1)) bp bk bv bo bn)) hx hb hK hP hD hS 12 7 rfl rfl (k := i) (by omega) (by decide) rfl d_R_closeBatch_23 (fun H locs hP hD hS => ?_)
        rw [show upd (xw_fi (upd rs n (nI n)) f i (nI f)) i (nI f) = xw_fi (upd rs n (nI n)) f (i + 1) (nI f) from xw_fi_up _ hfi _] at hP hD
        refine lv_iinc (k := 2) (v := nI (i + 1)) (lv' := [(2, .int (nI (i + 1))), (0, .ref (q 3)), (1, .int (nI f))]) hx hb d_R_closeBatch_24 hl rfl (xn_inc _) (Nat.le_of_ble_eq_true rfl) rfl (fun ls hl => ?_)
        refine lv_goto (tgt := 9) hx hb d_R_closeBatch_27 (by decide) ?_
        exact ih9 (i + 1) ls _ _ (by omega) (by omega) (lv_sub hl [1, 2, 0] rfl) hP hD hS (by omega)
  exact lp9 _ f ls _ _ (Nat.le_refl _) (by omega) (lv_sub hl [1, 2, 0] rfl) hP hD hS (Nat.lt_succ_self _)
set_option maxHeartbeats 4000000 in
set_option maxRecDepth 100000 in
theorem c_R_settle (l : Launch) (D : va_G) (q : Nat → Nat) (cA : Nat → ClassId) (lim : Int32) (kf : Nat → Int32) (kg : Nat → Int64) (kn : Int32) (af : Nat → Int32) (bf : Nat → Int32) (rk : Nat → Int32) (rv : Nat → Int64) (rm : Nat → Int32) (rs : Nat → Int32) (bp : Nat → Int32) (bk : Nat → Int32) (bv : Nat → Int64) (bo : Int32) (bn : Int32) (sz : Nat) (n : Nat) (f : Nat) (hn : n ≤ 70) (hf : f ≤ n) : Met l y_R_settle zw_R_settle ({ frames := 0, cells := 0, slots := 0, locals := 0 } : Room) (va_Pc [.ref (q 3), .int (nI f)] (xp_Q D zz_cl (xw_tC cA) sz (xw_C q cA lim kf kg kn af bf rk rv rm rs (nI n) bp bk bv bo bn))) (va_Qv (fun u : Unit => True) (fun (u : Unit) (t : State) => va_P D zz_cl (xw_C q cA lim kf kg kn af bf (if 64 < n then xw_mv rk f (n - f) else rk) (if 64 < n then xw_mv rv f (n - f) else rv) (if 64 < n then xw_mv rm f (n - f) else rm) (if 64 < n then xm_mb rs f (n - f) else rs) (nI (if 64 < n then (n - f) else n)) bp bk bv bo bn) t.heap) (va_A (xw_C q cA lim kf kg kn af bf rk rv rm rs (nI n) bp bk bv bo bn) sz)) 0 0 (va_A (xw_C q cA lim kf kg kn af bf rk rv rm rs (nI n) bp bk bv bo bn) sz) := by
  refine Met.ofW (cc := b_R_settle) (maxL := 4) (ret := none) (by decide) rfl ?_
  intro pJ eJ s mJ args below meth cJ s₁ B hml hv
  obtain ⟨rfl, hsz, hP, hK, hD0, hZ⟩ := hv
  have hx := B.exec
  have hb := B.bytes
  have hr := B.returns
  have hts := atoms_spec (ws := zw_R_settle) B.pre
  have hown : s.vm.findClass R_R = some mJ.cls := findClass_of_methodNamed B.named
  have hlocks := B.notSynchronized
  subst hsz
  have hD := hD0.self (sz := s.heap.size)
  generalize hAe : va_A (xw_C q cA lim kf kg kn af bf rk rv rm rs (nI n) bp bk bv bo bn) s.heap.size = A at hD ⊢
  have hA : ∀ q : Nat, s.heap.size ≤ q → A q := fun q h => by rw [← hAe]; exact Or.inr h
  have hS : va_S A s.heap s.heap [] := va_S.rf
  have hl := lv_entry ([.ref (q 3), .int (nI f)]) (n := 4) (Nat.le_of_ble_eq_true rfl)
  rw [lg_entry_eq]
  generalize (lg_sl ([.ref (q 3), .int (nI f)]) ++ List.replicate (4 - (lg_sl ([.ref (q 3), .int (nI f)])).length) Slot.unset).toArray = ls at hl ⊢
  have hl : lv_has ls 4 [(0, .ref (q 3)), (1, .int (nI f))] := hl
  refine lv_aload_n hx hb d_R_settle_0 rfl (lv_at hl 0 rfl) ?_
  refine va_get (D := D) (ci := 3) (v := .int (nI n)) (C := R_R) (T := F_R) (N := 5) hx hb hts (zi_R _) hown hK hP 3 rfl rfl 4 (by decide) (hts _ (List.mem_cons_of_mem _ zm_73)) (fun _ h9 => h9) rfl d_R_settle_1 ?_
  refine lv_bipush (v := nI 64) hx hb d_R_settle_4 (by decide +kernel) ?_
  refine lv_icmp_gt (tgt := 10) hx hb d_R_settle_6 (by decide) (fun hc6 => ?_) (fun hc6 => ?_)
  · skip
    rw [nI_ltI (by omega) (by omega)] at hc6
    refine lv_aload_n hx hb d_R_settle_10 rfl (lv_at hl 0 rfl) ?_
    refine va_get (D := D) (ci := 3) (v := .int (nI n)) (C := R_R) (T := F_R) (N := 5) hx hb hts (zi_R _) hown hK hP 3 rfl rfl 4 (by decide) (hts _ (List.mem_cons_of_mem _ zm_73)) (fun _ h9 => h9) rfl d_R_settle_11 ?_
    refine lv_iload_n hx hb d_R_settle_14 rfl (lv_at hl 1 rfl) ?_
    refine lv_isub hx hb d_R_settle_15 ?_
    refine xa_top (y := nI (n - f)) (pk_sub (by omega)) ?_
    refine lv_istore_n (lv' := [(2, .int (nI (n - f))), (0, .ref (q 3)), (1, .int (nI f))]) hx hb d_R_settle_16 rfl hl (Nat.le_of_ble_eq_true rfl) rfl (fun ls hl => ?_)
    rw [show rk = xw_mv rk f 0 from (xw_mv_0 rk f).symm] at hP hD
    rw [show rv = xw_mv rv f 0 from (xw_mv_0 rv f).symm] at hP hD
    rw [show rm = xw_mv rm f 0 from (xw_mv_0 rm f).symm] at hP hD
    rw [show rs = xm_mb rs f 0 from (xm_mb_0 rs f).symm] at hP hD
    refine lv_iconst (v := nI 0) hx hb d_R_settle_17 (by decide +kernel) ?_
    refine lv_istore_n (lv' := [(3, .int (nI 0)), (2, .int (nI (n - f))), (0, .ref (q 3)), (1, .int (nI f))]) hx hb d_R_settle_18 rfl hl (Nat.le_of_ble_eq_true rfl) rfl (fun ls hl => ?_)
    have lp19 : ∀ (N : Nat) (i : Nat) (ls : Array Slot) (H : Heap) (locs : List Loc), (i ≤ n - f) → lv_has ls 4 [(0, .ref (q 3)), (1, .int (nI f)), (2, .int (nI (n - f))), (3, .int (nI i))] → va_P D zz_cl (xw_C q cA lim kf kg kn af bf (xw_mv rk f i) (xw_mv rv f i) (xw_mv rm f i) (xm_mb rs f i) (nI n) bp bk bv bo bn) H → va_D A (xw_C q cA lim kf kg kn af bf (xw_mv rk f i) (xw_mv rv f i) (xw_mv rm f i) (xm_mb rs f i) (nI n) bp bk bv bo bn) → va_S A s.heap H locs → n - f - i < N → W pJ l eJ (headSpec zw_R_settle ({ frames := 0, cells := 0, slots := 0, locals := 0 } : Room)).room s mJ ([.ref (q 3), .int (nI f)] : List Value).toArray below meth cJ H locs 0 0 (MQ below (va_Qv (fun u : Unit => True) (fun (u : Unit) (t : State) => va_P D zz_cl (xw_C q cA lim kf kg kn af bf (if 64 < n then xw_mv rk f (n - f) else rk) (if 64 < n then xw_mv rv f (n - f) else rv) (if 64 < n then xw_mv rm f (n - f) else rm) (if 64 < n then xm_mb rs f (n - f) else rs) (nI (if 64 < n then (n - f) else n)) bp bk bv bo bn) t.heap) A) ([.ref (q 3), .int (nI f)] : List Value).toArray s 0 0 A) (F0 mJ 19 ls []) := by
      intro N
      induction N with
      | zero => intro i ls H locs hi hl hP hD hS hm; exact absurd hm (Nat.not_lt_zero _)
      | succ N ih19 =>
        intro i ls H locs hi hl hP hD hS hm
        refine lv_iload_n hx hb d_R_settle_19 rfl (lv_at hl 3 rfl) ?_
        refine lv_iload_n hx hb d_R_settle_20 rfl (lv_at hl 2 rfl) ?_
        refine lv_icmp_ge (tgt := 88) hx hb d_R_settle_21 (by decide) (fun hc21 => ?_) (fun hc21 => ?_)
        · skip
          rw [nI_leI (by omega) (by omega)] at hc21
          rw [show xw_mv rk f i = xw_mv rk f (n - f) from by rw [show i = n - f from by omega]] at hP hD
          rw [show xw_mv rv f i = xw_mv rv f (n - f) from by rw [show i = n - f from by omega]] at hP hD
          rw [show xw_mv rm f i = xw_mv rm f (n - f) from by rw [show i = n - f from by omega]] at hP hD
          rw [show xm_mb rs f i = xm_mb rs f (n - f) from by rw [show i = n - f from by omega]] at hP hD
          refine lv_aload_n hx hb d_R_settle_88 rfl (lv_at hl 0 rfl) ?_
          refine lv_iload_n hx hb d_R_settle_89 rfl (lv_at hl 2 rfl) ?_
          refine xa_put (ws' := (xw_C q cA lim kf kg kn af bf (xw_mv rk f (n - f)) (xw_mv rv f (n - f)) (xw_mv rm f (n - f)) (xm_mb rs f (n - f)) (nI (n - f)) bp bk bv bo bn)) (ci := 3) (v := .int (nI (n - f))) (ty := .int) (C := R_R) (T := F_R) (N := 5) hx hb hts (zi_R _) t_R t_R_ok n_R hown hK hP hD hS 3 rfl rfl 4 (by decide) (hts _ (List.mem_cons_of_mem _ zm_73)) (fun _ h9 => h9) rfl (by decide +kernel) (rfl) (rfl) (Nat.le_of_ble_eq_true rfl) rfl d_R_settle_90 (fun H locs hP hD hS => ?_)
          exact W.vret hx hb hr (fun tJ htJ hWJ => ⟨⟨(), rfl, trivial, by dsimp only; rw [htJ]; first | (simp only [hc6, if_true]; exact hP) | (simp only [hc6, if_false]; exact hP)⟩, hS.F htJ⟩) hS.2.2 d_R_settle_93
        · skip
          rw [nI_leI (by omega) (by omega)] at hc21
          refine lv_aload_n hx hb d_R_settle_24 rfl (lv_at hl 0 rfl) ?_
          refine va_get (D := D) (ci := 3) (v := .ref (q 9)) (C := R_R) (T := F_R) (N := 5) hx hb hts (zi_R _) hown hK hP 3 rfl rfl 0 (by decide) (hts _ (List.mem_cons_of_mem _ zm_65)) (fun _ h9 => h9) rfl d_R_settle_25 ?_
          refine lv_iload_n hx hb d_R_settle_28 rfl (lv_at hl 3 rfl) ?_
          refine lv_aload_n hx hb d_R_settle_29 rfl (lv_at hl 0 rfl) ?_
          refine va_get (D := D) (ci := 3) (v := .ref (q 9)) (C := R_R) (T := F_R) (N := 5) hx hb hts (zi_R _) hown hK hP 3 rfl rfl 0 (by decide) (hts _ (List.mem_cons_of_mem _ zm_65)) (fun _ h9 => h9) rfl d_R_settle_30 ?_
          refine lv_iload_n hx hb d_R_settle_33 rfl (lv_at hl 1 rfl) ?_
          refine lv_iload_n hx hb d_R_settle_34 rfl (lv_at hl 3 rfl) ?_
          refine lv_iadd hx hb d_R_settle_35 ?_
          refine xa_top (y := nI (f + i)) (nI_add _ _) ?_
          refine xa_iald hx hb hK hP 9 4 rfl rfl (k := f + i) (by omega) (by decide) d_R_settle_36 ?_
          refine xa_top (y := rk (f + i)) (xw_mv_at rk f i) ?_
          refine xa_iast (ws' := (xw_C q cA lim kf kg kn af bf (upd (xw_mv rk f i) i (rk (f + i))) (xw_mv rv f i) (xw_mv rm f i) (xm_mb rs f i) (nI n) bp bk bv bo bn)) hx hb hK hP hD hS 9 4 rfl rfl (k := i) (by omega) (by decide) rfl d_R_settle_37 (fun H locs hP hD hS => ?_)
          rw [show upd (xw_mv rk f i) i (rk (f + i)) = xw_mv rk f (i + 1) from xw_mv_up rk f i] at hP hD
          refine lv_aload_n hx hb d_R_settle_38 rfl (lv_at hl 0 rfl) ?_
          refine va_get (D := D) (ci := 3) (v := .ref (q 10)) (C := R_R) (T := F_R) (N := 5) hx hb hts (zi_R _) hown hK hP 3 rfl rfl 1 (by decide) (hts _ (List.mem_cons_of_mem _ zm_67)) (fun _ h9 => h9) rfl d_R_settle_39 ?_
          refine lv_iload_n hx hb d_R_settle_42 rfl (lv_at hl 3 rfl) ?_
          refine lv_aload_n hx hb d_R_settle_43 rfl (lv_at hl 0 rfl) ?_
          refine va_get (D := D) (ci := 3) (v := .ref (q 10)) (C := R_R) (T := F_R) (N := 5) hx hb hts (zi_R _) hown hK hP 3 rfl rfl 1 (by decide) (hts _ (List.mem_cons_of_mem _ zm_67)) (fun _ h9 => h9) rfl d_R_settle_44 ?_
          refine lv_iload_n hx hb d_R_settle_47 rfl (lv_at hl 1 rfl) ?_
          refine lv_iload_n hx hb d_R_settle_48 rfl (lv_at hl 3 rfl) ?_
          refine lv_iadd hx hb d_R_settle_49 ?_
          refine xa_top (y := nI (f + i)) (nI_add _ _) ?_
          refine xa_lald hx hb hK hP 10 5 rfl rfl (k := f + i) (by omega) (by decide) d_R_settle_50 ?_
          refine xa_topl (y := rv (f + i)) (xw_mv_at rv f i) ?_
          refine xa_last (ws' := (xw_C q cA lim kf kg kn af bf (xw_mv rk f (i + 1)) (vp_updL (xw_mv rv f i) i (rv (f + i))) (xw_mv rm f i) (xm_mb rs f i) (nI n) bp bk bv bo bn)) hx hb hK hP hD hS 10 5 rfl rfl (k := i) (by omega) (by decide) rfl d_R_settle_51 (fun H locs hP hD hS => ?_)
          rw [show vp_updL (xw_mv rv f i) i (rv (f + i)) = xw_mv rv f (i + 1) from xw_mv_upL rv f i] at hP hD
          refine lv_aload_n hx hb d_R_settle_52 rfl (lv_at hl 0 rfl) ?_
          refine va_get (D := D) (ci := 3) (v := .ref (q 11)) (C := R_R) (T := F_R) (N := 5) hx hb hts (zi_R _) hown hK hP 3 rfl rfl 2 (by decide) (hts _ (List.mem_cons_of_mem _ zm_69)) (fun _ h9 => h9) rfl d_R_settle_53 ?_
          refine lv_iload_n hx hb d_R_settle_56 rfl (lv_at hl 3 rfl) ?_
          refine lv_aload_n hx hb d_R_settle_57 rfl (lv_at hl 0 rfl) ?_
          refine va_get (D := D) (ci := 3) (v := .ref (q 11)) (C := R_R) (T := F_R) (N := 5) hx hb hts (zi_R _) hown hK hP 3 rfl rfl 2 (by decide) (hts _ (List.mem_cons_of_mem _ zm_69)) (fun _ h9 => h9) rfl d_R_settle_58 ?_
          refine lv_iload_n hx hb d_R_settle_61 rfl (lv_at hl 1 rfl) ?_
          refine lv_iload_n hx hb d_R_settle_62 rfl (lv_at hl 3 rfl) ?_
          refine lv_iadd hx hb d_R_settle_63 ?_
          refine xa_top (y := nI (f + i)) (nI_add _ _) ?_
          refine xa_iald hx hb hK hP 11 6 rfl rfl (k := f + i) (by omega) (by decide) d_R_settle_64 ?_
          refine xa_top (y := rm (f + i)) (xw_mv_at rm f i) ?_
          refine xa_iast (ws' := (xw_C q cA lim kf kg kn af bf (xw_mv rk f (i + 1)) (xw_mv rv f (i + 1)) (upd (xw_mv rm f i) i (rm (f + i))) (xm_mb rs f i) (nI n) bp bk bv bo bn)) hx hb hK hP hD hS 11 6 rfl rfl (k := i) (by omega) (by decide) rfl d_R_settle_65 (fun H locs hP hD hS => ?_)
          rw [show upd (xw_mv rm f i) i (rm (f + i)) = xw_mv rm f (i + 1) from xw_mv_up rm f i] at hP hD
          refine lv_aload_n hx hb d_R_settle_66 rfl (lv_at hl 0 rfl) ?_
          refine va_get (D := D) (ci := 3) (v := .ref (q 12)) (C := R_R) (T := F_R) (N := 5) hx hb hts (zi_R _) hown hK hP 3 rfl rfl 3 (by decide) (hts _ (List.mem_cons_of_mem _ zm_71)) (fun _ h9 => h9) rfl d_R_settle_67 ?_
          refine lv_iload_n hx hb d_R_settle_70 rfl (lv_at hl 3 rfl) ?_
          refine lv_aload_n hx hb d_R_settle_71 rfl (lv_at hl 0 rfl) ?_
          refine va_get (D := D) (ci := 3) (v := .ref (q 12)) (C := R_R) (T := F_R) (N := 5) hx hb hts (zi_R _) hown hK hP 3 rfl rfl 3 (by decide) (hts _ (List.mem_cons_of_mem _ zm_71)) (fun _ h9 => h9) rfl d_R_settle_72 ?_
          refine lv_iload_n hx hb d_R_settle_75 rfl (lv_at hl 1 rfl) ?_
          refine lv_iload_n hx hb d_R_settle_76 rfl (lv_at hl 3 rfl) ?_
          refine lv_iadd hx hb d_R_settle_77 ?_
          refine xa_top (y := nI (f + i)) (nI_add _ _) ?_
          refine xa_iald hx hb hK hP 12 7 rfl rfl (k := f + i) (by omega) (by decide) d_R_settle_78 ?_
          refine xa_top (y := rs (f + i)) (xm_mb_at rs f i) ?_
          refine lv_iload_n hx hb d_R_settle_79 rfl (lv_at hl 1 rfl) ?_
          refine lv_isub hx hb d_R_settle_80 ?_
          refine xa_iast (ws' := (xw_C q cA lim kf kg kn af bf (xw_mv rk f (i + 1)) (xw_mv rv f (i + 1)) (xw_mv rm f (i + 1)) (upd (xm_mb rs f i) i ((rs (f + i)) - (nI f))) (nI n) bp bk bv bo bn)) hx hb hK hP hD hS 12 7 rfl rfl (k := i) (by omega) (by decide) rfl d_R_settle_81 (fun H locs hP hD hS => ?_)
          rw [show upd (xm_mb rs f i) i ((rs (f + i)) - (nI f)) = xm_mb rs f (i + 1) from xm_mb_up rs f i] at hP hD
          refine lv_iinc (k := 3) (v := nI (i + 1)) (lv' := [(3, .int (nI (i + 1))), (0, .ref (q 3)), (1, .int (nI f)), (2, .int (nI (n - f)))]) hx hb d_R_settle_82 hl rfl (xn_inc _) (Nat.le_of_ble_eq_true rfl) rfl (fun ls hl => ?_)
          refine lv_goto (tgt := 19) hx hb d_R_settle_85 (by decide) ?_
          exact ih19 (i + 1) ls _ _ (by omega) (lv_sub hl [1, 2, 3, 0] rfl) hP hD hS (by omega)
    exact lp19 _ 0 ls _ _ (Nat.zero_le _) (lv_sub hl [2, 3, 1, 0] rfl) hP hD hS (Nat.lt_succ_self _)
  · skip
    rw [nI_ltI (by omega) (by omega)] at hc6
    exact W.vret hx hb hr (fun tJ htJ hWJ => ⟨⟨(), rfl, trivial, by dsimp only; rw [htJ]; first | (simp only [hc6, if_true]; exact hP) | (simp only [hc6, if_false]; exact hP)⟩, hS.F htJ⟩) hS.2.2 d_R_settle_9
set_option maxHeartbeats 4000000 in
set_option maxRecDepth 100000 in
theorem c_R_surv (l : Launch) (D : va_G) (q : Nat → Nat) (cA : Nat → ClassId) (lim : Int32) (kf : Nat → Int32) (kg : Nat → Int64) (kn : Int32) (af : Nat → Int32) (bf : Nat → Int32) (rk : Nat → Int32) (rv : Nat → Int64) (rm : Nat → Int32) (rs : Nat → Int32) (bp : Nat → Int32) (bk : Nat → Int32) (bv : Nat → Int64) (bo : Int32) (bn : Int32) (n : Nat) (x : Int32) (hn : n ≤ 70) : Met l y_R_survivorsAmongFirst zw_R_survivorsAmongFirst ({ frames := 1, cells := 0, slots := 0, locals := 21 } : Room) (va_Pc [.ref (q 3), .int x] (xp_R D zz_cl (xw_tC cA) (xw_C q cA lim kf kg kn af bf rk rv rm rs (nI n) bp bk bv bo bn))) (vp_Si (fun r : Int32 => r = (if xw_cl x n < n then rs (xw_cl x n) else nI n))) 0 0 (fun _ => False) := by
  refine Met.ofW (cc := b_R_survivorsAmongFirst) (maxL := 3) (ret := (some .int)) (by decide) rfl ?_
  intro pJ eJ s mJ args below meth cJ s₁ B hml hv
  obtain ⟨rfl, hP, hK, hZ⟩ := hv
  have hx := B.exec
  have hb := B.bytes
  have hr := B.returns
  have hts := atoms_spec (ws := zw_R_survivorsAmongFirst) B.pre
  have hown : s.vm.findClass R_R = some mJ.cls := findClass_of_methodNamed B.named
  have hlocks := B.notSynchronized
  have hl := lv_entry ([.ref (q 3), .int x]) (n := 3) (Nat.le_of_ble_eq_true rfl)
  rw [lg_entry_eq]
  generalize (lg_sl ([.ref (q 3), .int x]) ++ List.replicate (3 - (lg_sl ([.ref (q 3), .int x])).length) Slot.unset).toArray = ls at hl ⊢
  have hl : lv_has ls 3 [(0, .ref (q 3)), (1, .int x)] := hl
  have hcl := xw_cl_le x n
  refine lv_iconst (v := nI 0) hx hb d_R_survivorsAmongFirst_0 (by decide +kernel) ?_
  refine lv_aload_n hx hb d_R_survivorsAmongFirst_1 rfl (lv_at hl 0 rfl) ?_
  refine va_get (D := D) (ci := 3) (v := .int (nI n)) (C := R_R) (T := F_R) (N := 5) hx hb hts (zi_R _) hown hK hP 3 rfl rfl 4 (by decide) (hts _ (List.mem_cons_of_mem _ zm_73)) (fun _ h9 => h9) rfl d_R_survivorsAmongFirst_2 ?_
  refine lv_iload_n hx hb d_R_survivorsAmongFirst_5 rfl (lv_at hl 1 rfl) ?_
  refine va_mmin hx hb (hml.trans hl.1.symm) hown (hts _ (List.mem_cons_of_mem _ zm_240)) (hts _ (List.mem_cons_of_mem _ zm_18)) (hts _ (List.mem_cons_of_mem _ zm_2)) (hts _ (List.mem_cons_of_mem _ zm_19)) (Nat.le_of_ble_eq_true rfl) (Nat.le_of_ble_eq_true rfl) (Nat.zero_le _) (Nat.zero_le _) d_R_survivorsAmongFirst_6 ?_
  refine va_mmax hx hb (hml.trans hl.1.symm) hown (hts _ (List.mem_cons_of_mem _ zm_313)) (hts _ (List.mem_cons_of_mem _ zm_21)) (hts _ (List.mem_cons_of_mem _ zm_2)) (hts _ (List.mem_cons_of_mem _ zm_22)) (Nat.le_of_ble_eq_true rfl) (Nat.le_of_ble_eq_true rfl) (Nat.zero_le _) (Nat.zero_le _) d_R_survivorsAmongFirst_9 ?_
  refine xa_top (y := nI (xw_cl x n)) (xw_cl_eq (by omega)) ?_
  refine lv_istore_n (lv' := [(2, .int (nI (xw_cl x n))), (0, .ref (q 3)), (1, .int x)]) hx hb d_R_survivorsAmongFirst_12 rfl hl (Nat.le_of_ble_eq_true rfl) rfl (fun ls hl => ?_)
  refine lv_iload_n hx hb d_R_survivorsAmongFirst_13 rfl (lv_at hl 0 rfl) ?_
  refine lv_aload_n hx hb d_R_survivorsAmongFirst_14 rfl (lv_at hl 1 rfl) ?_
  refine va_get (D := D) (ci := 3) (v := .int (nI n)) (C := R_R) (T := F_R) (N := 5) hx hb hts (zi_R _) hown hK hP 3 rfl rfl 4 (by decide) (hts _ (List.mem_cons_of_mem _ zm_73)) (fun _ h9 => h9) rfl d_R_survivorsAmongFirst_15 ?_
  refine lv_icmp_ge (tgt := 30) hx hb d_R_survivorsAmongFirst_18 (by decide) (fun hc18 => ?_) (fun hc18 => ?_)
  · skip
    rw [nI_leI (by omega) (by omega)] at hc18
    refine lv_aload_n hx hb d_R_survivorsAmongFirst_30 rfl (lv_at hl 1 rfl) ?_
    refine va_get (D := D) (ci := 3) (v := .int (nI n)) (C := R_R) (T := F_R) (N := 5) hx hb hts (zi_R _) hown hK hP 3 rfl rfl 4 (by decide) (hts _ (List.mem_cons_of_mem _ zm_73)) (fun _ h9 => h9) rfl d_R_survivorsAmongFirst_31 ?_
    exact W.iret (v := nI n) hx hb hr (fun tJ htJ hWJ => ⟨_, rfl, by first | rw [if_pos (by omega)] | rw [if_neg (by omega)], htJ⟩) (fun _ h => by cases h) d_R_survivorsAmongFirst_34
  · skip
    rw [nI_leI (by omega) (by omega)] at hc18
    refine lv_aload_n hx hb d_R_survivorsAmongFirst_21 rfl (lv_at hl 1 rfl) ?_
    refine va_get (D := D) (ci := 3) (v := .ref (q 12)) (C := R_R) (T := F_R) (N := 5) hx hb hts (zi_R _) hown hK hP 3 rfl rfl 3 (by decide) (hts _ (List.mem_cons_of_mem _ zm_71)) (fun _ h9 => h9) rfl d_R_survivorsAmongFirst_22 ?_
    refine lv_iload_n hx hb d_R_survivorsAmongFirst_25 rfl (lv_at hl 0 rfl) ?_
    refine xa_iald hx hb hK hP 12 7 rfl rfl (k := xw_cl x n) (by omega) (by decide) d_R_survivorsAmongFirst_26 ?_
    refine lv_goto (tgt := 34) hx hb d_R_survivorsAmongFirst_27 (by decide) ?_
    exact W.iret (v := rs (xw_cl x n)) hx hb hr (fun tJ htJ hWJ => ⟨_, rfl, by first | rw [if_pos (by omega)] | rw [if_neg (by omega)], htJ⟩) (fun _ h => by cases h) d_R_survivorsAmongFirst_34
set_option maxHeartbeats 4000000 in
set_option maxRecDepth 100000 in
theorem c_R_forget (l : Launch) (D : va_G) (q : Nat → Nat) (cA : Nat → ClassId) (lim : Int32) (kf : Nat → Int32) (kg : Nat → Int64) (kn : Int32) (af : Nat → Int32) (bf : Nat → Int32) (rk : Nat → Int32) (rv : Nat → Int64) (rm : Nat → Int32) (rs : Nat → Int32) (bp : Nat → Int32) (bk : Nat → Int32) (bv : Nat → Int64) (bo : Int32) (bn : Int32) (sz : Nat) (n : Nat) (f : Nat) (hn : n ≤ 70) (hf : f ≤ 70) : Met l y_R_forgetFrom zw_R_forgetFrom ({ frames := 1, cells := 0, slots := 0, locals := 21 } : Room) (va_Pc [.ref (q 3), .int (nI f)] (xp_Q D zz_cl (xw_tC cA) sz (xw_C q cA lim kf kg kn af bf rk rv rm rs (nI n) bp bk bv bo bn))) (va_Qv (fun u : Unit => True) (fun (u : Unit) (t : State) => va_P D zz_cl (xw_C q cA lim kf kg kn af bf rk rv rm rs (nI (min n f)) bp bk bv bo bn) t.heap) (va_A (xw_C q cA lim kf kg kn af bf rk rv rm rs (nI n) bp bk bv bo bn) sz)) 0 0 (va_A (xw_C q cA lim kf kg kn af bf rk rv rm rs (nI n) bp bk bv bo bn) sz) := by
  refine Met.ofW (cc := b_R_forgetFrom) (maxL := 2) (ret := none) (by decide) rfl ?_
  intro pJ eJ s mJ args below meth cJ s₁ B hml hv
  obtain ⟨rfl, hsz, hP, hK, hD0, hZ⟩ := hv
  have hx := B.exec
  have hb := B.bytes
  have hr := B.returns
  have hts := atoms_spec (ws := zw_R_forgetFrom) B.pre
  have hown : s.vm.findClass R_R = some mJ.cls := findClass_of_methodNamed B.named
  have hlocks := B.notSynchronized
  subst hsz
  have hD := hD0.self (sz := s.heap.size)
  generalize hAe : va_A (xw_C q cA lim kf kg kn af bf rk rv rm rs (nI n) bp bk bv bo bn) s.heap.size = A at hD ⊢
  have hA : ∀ q : Nat, s.heap.size ≤ q → A q := fun q h => by rw [← hAe]; exact Or.inr h
  have hS : va_S A s.heap s.heap [] := va_S.rf
  have hl := lv_entry ([.ref (q 3), .int (nI f)]) (n := 2) (Nat.le_of_ble_eq_true rfl)
  rw [lg_entry_eq]
  generalize (lg_sl ([.ref (q 3), .int (nI f)]) ++ List.replicate (2 - (lg_sl ([.ref (q 3), .int (nI f)])).length) Slot.unset).toArray = ls at hl ⊢
  have hl : lv_has ls 2 [(0, .ref (q 3)), (1, .int (nI f))] := hl
  refine lv_aload_n hx hb d_R_forgetFrom_0 rfl (lv_at hl 0 rfl) ?_
  refine lv_aload_n hx hb d_R_forgetFrom_1 rfl (lv_at hl 0 rfl) ?_
  refine va_get (D := D) (ci := 3) (v := .int (nI n)) (C := R_R) (T := F_R) (N := 5) hx hb hts (zi_R _) hown hK hP 3 rfl rfl 4 (by decide) (hts _ (List.mem_cons_of_mem _ zm_73)) (fun _ h9 => h9) rfl d_R_forgetFrom_2 ?_
  refine lv_iload_n hx hb d_R_forgetFrom_5 rfl (lv_at hl 1 rfl) ?_
  refine va_mmin hx hb (hml.trans hl.1.symm) hown (hts _ (List.mem_cons_of_mem _ zm_240)) (hts _ (List.mem_cons_of_mem _ zm_18)) (hts _ (List.mem_cons_of_mem _ zm_2)) (hts _ (List.mem_cons_of_mem _ zm_19)) (Nat.le_of_ble_eq_true rfl) (Nat.le_of_ble_eq_true rfl) (Nat.zero_le _) (Nat.zero_le _) d_R_forgetFrom_6 ?_
  refine xa_top (y := nI (min n f)) (xn_min (by omega) (by omega)) ?_
  refine xa_put (ws' := (xw_C q cA lim kf kg kn af bf rk rv rm rs (nI (min n f)) bp bk bv bo bn)) (ci := 3) (v := .int (nI (min n f))) (ty := .int) (C := R_R) (T := F_R) (N := 5) hx hb hts (zi_R _) t_R t_R_ok n_R hown hK hP hD hS 3 rfl rfl 4 (by decide) (hts _ (List.mem_cons_of_mem _ zm_73)) (fun _ h9 => h9) rfl (by decide +kernel) (rfl) (rfl) (Nat.le_of_ble_eq_true rfl) rfl d_R_forgetFrom_9 (fun H locs hP hD hS => ?_)
  exact W.vret hx hb hr (fun tJ htJ hWJ => ⟨⟨(), rfl, trivial, by dsimp only; rw [htJ]; exact hP⟩, hS.F htJ⟩) hS.2.2 d_R_forgetFrom_12
set_option maxHeartbeats 4000000 in
set_option maxRecDepth 100000 in
theorem c_B_begin (l : Launch) (D : va_G) (q : Nat → Nat) (cA : Nat → ClassId) (lim : Int32) (kf : Nat → Int32) (kg : Nat → Int64) (kn : Int32) (af : Nat → Int32) (bf : Nat → Int32) (rk : Nat → Int32) (rv : Nat → Int64) (rm : Nat → Int32) (rs : Nat → Int32) (rn : Int32) (bp : Nat → Int32) (bk : Nat → Int32) (bv : Nat → Int64) (bo : Int32) (bn : Int32) (sz : Nat)   : Met l y_B_begin zw_B_begin ({ frames := 0, cells := 0, slots := 0, locals := 0 } : Room) (va_Pc [.ref (q 4)] (xp_Q D zz_cl (xw_tC cA) sz (xw_C q cA lim kf kg kn af bf rk rv rm rs rn bp bk bv bo bn))) (va_Qv (fun u : Unit => True) (fun (u : Unit) (t : State) => va_P D zz_cl (xw_C q cA lim kf kg kn af bf rk rv rm rs rn bp bk bv (xb_i true) (nI 0)) t.heap) (va_A (xw_C q cA lim kf kg kn af bf rk rv rm rs rn bp bk bv bo bn) sz)) 0 0 (va_A (xw_C q cA lim kf kg kn af bf rk rv rm rs rn bp bk bv bo bn) sz) := by
  refine Met.ofW (cc := b_B_begin) (maxL := 1) (ret := none) (by decide) rfl ?_
  intro pJ eJ s mJ args below meth cJ s₁ B hml hv
  obtain ⟨rfl, hsz, hP, hK, hD0, hZ⟩ := hv
  have hx := B.exec
  have hb := B.bytes
  have hr := B.returns
  have hts := atoms_spec (ws := zw_B_begin) B.pre
  have hown : s.vm.findClass R_B = some mJ.cls := findClass_of_methodNamed B.named
  have hlocks := B.notSynchronized
  subst hsz
  have hD := hD0.self (sz := s.heap.size)
  generalize hAe : va_A (xw_C q cA lim kf kg kn af bf rk rv rm rs rn bp bk bv bo bn) s.heap.size = A at hD ⊢
  have hA : ∀ q : Nat, s.heap.size ≤ q → A q := fun q h => by rw [← hAe]; exact Or.inr h
  have hS : va_S A s.heap s.heap [] := va_S.rf
  have hl := lv_entry ([.ref (q 4)]) (n := 1) (Nat.le_of_ble_eq_true rfl)
  rw [lg_entry_eq]
  generalize (lg_sl ([.ref (q 4)]) ++ List.replicate (1 - (lg_sl ([.ref (q 4)])).length) Slot.unset).toArray = ls at hl ⊢
  have hl : lv_has ls 1 [(0, .ref (q 4))] := hl
  refine lv_aload_n hx hb d_B_begin_0 rfl (lv_at hl 0 rfl) ?_
  refine lv_iconst (v := nI 1) hx hb d_B_begin_1 (by decide +kernel) ?_
  refine xa_top (y := xb_i true) xb_t.symm ?_
  refine xa_put (ws' := (xw_C q cA lim kf kg kn af bf rk rv rm rs rn bp bk bv (xb_i true) bn)) (ci := 4) (v := .int (xb_i true)) (ty := .boolean) (C := R_B) (T := F_B) (N := 5) hx hb hts (zi_B _) t_B t_B_ok n_B hown hK hP hD hS 4 rfl rfl 3 (by decide) (hts _ (List.mem_cons_of_mem _ zm_97)) (fun _ h9 => h9) rfl (by decide +kernel) (xb_nar _) (xb_fit _) (Nat.le_of_ble_eq_true rfl) rfl d_B_begin_2 (fun H locs hP hD hS => ?_)
  refine lv_aload_n hx hb d_B_begin_5 rfl (lv_at hl 0 rfl) ?_
  refine lv_iconst (v := nI 0) hx hb d_B_begin_6 (by decide +kernel) ?_
  refine xa_put (ws' := (xw_C q cA lim kf kg kn af bf rk rv rm rs rn bp bk bv (xb_i true) (nI 0))) (ci := 4) (v := .int (nI 0)) (ty := .int) (C := R_B) (T := F_B) (N := 5) hx hb hts (zi_B _) t_B t_B_ok n_B hown hK hP hD hS 4 rfl rfl 4 (by decide) (hts _ (List.mem_cons_of_mem _ zm_99)) (fun _ h9 => h9) rfl (by decide +kernel) (rfl) (rfl) (Nat.le_of_ble_eq_true rfl) rfl d_B_begin_7 (fun H locs hP hD hS => ?_)
  exact W.vret hx hb hr (fun tJ htJ hWJ => ⟨⟨(), rfl, trivial, by dsimp only; rw [htJ]; exact hP⟩, hS.F htJ⟩) hS.2.2 d_B_begin_10
set_option maxHeartbeats 4000000 in
set_option maxRecDepth 100000 in
theorem c_B_end (l : Launch) (D : va_G) (q : Nat → Nat) (cA : Nat → ClassId) (lim : Int32) (kf : Nat → Int32) (kg : Nat → Int64) (kn : Int32) (af : Nat → Int32) (bf : Nat → Int32) (rk : Nat → Int32) (rv : Nat → Int64) (rm : Nat → Int32) (rs : Nat → Int32) (rn : Int32) (bp : Nat → Int32) (bk : Nat → Int32) (bv : Nat → Int64) (bo : Int32) (bn : Int32) (sz : Nat)   : Met l y_B_end zw_B_end ({ frames := 0, cells := 0, slots := 0, locals := 0 } : Room) (va_Pc [.ref (q 4)] (xp_Q D zz_cl (xw_tC cA) sz (xw_C q cA lim kf kg kn af bf rk rv rm rs rn bp bk bv bo bn))) (va_Qv (fun u : Unit => True) (fun (u : Unit) (t : State) => va_P D zz_cl (xw_C q cA lim kf kg kn af bf rk rv rm rs rn bp bk bv (xb_i false) (nI 0)) t.heap) (va_A (xw_C q cA lim kf kg kn af bf rk rv rm rs rn bp bk bv bo bn) sz)) 0 0 (va_A (xw_C q cA lim kf kg kn af bf rk rv rm rs rn bp bk bv bo bn) sz) := by
  refine Met.ofW (cc := b_B_end) (maxL := 1) (ret := none) (by decide) rfl ?_
  intro pJ eJ s mJ args below meth cJ s₁ B hml hv
  obtain ⟨rfl, hsz, hP, hK, hD0, hZ⟩ := hv
  have hx := B.exec
  have hb := B.bytes
  have hr := B.returns
  have hts := atoms_spec (ws := zw_B_end) B.pre
  have hown : s.vm.findClass R_B = some mJ.cls := findClass_of_methodNamed B.named
  have hlocks := B.notSynchronized
  subst hsz
  have hD := hD0.self (sz := s.heap.size)
  generalize hAe : va_A (xw_C q cA lim kf kg kn af bf rk rv rm rs rn bp bk bv bo bn) s.heap.size = A at hD ⊢
  have hA : ∀ q : Nat, s.heap.size ≤ q → A q := fun q h => by rw [← hAe]; exact Or.inr h
  have hS : va_S A s.heap s.heap [] := va_S.rf
  have hl := lv_entry ([.ref (q 4)]) (n := 1) (Nat.le_of_ble_eq_true rfl)
  rw [lg_entry_eq]
  generalize (lg_sl ([.ref (q 4)]) ++ List.replicate (1 - (lg_sl ([.ref (q 4)])).length) Slot.unset).toArray = ls at hl ⊢
  have hl : lv_has ls 1 [(0, .ref (q 4))] := hl
  refine lv_aload_n hx hb d_B_end_0 rfl (lv_at hl 0 rfl) ?_
  refine lv_iconst (v := nI 0) hx hb d_B_end_1 (by decide +kernel) ?_
  refine xa_top (y := xb_i false) xb_f.symm ?_
  refine xa_put (ws' := (xw_C q cA lim kf kg kn af bf rk rv rm rs rn bp bk bv (xb_i false) bn)) (ci := 4) (v := .int (xb_i false)) (ty := .boolean) (C := R_B) (T := F_B) (N := 5) hx hb hts (zi_B _) t_B t_B_ok n_B hown hK hP hD hS 4 rfl rfl 3 (by decide) (hts _ (List.mem_cons_of_mem _ zm_97)) (fun _ h9 => h9) rfl (by decide +kernel) (xb_nar _) (xb_fit _) (Nat.le_of_ble_eq_true rfl) rfl d_B_end_2 (fun H locs hP hD hS => ?_)
  refine lv_aload_n hx hb d_B_end_5 rfl (lv_at hl 0 rfl) ?_
  refine lv_iconst (v := nI 0) hx hb d_B_end_6 (by decide +kernel) ?_
  refine xa_put (ws' := (xw_C q cA lim kf kg kn af bf rk rv rm rs rn bp bk bv (xb_i false) (nI 0))) (ci := 4) (v := .int (nI 0)) (ty := .int) (C := R_B) (T := F_B) (N := 5) hx hb hts (zi_B _) t_B t_B_ok n_B hown hK hP hD hS 4 rfl rfl 4 (by decide) (hts _ (List.mem_cons_of_mem _ zm_99)) (fun _ h9 => h9) rfl (by decide +kernel) (rfl) (rfl) (Nat.le_of_ble_eq_true rfl) rfl d_B_end_7 (fun H locs hP hD hS => ?_)
  exact W.vret hx hb hr (fun tJ htJ hWJ => ⟨⟨(), rfl, trivial, by dsimp only; rw [htJ]; exact hP⟩, hS.F htJ⟩) hS.2.2 d_B_end_10
set_option maxHeartbeats 4000000 in
set_option maxRecDepth 100000 in
theorem c_B_take (l : Launch) (D : va_G) (q : Nat → Nat) (cA : Nat → ClassId) (lim : Int32) (kf : Nat → Int32) (kg : Nat → Int64) (kn : Int32) (af : Nat → Int32) (bf : Nat → Int32) (rk : Nat → Int32) (rv : Nat → Int64) (rm : Nat → Int32) (rs : Nat → Int32) (rn : Int32) (bp : Nat → Int32) (bk : Nat → Int32) (bv : Nat → Int64) (bo : Int32) (sz : Nat) (n : Nat) (b : Bool) (k : Int32) (v : Int64) (hn : n ≤ 5) : Met l y_B_take zw_B_take ({ frames := 0, cells := 0, slots := 0, locals := 0 } : Room) (va_Pc [.ref (q 4), .int (xb_i b), .int k, .long v] (xp_Q D zz_cl (xw_tC cA) sz (xw_C q cA lim kf kg kn af bf rk rv rm rs rn bp bk bv bo (nI n)))) (va_Qi (fun (r : Int32) (u : Unit) => r = (if n < 5 then nI 3 else nI 0) ∧ (True)) (fun (u : Unit) (t : State) => va_P D zz_cl (xw_C q cA lim kf kg kn af bf rk rv rm rs rn (if n < 5 then upd bp n (xb_i b) else bp) (if n < 5 then upd bk n k else bk) (if n < 5 then vp_updL bv n v else bv) bo (nI (if n < 5 then n + 1 else n))) t.heap) (va_A (xw_C q cA lim kf kg kn af bf rk rv rm rs rn bp bk bv bo (nI n)) sz)) 0 0 (va_A (xw_C q cA lim kf kg kn af bf rk rv rm rs rn bp bk bv bo (nI n)) sz) := by
  refine Met.ofW (cc := b_B_take) (maxL := 5) (ret := (some .int)) (by decide) rfl ?_
  intro pJ eJ s mJ args below meth cJ s₁ B hml hv
  obtain ⟨rfl, hsz, hP, hK, hD0, hZ⟩ := hv
  have hx := B.exec
  have hb := B.bytes
  have hr := B.returns
  have hts := atoms_spec (ws := zw_B_take) B.pre
  have hown : s.vm.findClass R_B = some mJ.cls := findClass_of_methodNamed B.named
  have hlocks := B.notSynchronized
  subst hsz
  have hD := hD0.self (sz := s.heap.size)
  generalize hAe : va_A (xw_C q cA lim kf kg kn af bf rk rv rm rs rn bp bk bv bo (nI n)) s.heap.size = A at hD ⊢
  have hA : ∀ q : Nat, s.heap.size ≤ q → A q := fun q h => by rw [← hAe]; exact Or.inr h
  have hS : va_S A s.heap s.heap [] := va_S.rf
  have hl := lv_entry ([.ref (q 4), .int (xb_i b), .int k, .long v]) (n := 5) (Nat.le_of_ble_eq_true rfl)
  rw [lg_entry_eq]
  generalize (lg_sl ([.ref (q 4), .int (xb_i b), .int k, .long v]) ++ List.replicate (5 - (lg_sl ([.ref (q 4), .int (xb_i b), .int k, .long v])).length) Slot.unset).toArray = ls at hl ⊢
  have hl : lv_has ls 5 [(0, .ref (q 4)), (1, .int (xb_i b)), (2, .int k), (3, .long v)] := hl
  refine lv_aload_n hx hb d_B_take_0 rfl (lv_at hl 0 rfl) ?_
  refine va_get (D := D) (ci := 4) (v := .int (nI n)) (C := R_B) (T := F_B) (N := 5) hx hb hts (zi_B _) hown hK hP 4 rfl rfl 4 (by decide) (hts _ (List.mem_cons_of_mem _ zm_99)) (fun _ h9 => h9) rfl d_B_take_1 ?_
  refine lv_iconst (v := nI 5) hx hb d_B_take_4 (by decide +kernel) ?_
  refine lv_icmp_lt (tgt := 10) hx hb d_B_take_5 (by decide) (fun hc5 => ?_) (fun hc5 => ?_)
  · skip
    rw [nI_ltI (by omega) (by omega)] at hc5
    refine lv_aload_n hx hb d_B_take_10 rfl (lv_at hl 0 rfl) ?_
    refine va_get (D := D) (ci := 4) (v := .ref (q 13)) (C := R_B) (T := F_B) (N := 5) hx hb hts (zi_B _) hown hK hP 4 rfl rfl 0 (by decide) (hts _ (List.mem_cons_of_mem _ zm_91)) (fun _ h9 => h9) rfl d_B_take_11 ?_
    refine lv_aload_n hx hb d_B_take_14 rfl (lv_at hl 0 rfl) ?_
    refine va_get (D := D) (ci := 4) (v := .int (nI n)) (C := R_B) (T := F_B) (N := 5) hx hb hts (zi_B _) hown hK hP 4 rfl rfl 4 (by decide) (hts _ (List.mem_cons_of_mem _ zm_99)) (fun _ h9 => h9) rfl d_B_take_15 ?_
    refine lv_iload_n hx hb d_B_take_18 rfl (lv_at hl 1 rfl) ?_
    refine xa_zast (ws' := (xw_C q cA lim kf kg kn af bf rk rv rm rs rn (upd bp n (xb_i b)) bk bv bo (nI n))) hx hb hK hP hD hS 13 8 rfl rfl (k := n) (by omega) (by decide) (xb_vp b) rfl d_B_take_19 (fun H locs hP hD hS => ?_)
    refine lv_aload_n hx hb d_B_take_20 rfl (lv_at hl 0 rfl) ?_
    refine va_get (D := D) (ci := 4) (v := .ref (q 14)) (C := R_B) (T := F_B) (N := 5) hx hb hts (zi_B _) hown hK hP 4 rfl rfl 1 (by decide) (hts _ (List.mem_cons_of_mem _ zm_93)) (fun _ h9 => h9) rfl d_B_take_21 ?_
    refine lv_aload_n hx hb d_B_take_24 rfl (lv_at hl 0 rfl) ?_
    refine va_get (D := D) (ci := 4) (v := .int (nI n)) (C := R_B) (T := F_B) (N := 5) hx hb hts (zi_B _) hown hK hP 4 rfl rfl 4 (by decide) (hts _ (List.mem_cons_of_mem _ zm_99)) (fun _ h9 => h9) rfl d_B_take_25 ?_
    refine lv_iload_n hx hb d_B_take_28 rfl (lv_at hl 2 rfl) ?_
    refine xa_iast (ws' := (xw_C q cA lim kf kg kn af bf rk rv rm rs rn (upd bp n (xb_i b)) (upd bk n k) bv bo (nI n))) hx hb hK hP hD hS 14 9 rfl rfl (k := n) (by omega) (by decide) rfl d_B_take_29 (fun H locs hP hD hS => ?_)
    refine lv_aload_n hx hb d_B_take_30 rfl (lv_at hl 0 rfl) ?_
    refine va_get (D := D) (ci := 4) (v := .ref (q 15)) (C := R_B) (T := F_B) (N := 5) hx hb hts (zi_B _) hown hK hP 4 rfl rfl 2 (by decide) (hts _ (List.mem_cons_of_mem _ zm_95)) (fun _ h9 => h9) rfl d_B_take_31 ?_
    refine lv_aload_n hx hb d_B_take_34 rfl (lv_at hl 0 rfl) ?_
    refine va_get (D := D) (ci := 4) (v := .int (nI n)) (C := R_B) (T := F_B) (N := 5) hx hb hts (zi_B _) hown hK hP 4 rfl rfl 4 (by decide) (hts _ (List.mem_cons_of_mem _ zm_99)) (fun _ h9 => h9) rfl d_B_take_35 ?_
    refine lv_lload_n hx hb d_B_take_38 rfl (lv_at hl 3 rfl) ?_
    refine xa_last (ws' := (xw_C q cA lim kf kg kn af bf rk rv rm rs rn (upd bp n (xb_i b)) (upd bk n k) (vp_updL bv n v) bo (nI n))) hx hb hK hP hD hS 15 10 rfl rfl (k := n) (by omega) (by decide) rfl d_B_take_39 (fun H locs hP hD hS => ?_)
    refine lv_aload_n hx hb d_B_take_40 rfl (lv_at hl 0 rfl) ?_
    refine lv_dup hx hb d_B_take_41 rfl ?_
    refine va_get (D := D) (ci := 4) (v := .int (nI n)) (C := R_B) (T := F_B) (N := 5) hx hb hts (zi_B _) hown hK hP 4 rfl rfl 4 (by decide) (hts _ (List.mem_cons_of_mem _ zm_99)) (fun _ h9 => h9) rfl d_B_take_42 ?_
    refine lv_iconst (v := nI 1) hx hb d_B_take_45 (by decide +kernel) ?_
    refine lv_iadd hx hb d_B_take_46 ?_
    refine xa_top (y := nI (n + 1)) (nI_add _ _) ?_
    refine xa_put (ws' := (xw_C q cA lim kf kg kn af bf rk rv rm rs rn (upd bp n (xb_i b)) (upd bk n k) (vp_updL bv n v) bo (nI (n + 1)))) (ci := 4) (v := .int (nI (n + 1))) (ty := .int) (C := R_B) (T := F_B) (N := 5) hx hb hts (zi_B _) t_B t_B_ok n_B hown hK hP hD hS 4 rfl rfl 4 (by decide) (hts _ (List.mem_cons_of_mem _ zm_99)) (fun _ h9 => h9) rfl (by decide +kernel) (rfl) (rfl) (Nat.le_of_ble_eq_true rfl) rfl d_B_take_47 (fun H locs hP hD hS => ?_)
    refine lv_iconst (v := nI 3) hx hb d_B_take_50 (by decide +kernel) ?_
    exact W.iret (v := nI 3) hx hb hr (fun tJ htJ hWJ => ⟨⟨_, (), rfl, ⟨by rw [if_pos hc5], trivial⟩, by dsimp only; rw [htJ]; first | (simp only [hc5, if_true]; exact hP) | (simp only [hc5, if_false]; exact hP)⟩, hS.F htJ⟩) hS.2.2 d_B_take_51
  · skip
    rw [nI_ltI (by omega) (by omega)] at hc5
    refine lv_iconst (v := nI 0) hx hb d_B_take_8 (by decide +kernel) ?_
    exact W.iret (v := nI 0) hx hb hr (fun tJ htJ hWJ => ⟨⟨_, (), rfl, ⟨by rw [if_neg hc5], trivial⟩, by dsimp only; rw [htJ]; first | (simp only [hc5, if_true]; exact hP) | (simp only [hc5, if_false]; exact hP)⟩, hS.F htJ⟩) hS.2.2 d_B_take_9
set_option maxHeartbeats 4000000 in
set_option maxRecDepth 100000 in
theorem c_E_ras (l : Launch) (D : va_G) (q : Nat → Nat) (cA : Nat → ClassId) (lim : Int32) (kf : Nat → Int32) (kg : Nat → Int64) (af : Nat → Int32) (bf : Nat → Int32) (rk : Nat → Int32) (rv : Nat → Int64) (rm : Nat → Int32) (rs : Nat → Int32) (bp : Nat → Int32) (bk : Nat → Int32) (bv : Nat → Int64) (bo : Int32) (bn : Int32) (sz : Nat) (K : List xk_E) (n : Nat) (k : Int32) (v : Int64) (hT : xw_KT kf kg af bf K) (hn : n < 70) (hro : xk_has K k = true ∨ K.length < 65) : Met l y_E_recordAndSet zw_E_recordAndSet ({ frames := 4, cells := 0, slots := 0, locals := 108 } : Room) (va_Pc [.ref (q 0), .int k, .long v] (xp_Q D zz_cl (xw_tC cA) sz (xw_C q cA lim kf kg (nI K.length) af bf rk rv rm rs (nI n) bp bk bv bo bn))) (va_Qv (fun u : (Nat → Int32) × (Nat → Int64) × (Nat → Int32) × (Nat → Int32) => xw_KT u.1 u.2.1 u.2.2.1 u.2.2.2 (xk_set K k v)) (fun (u : (Nat → Int32) × (Nat → Int64) × (Nat → Int32) × (Nat → Int32)) (t : State) => va_P D zz_cl (xw_C q cA lim u.1 u.2.1 (nI (xk_set K k v).length) u.2.2.1 u.2.2.2 (upd rk n k) (vp_updL rv n (xk_get K k)) (upd rm n (xw_fo (xk_has K k))) (upd rs n (nI n)) (nI (n + 1)) bp bk bv bo bn) t.heap) (va_A (xw_C q cA lim kf kg (nI K.length) af bf rk rv rm rs (nI n) bp bk bv bo bn) sz)) 0 0 (va_A (xw_C q cA lim kf kg (nI K.length) af bf rk rv rm rs (nI n) bp bk bv bo bn) sz) := by
  refine Met.ofW (cc := b_E_recordAndSet) (maxL := 4) (ret := none) (by decide) rfl ?_
  intro pJ eJ s mJ args below meth cJ s₁ B hml hv
  obtain ⟨rfl, hsz, hP, hK, hD0, hZ⟩ := hv
  have hx := B.exec
  have hb := B.bytes
  have hr := B.returns
  have hts := atoms_spec (ws := zw_E_recordAndSet) B.pre
  have hown : s.vm.findClass R_E = some mJ.cls := findClass_of_methodNamed B.named
  have hlocks := B.notSynchronized
  subst hsz
  have hD := hD0.self (sz := s.heap.size)
  generalize hAe : va_A (xw_C q cA lim kf kg (nI K.length) af bf rk rv rm rs (nI n) bp bk bv bo bn) s.heap.size = A at hD ⊢
  have hA : ∀ q : Nat, s.heap.size ≤ q → A q := fun q h => by rw [← hAe]; exact Or.inr h
  have hS : va_S A s.heap s.heap [] := va_S.rf
  have hl := lv_entry ([.ref (q 0), .int k, .long v]) (n := 4) (Nat.le_of_ble_eq_true rfl)
  rw [lg_entry_eq]
  generalize (lg_sl ([.ref (q 0), .int k, .long v]) ++ List.replicate (4 - (lg_sl ([.ref (q 0), .int k, .long v])).length) Slot.unset).toArray = ls at hl ⊢
  have hl : lv_has ls 4 [(0, .ref (q 0)), (1, .int k), (2, .long v)] := hl
  refine lv_aload_n hx hb d_E_recordAndSet_0 rfl (lv_at hl 0 rfl) ?_
  refine va_get (D := D) (ci := 0) (v := .ref (q 3)) (C := R_E) (T := F_E) (N := 4) hx hb hts (zi_E _) hown hK hP 0 rfl rfl 2 (by decide) (hts _ (List.mem_cons_of_mem _ zm_115)) (fun _ h9 => h9) rfl d_E_recordAndSet_1 ?_
  refine lv_iload_n hx hb d_E_recordAndSet_4 rfl (lv_at hl 1 rfl) ?_
  refine lv_aload_n hx hb d_E_recordAndSet_5 rfl (lv_at hl 0 rfl) ?_
  refine va_get (D := D) (ci := 0) (v := .ref (q 1)) (C := R_E) (T := F_E) (N := 4) hx hb hts (zi_E _) hown hK hP 0 rfl rfl 1 (by decide) (hts _ (List.mem_cons_of_mem _ zm_114)) (fun _ h9 => h9) rfl d_E_recordAndSet_6 ?_
  refine lv_iload_n hx hb d_E_recordAndSet_9 rfl (lv_at hl 1 rfl) ?_
  refine xa_cI (va_runV (As := [.int k]) (rest := [.int k, .ref (q 3)]) ⟨hx, hb, hml, hown, hts⟩ (c_K_holds l D q cA lim kf kg af bf rk rv rm rs (nI n) bp bk bv bo bn K k hT) (cwV 1 hts (zg_V zm_134 zm_135 zm_136 zm_3 zm_137) rfl rfl rfl (by decide +kernel) ⟨Nat.le_of_ble_eq_true rfl, Nat.le_of_ble_eq_true rfl⟩) (xp_preV (ci := 1) (q0 := 1) hK hP rfl rfl rfl hZ) rfl rfl hl.1 rfl (lv_room (Nat.le_of_ble_eq_true rfl)) d_E_recordAndSet_10 ⟨Nat.zero_le _, Nat.zero_le _⟩) ?_
  refine lv_aload_n hx hb d_E_recordAndSet_13 rfl (lv_at hl 0 rfl) ?_
  refine va_get (D := D) (ci := 0) (v := .ref (q 1)) (C := R_E) (T := F_E) (N := 4) hx hb hts (zi_E _) hown hK hP 0 rfl rfl 1 (by decide) (hts _ (List.mem_cons_of_mem _ zm_114)) (fun _ h9 => h9) rfl d_E_recordAndSet_14 ?_
  refine lv_iload_n hx hb d_E_recordAndSet_17 rfl (lv_at hl 1 rfl) ?_
  refine xa_cJ (va_runV (As := [.int k]) (rest := [.int (xb_i (xk_has K k)), .int k, .ref (q 3)]) ⟨hx, hb, hml, hown, hts⟩ (c_K_valueOf l D q cA lim kf kg af bf rk rv rm rs (nI n) bp bk bv bo bn K k hT) (cwV 1 hts (zg_V zm_150 zm_151 zm_152 zm_3 zm_153) rfl rfl rfl (by decide +kernel) ⟨Nat.le_of_ble_eq_true rfl, Nat.le_of_ble_eq_true rfl⟩) (xp_preV (ci := 1) (q0 := 1) hK hP rfl rfl rfl hZ) rfl rfl hl.1 rfl (lv_room (Nat.le_of_ble_eq_true rfl)) d_E_recordAndSet_18 ⟨Nat.zero_le _, Nat.zero_le _⟩) ?_
  refine xa_cMV (va_runV (As := [.int k, .int (xb_i (xk_has K k)), .long (xk_get K k)]) (rest := []) ⟨hx, hb, hml, hown, hts⟩ (c_R_write l D q cA lim kf kg (nI K.length) af bf rk rv rm rs bp bk bv bo bn s.heap.size n k (xk_has K k) (xk_get K k) (by omega)) (cwV 3 hts (zg_V zm_154 zm_155 zm_156 zm_5 zm_157) rfl rfl rfl (by decide +kernel) ⟨Nat.le_of_ble_eq_true rfl, Nat.le_of_ble_eq_true rfl⟩) (xp_preVQ (ci := 3) (q0 := 3) hK hP hD rfl rfl rfl hZ) rfl rfl hl.1 rfl (lv_room (Nat.le_of_ble_eq_true rfl)) d_E_recordAndSet_21 ⟨Nat.zero_le _, Nat.zero_le _⟩) hS (xa_F hD hS hA) (fun u H locs hp21 hP hS => ?_)
  have hP : va_P D zz_cl (xw_C q cA lim kf kg (nI K.length) af bf (upd rk n k) (vp_updL rv n (xk_get K k)) (upd rm n (xw_fo (xk_has K k))) (upd rs n (nI n)) (nI (n + 1)) bp bk bv bo bn) H := hP
  have hD : va_D A (xw_C q cA lim kf kg (nI K.length) af bf (upd rk n k) (vp_updL rv n (xk_get K k)) (upd rm n (xw_fo (xk_has K k))) (upd rs n (nI n)) (nI (n + 1)) bp bk bv bo bn) := xa_E hD rfl
  refine lv_aload_n hx hb d_E_recordAndSet_24 rfl (lv_at hl 0 rfl) ?_
  refine va_get (D := D) (ci := 0) (v := .ref (q 1)) (C := R_E) (T := F_E) (N := 4) hx hb hts (zi_E _) hown hK hP 0 rfl rfl 1 (by decide) (hts _ (List.mem_cons_of_mem _ zm_114)) (fun _ h9 => h9) rfl d_E_recordAndSet_25 ?_
  refine lv_iload_n hx hb d_E_recordAndSet_28 rfl (lv_at hl 1 rfl) ?_
  refine lv_lload_n hx hb d_E_recordAndSet_29 rfl (lv_at hl 2 rfl) ?_
  refine xa_cMV (va_runV (As := [.int k, .long v]) (rest := []) ⟨hx, hb, hml, hown, hts⟩ (c_K_set l D q cA lim kf kg af bf (upd rk n k) (vp_updL rv n (xk_get K k)) (upd rm n (xw_fo (xk_has K k))) (upd rs n (nI n)) (nI (n + 1)) bp bk bv bo bn H.size K k v hT hro) (cwV 2 hts (zg_V zm_162 zm_163 zm_164 zm_3 zm_165) rfl rfl rfl (by decide +kernel) ⟨Nat.le_of_ble_eq_true rfl, Nat.le_of_ble_eq_true rfl⟩) (xp_preVQ (ci := 1) (q0 := 1) hK hP hD rfl rfl rfl hZ) rfl rfl hl.1 rfl (lv_room (Nat.le_of_ble_eq_true rfl)) d_E_recordAndSet_30 ⟨Nat.zero_le _, Nat.zero_le _⟩) hS (xa_F hD hS hA) (fun u H locs hp30 hP hS => ?_)
  obtain ⟨kf2_30, kg2_30, af2_30, bf2_30⟩ := u
  have hP : va_P D zz_cl (xw_C q cA lim kf2_30 kg2_30 (nI (xk_set K k v).length) af2_30 bf2_30 (upd rk n k) (vp_updL rv n (xk_get K k)) (upd rm n (xw_fo (xk_has K k))) (upd rs n (nI n)) (nI (n + 1)) bp bk bv bo bn) H := hP
  have hD : va_D A (xw_C q cA lim kf2_30 kg2_30 (nI (xk_set K k v).length) af2_30 bf2_30 (upd rk n k) (vp_updL rv n (xk_get K k)) (upd rm n (xw_fo (xk_has K k))) (upd rs n (nI n)) (nI (n + 1)) bp bk bv bo bn) := xa_E hD rfl
  have hp30 : xw_KT kf2_30 kg2_30 af2_30 bf2_30 (xk_set K k v) := hp30
  exact W.vret hx hb hr (fun tJ htJ hWJ => ⟨⟨(kf2_30, kg2_30, af2_30, bf2_30), rfl, hp30, by dsimp only; rw [htJ]; exact hP⟩, hS.F htJ⟩) hS.2.2 d_E_recordAndSet_33
set_option maxHeartbeats 4000000 in
set_option maxRecDepth 100000 in
theorem c_E_rar (l : Launch) (D : va_G) (q : Nat → Nat) (cA : Nat → ClassId) (lim : Int32) (kf : Nat → Int32) (kg : Nat → Int64) (af : Nat → Int32) (bf : Nat → Int32) (rk : Nat → Int32) (rv : Nat → Int64) (rm : Nat → Int32) (rs : Nat → Int32) (bp : Nat → Int32) (bk : Nat → Int32) (bv : Nat → Int64) (bo : Int32) (bn : Int32) (sz : Nat) (K : List xk_E) (n : Nat) (k : Int32) (hT : xw_KT kf kg af bf K) (hn : n < 70) : Met l y_E_recordAndRemove zw_E_recordAndRemove ({ frames := 3, cells := 0, slots := 0, locals := 82 } : Room) (va_Pc [.ref (q 0), .int k] (xp_Q D zz_cl (xw_tC cA) sz (xw_C q cA lim kf kg (nI K.length) af bf rk rv rm rs (nI n) bp bk bv bo bn))) (va_Qv (fun u : (Nat → Int32) × (Nat → Int64) × (Nat → Int32) × (Nat → Int32) => xw_KT u.1 u.2.1 u.2.2.1 u.2.2.2 (xk_rem K k)) (fun (u : (Nat → Int32) × (Nat → Int64) × (Nat → Int32) × (Nat → Int32)) (t : State) => va_P D zz_cl (xw_C q cA lim u.1 u.2.1 (nI (xk_rem K k).length) u.2.2.1 u.2.2.2 (upd rk n k) (vp_updL rv n (xk_get K k)) (upd rm n (xw_fo (xk_has K k))) (upd rs n (nI n)) (nI (n + 1)) bp bk bv bo bn) t.heap) (va_A (xw_C q cA lim kf kg (nI K.length) af bf rk rv rm rs (nI n) bp bk bv bo bn) sz)) 0 0 (va_A (xw_C q cA lim kf kg (nI K.length) af bf rk rv rm rs (nI n) bp bk bv bo bn) sz) := by
  refine Met.ofW (cc := b_E_recordAndRemove) (maxL := 2) (ret := none) (by decide) rfl ?_
  intro pJ eJ s mJ args below meth cJ s₁ B hml hv
  obtain ⟨rfl, hsz, hP, hK, hD0, hZ⟩ := hv
  have hx := B.exec
  have hb := B.bytes
  have hr := B.returns
  have hts := atoms_spec (ws := zw_E_recordAndRemove) B.pre
  have hown : s.vm.findClass R_E = some mJ.cls := findClass_of_methodNamed B.named
  have hlocks := B.notSynchronized
  subst hsz
  have hD := hD0.self (sz := s.heap.size)
  generalize hAe : va_A (xw_C q cA lim kf kg (nI K.length) af bf rk rv rm rs (nI n) bp bk bv bo bn) s.heap.size = A at hD ⊢
  have hA : ∀ q : Nat, s.heap.size ≤ q → A q := fun q h => by rw [← hAe]; exact Or.inr h
  have hS : va_S A s.heap s.heap [] := va_S.rf
  have hl := lv_entry ([.ref (q 0), .int k]) (n := 2) (Nat.le_of_ble_eq_true rfl)
  rw [lg_entry_eq]
  generalize (lg_sl ([.ref (q 0), .int k]) ++ List.replicate (2 - (lg_sl ([.ref (q 0), .int k])).length) Slot.unset).toArray = ls at hl ⊢
  have hl : lv_has ls 2 [(0, .ref (q 0)), (1, .int k)] := hl
  refine lv_aload_n hx hb d_E_recordAndRemove_0 rfl (lv_at hl 0 rfl) ?_
  refine va_get (D := D) (ci := 0) (v := .ref (q 3)) (C := R_E) (T := F_E) (N := 4) hx hb hts (zi_E _) hown hK hP 0 rfl rfl 2 (by decide) (hts _ (List.mem_cons_of_mem _ zm_115)) (fun _ h9 => h9) rfl d_E_recordAndRemove_1 ?_
  refine lv_iload_n hx hb d_E_recordAndRemove_4 rfl (lv_at hl 1 rfl) ?_
  refine lv_aload_n hx hb d_E_recordAndRemove_5 rfl (lv_at hl 0 rfl) ?_
  refine va_get (D := D) (ci := 0) (v := .ref (q 1)) (C := R_E) (T := F_E) (N := 4) hx hb hts (zi_E _) hown hK hP 0 rfl rfl 1 (by decide) (hts _ (List.mem_cons_of_mem _ zm_114)) (fun _ h9 => h9) rfl d_E_recordAndRemove_6 ?_
  refine lv_iload_n hx hb d_E_recordAndRemove_9 rfl (lv_at hl 1 rfl) ?_
  refine xa_cI (va_runV (As := [.int k]) (rest := [.int k, .ref (q 3)]) ⟨hx, hb, hml, hown, hts⟩ (c_K_holds l D q cA lim kf kg af bf rk rv rm rs (nI n) bp bk bv bo bn K k hT) (cwV 1 hts (zg_V zm_134 zm_135 zm_136 zm_3 zm_137) rfl rfl rfl (by decide +kernel) ⟨Nat.le_of_ble_eq_true rfl, Nat.le_of_ble_eq_true rfl⟩) (xp_preV (ci := 1) (q0 := 1) hK hP rfl rfl rfl hZ) rfl rfl hl.1 rfl (lv_room (Nat.le_of_ble_eq_true rfl)) d_E_recordAndRemove_10 ⟨Nat.zero_le _, Nat.zero_le _⟩) ?_
  refine lv_aload_n hx hb d_E_recordAndRemove_13 rfl (lv_at hl 0 rfl) ?_
  refine va_get (D := D) (ci := 0) (v := .ref (q 1)) (C := R_E) (T := F_E) (N := 4) hx hb hts (zi_E _) hown hK hP 0 rfl rfl 1 (by decide) (hts _ (List.mem_cons_of_mem _ zm_114)) (fun _ h9 => h9) rfl d_E_recordAndRemove_14 ?_
  refine lv_iload_n hx hb d_E_recordAndRemove_17 rfl (lv_at hl 1 rfl) ?_
  refine xa_cJ (va_runV (As := [.int k]) (rest := [.int (xb_i (xk_has K k)), .int k, .ref (q 3)]) ⟨hx, hb, hml, hown, hts⟩ (c_K_valueOf l D q cA lim kf kg af bf rk rv rm rs (nI n) bp bk bv bo bn K k hT) (cwV 1 hts (zg_V zm_150 zm_151 zm_152 zm_3 zm_153) rfl rfl rfl (by decide +kernel) ⟨Nat.le_of_ble_eq_true rfl, Nat.le_of_ble_eq_true rfl⟩) (xp_preV (ci := 1) (q0 := 1) hK hP rfl rfl rfl hZ) rfl rfl hl.1 rfl (lv_room (Nat.le_of_ble_eq_true rfl)) d_E_recordAndRemove_18 ⟨Nat.zero_le _, Nat.zero_le _⟩) ?_
  refine xa_cMV (va_runV (As := [.int k, .int (xb_i (xk_has K k)), .long (xk_get K k)]) (rest := []) ⟨hx, hb, hml, hown, hts⟩ (c_R_write l D q cA lim kf kg (nI K.length) af bf rk rv rm rs bp bk bv bo bn s.heap.size n k (xk_has K k) (xk_get K k) (by omega)) (cwV 3 hts (zg_V zm_154 zm_155 zm_156 zm_5 zm_157) rfl rfl rfl (by decide +kernel) ⟨Nat.le_of_ble_eq_true rfl, Nat.le_of_ble_eq_true rfl⟩) (xp_preVQ (ci := 3) (q0 := 3) hK hP hD rfl rfl rfl hZ) rfl rfl hl.1 rfl (lv_room (Nat.le_of_ble_eq_true rfl)) d_E_recordAndRemove_21 ⟨Nat.zero_le _, Nat.zero_le _⟩) hS (xa_F hD hS hA) (fun u H locs hp21 hP hS => ?_)
  have hP : va_P D zz_cl (xw_C q cA lim kf kg (nI K.length) af bf (upd rk n k) (vp_updL rv n (xk_get K k)) (upd rm n (xw_fo (xk_has K k))) (upd rs n (nI n)) (nI (n + 1)) bp bk bv bo bn) H := hP
  have hD : va_D A (xw_C q cA lim kf kg (nI K.length) af bf (upd rk n k) (vp_updL rv n (xk_get K k)) (upd rm n (xw_fo (xk_has K k))) (upd rs n (nI n)) (nI (n + 1)) bp bk bv bo bn) := xa_E hD rfl
  refine lv_aload_n hx hb d_E_recordAndRemove_24 rfl (lv_at hl 0 rfl) ?_
  refine va_get (D := D) (ci := 0) (v := .ref (q 1)) (C := R_E) (T := F_E) (N := 4) hx hb hts (zi_E _) hown hK hP 0 rfl rfl 1 (by decide) (hts _ (List.mem_cons_of_mem _ zm_114)) (fun _ h9 => h9) rfl d_E_recordAndRemove_25 ?_
  refine lv_iload_n hx hb d_E_recordAndRemove_28 rfl (lv_at hl 1 rfl) ?_
  refine xa_cMV (va_runV (As := [.int k]) (rest := []) ⟨hx, hb, hml, hown, hts⟩ (c_K_remove l D q cA lim kf kg af bf (upd rk n k) (vp_updL rv n (xk_get K k)) (upd rm n (xw_fo (xk_has K k))) (upd rs n (nI n)) (nI (n + 1)) bp bk bv bo bn H.size K k hT) (cwV 1 hts (zg_V zm_232 zm_233 zm_234 zm_3 zm_235) rfl rfl rfl (by decide +kernel) ⟨Nat.le_of_ble_eq_true rfl, Nat.le_of_ble_eq_true rfl⟩) (xp_preVQ (ci := 1) (q0 := 1) hK hP hD rfl rfl rfl hZ) rfl rfl hl.1 rfl (lv_room (Nat.le_of_ble_eq_true rfl)) d_E_recordAndRemove_29 ⟨Nat.zero_le _, Nat.zero_le _⟩) hS (xa_F hD hS hA) (fun u H locs hp29 hP hS => ?_)
  obtain ⟨kf2_29, kg2_29, af2_29, bf2_29⟩ := u
  have hP : va_P D zz_cl (xw_C q cA lim kf2_29 kg2_29 (nI (xk_rem K k).length) af2_29 bf2_29 (upd rk n k) (vp_updL rv n (xk_get K k)) (upd rm n (xw_fo (xk_has K k))) (upd rs n (nI n)) (nI (n + 1)) bp bk bv bo bn) H := hP
  have hD : va_D A (xw_C q cA lim kf2_29 kg2_29 (nI (xk_rem K k).length) af2_29 bf2_29 (upd rk n k) (vp_updL rv n (xk_get K k)) (upd rm n (xw_fo (xk_has K k))) (upd rs n (nI n)) (nI (n + 1)) bp bk bv bo bn) := xa_E hD rfl
  have hp29 : xw_KT kf2_29 kg2_29 af2_29 bf2_29 (xk_rem K k) := hp29
  exact W.vret hx hb hr (fun tJ htJ hWJ => ⟨⟨(kf2_29, kg2_29, af2_29, bf2_29), rfl, hp29, by dsimp only; rw [htJ]; exact hP⟩, hS.F htJ⟩) hS.2.2 d_E_recordAndRemove_32
set_option maxHeartbeats 4000000 in
set_option maxRecDepth 100000 in
theorem c_E_over (l : Launch) (D : va_G) (q : Nat → Nat) (cA : Nat → ClassId) (kf : Nat → Int32) (kg : Nat → Int64) (af : Nat → Int32) (bf : Nat → Int32) (rk : Nat → Int32) (rv : Nat → Int64) (rm : Nat → Int32) (rs : Nat → Int32) (rn : Int32) (bp : Nat → Int32) (bk : Nat → Int32) (bv : Nat → Int64) (bo : Int32) (bn : Int32) (K : List xk_E) (lm : Nat) (hT : xw_KT kf kg af bf K) (hlm : lm ≤ 200) : Met l y_E_isOverfull zw_E_isOverfull ({ frames := 5, cells := 0, slots := 0, locals := 108 } : Room) (va_Pc [.ref (q 0)] (xp_R D zz_cl (xw_tC cA) (xw_C q cA (nI lm) kf kg (nI K.length) af bf rk rv rm rs rn bp bk bv bo bn))) (vp_Si (fun r : Int32 => r = (xb_i (xs_bad lm K)))) 0 0 (fun _ => False) := by
  refine Met.ofW (cc := b_E_isOverfull) (maxL := 1) (ret := (some .boolean)) (by decide) rfl ?_
  intro pJ eJ s mJ args below meth cJ s₁ B hml hv
  obtain ⟨rfl, hP, hK, hZ⟩ := hv
  have hx := B.exec
  have hb := B.bytes
  have hr := B.returns
  have hts := atoms_spec (ws := zw_E_isOverfull) B.pre
  have hown : s.vm.findClass R_E = some mJ.cls := findClass_of_methodNamed B.named
  have hlocks := B.notSynchronized
  have hl := lv_entry ([.ref (q 0)]) (n := 1) (Nat.le_of_ble_eq_true rfl)
  rw [lg_entry_eq]
  generalize (lg_sl ([.ref (q 0)]) ++ List.replicate (1 - (lg_sl ([.ref (q 0)])).length) Slot.unset).toArray = ls at hl ⊢
  have hl : lv_has ls 1 [(0, .ref (q 0))] := hl
  have hlen := hT.1
  have hpg := xd_pg_le hT.1
  refine lv_aload_n hx hb d_E_isOverfull_0 rfl (lv_at hl 0 rfl) ?_
  refine va_get (D := D) (ci := 0) (v := .ref (q 1)) (C := R_E) (T := F_E) (N := 4) hx hb hts (zi_E _) hown hK hP 0 rfl rfl 1 (by decide) (hts _ (List.mem_cons_of_mem _ zm_114)) (fun _ h9 => h9) rfl d_E_isOverfull_1 ?_
  refine va_getN (D := D) (ci := 1) (v := .int (nI K.length)) (C := R_K) (T := F_K) (N := 4) hx hb hts (zi_K _) hown hK hP 1 rfl rfl 3 (by decide) (va_Nw.use rfl (hZ _ zn_49)) (fun _ h9 => h9) rfl d_E_isOverfull_4 ?_
  refine lv_bipush (v := nI 60) hx hb d_E_isOverfull_7 (by decide +kernel) ?_
  refine lv_icmp_gt (tgt := 26) hx hb d_E_isOverfull_9 (by decide) (fun hc9 => ?_) (fun hc9 => ?_)
  · skip
    rw [nI_ltI (by omega) (by omega)] at hc9
    refine lv_iconst (v := nI 1) hx hb d_E_isOverfull_26 (by decide +kernel) ?_
    refine lv_goto (tgt := 31) hx hb d_E_isOverfull_27 (by decide) ?_
    exact W.zret (ty := .boolean) (v := nI 1) hx hb hr (by decide +kernel) (fun tJ htJ hWJ => ⟨_, rfl, by first | exact xw_ov1 (Or.inl hc9) | exact xw_ov1 (Or.inr hc23) | exact xw_ov0 hc9 hc23, htJ⟩) (fun _ h => by cases h) d_E_isOverfull_31
  · skip
    rw [nI_ltI (by omega) (by omega)] at hc9
    refine lv_aload_n hx hb d_E_isOverfull_12 rfl (lv_at hl 0 rfl) ?_
    refine va_get (D := D) (ci := 0) (v := .ref (q 1)) (C := R_E) (T := F_E) (N := 4) hx hb hts (zi_E _) hown hK hP 0 rfl rfl 1 (by decide) (hts _ (List.mem_cons_of_mem _ zm_114)) (fun _ h9 => h9) rfl d_E_isOverfull_13 ?_
    refine xa_cI (va_runV (As := []) (rest := []) ⟨hx, hb, hml, hown, hts⟩ (c_K_pages l D q cA (nI lm) kf kg af bf rk rv rm rs rn bp bk bv bo bn K hT) (cwV 0 hts (zg_V zm_187 zm_188 zm_189 zm_3 zm_190) rfl rfl rfl (by decide +kernel) ⟨Nat.le_of_ble_eq_true rfl, Nat.le_of_ble_eq_true rfl⟩) (xp_preV (ci := 1) (q0 := 1) hK hP rfl rfl rfl hZ) rfl rfl hl.1 rfl (lv_room (Nat.le_of_ble_eq_true rfl)) d_E_isOverfull_16 ⟨Nat.zero_le _, Nat.zero_le _⟩) ?_
    refine lv_aload_n hx hb d_E_isOverfull_19 rfl (lv_at hl 0 rfl) ?_
    refine va_get (D := D) (ci := 0) (v := .int (nI lm)) (C := R_E) (T := F_E) (N := 4) hx hb hts (zi_E _) hown hK hP 0 rfl rfl 0 (by decide) (hts _ (List.mem_cons_of_mem _ zm_113)) (fun _ h9 => h9) rfl d_E_isOverfull_20 ?_
    refine lv_icmp_le (tgt := 30) hx hb d_E_isOverfull_23 (by decide) (fun hc23 => ?_) (fun hc23 => ?_)
    · skip
      rw [nI_leI (by omega) (by omega)] at hc23
      refine lv_iconst (v := nI 0) hx hb d_E_isOverfull_30 (by decide +kernel) ?_
      exact W.zret (ty := .boolean) (v := nI 0) hx hb hr (by decide +kernel) (fun tJ htJ hWJ => ⟨_, rfl, by first | exact xw_ov1 (Or.inl hc9) | exact xw_ov1 (Or.inr hc23) | exact xw_ov0 hc9 hc23, htJ⟩) (fun _ h => by cases h) d_E_isOverfull_31
    · skip
      rw [nI_leI (by omega) (by omega)] at hc23
      refine lv_iconst (v := nI 1) hx hb d_E_isOverfull_26 (by decide +kernel) ?_
      refine lv_goto (tgt := 31) hx hb d_E_isOverfull_27 (by decide) ?_
      exact W.zret (ty := .boolean) (v := nI 1) hx hb hr (by decide +kernel) (fun tJ htJ hWJ => ⟨_, rfl, by first | exact xw_ov1 (Or.inl hc9) | exact xw_ov1 (Or.inr hc23) | exact xw_ov0 hc9 hc23, htJ⟩) (fun _ h => by cases h) d_E_isOverfull_31
set_option maxHeartbeats 4000000 in
set_option maxRecDepth 100000 in
theorem c_E_tbf (l : Launch) (D : va_G) (q : Nat → Nat) (cA : Nat → ClassId) (lim : Int32) (kf : Nat → Int32) (kg : Nat → Int64) (af : Nat → Int32) (bf : Nat → Int32) (rk : Nat → Int32) (rv : Nat → Int64) (rm : Nat → Int32) (rs : Nat → Int32) (bp : Nat → Int32) (bk : Nat → Int32) (bv : Nat → Int64) (bo : Int32) (bn : Int32) (sz : Nat) (S : Nat → List xk_E) (n : Nat) (f : Nat) (hT : xw_KT kf kg af bf (S n)) (hn : n ≤ 70) (hf : f ≤ n) (hU : ∀ i, f ≤ i → i < n → xw_U rk rv rm S i) : Met l y_E_takeBackFrom zw_E_takeBackFrom ({ frames := 4, cells := 0, slots := 0, locals := 108 } : Room) (va_Pc [.ref (q 0), .int (nI f)] (xp_Q D zz_cl (xw_tC cA) sz (xw_C q cA lim kf kg (nI (S n).length) af bf rk rv rm rs (nI n) bp bk bv bo bn))) (va_Qv (fun u : (Nat → Int32) × (Nat → Int64) × (Nat → Int32) × (Nat → Int32) => xw_KT u.1 u.2.1 u.2.2.1 u.2.2.2 (S f)) (fun (u : (Nat → Int32) × (Nat → Int64) × (Nat → Int32) × (Nat → Int32)) (t : State) => va_P D zz_cl (xw_C q cA lim u.1 u.2.1 (nI (S f).length) u.2.2.1 u.2.2.2 rk rv rm rs (nI f) bp bk bv bo bn) t.heap) (va_A (xw_C q cA lim kf kg (nI (S n).length) af bf rk rv rm rs (nI n) bp bk bv bo bn) sz)) 0 0 (va_A (xw_C q cA lim kf kg (nI (S n).length) af bf rk rv rm rs (nI n) bp bk bv bo bn) sz) := by
  refine Met.ofW (cc := b_E_takeBackFrom) (maxL := 3) (ret := none) (by decide) rfl ?_
  intro pJ eJ s mJ args below meth cJ s₁ B hml hv
  obtain ⟨rfl, hsz, hP, hK, hD0, hZ⟩ := hv
  have hx := B.exec
  have hb := B.bytes
  have hr := B.returns
  have hts := atoms_spec (ws := zw_E_takeBackFrom) B.pre
  have hown : s.vm.findClass R_E = some mJ.cls := findClass_of_methodNamed B.named
  have hlocks := B.notSynchronized
  subst hsz
  have hD := hD0.self (sz := s.heap.size)
  generalize hAe : va_A (xw_C q cA lim kf kg (nI (S n).length) af bf rk rv rm rs (nI n) bp bk bv bo bn) s.heap.size = A at hD ⊢
  have hA : ∀ q : Nat, s.heap.size ≤ q → A q := fun q h => by rw [← hAe]; exact Or.inr h
  have hS : va_S A s.heap s.heap [] := va_S.rf
  have hl := lv_entry ([.ref (q 0), .int (nI f)]) (n := 3) (Nat.le_of_ble_eq_true rfl)
  rw [lg_entry_eq]
  generalize (lg_sl ([.ref (q 0), .int (nI f)]) ++ List.replicate (3 - (lg_sl ([.ref (q 0), .int (nI f)])).length) Slot.unset).toArray = ls at hl ⊢
  have hl : lv_has ls 3 [(0, .ref (q 0)), (1, .int (nI f))] := hl
  refine lv_aload_n hx hb d_E_takeBackFrom_0 rfl (lv_at hl 0 rfl) ?_
  refine va_get (D := D) (ci := 0) (v := .ref (q 3)) (C := R_E) (T := F_E) (N := 4) hx hb hts (zi_E _) hown hK hP 0 rfl rfl 2 (by decide) (hts _ (List.mem_cons_of_mem _ zm_115)) (fun _ h9 => h9) rfl d_E_takeBackFrom_1 ?_
  refine va_getN (D := D) (ci := 3) (v := .int (nI n)) (C := R_R) (T := F_R) (N := 5) hx hb hts (zi_R _) hown hK hP 3 rfl rfl 4 (by decide) (va_Nw.use rfl (hZ _ zn_72)) (fun _ h9 => h9) rfl d_E_takeBackFrom_4 ?_
  refine lv_iconst (v := nI 1) hx hb d_E_takeBackFrom_7 (by decide +kernel) ?_
  refine lv_isub hx hb d_E_takeBackFrom_8 ?_
  refine xa_top (y := nI n - nI 1) rfl ?_
  refine lv_istore_n (lv' := [(2, .int (nI n - nI 1)), (0, .ref (q 0)), (1, .int (nI f))]) hx hb d_E_takeBackFrom_9 rfl hl (Nat.le_of_ble_eq_true rfl) rfl (fun ls hl => ?_)
  have lp10 : ∀ (N : Nat) (t : Nat) (kf1 : Nat → Int32) (kg1 : Nat → Int64) (af1 : Nat → Int32) (bf1 : Nat → Int32) (ls : Array Slot) (H : Heap) (locs : List Loc), (f ≤ t) → (t ≤ n) → (xw_KT kf1 kg1 af1 bf1 (S t)) → lv_has ls 3 [(0, .ref (q 0)), (1, .int (nI f)), (2, .int (nI t - nI 1))] → va_P D zz_cl (xw_C q cA lim kf1 kg1 (nI (S t).length) af1 bf1 rk rv rm rs (nI n) bp bk bv bo bn) H → va_D A (xw_C q cA lim kf1 kg1 (nI (S t).length) af1 bf1 rk rv rm rs (nI n) bp bk bv bo bn) → va_S A s.heap H locs → t < N → W pJ l eJ (headSpec zw_E_takeBackFrom ({ frames := 4, cells := 0, slots := 0, locals := 108 } : Room)).room s mJ ([.ref (q 0), .int (nI f)] : List Value).toArray below meth cJ H locs 0 0 (MQ below (va_Qv (fun u : (Nat → Int32) × (Nat → Int64) × (Nat → Int32) × (Nat → Int32) => xw_KT u.1 u.2.1 u.2.2.1 u.2.2.2 (S f)) (fun (u : (Nat → Int32) × (Nat → Int64) × (Nat → Int32) × (Nat → Int32)) (t : State) => va_P D zz_cl (xw_C q cA lim u.1 u.2.1 (nI (S f).length) u.2.2.1 u.2.2.2 rk rv rm rs (nI f) bp bk bv bo bn) t.heap) A) ([.ref (q 0), .int (nI f)] : List Value).toArray s 0 0 A) (F0 mJ 10 ls []) := by
    intro N
    induction N with
    | zero => intro t kf1 kg1 af1 bf1 ls H locs hft htn hT1 hl hP hD hS hm; exact absurd hm (Nat.not_lt_zero _)
    | succ N ih10 =>
      intro t kf1 kg1 af1 bf1 ls H locs hft htn hT1 hl hP hD hS hm
      refine lv_iload_n hx hb d_E_takeBackFrom_10 rfl (lv_at hl 2 rfl) ?_
      refine lv_iload_n hx hb d_E_takeBackFrom_11 rfl (lv_at hl 1 rfl) ?_
      refine lv_icmp_lt (tgt := 91) hx hb d_E_takeBackFrom_12 (by decide) (fun hc12 => ?_) (fun hc12 => ?_)
      · skip
        rw [xw_tm1 (by omega) (by omega)] at hc12
        rw [show nI (S t).length = nI (S f).length from by rw [show t = f from by omega]] at hP hD
        refine lv_aload_n hx hb d_E_takeBackFrom_91 rfl (lv_at hl 0 rfl) ?_
        refine va_get (D := D) (ci := 0) (v := .ref (q 3)) (C := R_E) (T := F_E) (N := 4) hx hb hts (zi_E _) hown hK hP 0 rfl rfl 2 (by decide) (hts _ (List.mem_cons_of_mem _ zm_115)) (fun _ h9 => h9) rfl d_E_takeBackFrom_92 ?_
        refine lv_iload_n hx hb d_E_takeBackFrom_95 rfl (lv_at hl 1 rfl) ?_
        refine xa_cMV (va_runV (As := [.int (nI f)]) (rest := []) ⟨hx, hb, hml, hown, hts⟩ (c_R_forget l D q cA lim kf1 kg1 (nI (S f).length) af1 bf1 rk rv rm rs bp bk bv bo bn H.size n f (by omega) (by omega)) (cwV 1 hts (zg_V zm_236 zm_237 zm_238 zm_5 zm_239) rfl rfl rfl (by decide +kernel) ⟨Nat.le_of_ble_eq_true rfl, Nat.le_of_ble_eq_true rfl⟩) (xp_preVQ (ci := 3) (q0 := 3) hK hP hD rfl rfl rfl hZ) rfl rfl hl.1 rfl (lv_room (Nat.le_of_ble_eq_true rfl)) d_E_takeBackFrom_96 ⟨Nat.zero_le _, Nat.zero_le _⟩) hS (xa_F hD hS hA) (fun u H locs hp96 hP hS => ?_)
        have hP : va_P D zz_cl (xw_C q cA lim kf1 kg1 (nI (S f).length) af1 bf1 rk rv rm rs (nI (min n f)) bp bk bv bo bn) H := hP
        have hD : va_D A (xw_C q cA lim kf1 kg1 (nI (S f).length) af1 bf1 rk rv rm rs (nI (min n f)) bp bk bv bo bn) := xa_E hD rfl
        rw [show nI (min n f) = nI f from by rw [Nat.min_eq_right hf]] at hP hD
        exact W.vret hx hb hr (fun tJ htJ hWJ => ⟨⟨(kf1, kg1, af1, bf1), rfl, by rw [show f = t from by omega]; exact hT1, by dsimp only; rw [htJ]; exact hP⟩, hS.F htJ⟩) hS.2.2 d_E_takeBackFrom_99
      · skip
        rw [xw_tm1 (by omega) (by omega)] at hc12
        have hu := hU (t - 1) (by omega) (by omega)
        refine lv_aload_n hx hb d_E_takeBackFrom_15 rfl (lv_at hl 0 rfl) ?_
        refine va_get (D := D) (ci := 0) (v := .ref (q 3)) (C := R_E) (T := F_E) (N := 4) hx hb hts (zi_E _) hown hK hP 0 rfl rfl 2 (by decide) (hts _ (List.mem_cons_of_mem _ zm_115)) (fun _ h9 => h9) rfl d_E_takeBackFrom_16 ?_
        refine va_getN (D := D) (ci := 3) (v := .ref (q 11)) (C := R_R) (T := F_R) (N := 5) hx hb hts (zi_R _) hown hK hP 3 rfl rfl 2 (by decide) (va_Nw.use rfl (hZ _ zn_70)) (fun _ h9 => h9) rfl d_E_takeBackFrom_19 ?_
        refine lv_iload_n hx hb d_E_takeBackFrom_22 rfl (lv_at hl 2 rfl) ?_
        refine xa_top (y := nI (t - 1)) (pk_sub (by omega)) ?_
        refine xa_iald hx hb hK hP 11 6 rfl rfl (k := t - 1) (by omega) (by decide) d_E_takeBackFrom_23 ?_
        refine lv_iconst (v := nI 2) hx hb d_E_takeBackFrom_24 (by decide +kernel) ?_
        refine lv_icmp_ne (tgt := 56) hx hb d_E_takeBackFrom_25 (by decide) (fun hc25 => ?_) (fun hc25 => ?_)
        · skip
          refine lv_aload_n hx hb d_E_takeBackFrom_56 rfl (lv_at hl 0 rfl) ?_
          refine va_get (D := D) (ci := 0) (v := .ref (q 3)) (C := R_E) (T := F_E) (N := 4) hx hb hts (zi_E _) hown hK hP 0 rfl rfl 2 (by decide) (hts _ (List.mem_cons_of_mem _ zm_115)) (fun _ h9 => h9) rfl d_E_takeBackFrom_57 ?_
          refine va_getN (D := D) (ci := 3) (v := .ref (q 11)) (C := R_R) (T := F_R) (N := 5) hx hb hts (zi_R _) hown hK hP 3 rfl rfl 2 (by decide) (va_Nw.use rfl (hZ _ zn_70)) (fun _ h9 => h9) rfl d_E_takeBackFrom_60 ?_
          refine lv_iload_n hx hb d_E_takeBackFrom_63 rfl (lv_at hl 2 rfl) ?_
          refine xa_top (y := nI (t - 1)) (pk_sub (by omega)) ?_
          refine xa_iald hx hb hK hP 11 6 rfl rfl (k := t - 1) (by omega) (by decide) d_E_takeBackFrom_64 ?_
          refine lv_iconst (v := nI 1) hx hb d_E_takeBackFrom_65 (by decide +kernel) ?_
          refine lv_icmp_ne (tgt := 85) hx hb d_E_takeBackFrom_66 (by decide) (fun hc66 => ?_) (fun hc66 => ?_)
          · skip
            have hs0 := xw_u0 (by omega) hu hc25 hc66
            rw [show nI (S t).length = nI (S (t - 1)).length from by rw [hs0]] at hP hD
            refine lv_iinc (k := 2) (v := nI (t - 1) - nI 1) (lv' := [(2, .int (nI (t - 1) - nI 1)), (0, .ref (q 0)), (1, .int (nI f))]) hx hb d_E_takeBackFrom_85 hl rfl (xw_dec2 (by omega)) (Nat.le_of_ble_eq_true rfl) rfl (fun ls hl => ?_)
            refine lv_goto (tgt := 10) hx hb d_E_takeBackFrom_88 (by decide) ?_
            exact ih10 (t - 1) kf1 kg1 af1 bf1 ls _ _ (by omega) (by omega) (by first | (rw [← hs]; exact hp50) | (rw [← hs]; exact hp82) | (rw [← hs0]; exact hT1)) (lv_sub hl [1, 2, 0] rfl) hP hD hS (by omega)
          · skip
            have hs := xw_u1 (by omega) hu hc66
            refine lv_aload_n hx hb d_E_takeBackFrom_69 rfl (lv_at hl 0 rfl) ?_
            refine va_get (D := D) (ci := 0) (v := .ref (q 1)) (C := R_E) (T := F_E) (N := 4) hx hb hts (zi_E _) hown hK hP 0 rfl rfl 1 (by decide) (hts _ (List.mem_cons_of_mem _ zm_114)) (fun _ h9 => h9) rfl d_E_takeBackFrom_70 ?_
            refine lv_aload_n hx hb d_E_takeBackFrom_73 rfl (lv_at hl 0 rfl) ?_
            refine va_get (D := D) (ci := 0) (v := .ref (q 3)) (C := R_E) (T := F_E) (N := 4) hx hb hts (zi_E _) hown hK hP 0 rfl rfl 2 (by decide) (hts _ (List.mem_cons_of_mem _ zm_115)) (fun _ h9 => h9) rfl d_E_takeBackFrom_74 ?_
            refine va_getN (D := D) (ci := 3) (v := .ref (q 9)) (C := R_R) (T := F_R) (N := 5) hx hb hts (zi_R _) hown hK hP 3 rfl rfl 0 (by decide) (va_Nw.use rfl (hZ _ zn_66)) (fun _ h9 => h9) rfl d_E_takeBackFrom_77 ?_
            refine lv_iload_n hx hb d_E_takeBackFrom_80 rfl (lv_at hl 2 rfl) ?_
            refine xa_top (y := nI (t - 1)) (pk_sub (by omega)) ?_
            refine xa_iald hx hb hK hP 9 4 rfl rfl (k := t - 1) (by omega) (by decide) d_E_takeBackFrom_81 ?_
            refine xa_cMV (va_runV (As := [.int (rk (t - 1))]) (rest := []) ⟨hx, hb, hml, hown, hts⟩ (c_K_remove l D q cA lim kf1 kg1 af1 bf1 rk rv rm rs (nI n) bp bk bv bo bn H.size (S t) (rk (t - 1)) hT1) (cwV 1 hts (zg_V zm_232 zm_233 zm_234 zm_3 zm_235) rfl rfl rfl (by decide +kernel) ⟨Nat.le_of_ble_eq_true rfl, Nat.le_of_ble_eq_true rfl⟩) (xp_preVQ (ci := 1) (q0 := 1) hK hP hD rfl rfl rfl hZ) rfl rfl hl.1 rfl (lv_room (Nat.le_of_ble_eq_true rfl)) d_E_takeBackFrom_82 ⟨Nat.zero_le _, Nat.zero_le _⟩) hS (xa_F hD hS hA) (fun u H locs hp82 hP hS => ?_)
            obtain ⟨kf2_82, kg2_82, af2_82, bf2_82⟩ := u
            have hP : va_P D zz_cl (xw_C q cA lim kf2_82 kg2_82 (nI (xk_rem (S t) (rk (t - 1))).length) af2_82 bf2_82 rk rv rm rs (nI n) bp bk bv bo bn) H := hP
            have hD : va_D A (xw_C q cA lim kf2_82 kg2_82 (nI (xk_rem (S t) (rk (t - 1))).length) af2_82 bf2_82 rk rv rm rs (nI n) bp bk bv bo bn) := xa_E hD rfl
            have hp82 : xw_KT kf2_82 kg2_82 af2_82 bf2_82 (xk_rem (S t) (rk (t - 1))) := hp82
            rw [show nI (xk_rem (S t) (rk (t - 1))).length = nI (S (t - 1)).length from by rw [hs]] at hP hD
            refine lv_iinc (k := 2) (v := nI (t - 1) - nI 1) (lv' := [(2, .int (nI (t - 1) - nI 1)), (0, .ref (q 0)), (1, .int (nI f))]) hx hb d_E_takeBackFrom_85 hl rfl (xw_dec2 (by omega)) (Nat.le_of_ble_eq_true rfl) rfl (fun ls hl => ?_)
            refine lv_goto (tgt := 10) hx hb d_E_takeBackFrom_88 (by decide) ?_
            exact ih10 (t - 1) kf2_82 kg2_82 af2_82 bf2_82 ls _ _ (by omega) (by omega) (by first | (rw [← hs]; exact hp50) | (rw [← hs]; exact hp82) | (rw [← hs0]; exact hT1)) (lv_sub hl [1, 2, 0] rfl) hP hD hS (by omega)
        · skip
          obtain ⟨hs, hsl⟩ := xw_u2 (by omega) hu hc25
          refine lv_aload_n hx hb d_E_takeBackFrom_28 rfl (lv_at hl 0 rfl) ?_
          refine va_get (D := D) (ci := 0) (v := .ref (q 1)) (C := R_E) (T := F_E) (N := 4) hx hb hts (zi_E _) hown hK hP 0 rfl rfl 1 (by decide) (hts _ (List.mem_cons_of_mem _ zm_114)) (fun _ h9 => h9) rfl d_E_takeBackFrom_29 ?_
          refine lv_aload_n hx hb d_E_takeBackFrom_32 rfl (lv_at hl 0 rfl) ?_
          refine va_get (D := D) (ci := 0) (v := .ref (q 3)) (C := R_E) (T := F_E) (N := 4) hx hb hts (zi_E _) hown hK hP 0 rfl rfl 2 (by decide) (hts _ (List.mem_cons_of_mem _ zm_115)) (fun _ h9 => h9) rfl d_E_takeBackFrom_33 ?_
          refine va_getN (D := D) (ci := 3) (v := .ref (q 9)) (C := R_R) (T := F_R) (N := 5) hx hb hts (zi_R _) hown hK hP 3 rfl rfl 0 (by decide) (va_Nw.use rfl (hZ _ zn_66)) (fun _ h9 => h9) rfl d_E_takeBackFrom_36 ?_
          refine lv_iload_n hx hb d_E_takeBackFrom_39 rfl (lv_at hl 2 rfl) ?_
          refine xa_top (y := nI (t - 1)) (pk_sub (by omega)) ?_
          refine xa_iald hx hb hK hP 9 4 rfl rfl (k := t - 1) (by omega) (by decide) d_E_takeBackFrom_40 ?_
          refine lv_aload_n hx hb d_E_takeBackFrom_41 rfl (lv_at hl 0 rfl) ?_
          refine va_get (D := D) (ci := 0) (v := .ref (q 3)) (C := R_E) (T := F_E) (N := 4) hx hb hts (zi_E _) hown hK hP 0 rfl rfl 2 (by decide) (hts _ (List.mem_cons_of_mem _ zm_115)) (fun _ h9 => h9) rfl d_E_takeBackFrom_42 ?_
          refine va_getN (D := D) (ci := 3) (v := .ref (q 10)) (C := R_R) (T := F_R) (N := 5) hx hb hts (zi_R _) hown hK hP 3 rfl rfl 1 (by decide) (va_Nw.use rfl (hZ _ zn_68)) (fun _ h9 => h9) rfl d_E_takeBackFrom_45 ?_
          refine lv_iload_n hx hb d_E_takeBackFrom_48 rfl (lv_at hl 2 rfl) ?_
          refine xa_top (y := nI (t - 1)) (pk_sub (by omega)) ?_
          refine xa_lald hx hb hK hP 10 5 rfl rfl (k := t - 1) (by omega) (by decide) d_E_takeBackFrom_49 ?_
          refine xa_cMV (va_runV (As := [.int (rk (t - 1)), .long (rv (t - 1))]) (rest := []) ⟨hx, hb, hml, hown, hts⟩ (c_K_set l D q cA lim kf1 kg1 af1 bf1 rk rv rm rs (nI n) bp bk bv bo bn H.size (S t) (rk (t - 1)) (rv (t - 1)) hT1 (xw_room (by rw [hs]; exact hsl))) (cwV 2 hts (zg_V zm_162 zm_163 zm_164 zm_3 zm_165) rfl rfl rfl (by decide +kernel) ⟨Nat.le_of_ble_eq_true rfl, Nat.le_of_ble_eq_true rfl⟩) (xp_preVQ (ci := 1) (q0 := 1) hK hP hD rfl rfl rfl hZ) rfl rfl hl.1 rfl (lv_room (Nat.le_of_ble_eq_true rfl)) d_E_takeBackFrom_50 ⟨Nat.zero_le _, Nat.zero_le _⟩) hS (xa_F hD hS hA) (fun u H locs hp50 hP hS => ?_)
          obtain ⟨kf2_50, kg2_50, af2_50, bf2_50⟩ := u
          have hP : va_P D zz_cl (xw_C q cA lim kf2_50 kg2_50 (nI (xk_set (S t) (rk (t - 1)) (rv (t - 1))).length) af2_50 bf2_50 rk rv rm rs (nI n) bp bk bv bo bn) H := hP
          have hD : va_D A (xw_C q cA lim kf2_50 kg2_50 (nI (xk_set (S t) (rk (t - 1)) (rv (t - 1))).length) af2_50 bf2_50 rk rv rm rs (nI n) bp bk bv bo bn) := xa_E hD rfl
          have hp50 : xw_KT kf2_50 kg2_50 af2_50 bf2_50 (xk_set (S t) (rk (t - 1)) (rv (t - 1))) := hp50
          rw [show nI (xk_set (S t) (rk (t - 1)) (rv (t - 1))).length = nI (S (t - 1)).length from by rw [hs]] at hP hD
          refine lv_goto (tgt := 85) hx hb d_E_takeBackFrom_53 (by decide) ?_
          refine lv_iinc (k := 2) (v := nI (t - 1) - nI 1) (lv' := [(2, .int (nI (t - 1) - nI 1)), (0, .ref (q 0)), (1, .int (nI f))]) hx hb d_E_takeBackFrom_85 hl rfl (xw_dec2 (by omega)) (Nat.le_of_ble_eq_true rfl) rfl (fun ls hl => ?_)
          refine lv_goto (tgt := 10) hx hb d_E_takeBackFrom_88 (by decide) ?_
          exact ih10 (t - 1) kf2_50 kg2_50 af2_50 bf2_50 ls _ _ (by omega) (by omega) (by first | (rw [← hs]; exact hp50) | (rw [← hs]; exact hp82) | (rw [← hs0]; exact hT1)) (lv_sub hl [1, 2, 0] rfl) hP hD hS (by omega)
  exact lp10 _ n kf kg af bf ls _ _ hf (Nat.le_refl _) hT (lv_sub hl [1, 2, 0] rfl) hP hD hS (Nat.lt_succ_self _)
