/-! THE CLAIM OUT OF ONE WALK OF THE LAW'S BODY. Your part is whole_start (and what it stands on); all else here is the same for every law, but numbers. -/
def R_law : String := "ExtendiblePagesLaw"
def lw_P (b : Addr) (xs : List Int32) (args : Array Value) (s : State) : Prop := args = #[.ref b] ∧ s.IntsAt b xs ∧ xs.length ≤ 2049 ∧ (Jvm.Cond.and given_1 narrow_1).before args s = true
def lw_Q (_ : Array Value) (s : State) (o : Outcome) (t : State) : Prop := o = .returned (some (.int 1)) ∧ Framed s o t [] 28 1265
def lw_Z (below : List Frame) (a : Array Value) (s : State) : State → Prop := fun t => ∃ o, t.status = .running ∧ Ended t below o ∧ lw_Q a s o t
/-- the law's own end, with 1 on the stack, nothing written that was there before, its room as the claim has it -/
theorem lw_ret {p : Program} {l : Launch} {e : Env} {s : State} {m : MethodId} {below : List Frame} {meth : Method} {c : Code} {b : Nat} (hx : p.tables.exec = Jvm.exec) (hb : c.code = code) (hr : meth.sig.returnType = ret) (hlocks : meth.locks = false) {pc : Nat} {H : Heap} {ls : Array Slot} (hdg : decode code pc = .ok (.ireturn, 1)) : W p l e room_1 s m #[Value.ref b] below meth c H [] 28 1265 (lw_Z below #[Value.ref b] s) (F0 m pc ls [.int 1]) := by
  intro T hT X
  obtain ⟨fs, hret, hrun, hended, hW, hframe⟩ := X.leave (v := some (.int 1)) (hlocks := hlocks) (fun h => by rw [hr] at h; cases h)
  have hmeth' : T.vm.method? m = some meth := X.method'
  refine ⟨T.setFrames fs, ?_, .returned (some (.int 1)), hrun, hended, rfl, ⟨_, rfl⟩, hW, hframe⟩
  jvm_step X.here [X.here.top, hx, hb, hdg, hmeth', hr, ret, narrow_b1]
  (try refine ⟨rfl, ?_⟩); (try refine ⟨rfl, ?_⟩)
  first | (intro acts; rw [hret _ acts rfl rfl rfl]) | rw [hret _ _ rfl rfl rfl]
  exact Steps.refl _
/-- what holds at the law's entry: the machine, the code, the tables' words (any of lw_tbl by 'hts w (by decide +kernel)'), the script of L ints xs at the cell b, what the Statement gives of the start (any of its parts by flat_of_before) -/
def lw_At (p : Program) (s : State) (m : MethodId) (meth : Method) (c : Code) (b L : Nat) (xs : Nat → Int32) : Prop :=
  p.tables.exec = Jvm.exec ∧ c.code = code ∧ meth.sig.returnType = ret ∧ c.maxLocals = 4 ∧ s.vm.findClass R_law = some m.cls ∧ (∀ w ∈ lw_tbl, w.before #[Value.ref b] s = true) ∧ va_X b L xs s s.heap ∧ b < s.heap.size ∧ meth.locks = false ∧ (Jvm.Cond.and given_1 narrow_1).before #[Value.ref b] s = true
-- ===== YOUR PART BEGINS =====
set_option maxHeartbeats 8000000 in
set_option maxRecDepth 100000 in
/-- YOUR PART: from the entry, for every script of at most 2049 ints, the law comes to its end with true -/
theorem whole_start {p : Program} {e : Env} {s : State} {m : MethodId} {below : List Frame} {meth : Method} {c : Code} (l : Launch) {b L : Nat} {xs : Nat → Int32} (hL : L ≤ 2049) (C0 : lw_At p s m meth c b L xs) : W p l e room_1 s m #[Value.ref b] below meth c s.heap [] 0 0 (lw_Z below #[Value.ref b] s) (entryFrame m ([Value.ref b] : List Value).toArray 4) := by
  obtain ⟨hx, hb, hr, hml, hown, hts0, hX, hbl, hlocks, -⟩ := C0
  have hown : s.vm.findClass R_L = some m.cls := hown
  have hts : ∀ w ∈ (Cond.initialized R_L :: zt), w.before #[Value.ref b] s = true := by
    intro w hw
    rcases List.mem_cons.mp hw with rfl | hw
    · exact hts0 _ (List.mem_filter.mp zm_0).1
    · exact hts0 _ (List.mem_filter.mp hw).1
  have hZ : zN s := zN_of hts0
  obtain ⟨k0, j0, u0⟩ := u_known hts (zi_E _) (hts _ (List.mem_cons_of_mem _ zm_10))
  obtain ⟨k1, j1, u1⟩ := u_known hts (zi_K _) (hts _ (List.mem_cons_of_mem _ zm_24))
  obtain ⟨k2, j2, u2⟩ := u_known hts (zi_C _) (hts _ (List.mem_cons_of_mem _ zm_30))
  obtain ⟨k3, j3, u3⟩ := u_known hts (zi_R _) (hts _ (List.mem_cons_of_mem _ zm_60))
  obtain ⟨k4, j4, u4⟩ := u_known hts (zi_B _) (hts _ (List.mem_cons_of_mem _ zm_86))
  obtain ⟨k5, j5, u5⟩ := u_known hts (zi_M _) (hts _ (List.mem_cons_of_mem _ zm_371))
  obtain ⟨D, hK⟩ : ∃ D : va_G, va_K D zz_cl [] s := by
    refine ⟨(fun k => match k with | 0 => k0 | 1 => k1 | 2 => k2 | 3 => k3 | 4 => k4 | _ => k5, fun k => match k with | 0 => j0 | 1 => j1 | 2 => j2 | 3 => j3 | 4 => j4 | _ => j5), fun c q hq => ?_, fun k q hk => by simp at hk⟩
    match c, hq with
    | 0, hq => have h9 : (R_E, F_E, 4) = q := Option.some.inj hq; subst h9; exact u0
    | 1, hq => have h9 : (R_K, F_K, 4) = q := Option.some.inj hq; subst h9; exact u1
    | 2, hq => have h9 : (R_C, F_C, 2) = q := Option.some.inj hq; subst h9; exact u2
    | 3, hq => have h9 : (R_R, F_R, 5) = q := Option.some.inj hq; subst h9; exact u3
    | 4, hq => have h9 : (R_B, F_B, 5) = q := Option.some.inj hq; subst h9; exact u4
    | 5, hq => have h9 : (R_M, F_M, 17) = q := Option.some.inj hq; subst h9; exact u5
    | (n + 6), hq => simp [zz_cl] at hq
  obtain ⟨A, hAe⟩ : ∃ A : Nat → Prop, A = fun q => s.heap.size ≤ q := ⟨_, rfl⟩
  have hA : ∀ q, s.heap.size ≤ q → A q := fun q h => by rw [hAe]; exact h
  have hAi : ∀ q, A q → s.heap.size ≤ q := fun q h => by rw [hAe] at h; exact h
  have hbA : ¬ A b := fun h => absurd hbl (Nat.not_lt.mpr (hAi b h))
  have hP : va_P D zz_cl [] s.heap := fun k q h => by simp at h
  have hD : va_D A [] := ⟨fun i j p q h => by simp at h, fun k q h => by simp at h⟩
  have hS : va_S A s.heap s.heap [] := va_S.rf
  have hl := lv_entry ([Value.ref b]) (n := 4) (Nat.le_of_ble_eq_true rfl)
  rw [lg_entry_eq]
  generalize (lg_sl ([Value.ref b]) ++ List.replicate (4 - (lg_sl ([Value.ref b])).length) Slot.unset).toArray = ls at hl ⊢
  have hl : lv_has ls 4 [(0, .ref b)] := hl
  refine va_new (ci := 0) (fs := [.int 0, .null, .null, .null]) (C := R_E) (T := F_E) (N := 4) hx hb hts (zi_E _) t_E t_E_ok hown (hts _ (List.mem_cons_of_mem _ zm_9)) (hts _ (List.mem_cons_of_mem _ zm_10)) (hts _ (List.mem_cons_of_mem _ zm_1)) hK hP hD hS hA rfl (by decide +kernel) (Nat.le_of_ble_eq_true rfl) (Nat.le_of_ble_eq_true rfl) d_L_law_0 (fun g0 H hP hD hS => ?_)
  refine W.widen (k := 1) (n := 4) (Nat.le_refl _) (Nat.le_refl _) ?_
  have hP : va_P D zz_cl [(g0, .inr (0, [.int 0, .null, .null, .null]))] H := hP
  have hD : va_D A [(g0, .inr (0, [.int 0, .null, .null, .null]))] := hD
  refine lv_dup hx hb d_L_law_3 rfl ?_
  refine lv_aload_n hx hb d_L_law_4 rfl (lv_at hl 0 rfl) ?_
  refine lv_iconst (v := nI 0) hx hb d_L_law_5 (by decide +kernel) ?_
  refine xa_cI (va_runS (As := [.ref b, .int (nI 0)]) (rest := [.ref g0, .ref g0]) ⟨hx, hb, hml, hown, hts⟩ (c_L_cell l b L xs hL) (cwS 2 hts (zg_S zm_367 zm_368 zm_0 zm_369) rfl rfl rfl (by decide +kernel) ⟨Nat.le_of_ble_eq_true rfl, Nat.le_of_ble_eq_true rfl⟩) (xl_preX hX hbl hbA hS) rfl rfl hl.1 rfl (lv_room (Nat.le_of_ble_eq_true rfl)) d_L_law_6 ⟨Nat.le_of_ble_eq_true rfl, Nat.le_of_ble_eq_true rfl⟩) ?_
  have hPc := hP.sub (ws' := [(g0, .inr (0, [.int 0, .null, .null, .null]))]) [0] rfl
  have hDc := hD.sub (ws' := [(g0, .inr (0, [.int 0, .null, .null, .null]))]) [0] (by decide) rfl
  have hKc := hK.sub (tys' := []) [] rfl
  have hFc := va_free (wc := [(g0, .inr (0, [.int 0, .null, .null, .null]))]) hD hS hA [0] rfl
  refine va_callv (va_runI (As := [.int (if 0 < L then xs 0 else 0)]) (rest := [.ref g0]) ⟨hx, hb, hml, hown, hts⟩ (c_E_init l D g0 H.size (if 0 < L then xs 0 else 0)) (cwI 1 hts (zg_C zm_13) rfl rfl rfl (hts _ (List.mem_cons_of_mem _ zm_1)) (hts _ (List.mem_cons_of_mem _ zm_11)) (hts _ (List.mem_cons_of_mem _ zm_12)) rfl (by decide +kernel) ⟨Nat.le_of_ble_eq_true rfl, Nat.le_of_ble_eq_true rfl⟩) (xp_preI hKc hPc hDc hZ) rfl rfl hl.1 rfl (lv_room (Nat.le_of_ble_eq_true rfl)) d_L_law_9 ⟨Nat.le_of_ble_eq_true rfl, Nat.le_of_ble_eq_true rfl⟩) hS (fun q _ h => hFc q h) hFc (fun u t H1 locs ht hvm _ hB hz1 hk1 hS => ?_)
  obtain ⟨g1, g2, g3, g4, g5, g6, g7, g8, g9, g10, g11, g12, g13, g14, g15, gc0, gc1, gc2, gc3, gc4, gc5, gc6, gc7, gc8, gc9, gc10, hP1, hK1, hD1⟩ := hB
  rw [ht] at hP1
  have hK1 := va_K.moved hvm.symm hK1
  obtain ⟨hP, hD⟩ := va_join (wr := []) (w1 := [(g0, .inr (0, [.int (nI (xw_lim (if 0 < L then xs 0 else 0))), .ref g1, .ref g3, .ref g4])), (g1, .inr (1, [.ref g5, .ref g6, .ref g2, .int 0])), (g2, .inr (2, [.ref g7, .ref g8])), (g3, .inr (3, [.ref g9, .ref g10, .ref g11, .ref g12, .int 0])), (g4, .inr (4, [.ref g13, .ref g14, .ref g15, .int 0, .int 0])), (g5, .inl (gc0, 65, .inl (fun _ => 0))), (g6, .inl (gc1, 65, .inr (.inl (fun _ => 0)))), (g7, .inl (gc2, 128, .inl (fun _ => 0))), (g8, .inl (gc3, 128, .inl (fun _ => 0))), (g9, .inl (gc4, 70, .inl (fun _ => 0))), (g10, .inl (gc5, 70, .inr (.inl (fun _ => 0)))), (g11, .inl (gc6, 70, .inl (fun _ => 0))), (g12, .inl (gc7, 70, .inl (fun _ => 0))), (g13, .inl (gc8, 5, .inl (fun _ => 0))), (g14, .inl (gc9, 5, .inl (fun _ => 0))), (g15, .inl (gc10, 5, .inr (.inl (fun _ => 0))))]) hP hD [0] [] rfl rfl (by decide) (by decide) hk1 hFc hP1 hD1
  have hK := (hK.sub (tys' := []) [] rfl).app hK1
  generalize H1 = H at hP hS ⊢
  refine W.widen (k := 16) (n := 701) (Nat.le_refl _) (Nat.le_refl _) ?_
  have hP : va_P D zz_cl [(g0, .inr (0, [.int (nI (xw_lim (if 0 < L then xs 0 else 0))), .ref g1, .ref g3, .ref g4])), (g1, .inr (1, [.ref g5, .ref g6, .ref g2, .int 0])), (g2, .inr (2, [.ref g7, .ref g8])), (g3, .inr (3, [.ref g9, .ref g10, .ref g11, .ref g12, .int 0])), (g4, .inr (4, [.ref g13, .ref g14, .ref g15, .int 0, .int 0])), (g5, .inl (gc0, 65, .inl (fun _ => 0))), (g6, .inl (gc1, 65, .inr (.inl (fun _ => 0)))), (g7, .inl (gc2, 128, .inl (fun _ => 0))), (g8, .inl (gc3, 128, .inl (fun _ => 0))), (g9, .inl (gc4, 70, .inl (fun _ => 0))), (g10, .inl (gc5, 70, .inr (.inl (fun _ => 0)))), (g11, .inl (gc6, 70, .inl (fun _ => 0))), (g12, .inl (gc7, 70, .inl (fun _ => 0))), (g13, .inl (gc8, 5, .inl (fun _ => 0))), (g14, .inl (gc9, 5, .inl (fun _ => 0))), (g15, .inl (gc10, 5, .inr (.inl (fun _ => 0))))] H := hP
  have hD : va_D A [(g0, .inr (0, [.int (nI (xw_lim (if 0 < L then xs 0 else 0))), .ref g1, .ref g3, .ref g4])), (g1, .inr (1, [.ref g5, .ref g6, .ref g2, .int 0])), (g2, .inr (2, [.ref g7, .ref g8])), (g3, .inr (3, [.ref g9, .ref g10, .ref g11, .ref g12, .int 0])), (g4, .inr (4, [.ref g13, .ref g14, .ref g15, .int 0, .int 0])), (g5, .inl (gc0, 65, .inl (fun _ => 0))), (g6, .inl (gc1, 65, .inr (.inl (fun _ => 0)))), (g7, .inl (gc2, 128, .inl (fun _ => 0))), (g8, .inl (gc3, 128, .inl (fun _ => 0))), (g9, .inl (gc4, 70, .inl (fun _ => 0))), (g10, .inl (gc5, 70, .inr (.inl (fun _ => 0)))), (g11, .inl (gc6, 70, .inl (fun _ => 0))), (g12, .inl (gc7, 70, .inl (fun _ => 0))), (g13, .inl (gc8, 5, .inl (fun _ => 0))), (g14, .inl (gc9, 5, .inl (fun _ => 0))), (g15, .inl (gc10, 5, .inr (.inl (fun _ => 0))))] := hD
  have hK : va_K D zz_cl [(gc0, .int), (gc1, .long), (gc2, .int), (gc3, .int), (gc4, .int), (gc5, .long), (gc6, .int), (gc7, .int), (gc8, .boolean), (gc9, .int), (gc10, .long)] s := hK
  refine lv_astore_n (lv' := [(1, .ref g0), (0, .ref b)]) hx hb d_L_law_12 rfl hl (Nat.le_of_ble_eq_true rfl) rfl (fun ls hl => ?_)
  refine va_new (ci := 5) (fs := [.int 0, .int 0, .null, .null, .int 0, .null, .null, .null, .null, .int 0, .int 0, .null, .null, .null, .int 0, .null, .null]) (C := R_M) (T := F_M) (N := 17) hx hb hts (zi_M _) t_M t_M_ok hown (hts _ (List.mem_cons_of_mem _ zm_370)) (hts _ (List.mem_cons_of_mem _ zm_371)) (hts _ (List.mem_cons_of_mem _ zm_7)) hK hP hD hS hA rfl (by decide +kernel) (Nat.le_of_ble_eq_true rfl) (Nat.le_of_ble_eq_true rfl) d_L_law_13 (fun f0 H hP hD hS => ?_)
  refine W.widen (k := 17) (n := 718) (Nat.le_refl _) (Nat.le_refl _) ?_
  have hP : va_P D zz_cl [(g0, .inr (0, [.int (nI (xw_lim (if 0 < L then xs 0 else 0))), .ref g1, .ref g3, .ref g4])), (g1, .inr (1, [.ref g5, .ref g6, .ref g2, .int 0])), (g2, .inr (2, [.ref g7, .ref g8])), (g3, .inr (3, [.ref g9, .ref g10, .ref g11, .ref g12, .int 0])), (g4, .inr (4, [.ref g13, .ref g14, .ref g15, .int 0, .int 0])), (g5, .inl (gc0, 65, .inl (fun _ => 0))), (g6, .inl (gc1, 65, .inr (.inl (fun _ => 0)))), (g7, .inl (gc2, 128, .inl (fun _ => 0))), (g8, .inl (gc3, 128, .inl (fun _ => 0))), (g9, .inl (gc4, 70, .inl (fun _ => 0))), (g10, .inl (gc5, 70, .inr (.inl (fun _ => 0)))), (g11, .inl (gc6, 70, .inl (fun _ => 0))), (g12, .inl (gc7, 70, .inl (fun _ => 0))), (g13, .inl (gc8, 5, .inl (fun _ => 0))), (g14, .inl (gc9, 5, .inl (fun _ => 0))), (g15, .inl (gc10, 5, .inr (.inl (fun _ => 0)))), (f0, .inr (5, [.int 0, .int 0, .null, .null, .int 0, .null, .null, .null, .null, .int 0, .int 0, .null, .null, .null, .int 0, .null, .null]))] H := hP
  have hD : va_D A [(g0, .inr (0, [.int (nI (xw_lim (if 0 < L then xs 0 else 0))), .ref g1, .ref g3, .ref g4])), (g1, .inr (1, [.ref g5, .ref g6, .ref g2, .int 0])), (g2, .inr (2, [.ref g7, .ref g8])), (g3, .inr (3, [.ref g9, .ref g10, .ref g11, .ref g12, .int 0])), (g4, .inr (4, [.ref g13, .ref g14, .ref g15, .int 0, .int 0])), (g5, .inl (gc0, 65, .inl (fun _ => 0))), (g6, .inl (gc1, 65, .inr (.inl (fun _ => 0)))), (g7, .inl (gc2, 128, .inl (fun _ => 0))), (g8, .inl (gc3, 128, .inl (fun _ => 0))), (g9, .inl (gc4, 70, .inl (fun _ => 0))), (g10, .inl (gc5, 70, .inr (.inl (fun _ => 0)))), (g11, .inl (gc6, 70, .inl (fun _ => 0))), (g12, .inl (gc7, 70, .inl (fun _ => 0))), (g13, .inl (gc8, 5, .inl (fun _ => 0))), (g14, .inl (gc9, 5, .inl (fun _ => 0))), (g15, .inl (gc10, 5, .inr (.inl (fun _ => 0)))), (f0, .inr (5, [.int 0, .int 0, .null, .null, .int 0, .null, .null, .null, .null, .int 0, .int 0, .null, .null, .null, .int 0, .null, .null]))] := hD
  refine lv_dup hx hb d_L_law_16 rfl ?_
  refine lv_aload_n hx hb d_L_law_17 rfl (lv_at hl 1 rfl) ?_
  refine lv_iconst (v := nI 0) hx hb d_L_law_18 (by decide +kernel) ?_
  refine xa_cI (va_runS (As := [.ref b, .int (nI 0)]) (rest := [.ref f0, .ref f0]) ⟨hx, hb, hml, hown, hts⟩ (c_L_cell l b L xs hL) (cwS 2 hts (zg_S zm_367 zm_368 zm_0 zm_369) rfl rfl rfl (by decide +kernel) ⟨Nat.le_of_ble_eq_true rfl, Nat.le_of_ble_eq_true rfl⟩) (xl_preX hX hbl hbA hS) rfl rfl hl.1 rfl (lv_room (Nat.le_of_ble_eq_true rfl)) d_L_law_19 ⟨Nat.le_of_ble_eq_true rfl, Nat.le_of_ble_eq_true rfl⟩) ?_
  have hPc := hP.sub (ws' := [(f0, .inr (5, [.int 0, .int 0, .null, .null, .int 0, .null, .null, .null, .null, .int 0, .int 0, .null, .null, .null, .int 0, .null, .null]))]) [16] rfl
  have hDc := hD.sub (ws' := [(f0, .inr (5, [.int 0, .int 0, .null, .null, .int 0, .null, .null, .null, .null, .int 0, .int 0, .null, .null, .null, .int 0, .null, .null]))]) [16] (by decide) rfl
  have hKc := hK.sub (tys' := []) [] rfl
  have hFc := va_free (wc := [(f0, .inr (5, [.int 0, .int 0, .null, .null, .int 0, .null, .null, .null, .null, .int 0, .int 0, .null, .null, .null, .int 0, .null, .null]))]) hD hS hA [16] rfl
  refine va_callv (va_runI (As := [.int (if 0 < L then xs 0 else 0)]) (rest := [.ref f0]) ⟨hx, hb, hml, hown, hts⟩ (c_M_init l D f0 H.size (if 0 < L then xs 0 else 0)) (cwI 1 hts (zg_C zm_374) rfl rfl rfl (hts _ (List.mem_cons_of_mem _ zm_7)) (hts _ (List.mem_cons_of_mem _ zm_372)) (hts _ (List.mem_cons_of_mem _ zm_373)) rfl (by decide +kernel) ⟨Nat.le_of_ble_eq_true rfl, Nat.le_of_ble_eq_true rfl⟩) (xp_preI hKc hPc hDc hZ) rfl rfl hl.1 rfl (lv_room (Nat.le_of_ble_eq_true rfl)) d_L_law_22 ⟨Nat.le_of_ble_eq_true rfl, Nat.le_of_ble_eq_true rfl⟩) hS (fun q _ h => hFc q h) hFc (fun u t H1 locs ht hvm _ hB hz1 hk1 hS => ?_)
  obtain ⟨f1, f2, f3, f4, f5, f6, f7, f8, f9, f10, f11, fc0, fc1, fc2, fc3, fc4, fc5, fc6, fc7, fc8, fc9, fc10, hP1, hK1, hD1⟩ := hB
  rw [ht] at hP1
  have hK1 := va_K.moved hvm.symm hK1
  obtain ⟨hP, hD⟩ := va_join (wr := [(g0, .inr (0, [.int (nI (xw_lim (if 0 < L then xs 0 else 0))), .ref g1, .ref g3, .ref g4])), (g1, .inr (1, [.ref g5, .ref g6, .ref g2, .int 0])), (g2, .inr (2, [.ref g7, .ref g8])), (g3, .inr (3, [.ref g9, .ref g10, .ref g11, .ref g12, .int 0])), (g4, .inr (4, [.ref g13, .ref g14, .ref g15, .int 0, .int 0])), (g5, .inl (gc0, 65, .inl (fun _ => 0))), (g6, .inl (gc1, 65, .inr (.inl (fun _ => 0)))), (g7, .inl (gc2, 128, .inl (fun _ => 0))), (g8, .inl (gc3, 128, .inl (fun _ => 0))), (g9, .inl (gc4, 70, .inl (fun _ => 0))), (g10, .inl (gc5, 70, .inr (.inl (fun _ => 0)))), (g11, .inl (gc6, 70, .inl (fun _ => 0))), (g12, .inl (gc7, 70, .inl (fun _ => 0))), (g13, .inl (gc8, 5, .inl (fun _ => 0))), (g14, .inl (gc9, 5, .inl (fun _ => 0))), (g15, .inl (gc10, 5, .inr (.inl (fun _ => 0))))]) (w1 := [(f0, .inr (5, [.int (nI (xw_lim (if 0 < L then xs 0 else 0))), .int 0, .ref f1, .ref f2, .int 0, .ref f3, .ref f4, .ref f5, .ref f6, .int 0, .int 0, .ref f7, .ref f8, .ref f9, .int 0, .ref f10, .ref f11])), (f1, .inl (fc0, 60, .inl (fun _ => 0))), (f2, .inl (fc1, 60, .inr (.inl (fun _ => 0)))), (f3, .inl (fc2, 70, .inl (fun _ => 0))), (f4, .inl (fc3, 70, .inl (fun _ => 0))), (f5, .inl (fc4, 70, .inr (.inl (fun _ => 0)))), (f6, .inl (fc5, 70, .inl (fun _ => 0))), (f7, .inl (fc6, 5, .inl (fun _ => 0))), (f8, .inl (fc7, 5, .inl (fun _ => 0))), (f9, .inl (fc8, 5, .inr (.inl (fun _ => 0)))), (f10, .inl (fc9, 66, .inl (fun _ => 0))), (f11, .inl (fc10, 66, .inr (.inl (fun _ => 0))))]) hP hD [16] [0, 1, 2, 3, 4, 5, 6, 7, 8, 9, 10, 11, 12, 13, 14, 15] rfl rfl (by decide) (by decide) hk1 hFc hP1 hD1
  have hK := (hK.sub (tys' := [(gc0, .int), (gc1, .long), (gc2, .int), (gc3, .int), (gc4, .int), (gc5, .long), (gc6, .int), (gc7, .int), (gc8, .boolean), (gc9, .int), (gc10, .long)]) [0, 1, 2, 3, 4, 5, 6, 7, 8, 9, 10] rfl).app hK1
  generalize H1 = H at hP hS ⊢
  refine W.widen (k := 28) (n := 1265) (Nat.le_refl _) (Nat.le_refl _) ?_
  have hdis0 := xl_dis (w1 := [(g0, .inr (0, [.int (nI (xw_lim (if 0 < L then xs 0 else 0))), .ref g1, .ref g3, .ref g4])), (g1, .inr (1, [.ref g5, .ref g6, .ref g2, .int 0])), (g2, .inr (2, [.ref g7, .ref g8])), (g3, .inr (3, [.ref g9, .ref g10, .ref g11, .ref g12, .int 0])), (g4, .inr (4, [.ref g13, .ref g14, .ref g15, .int 0, .int 0])), (g5, .inl (gc0, 65, .inl (fun _ => 0))), (g6, .inl (gc1, 65, .inr (.inl (fun _ => 0)))), (g7, .inl (gc2, 128, .inl (fun _ => 0))), (g8, .inl (gc3, 128, .inl (fun _ => 0))), (g9, .inl (gc4, 70, .inl (fun _ => 0))), (g10, .inl (gc5, 70, .inr (.inl (fun _ => 0)))), (g11, .inl (gc6, 70, .inl (fun _ => 0))), (g12, .inl (gc7, 70, .inl (fun _ => 0))), (g13, .inl (gc8, 5, .inl (fun _ => 0))), (g14, .inl (gc9, 5, .inl (fun _ => 0))), (g15, .inl (gc10, 5, .inr (.inl (fun _ => 0))))]) (w2 := [(f0, .inr (5, [.int (nI (xw_lim (if 0 < L then xs 0 else 0))), .int 0, .ref f1, .ref f2, .int 0, .ref f3, .ref f4, .ref f5, .ref f6, .int 0, .int 0, .ref f7, .ref f8, .ref f9, .int 0, .ref f10, .ref f11])), (f1, .inl (fc0, 60, .inl (fun _ => 0))), (f2, .inl (fc1, 60, .inr (.inl (fun _ => 0)))), (f3, .inl (fc2, 70, .inl (fun _ => 0))), (f4, .inl (fc3, 70, .inl (fun _ => 0))), (f5, .inl (fc4, 70, .inr (.inl (fun _ => 0)))), (f6, .inl (fc5, 70, .inl (fun _ => 0))), (f7, .inl (fc6, 5, .inl (fun _ => 0))), (f8, .inl (fc7, 5, .inl (fun _ => 0))), (f9, .inl (fc8, 5, .inr (.inl (fun _ => 0)))), (f10, .inl (fc9, 66, .inl (fun _ => 0))), (f11, .inl (fc10, 66, .inr (.inl (fun _ => 0))))]) hD
  have hP : va_P D zz_cl [(g0, .inr (0, [.int (nI (xw_lim (if 0 < L then xs 0 else 0))), .ref g1, .ref g3, .ref g4])), (g1, .inr (1, [.ref g5, .ref g6, .ref g2, .int 0])), (g2, .inr (2, [.ref g7, .ref g8])), (g3, .inr (3, [.ref g9, .ref g10, .ref g11, .ref g12, .int 0])), (g4, .inr (4, [.ref g13, .ref g14, .ref g15, .int 0, .int 0])), (g5, .inl (gc0, 65, .inl (fun _ => 0))), (g6, .inl (gc1, 65, .inr (.inl (fun _ => 0)))), (g7, .inl (gc2, 128, .inl (fun _ => 0))), (g8, .inl (gc3, 128, .inl (fun _ => 0))), (g9, .inl (gc4, 70, .inl (fun _ => 0))), (g10, .inl (gc5, 70, .inr (.inl (fun _ => 0)))), (g11, .inl (gc6, 70, .inl (fun _ => 0))), (g12, .inl (gc7, 70, .inl (fun _ => 0))), (g13, .inl (gc8, 5, .inl (fun _ => 0))), (g14, .inl (gc9, 5, .inl (fun _ => 0))), (g15, .inl (gc10, 5, .inr (.inl (fun _ => 0)))), (f0, .inr (5, [.int (nI (xw_lim (if 0 < L then xs 0 else 0))), .int 0, .ref f1, .ref f2, .int 0, .ref f3, .ref f4, .ref f5, .ref f6, .int 0, .int 0, .ref f7, .ref f8, .ref f9, .int 0, .ref f10, .ref f11])), (f1, .inl (fc0, 60, .inl (fun _ => 0))), (f2, .inl (fc1, 60, .inr (.inl (fun _ => 0)))), (f3, .inl (fc2, 70, .inl (fun _ => 0))), (f4, .inl (fc3, 70, .inl (fun _ => 0))), (f5, .inl (fc4, 70, .inr (.inl (fun _ => 0)))), (f6, .inl (fc5, 70, .inl (fun _ => 0))), (f7, .inl (fc6, 5, .inl (fun _ => 0))), (f8, .inl (fc7, 5, .inl (fun _ => 0))), (f9, .inl (fc8, 5, .inr (.inl (fun _ => 0)))), (f10, .inl (fc9, 66, .inl (fun _ => 0))), (f11, .inl (fc10, 66, .inr (.inl (fun _ => 0))))] H := hP
  have hD : va_D A [(g0, .inr (0, [.int (nI (xw_lim (if 0 < L then xs 0 else 0))), .ref g1, .ref g3, .ref g4])), (g1, .inr (1, [.ref g5, .ref g6, .ref g2, .int 0])), (g2, .inr (2, [.ref g7, .ref g8])), (g3, .inr (3, [.ref g9, .ref g10, .ref g11, .ref g12, .int 0])), (g4, .inr (4, [.ref g13, .ref g14, .ref g15, .int 0, .int 0])), (g5, .inl (gc0, 65, .inl (fun _ => 0))), (g6, .inl (gc1, 65, .inr (.inl (fun _ => 0)))), (g7, .inl (gc2, 128, .inl (fun _ => 0))), (g8, .inl (gc3, 128, .inl (fun _ => 0))), (g9, .inl (gc4, 70, .inl (fun _ => 0))), (g10, .inl (gc5, 70, .inr (.inl (fun _ => 0)))), (g11, .inl (gc6, 70, .inl (fun _ => 0))), (g12, .inl (gc7, 70, .inl (fun _ => 0))), (g13, .inl (gc8, 5, .inl (fun _ => 0))), (g14, .inl (gc9, 5, .inl (fun _ => 0))), (g15, .inl (gc10, 5, .inr (.inl (fun _ => 0)))), (f0, .inr (5, [.int (nI (xw_lim (if 0 < L then xs 0 else 0))), .int 0, .ref f1, .ref f2, .int 0, .ref f3, .ref f4, .ref f5, .ref f6, .int 0, .int 0, .ref f7, .ref f8, .ref f9, .int 0, .ref f10, .ref f11])), (f1, .inl (fc0, 60, .inl (fun _ => 0))), (f2, .inl (fc1, 60, .inr (.inl (fun _ => 0)))), (f3, .inl (fc2, 70, .inl (fun _ => 0))), (f4, .inl (fc3, 70, .inl (fun _ => 0))), (f5, .inl (fc4, 70, .inr (.inl (fun _ => 0)))), (f6, .inl (fc5, 70, .inl (fun _ => 0))), (f7, .inl (fc6, 5, .inl (fun _ => 0))), (f8, .inl (fc7, 5, .inl (fun _ => 0))), (f9, .inl (fc8, 5, .inr (.inl (fun _ => 0)))), (f10, .inl (fc9, 66, .inl (fun _ => 0))), (f11, .inl (fc10, 66, .inr (.inl (fun _ => 0))))] := hD
  have hK : va_K D zz_cl [(gc0, .int), (gc1, .long), (gc2, .int), (gc3, .int), (gc4, .int), (gc5, .long), (gc6, .int), (gc7, .int), (gc8, .boolean), (gc9, .int), (gc10, .long), (fc0, .int), (fc1, .long), (fc2, .int), (fc3, .int), (fc4, .long), (fc5, .int), (fc6, .int), (fc7, .int), (fc8, .long), (fc9, .int), (fc10, .long)] s := hK
  refine lv_astore_n (lv' := [(2, .ref f0), (1, .ref g0), (0, .ref b)]) hx hb d_L_law_25 rfl hl (Nat.le_of_ble_eq_true rfl) rfl (fun ls hl => ?_)
  refine lv_iconst (v := nI 1) hx hb d_L_law_26 (by decide +kernel) ?_
  refine lv_istore_n (lv' := [(3, .int (nI 1)), (2, .ref f0), (1, .ref g0), (0, .ref b)]) hx hb d_L_law_27 rfl hl (Nat.le_of_ble_eq_true rfl) rfl (fun ls hl => ?_)
  obtain ⟨qc, hqc⟩ : ∃ q : Nat → Nat, q = (fun k => match k with | 0 => g0 | 1 => g1 | 2 => g2 | 3 => g3 | 4 => g4 | 5 => g5 | 6 => g6 | 7 => g7 | 8 => g8 | 9 => g9 | 10 => g10 | 11 => g11 | 12 => g12 | 13 => g13 | 14 => g14 | _ => g15) := ⟨_, rfl⟩
  obtain ⟨qm, hqm⟩ : ∃ q : Nat → Nat, q = (fun k => match k with | 0 => f0 | 1 => f1 | 2 => f2 | 3 => f3 | 4 => f4 | 5 => f5 | 6 => f6 | 7 => f7 | 8 => f8 | 9 => f9 | 10 => f10 | _ => f11) := ⟨_, rfl⟩
  obtain ⟨ca, hca⟩ : ∃ q : Nat → ClassId, q = (fun k => match k with | 5 => gc0 | 6 => gc1 | 7 => gc2 | 8 => gc3 | 9 => gc4 | 10 => gc5 | 11 => gc6 | 12 => gc7 | 13 => gc8 | 14 => gc9 | _ => gc10) := ⟨_, rfl⟩
  obtain ⟨cm, hcm⟩ : ∃ q : Nat → ClassId, q = (fun k => match k with | 1 => fc0 | 2 => fc1 | 3 => fc2 | 4 => fc3 | 5 => fc4 | 6 => fc5 | 7 => fc6 | 8 => fc7 | 9 => fc8 | 10 => fc9 | _ => fc10) := ⟨_, rfl⟩
  obtain ⟨lm, hlme⟩ : ∃ n : Nat, n = xw_lim (if 0 < L then xs 0 else 0) := ⟨_, rfl⟩
  have hlm : 8 ≤ lm ∧ lm ≤ 200 := by rw [hlme]; exact xw_lim_le _
  have hPc : va_P D zz_cl (xw_C qc ca (nI lm) (fun _ => 0) (fun _ => 0) (nI (xs_now [] []).length) (fun _ => 0) (fun _ => 0) (fun _ => 0) (fun _ => 0) (fun _ => 0) (fun _ => 0) (nI ([] : List xs_R).length) (fun _ => 0) (fun _ => 0) (fun _ => 0) (xb_i false) (nI ([] : List xs_O).length)) H := by rw [hqc, hca, hlme]; exact hP.sub [0, 1, 2, 3, 4, 5, 6, 7, 8, 9, 10, 11, 12, 13, 14, 15] rfl
  have hPm : va_P D zz_cl (xw_M qm cm (nI lm) (nI ([] : List xk_E).length) (fun _ => 0) (fun _ => 0) (nI ([] : List xs_R).length) (fun _ => 0) (fun _ => 0) (fun _ => 0) (fun _ => 0) (xb_i false) (nI ([] : List xs_O).length) (fun _ => 0) (fun _ => 0) (fun _ => 0) (nI 0) (fun _ => 0) (fun _ => 0)) H := by rw [hqm, hcm, hlme]; exact hP.sub [16, 17, 18, 19, 20, 21, 22, 23, 24, 25, 26, 27] rfl
  have hDc : va_D A (xw_C qc ca (nI 0) (fun _ => 0) (fun _ => 0) (nI 0) (fun _ => 0) (fun _ => 0) (fun _ => 0) (fun _ => 0) (fun _ => 0) (fun _ => 0) (nI 0) (fun _ => 0) (fun _ => 0) (fun _ => 0) (nI 0) (nI 0)) := by rw [hqc, hca]; exact xa_E (hD.sub (ws' := [(g0, .inr (0, [.int (nI (xw_lim (if 0 < L then xs 0 else 0))), .ref g1, .ref g3, .ref g4])), (g1, .inr (1, [.ref g5, .ref g6, .ref g2, .int 0])), (g2, .inr (2, [.ref g7, .ref g8])), (g3, .inr (3, [.ref g9, .ref g10, .ref g11, .ref g12, .int 0])), (g4, .inr (4, [.ref g13, .ref g14, .ref g15, .int 0, .int 0])), (g5, .inl (gc0, 65, .inl (fun _ => 0))), (g6, .inl (gc1, 65, .inr (.inl (fun _ => 0)))), (g7, .inl (gc2, 128, .inl (fun _ => 0))), (g8, .inl (gc3, 128, .inl (fun _ => 0))), (g9, .inl (gc4, 70, .inl (fun _ => 0))), (g10, .inl (gc5, 70, .inr (.inl (fun _ => 0)))), (g11, .inl (gc6, 70, .inl (fun _ => 0))), (g12, .inl (gc7, 70, .inl (fun _ => 0))), (g13, .inl (gc8, 5, .inl (fun _ => 0))), (g14, .inl (gc9, 5, .inl (fun _ => 0))), (g15, .inl (gc10, 5, .inr (.inl (fun _ => 0))))]) [0, 1, 2, 3, 4, 5, 6, 7, 8, 9, 10, 11, 12, 13, 14, 15] (by decide) rfl) rfl
  have hDm : va_D A (xw_M qm cm (nI 0) (nI 0) (fun _ => 0) (fun _ => 0) (nI 0) (fun _ => 0) (fun _ => 0) (fun _ => 0) (fun _ => 0) (nI 0) (nI 0) (fun _ => 0) (fun _ => 0) (fun _ => 0) (nI 0) (fun _ => 0) (fun _ => 0)) := by rw [hqm, hcm]; exact xa_E (hD.sub (ws' := [(f0, .inr (5, [.int (nI (xw_lim (if 0 < L then xs 0 else 0))), .int 0, .ref f1, .ref f2, .int 0, .ref f3, .ref f4, .ref f5, .ref f6, .int 0, .int 0, .ref f7, .ref f8, .ref f9, .int 0, .ref f10, .ref f11])), (f1, .inl (fc0, 60, .inl (fun _ => 0))), (f2, .inl (fc1, 60, .inr (.inl (fun _ => 0)))), (f3, .inl (fc2, 70, .inl (fun _ => 0))), (f4, .inl (fc3, 70, .inl (fun _ => 0))), (f5, .inl (fc4, 70, .inr (.inl (fun _ => 0)))), (f6, .inl (fc5, 70, .inl (fun _ => 0))), (f7, .inl (fc6, 5, .inl (fun _ => 0))), (f8, .inl (fc7, 5, .inl (fun _ => 0))), (f9, .inl (fc8, 5, .inr (.inl (fun _ => 0)))), (f10, .inl (fc9, 66, .inl (fun _ => 0))), (f11, .inl (fc10, 66, .inr (.inl (fun _ => 0))))]) [16, 17, 18, 19, 20, 21, 22, 23, 24, 25, 26, 27] (by decide) rfl) rfl
  have hKc : va_K D zz_cl (xw_tC ca) s := by rw [hca]; exact hK.sub [0, 1, 2, 3, 4, 5, 6, 7, 8, 9, 10] rfl
  have hKm : va_K D zz_cl (xw_tM cm) s := by rw [hcm]; exact hK.sub [11, 12, 13, 14, 15, 16, 17, 18, 19, 20, 21] rfl
  have hdis : ∀ a ∈ ([qc 0, qc 1, qc 2, qc 3, qc 4, qc 5, qc 6, qc 7, qc 8, qc 9, qc 10, qc 11, qc 12, qc 13, qc 14, qc 15] : List Nat), a ∉ ([qm 0, qm 1, qm 2, qm 3, qm 4, qm 5, qm 6, qm 7, qm 8, qm 9, qm 10, qm 11] : List Nat) := by rw [hqc, hqm]; exact hdis0
  have X : xl_X p s m c b L xs A D qc ca qm cm lm := ⟨hx, hb, hml, hown, hts, hZ, hX, hbl, hbA, hA, hKc, hKm, hDc, hDm, hdis, hL, hlm.2⟩
  have hI : xl_I D qc ca qm cm lm H := ⟨[], [], false, [], [], fun _ => 0, fun _ => 0, fun _ => 0, fun _ => 0, fun _ => 0, fun _ => 0, fun _ => 0, fun _ => 0, fun _ => 0, fun _ => 0, fun _ => 0, fun _ => 0, fun _ => 0, fun _ => 0, fun _ => 0, fun _ => 0, fun _ => 0, fun _ => 0, fun _ => 0, fun _ => 0, nI 0, fun _ => 0, fun _ => 0, hPc, hPm, xl_CT0, xl_MT0, xl_ok0 hlm.1, Nat.zero_le _, Nat.zero_le _, fun _ => rfl⟩
  have hl : lv_has ls 4 [(0, .ref b), (1, .ref (qc 0)), (2, .ref (qm 0)), (3, .int (nI 1))] := by rw [hqc, hqm]; exact lv_sub hl [3, 2, 1, 0] rfl
  have lp : ∀ (N i : Nat) (ls : Array Slot) (H : Heap) (locs : List Loc), i ≤ L + 4 → lv_has ls 4 [(0, .ref b), (1, .ref (qc 0)), (2, .ref (qm 0)), (3, .int (nI i))] → va_S A s.heap H locs → xl_I D qc ca qm cm lm H → L + 4 - i < N → W p l e room_1 s m #[Value.ref b] below meth c H locs 28 1265 (lw_Z below #[Value.ref b] s) (F0 m 28 ls []) := by
    intro N
    induction N with
    | zero => intro i ls H locs h1 h2 h3 h4 h5; exact absurd h5 (Nat.not_lt_zero _)
    | succ N ih =>
      intro i ls H locs hiL hl hS hI hm
      refine lv_iload_n hx hb d_L_law_28 rfl (lv_at hl 3 rfl) ?_
      refine lv_aload_n hx hb d_L_law_29 rfl (lv_at hl 0 rfl) ?_
      refine va_slen hx hb hX hbl hbA hS d_L_law_30 ?_
      refine lv_iconst (v := nI 4) hx hb d_L_law_31 (by decide +kernel) ?_
      refine lv_isub hx hb d_L_law_32 ?_
      refine lv_icmp_gt (tgt := 516) hx hb d_L_law_33 (by decide) (fun hc => ?_) (fun hc => ?_)
      · refine lv_iconst (v := 1) hx hb d_L_law_516 (by decide +kernel) ?_
        refine va_forget (fun q hq => hAi _ (hS.2.2 q hq)) ?_
        exact lw_ret hx hb hr hlocks d_L_law_517
      · have hi : ¬ L < i + 4 := fun q => hc ((xl_end (L := L) (i := i) hL (by omega)).mpr q)
        have hi : i + 4 ≤ L := by omega
        refine lv_aload_n hx hb d_L_law_36 rfl (lv_at hl 0 rfl) ?_
        refine lv_iload_n hx hb d_L_law_37 rfl (lv_at hl 3 rfl) ?_
        refine xl_sld hx hb hX hbl hbA hS (k := i) (by omega) (by omega) d_L_law_38 ?_
        refine lv_bipush (v := nI 31) hx hb d_L_law_39 (by decide +kernel) ?_
        refine lv_iand hx hb d_L_law_41 ?_
        obtain ⟨j, hj, hje⟩ := pk_andE (xs i) (m := nI 31) 5 (by decide +kernel)
        refine xa_top hje ?_
        have kk : ∀ (H : Heap) (locs : List Loc), va_S A s.heap H locs → xl_I D qc ca qm cm lm H → W p l e room_1 s m #[Value.ref b] below meth c H locs 28 1265 (lw_Z below #[Value.ref b] s) (F0 m 510 ls []) := by
          intro H locs hS hI
          refine lv_iinc (k := 3) (v := nI (i + 4)) (lv' := [(3, .int (nI (i + 4))), (0, .ref b), (1, .ref (qc 0)), (2, .ref (qm 0))]) hx hb d_L_law_510 hl rfl (xl_inc i) (Nat.le_of_ble_eq_true rfl) rfl (fun ls hl => ?_)
          refine lv_goto (tgt := 28) hx hb d_L_law_513 (by decide) ?_
          exact ih (i + 4) ls H locs (by omega) (lv_sub hl [1, 2, 3, 0] rfl) hS hI (by omega)
        have hcase : j = 0 ∨ j = 1 ∨ j = 2 ∨ j = 3 ∨ j = 4 ∨ j = 5 ∨ j = 6 ∨ j = 7 ∨ j = 8 ∨ j = 9 ∨ j = 10 ∨ j = 11 ∨ j = 12 ∨ j = 13 ∨ j = 14 ∨ j = 15 ∨ j = 16 ∨ j = 17 ∨ j = 18 ∨ 18 < j := by omega
        rcases hcase with rfl | rfl | rfl | rfl | rfl | rfl | rfl | rfl | rfl | rfl | rfl | rfl | rfl | rfl | rfl | rfl | rfl | rfl | rfl | hj2
        · refine lv_tableIn (tgt := 132) (off := 90) hx hb d_L_law_42 (by decide +kernel) (by decide +kernel) (by decide +kernel) (by decide) ?_
          exact o_put X hi hl hS hI kk
        · refine lv_tableIn (tgt := 195) (off := 153) hx hb d_L_law_42 (by decide +kernel) (by decide +kernel) (by decide +kernel) (by decide) ?_
          exact o_delete X hi hl hS hI kk
        · refine lv_tableIn (tgt := 218) (off := 176) hx hb d_L_law_42 (by decide +kernel) (by decide +kernel) (by decide +kernel) (by decide) ?_
          exact o_has X hi hl hS hI kk
        · refine lv_tableIn (tgt := 241) (off := 199) hx hb d_L_law_42 (by decide +kernel) (by decide +kernel) (by decide +kernel) (by decide) ?_
          exact o_get X hi hl hS hI kk
        · refine lv_tableIn (tgt := 265) (off := 223) hx hb d_L_law_42 (by decide +kernel) (by decide +kernel) (by decide +kernel) (by decide) ?_
          exact o_reads X hi hl hS hI kk
        · refine lv_tableIn (tgt := 288) (off := 246) hx hb d_L_law_42 (by decide +kernel) (by decide +kernel) (by decide +kernel) (by decide) ?_
          exact o_open X hi hl hS hI kk
        · refine lv_tableIn (tgt := 301) (off := 259) hx hb d_L_law_42 (by decide +kernel) (by decide +kernel) (by decide +kernel) (by decide) ?_
          exact o_commit X hi hl hS hI kk
        · refine lv_tableIn (tgt := 314) (off := 272) hx hb d_L_law_42 (by decide +kernel) (by decide +kernel) (by decide +kernel) (by decide) ?_
          exact o_abandon X hi hl hS hI kk
        · refine lv_tableIn (tgt := 327) (off := 285) hx hb d_L_law_42 (by decide +kernel) (by decide +kernel) (by decide +kernel) (by decide) ?_
          exact o_flush X hi hl hS hI kk
        · refine lv_tableIn (tgt := 340) (off := 298) hx hb d_L_law_42 (by decide +kernel) (by decide +kernel) (by decide +kernel) (by decide) ?_
          exact o_crash X hi hl hS hI kk
        · refine lv_tableIn (tgt := 363) (off := 321) hx hb d_L_law_42 (by decide +kernel) (by decide +kernel) (by decide +kernel) (by decide) ?_
          exact o_unflushed X hi hl hS hI kk
        · refine lv_tableIn (tgt := 376) (off := 334) hx hb d_L_law_42 (by decide +kernel) (by decide +kernel) (by decide +kernel) (by decide) ?_
          exact o_steps X hi hl hS hI kk
        · refine lv_tableIn (tgt := 389) (off := 347) hx hb d_L_law_42 (by decide +kernel) (by decide +kernel) (by decide +kernel) (by decide) ?_
          exact o_size X hi hl hS hI kk
        · refine lv_tableIn (tgt := 402) (off := 360) hx hb d_L_law_42 (by decide +kernel) (by decide +kernel) (by decide +kernel) (by decide) ?_
          exact o_pages X hi hl hS hI kk
        · refine lv_tableIn (tgt := 415) (off := 373) hx hb d_L_law_42 (by decide +kernel) (by decide +kernel) (by decide +kernel) (by decide) ?_
          exact o_globalDepth X hi hl hS hI kk
        · refine lv_tableIn (tgt := 428) (off := 386) hx hb d_L_law_42 (by decide +kernel) (by decide +kernel) (by decide +kernel) (by decide) ?_
          exact o_localDepth X hi hl hS hI kk
        · refine lv_tableIn (tgt := 451) (off := 409) hx hb d_L_law_42 (by decide +kernel) (by decide +kernel) (by decide +kernel) (by decide) ?_
          exact o_buckets X hi hl hS hI kk
        · refine lv_tableIn (tgt := 464) (off := 422) hx hb d_L_law_42 (by decide +kernel) (by decide +kernel) (by decide +kernel) (by decide) ?_
          exact o_bucketAt X hi hl hS hI kk
        · refine lv_tableIn (tgt := 487) (off := 445) hx hb d_L_law_42 (by decide +kernel) (by decide +kernel) (by decide +kernel) (by decide) ?_
          exact o_keyAt X hi hl hS hI kk
        · refine lv_tableOut (tgt := 510) hx hb d_L_law_42 (Or.inr (by rw [nI_toInt (by omega)]; omega)) (by decide) ?_
          exact kk H locs hS hI
  exact lp _ 1 ls H _ (by omega) hl hS hI (Nat.lt_succ_self _)
-- ===== YOUR PART ENDS =====
set_option maxHeartbeats 4000000 in
theorem lw_walk (l : Launch) (b : Addr) (xs : List Int32) : MetFree l x (headSpec (Jvm.Cond.code x code maxLocals ret :: tables_1) room_1) (lw_P b xs) (fun _ _ _ _ _ => True) lw_Q := by
  refine MetFree.of_bodyS (code := code) (maxLocals := maxLocals) (ret := ret) (by decide) ?_ ?_
  · intro args s m h hn
    obtain ⟨meth, c, h1, h2, h3, h4, h5, h6, -, -⟩ := Cond.code_spec hn (atoms_spec (ws := Jvm.Cond.code x code maxLocals ret :: tables_1) h _ List.mem_cons_self)
    exact ⟨meth, c, h1, h2, h3, h4, h5, h6⟩
  · intro p e s m args below meth c s₁ B hml0 hP _
    obtain ⟨rfl, hx, hbd, hgv⟩ := hP
    obtain ⟨scr, harrAt, hlist, hof, hsmall⟩ := hx
    obtain ⟨hcb, hkn, -, -⟩ := State.arrayAt?_spec harrAt
    have hown : s.vm.findClass R_law = some m.cls := findClass_of_methodNamed B.named
    have hts0 : ∀ c ∈ (Jvm.Cond.code x code maxLocals ret :: tables_1), c.before #[Value.ref b] s = true := atoms_spec (ws := Jvm.Cond.code x code maxLocals ret :: tables_1) B.pre
    have hts : ∀ w ∈ lw_tbl, w.before #[Value.ref b] s = true := k2_hts_sels lw_privs (fun w hw => hts0 w (List.mem_cons_of_mem _ hw)) lw_privs_ok
    have hml : c.maxLocals = 4 := B.maxLocals_eq (hts0 _ List.mem_cons_self)
    have X₀ : Stand p l e room_1 s m #[Value.ref b] below meth c s₁ [] 0 0 := Stand.of_body B
    have hh0 : s₁.heap = s.heap := by rw [B.state]; rfl
    have hsz : scr.slots.size = xs.length := by rw [← Array.length_toList, hlist, List.length_map]
    have hval : ∀ j : Nat, j < xs.length → scr.slots[j]? = some (.int (xs.getD j 0)) := fun j hj => by
      rw [← Array.getElem?_toList, hlist]
      simp [hj]
    have hbl : b < s.heap.size := (Array.getElem?_eq_some_iff.mp hcb).1
    have hX : va_X b xs.length (fun j => xs.getD j 0) s s.heap := ⟨scr, hcb, hof, hkn, hsz, hval⟩
    have K : W p l e room_1 s m #[Value.ref b] below meth c s₁.heap [] 0 0 (lw_Z below #[Value.ref b] s) (entryFrame m ([Value.ref b] : List Value).toArray 4) := by
      rw [hh0]
      exact whole_start l hbd ⟨B.exec, B.bytes, B.returns, hml, hown, hts, hX, hbl, B.notSynchronized, hgv⟩
    obtain ⟨t, a1, o, b1, b2, b3⟩ := K s₁ rfl X₀
    exact ⟨t, o, a1, b1, b2, b3⟩
theorem lw_pre_spec {args : Array Value} {s : State} (h : (Jvm.Cond.and given_1 narrow_1).before args s = true) (hr : rest_1_c.before args s = true) : ∃ (b : Addr) (xs : List Int32), lw_P b xs args s := by
  have hs := flat_of_before _ h
  have hq := flat_of_before _ hr
  have hc : (Cond.count 1).before args s = true := hs _ (by decide +kernel)
  have harr : (Cond.arrayOf (.arg 0) .int).before args s = true := hs _ (by decide +kernel)
  have hle : (Cond.le (.length (.arg 0)) (.int 2049)).before args s = true := hs _ (by decide +kernel)
  have hlen : (Cond.isInt (.length (.arg 0))).before args s = true := hq _ (by decide +kernel)
  have hall : (Cond.all (.arg 0) (.isInt (.elem (.arg 0) (.index 0)))).before args s = true := hq _ (by decide +kernel)
  obtain ⟨b, xs, hb, hx⟩ := State.ints_of_pre rfl harr hlen hall
  have hsm : xs.length < 2 ^ 31 := hx.choose_spec.2.2.2
  have hev : (Term.length (.arg 0)).eval args s none [] s = some (.int xs.length.toInt32) := hx.length_eval hb
  have hv := Cond.le_ints hev (show (Term.int 2049).eval args s none [] s = some (.int 2049) from rfl)
  have hd : xs.length.toInt32 ≤ 2049 := by
    simpa [Cond.before, Cond.holds, hv] using hle
  have hN : xs.length ≤ 2049 := (Int32.ofNat_le_ofNat hsm (by decide)).mp (show Int32.ofNat xs.length ≤ Int32.ofNat 2049 from hd)
  exact ⟨b, xs, Cond.one_arg hc (show args[0]? = some (.ref b) from hb), hx, hN, h⟩
theorem lw_comes (l : Launch) : Comes l x (Jvm.Cond.code x code maxLocals ret :: tables_1) room_1 (fun tb e args s => Calls_1 tb e args s ∧ rest_1 tb e args s ∧ Pre_1 tb e args s)
    (fun _ _ args s o t => lw_Q args s o t) := by
  intro p e ha hc hk s m args below hf hfit hheap happ hpre
  obtain ⟨b, xs, hP⟩ := lw_pre_spec hpre.2.2 hpre.2.1
  obtain ⟨k, o, h1, h2, h3, hQ⟩ := lw_walk l b xs p e ha hc hk s m args below hf ((Spec.applies_iff_loose hf).mp happ).1 hP trivial
  exact ⟨k, o, h1, h2, h3, hQ⟩
theorem lw_frame {s t : State} {o : Outcome} {args : Array Value} (h : Framed s o t [] 28 1265) :
    Framed s o t (fieldLocs frame_1_writes args s ++ arrayLocs frame_1_arrays args s ++ staticLocs frame_1_statics s) 28 1265 := h
theorem lw_limb (L : Cond) (hL : ∀ (args : Array Value) (s t : State), L.after args s (.returned (some (.int 1))) t = true) :
    ArmFor flags0 classFile x code maxLocals ret World_1 tables_1 room_1 Calls_1 rest_1 Pre_1
      (fun tb e a s o t => postC L tb e a s o t ∧ Framed s o t (fieldLocs frame_1_writes a s ++ arrayLocs frame_1_arrays a s ++ staticLocs frame_1_statics s) 28 1265) := by
  intro l _ _ _ p e ha hc hk s m args below hf hfit hheap happ hpre
  obtain ⟨k, o, h1, h2, h3, rfl, hF⟩ := lw_comes l p e ha hc hk s m args below hf hfit hheap happ hpre
  exact ⟨k, _, h1, h2, h3, hL args s _, lw_frame hF⟩
theorem i_vc : Claimed_1_1 ∧ Claimed_1_2 := ⟨lw_limb limb_1_1 (fun args s t => by simp [limb_1_1, Cond.after, Cond.holds, Cond.value]), lw_limb limb_1_2 (fun args s t => Cond.after_iff.mpr (by
  first | (rw [show limb_1_2 = Cond.eq .result (.int 1) from rfl, Cond.eq_ints (x := 1) (y := 1) rfl rfl]; simp; done) | (simp [limb_1_2, Cond.value, Term.eval]; done)))⟩
