/-! Small rows for the start of the law. (printed by start.py) -/
theorem xl_preX {s : State} {H : Heap} {b L : Nat} {xs : Nat → Int32} {A : Nat → Prop} {locs : List Loc} (hX : va_X b L xs s s.heap) (hbl : b < s.heap.size) (hbA : ¬ A b) (hS : va_S A s.heap H locs) : PreS s H (va_Pc [.ref b, .int (nI 0)] (fun U => va_X b L xs U U.heap ∧ b < U.heap.size)) [.ref b, .int (nI 0)] := by
  refine ⟨fun a U g mk h => ?_, fun U hU hW => ⟨rfl, ?_, ?_⟩⟩
  · obtain ⟨q0, qX, qb⟩ := h
    exact ⟨q0, va_X.moved (u := U) (U := U.calling g mk a) (Vm.Alike.refl U.vm) qX, qb⟩
  · rw [hU]
    exact va_X.moved hW.alike (hX.kept (hS.2.1 b hbl hbA))
  · rw [hU]
    exact Nat.lt_of_lt_of_le hbl hS.1
theorem xl_dis {A : Nat → Prop} {w1 w2 : va_W} (hD : va_D A (w1 ++ w2)) : ∀ a ∈ w1.map Prod.fst, a ∉ w2.map Prod.fst := by
  intro a h1 h2
  obtain ⟨p, hp, e1⟩ := List.mem_map.mp h1
  obtain ⟨q, hq, e2⟩ := List.mem_map.mp h2
  obtain ⟨i, hi⟩ := List.getElem?_of_mem hp
  obtain ⟨j, hj⟩ := List.getElem?_of_mem hq
  have hil := (List.getElem?_eq_some_iff.mp hi).1
  have a1 : (w1 ++ w2)[i]? = some p := by rw [List.getElem?_append_left hil]; exact hi
  have a2 : (w1 ++ w2)[w1.length + j]? = some q := by rw [List.getElem?_append_right (by omega), Nat.add_sub_cancel_left]; exact hj
  have := hD.1 i (w1.length + j) p q a1 a2 (by rw [e1, e2])
  omega
theorem xl_hc0 (d p : Nat) : xd_hc [] d p = 0 := by
  unfold xd_hc
  rw [List.countP_eq_zero]
  intro h _
  simp [xd_cn]
theorem xl_CT0 : xs_CT [] [] [] (fun _ => 0) (fun _ => 0) (fun _ => 0) (fun _ => 0) (fun _ => 0) (fun _ => 0) (fun _ => 0) (fun _ => 0) (fun _ => 0) (fun _ => 0) (fun _ => 0) := by
  refine ⟨⟨?_, ?_, ?_, ?_⟩, fun i r h => by simp at h, fun i r h => by simp at h, fun i o h => by simp at h⟩
  · rw [xs_now_nil]; exact Nat.zero_le _
  · rw [xs_now_nil]; exact List.Pairwise.nil
  · rw [xs_now_nil]; intro i hi; simp at hi
  · intro d p _ _
    rw [xs_now_nil, xl_hc0]
    exact ⟨show (0 : Int32) = nI 0 from by decide, show (0 : Int32) = nI 0 from by decide⟩
theorem xl_MT0 : xm_MT [] [] [] (fun _ => 0) (fun _ => 0) (fun _ => 0) (fun _ => 0) (fun _ => 0) (fun _ => 0) (fun _ => 0) (fun _ => 0) (fun _ => 0) := ⟨fun i h => by simp at h, fun i r h => by simp at h, fun i o h => by simp at h⟩
theorem xl_pg0 : xd_pg [] ≤ 8 := by decide +kernel
theorem xl_ok0 {lm : Nat} (h : 8 ≤ lm) : xs_ok lm [] [] := by
  have hv : xs_V lm [] := ⟨Nat.zero_le _, Nat.le_trans xl_pg0 h⟩
  have hs : ∀ i, xs_S [] [] i = [] := fun i => by simp [xs_S]
  refine ⟨List.Pairwise.nil, Nat.zero_le _, Nat.zero_le _, fun i _ => by rw [hs]; exact Nat.zero_le _, fun i r h => by simp at h, by rw [hs]; exact hv⟩
theorem xl_inc (i : Nat) : nI i + Int32.ofInt 4 = nI (i + 4) := by
  rw [show Int32.ofInt 4 = nI 4 from by decide]; exact nI_add i 4
