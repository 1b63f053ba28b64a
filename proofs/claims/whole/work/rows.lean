section
/-! Pure: the keys with their values, ascending, as a list; what set and remove do to it. -/
abbrev xk_E : Type := Int32 × Int64
def xk_u (k n : Int32) : Int32 := (k.toUInt32 >>> (n.toUInt32 &&& Int32.toUInt32 31)).toInt32
def xk_x (k : Int32) : Int32 := ((((k ^^^ xk_u k (nI 6)) ^^^ xk_u k (nI 12)) ^^^ xk_u k (nI 18)) ^^^ xk_u k (nI 24)) ^^^ xk_u k (nI 30)
def xk_h (k : Int32) : Nat := (xk_x k).toBitVec.toNat % 64
theorem xk_h_lt (k : Int32) : xk_h k < 64 := Nat.mod_lt _ (by decide)
theorem xk_h_eq (k : Int32) : xk_x k &&& nI 63 = nI (xk_h k) := pk_and (xk_x k) 6 (by decide +kernel)
def xk_lo : List xk_E → Int32 → Nat
  | [], _ => 0
  | e :: t, k => if e.1 < k then xk_lo t k + 1 else 0
def xk_has : List xk_E → Int32 → Bool
  | [], _ => false
  | e :: t, k => if e.1 < k then xk_has t k else e.1 == k
def xk_get : List xk_E → Int32 → Int64
  | [], _ => 0
  | e :: t, k => if e.1 < k then xk_get t k else if e.1 = k then e.2 else 0
def xk_set : List xk_E → Int32 → Int64 → List xk_E
  | [], k, v => [(k, v)]
  | e :: t, k, v => if e.1 < k then e :: xk_set t k v else if e.1 = k then (k, v) :: t else (k, v) :: e :: t
def xk_rem : List xk_E → Int32 → List xk_E
  | [], _ => []
  | e :: t, k => if e.1 < k then e :: xk_rem t k else if e.1 = k then t else e :: t
def xk_asc (K : List xk_E) : Prop := K.Pairwise (fun a b => a.1 < b.1)
theorem xk_irr (k : Int32) : ¬ k < k := by rw [Int32.lt_iff_toInt_lt]; omega
theorem xk_tr {a b c : Int32} (h : a < b) (g : b < c) : a < c := by rw [Int32.lt_iff_toInt_lt] at *; omega
theorem xk_tri {a b : Int32} (h : ¬ a < b) (g : ¬ a = b) : b < a := by
  rw [Int32.lt_iff_toInt_lt] at *
  have : a.toInt ≠ b.toInt := fun q => g (Int32.toInt_inj.mp q)
  omega
theorem xk_nlt {a b : Int32} (h : a < b) : ¬ b < a := by rw [Int32.lt_iff_toInt_lt] at *; omega
theorem xk_lo_le (K : List xk_E) (k : Int32) : xk_lo K k ≤ K.length := by
  induction K with
  | nil => simp [xk_lo]
  | cons e t ih => simp only [xk_lo, List.length_cons]; split <;> omega
theorem xk_lo_lt {K : List xk_E} {k : Int32} {j : Nat} {e : xk_E} (h : j < xk_lo K k) (he : K[j]? = some e) : e.1 < k := by
  induction K generalizing j with
  | nil => simp at he
  | cons a t ih =>
    simp only [xk_lo] at h
    split at h
    · cases j with
      | zero => simp at he; subst he; assumption
      | succ j => exact ih (j := j) (by omega) (by simpa using he)
    · omega
theorem xk_lo_ge {K : List xk_E} {k : Int32} {e : xk_E} (he : K[xk_lo K k]? = some e) : ¬ e.1 < k := by
  induction K with
  | nil => simp at he
  | cons a t ih =>
    simp only [xk_lo] at he
    split at he
    · exact ih (by simpa using he)
    · simp at he; subst he; assumption
theorem xk_lo_eq {K : List xk_E} {k : Int32} {b : Nat} (hb : b ≤ K.length) (h1 : ∀ (j : Nat) (e : xk_E), j < b → K[j]? = some e → e.1 < k) (h2 : ∀ e : xk_E, K[b]? = some e → ¬ e.1 < k) : b = xk_lo K k := by
  induction K generalizing b with
  | nil => simp at hb; simp [xk_lo, hb]
  | cons a t ih =>
    cases b with
    | zero =>
      have := h2 a (by simp)
      simp [xk_lo, this]
    | succ b =>
      have ha := h1 0 a (by omega) (by simp)
      simp only [xk_lo, ha, if_true]
      have := ih (b := b) (by simpa using hb) (fun j e hj he => h1 (j + 1) e (by omega) (by simpa using he)) (fun e he => h2 e (by simpa using he))
      omega
theorem xk_has_iff (K : List xk_E) (k : Int32) : xk_has K k = true ↔ ∃ e, K[xk_lo K k]? = some e ∧ e.1 = k := by
  induction K with
  | nil => simp [xk_has]
  | cons a t ih =>
    simp only [xk_has, xk_lo]
    split
    · simpa using ih
    · simp
theorem xk_has_at {K : List xk_E} {k : Int32} (h : xk_has K k = true) : K[xk_lo K k]? = some (k, xk_get K k) := by
  induction K with
  | nil => simp [xk_has] at h
  | cons a t ih =>
    simp only [xk_has, xk_lo, xk_get] at *
    split
    · rename_i q
      simp only [q, if_true] at h
      simpa using ih h
    · rename_i q
      simp only [q, if_false] at h
      have : a.1 = k := by simpa using h
      subst this
      simp
theorem xk_has_lt {K : List xk_E} {k : Int32} (h : xk_has K k = true) : xk_lo K k < K.length := by
  have := xk_has_at h
  exact (List.getElem?_eq_some_iff.mp this).1
theorem xk_get_0 {K : List xk_E} {k : Int32} (h : xk_has K k = false) : xk_get K k = 0 := by
  induction K with
  | nil => simp [xk_get]
  | cons a t ih =>
    simp only [xk_has, xk_get] at *
    split
    · rename_i q
      simp only [q, if_true] at h
      exact ih h
    · rename_i q
      simp only [q, if_false] at h
      have : ¬ a.1 = k := by simpa using h
      simp [this]
theorem xk_set_len (K : List xk_E) (k : Int32) (v : Int64) : (xk_set K k v).length = if xk_has K k then K.length else K.length + 1 := by
  induction K with
  | nil => simp [xk_set, xk_has]
  | cons a t ih =>
    simp only [xk_set, xk_has]
    by_cases q : a.1 < k
    · simp only [q, if_true, List.length_cons, ih]; split <;> rfl
    · by_cases r : a.1 = k
      · subst r; simp [q]
      · simp [q, r]
theorem xk_rem_len (K : List xk_E) (k : Int32) : (xk_rem K k).length = if xk_has K k then K.length - 1 else K.length := by
  induction K with
  | nil => simp [xk_rem, xk_has]
  | cons a t ih =>
    simp only [xk_rem, xk_has]
    by_cases q : a.1 < k
    · simp only [q, if_true, List.length_cons, ih]
      by_cases w : xk_has t k = true
      · have := xk_has_lt w
        simp only [w, if_true]; omega
      · simp [w]
    · by_cases r : a.1 = k
      · subst r; simp [q]
      · simp [q, r]
theorem xk_set_at (K : List xk_E) (k : Int32) (v : Int64) (i : Nat) : (xk_set K k v)[i]? = if i < xk_lo K k then K[i]? else if i = xk_lo K k then some (k, v) else if xk_has K k then K[i]? else K[i - 1]? := by
  induction K generalizing i with
  | nil => cases i <;> simp [xk_set, xk_has, xk_lo]
  | cons a t ih =>
    simp only [xk_set, xk_has, xk_lo]
    by_cases q : a.1 < k
    · simp only [q, if_true]
      cases i with
      | zero => simp
      | succ i =>
        simp only [List.getElem?_cons_succ, ih, Nat.add_lt_add_iff_right, Nat.add_right_cancel_iff, Nat.add_sub_cancel]
        split
        · rfl
        · split
          · rfl
          · split
            · rfl
            · have : 0 < i := by omega
              obtain ⟨j, rfl⟩ : ∃ j, i = j + 1 := ⟨i - 1, by omega⟩
              simp
    · by_cases r : a.1 = k
      · subst r
        cases i <;> simp [q]
      · cases i with
        | zero => simp [q, r]
        | succ i => simp [q, r]
theorem xk_rem_at (K : List xk_E) (k : Int32) (i : Nat) : (xk_rem K k)[i]? = if i < xk_lo K k ∨ xk_has K k = false then K[i]? else K[i + 1]? := by
  induction K generalizing i with
  | nil => simp [xk_rem]
  | cons a t ih =>
    simp only [xk_rem, xk_has, xk_lo]
    by_cases q : a.1 < k
    · simp only [q, if_true]
      cases i with
      | zero => simp
      | succ i => simp only [List.getElem?_cons_succ, ih, Nat.add_lt_add_iff_right]
    · by_cases r : a.1 = k
      · subst r
        simp [q]
      · simp [q, r]
theorem xk_set_mem {K : List xk_E} {k : Int32} {v : Int64} {e : xk_E} (h : e ∈ xk_set K k v) : e = (k, v) ∨ e ∈ K := by
  induction K with
  | nil => simp only [xk_set, List.mem_singleton] at h; exact Or.inl h
  | cons a t ih =>
    simp only [xk_set] at h
    split at h
    · rcases List.mem_cons.mp h with h | h
      · exact Or.inr (by simp [h])
      · rcases ih h with h | h
        · exact Or.inl h
        · exact Or.inr (List.mem_cons_of_mem _ h)
    · split at h
      · rcases List.mem_cons.mp h with h | h
        · exact Or.inl h
        · exact Or.inr (List.mem_cons_of_mem _ h)
      · rcases List.mem_cons.mp h with h | h
        · exact Or.inl h
        · exact Or.inr h
theorem xk_rem_mem {K : List xk_E} {k : Int32} {e : xk_E} (h : e ∈ xk_rem K k) : e ∈ K := by
  induction K with
  | nil => simp [xk_rem] at h
  | cons a t ih =>
    simp only [xk_rem] at h
    split at h
    · rcases List.mem_cons.mp h with h | h
      · simp [h]
      · exact List.mem_cons_of_mem _ (ih h)
    · split at h
      · exact List.mem_cons_of_mem _ h
      · exact h
theorem xk_asc_set {K : List xk_E} (h : xk_asc K) (k : Int32) (v : Int64) : xk_asc (xk_set K k v) := by
  unfold xk_asc at *
  induction K with
  | nil => simp [xk_set]
  | cons a t ih =>
    have h2 := List.pairwise_cons.mp h
    simp only [xk_set]
    split
    · rename_i q
      refine List.pairwise_cons.mpr ⟨fun e he => ?_, ih h2.2⟩
      rcases xk_set_mem he with rfl | he
      · exact q
      · exact h2.1 e he
    · rename_i q
      split
      · rename_i r
        exact List.pairwise_cons.mpr ⟨fun e he => by rw [← r]; exact h2.1 e he, h2.2⟩
      · rename_i r
        have z := xk_tri q r
        refine List.pairwise_cons.mpr ⟨fun e he => ?_, h⟩
        rcases List.mem_cons.mp he with rfl | he
        · exact z
        · exact xk_tr z (h2.1 e he)
theorem xk_asc_rem {K : List xk_E} (h : xk_asc K) (k : Int32) : xk_asc (xk_rem K k) := by
  unfold xk_asc at *
  induction K with
  | nil => simp [xk_rem]
  | cons a t ih =>
    have h2 := List.pairwise_cons.mp h
    simp only [xk_rem]
    split
    · exact List.pairwise_cons.mpr ⟨fun e he => h2.1 e (xk_rem_mem he), ih h2.2⟩
    · split
      · exact h2.2
      · exact h
theorem xk_un_ss {K : List xk_E} {k : Int32} (v : Int64) (h : xk_has K k = true) : xk_set (xk_set K k v) k (xk_get K k) = K := by
  induction K with
  | nil => simp [xk_has] at h
  | cons a t ih =>
    simp only [xk_has] at h
    simp only [xk_set, xk_get]
    by_cases q : a.1 < k
    · simp only [q, if_true] at h ⊢
      simp only [xk_set, q, if_true, ih h]
    · simp only [q, if_false] at h ⊢
      have r : a.1 = k := by simpa using h
      simp [r, xk_set, xk_irr]
      rw [← r]
theorem xk_un_rs {K : List xk_E} {k : Int32} (v : Int64) (h : xk_has K k = false) : xk_rem (xk_set K k v) k = K := by
  induction K with
  | nil => simp [xk_set, xk_rem, xk_irr]
  | cons a t ih =>
    simp only [xk_has] at h
    simp only [xk_set]
    by_cases q : a.1 < k
    · simp only [q, if_true] at h ⊢
      simp only [xk_rem, q, if_true, ih h]
    · simp only [q, if_false] at h ⊢
      have r : ¬ a.1 = k := by simpa using h
      simp [r, xk_rem, xk_irr]
theorem xk_rem_no {K : List xk_E} {k : Int32} (h : xk_has K k = false) : xk_rem K k = K := by
  induction K with
  | nil => simp [xk_rem]
  | cons a t ih =>
    simp only [xk_has] at h
    simp only [xk_rem]
    by_cases q : a.1 < k
    · simp only [q, if_true] at h ⊢
      rw [ih h]
    · simp only [q, if_false] at h ⊢
      have r : ¬ a.1 = k := by simpa using h
      simp [r]
theorem xk_un_sr {K : List xk_E} (hA : xk_asc K) {k : Int32} (h : xk_has K k = true) : xk_set (xk_rem K k) k (xk_get K k) = K := by
  unfold xk_asc at hA
  induction K with
  | nil => simp [xk_has] at h
  | cons a t ih =>
    have h2 := List.pairwise_cons.mp hA
    simp only [xk_has] at h
    simp only [xk_rem, xk_get]
    by_cases q : a.1 < k
    · simp only [q, if_true] at h ⊢
      simp only [xk_set, q, if_true, ih h2.2 h]
    · simp only [q, if_false] at h ⊢
      have r : a.1 = k := by simpa using h
      simp only [r, if_true]
      have e1 : (k, a.2) = a := by rw [← r]
      cases t with
      | nil => simp [xk_set, e1]
      | cons b u =>
        have hb := h2.1 b (by simp)
        rw [r] at hb
        have n1 : ¬ b.1 < k := xk_nlt hb
        have n2 : ¬ b.1 = k := fun z => by rw [z] at hb; exact xk_irr _ hb
        simp [xk_set, n1, n2, e1]
/-- in an ascending list: which places lie below a key, and which one holds it -/
theorem xk_asc_lt {K : List xk_E} (hA : xk_asc K) {i j : Nat} {a b : xk_E} (h : i < j) (ha : K[i]? = some a) (hb : K[j]? = some b) : a.1 < b.1 := by
  obtain ⟨hi, rfl⟩ := List.getElem?_eq_some_iff.mp ha
  obtain ⟨hj, rfl⟩ := List.getElem?_eq_some_iff.mp hb
  exact (List.pairwise_iff_getElem.mp hA) i j hi hj h
theorem xk_below {K : List xk_E} (hA : xk_asc K) {k : Int32} {i : Nat} {e : xk_E} (he : K[i]? = some e) : e.1 < k ↔ i < xk_lo K k := by
  constructor
  · intro h
    refine Classical.byContradiction fun q => ?_
    have hl : xk_lo K k ≤ i := by omega
    have hi := (List.getElem?_eq_some_iff.mp he).1
    have hlt : xk_lo K k < K.length := by omega
    obtain ⟨e0, ho⟩ : ∃ e0, K[xk_lo K k]? = some e0 := ⟨_, List.getElem?_eq_getElem hlt⟩
    have hn := xk_lo_ge ho
    by_cases z : xk_lo K k = i
    · rw [z, he] at ho
      cases ho
      exact hn h
    · exact hn (xk_tr (xk_asc_lt hA (by omega) ho he) h)
  · intro h
    exact xk_lo_lt h he
theorem xk_there {K : List xk_E} (hA : xk_asc K) {k : Int32} {i : Nat} {e : xk_E} (he : K[i]? = some e) : e.1 = k ↔ i = xk_lo K k ∧ xk_has K k = true := by
  constructor
  · intro h
    have n1 : ¬ i < xk_lo K k := fun q => by
      have := xk_lo_lt q he
      rw [h] at this
      exact xk_irr _ this
    have n2 : ¬ xk_lo K k < i := fun q => by
      have hi := (List.getElem?_eq_some_iff.mp he).1
      obtain ⟨e0, ho⟩ : ∃ e0, K[xk_lo K k]? = some e0 := ⟨_, List.getElem?_eq_getElem (by omega)⟩
      have h3 := xk_asc_lt hA q ho he
      rw [h] at h3
      exact xk_lo_ge ho h3
    have n3 : i = xk_lo K k := by omega
    exact ⟨n3, (xk_has_iff K k).mpr ⟨e, by rw [← n3]; exact he, h⟩⟩
  · rintro ⟨h1, h2⟩
    have := xk_has_at h2
    rw [← h1, he] at this
    cases this
    rfl
/-- arrays hold a list -/
def xk_tie (f : Nat → Int32) (g : Nat → Int64) (K : List xk_E) : Prop := ∀ i : Nat, i < K.length → K[i]? = some (f i, g i)
theorem xk_tie_put {f : Nat → Int32} {g : Nat → Int64} {K : List xk_E} (h : xk_tie f g K) {k : Int32} (v : Int64) (hk : xk_has K k = true) : xk_tie f (vp_updL g (xk_lo K k) v) (xk_set K k v) := by
  intro i hi
  rw [xk_set_len, if_pos hk] at hi
  rw [xk_set_at]
  have ho := h (xk_lo K k) (xk_has_lt hk)
  rw [xk_has_at hk] at ho
  by_cases q : i < xk_lo K k
  · rw [if_pos q, h i hi, pk_uLn (by omega)]
  · rw [if_neg q]
    by_cases r : i = xk_lo K k
    · subst r
      rw [if_pos rfl, pk_uLs]
      have e1 : k = f (xk_lo K k) := by simpa using congrArg Prod.fst (Option.some.inj ho)
      rw [← e1]
    · rw [if_neg r, if_pos hk, h i hi, pk_uLn r]
/-- the arrays with a place opened at b -/
def xk_ins {α : Type} (f : Nat → α) (b : Nat) (x : α) : Nat → α := fun j => if j < b then f j else if j = b then x else f (j - 1)
def xk_del {α : Type} (f : Nat → α) (b : Nat) : Nat → α := fun j => if j < b then f j else f (j + 1)
theorem xk_tie_ins {f f' : Nat → Int32} {g g' : Nat → Int64} {K : List xk_E} (h : xk_tie f g K) {k : Int32} {v : Int64} (hk : xk_has K k = false) (hf : ∀ j, j < K.length + 1 → f' j = xk_ins f (xk_lo K k) k j) (hg : ∀ j, j < K.length + 1 → g' j = xk_ins g (xk_lo K k) v j) : xk_tie f' g' (xk_set K k v) := by
  intro i hi
  rw [xk_set_len, hk] at hi
  have hi : i < K.length + 1 := hi
  rw [xk_set_at, hf i hi, hg i hi]
  have hl := xk_lo_le K k
  unfold xk_ins
  by_cases q : i < xk_lo K k
  · rw [if_pos q, if_pos q, if_pos q, h i (by omega)]
  · rw [if_neg q, if_neg q, if_neg q]
    by_cases r : i = xk_lo K k
    · rw [if_pos r, if_pos r, if_pos r]
    · rw [if_neg r, if_neg r, if_neg r, hk]
      exact h (i - 1) (by omega)
theorem xk_tie_del {f f' : Nat → Int32} {g g' : Nat → Int64} {K : List xk_E} (h : xk_tie f g K) {k : Int32} (hk : xk_has K k = true) (hf : ∀ j, j + 1 < K.length → f' j = xk_del f (xk_lo K k) j) (hg : ∀ j, j + 1 < K.length → g' j = xk_del g (xk_lo K k) j) : xk_tie f' g' (xk_rem K k) := by
  intro i hi
  rw [xk_rem_len, if_pos hk] at hi
  rw [xk_rem_at, hf i (by omega), hg i (by omega)]
  unfold xk_del
  by_cases q : i < xk_lo K k
  · rw [if_pos (Or.inl q), if_pos q, if_pos q]
    exact h i (by omega)
  · rw [if_neg, if_neg q, if_neg q]
    · exact h (i + 1) (by omega)
    · rintro (z | z)
      · exact q z
      · rw [hk] at z; cases z
theorem xk_tie_f {f : Nat → Int32} {g : Nat → Int64} {K : List xk_E} (h : xk_tie f g K) {i : Nat} {e : xk_E} (he : K[i]? = some e) : f i = e.1 ∧ g i = e.2 := by
  have hi := (List.getElem?_eq_some_iff.mp he).1
  have := h i hi
  rw [he] at this
  cases this
  exact ⟨rfl, rfl⟩
end
section
/-! Pure: classes of hashes, good ones, depths, places. -/
def xd_in (d p : Nat) (e : xk_E) : Bool := xk_h e.1 % 2 ^ d == p
def xd_cn (K : List xk_E) (d p : Nat) : Nat := K.countP (xd_in d p)
def xd_sm (K : List xk_E) (d p : Nat) : Bool := K.all fun a => K.all fun b => !(xd_in d p a && xd_in d p b) || xk_h a.1 == xk_h b.1
def xd_gd (K : List xk_E) (d p : Nat) : Bool := decide (xd_cn K d p ≤ 4) || xd_sm K d p
def xd_dR (K : List xk_E) (h : Nat) : Nat → Nat → Nat
  | d, 0 => d
  | d, n + 1 => if xd_gd K d (h % 2 ^ d) then d else xd_dR K h (d + 1) n
def xd_dp (K : List xk_E) (h : Nat) : Nat := xd_dR K h 0 6
def xd_pl (K : List xk_E) (p : Nat) : Bool := decide (p < 2 ^ xd_dp K p)
theorem xd_in_iff {d p : Nat} {e : xk_E} : xd_in d p e = true ↔ xk_h e.1 % 2 ^ d = p := by simp [xd_in]
theorem xd_mod {a b i j : Nat} (h : i ≤ j) (e : a % 2 ^ j = b % 2 ^ j) : a % 2 ^ i = b % 2 ^ i := by
  have hd : 2 ^ i ∣ 2 ^ j := Nat.pow_dvd_pow 2 h
  rw [← Nat.mod_mod_of_dvd a hd, ← Nat.mod_mod_of_dvd b hd, e]
theorem xd_in_up {d h : Nat} {e : xk_E} (i : xd_in (d + 1) (h % 2 ^ (d + 1)) e = true) : xd_in d (h % 2 ^ d) e = true := by
  rw [xd_in_iff] at *
  exact xd_mod (Nat.le_succ d) i
theorem xd_sm_iff {K : List xk_E} {d p : Nat} : xd_sm K d p = true ↔ ∀ a ∈ K, ∀ b ∈ K, xd_in d p a = true → xd_in d p b = true → xk_h a.1 = xk_h b.1 := by
  simp only [xd_sm, List.all_eq_true, Bool.or_eq_true, Bool.not_eq_true', beq_iff_eq]
  constructor
  · intro h a ha b hb i j
    rcases h a ha b hb with q | q
    · rw [i, j] at q; cases q
    · exact q
  · intro h a ha b hb
    cases i : xd_in d p a
    · exact Or.inl rfl
    · cases j : xd_in d p b
      · exact Or.inl rfl
      · exact Or.inr (h a ha b hb i j)
theorem xd_gd_mono {K : List xk_E} {d h : Nat} (g : xd_gd K d (h % 2 ^ d) = true) : xd_gd K (d + 1) (h % 2 ^ (d + 1)) = true := by
  simp only [xd_gd, Bool.or_eq_true, decide_eq_true_eq] at *
  rcases g with g | g
  · exact Or.inl (Nat.le_trans (List.countP_mono_left (fun e _ i => xd_in_up i)) g)
  · rw [xd_sm_iff] at *
    exact Or.inr fun a ha b hb i j => g a ha b hb (xd_in_up i) (xd_in_up j)
theorem xd_gd_6 (K : List xk_E) (p : Nat) : xd_gd K 6 p = true := by
  simp only [xd_gd, Bool.or_eq_true]
  refine Or.inr (xd_sm_iff.mpr fun a _ b _ i j => ?_)
  rw [xd_in_iff] at i j
  have h1 := xk_h_lt a.1
  have h2 := xk_h_lt b.1
  have e1 : (2 : Nat) ^ 6 = 64 := rfl
  rw [e1] at i j
  omega
theorem xd_dR_spec (K : List xk_E) (h : Nat) : ∀ n d : Nat, d ≤ xd_dR K h d n ∧ xd_dR K h d n ≤ d + n ∧ (∀ j, d ≤ j → j < xd_dR K h d n → xd_gd K j (h % 2 ^ j) = false) ∧ (xd_dR K h d n < d + n → xd_gd K (xd_dR K h d n) (h % 2 ^ xd_dR K h d n) = true) := by
  intro n
  induction n with
  | zero => intro d; simp only [xd_dR]; exact ⟨Nat.le_refl _, Nat.le_refl _, fun j a b => by omega, fun a => by omega⟩
  | succ n ih =>
    intro d
    simp only [xd_dR]
    by_cases g : xd_gd K d (h % 2 ^ d) = true
    · simp only [g, if_true]
      exact ⟨Nat.le_refl _, by omega, fun j a b => by omega, fun _ => trivial⟩
    · simp only [g]
      obtain ⟨a, b, c, e⟩ := ih (d + 1)
      refine ⟨by simp only [Bool.false_eq_true, if_false]; omega, by simp only [Bool.false_eq_true, if_false]; omega, ?_, ?_⟩
      · simp only [Bool.false_eq_true, if_false]
        intro j h1 h2
        by_cases z : j = d
        · subst z; simpa using g
        · exact c j (by omega) h2
      · simp only [Bool.false_eq_true, if_false]
        intro q
        exact e (by omega)
theorem xd_dp_le (K : List xk_E) (h : Nat) : xd_dp K h ≤ 6 := by
  have := (xd_dR_spec K h 6 0).2.1
  unfold xd_dp; omega
theorem xd_dp_min {K : List xk_E} {h j : Nat} (g : j < xd_dp K h) : xd_gd K j (h % 2 ^ j) = false := (xd_dR_spec K h 6 0).2.2.1 j (Nat.zero_le _) g
theorem xd_dp_gd (K : List xk_E) (h : Nat) : xd_gd K (xd_dp K h) (h % 2 ^ xd_dp K h) = true := by
  have a := (xd_dR_spec K h 6 0).2.2.2
  by_cases q : xd_dp K h < 6
  · exact a (by unfold xd_dp at q; omega)
  · have e : xd_dp K h = 6 := by have := xd_dp_le K h; omega
    rw [e]; exact xd_gd_6 K _
theorem xd_gd_up {K : List xk_E} {h d : Nat} (g : xd_gd K d (h % 2 ^ d) = true) : ∀ n, xd_gd K (d + n) (h % 2 ^ (d + n)) = true := by
  intro n
  induction n with
  | zero => exact g
  | succ n ih => exact xd_gd_mono ih
theorem xd_dp_up {K : List xk_E} {h j : Nat} (g : xd_dp K h ≤ j) : xd_gd K j (h % 2 ^ j) = true := by
  have := xd_gd_up (xd_dp_gd K h) (j - xd_dp K h)
  rwa [show xd_dp K h + (j - xd_dp K h) = j from by omega] at this
theorem xd_dp_uniq {K : List xk_E} {h d : Nat} (g : xd_gd K d (h % 2 ^ d) = true) (b : d = 0 ∨ xd_gd K (d - 1) (h % 2 ^ (d - 1)) = false) : d = xd_dp K h := by
  have n1 : ¬ d < xd_dp K h := fun q => by have := xd_dp_min q; rw [g] at this; cases this
  have n2 : ¬ xd_dp K h < d := fun q => by
    rcases b with b | b
    · omega
    · have := xd_dp_up (K := K) (h := h) (j := d - 1) (by omega)
      rw [b] at this; cases this
  omega
theorem xd_dp_cong {K : List xk_E} {a b : Nat} (e : b % 2 ^ xd_dp K a = a % 2 ^ xd_dp K a) : xd_dp K b = xd_dp K a := by
  refine (xd_dp_uniq (by rw [e]; exact xd_dp_gd K a) ?_).symm
  by_cases z : xd_dp K a = 0
  · exact Or.inl z
  · refine Or.inr ?_
    rw [xd_mod (Nat.sub_le _ 1) e]
    exact xd_dp_min (by omega)
theorem xd_dp_place (K : List xk_E) (h : Nat) : xd_dp K (h % 2 ^ xd_dp K h) = xd_dp K h := xd_dp_cong (Nat.mod_mod _ _)
theorem xd_pl_iff {K : List xk_E} {p : Nat} : xd_pl K p = true ↔ p % 2 ^ xd_dp K p = p := by
  simp only [xd_pl, decide_eq_true_eq]
  constructor
  · exact Nat.mod_eq_of_lt
  · intro h
    have := Nat.mod_lt p (Nat.two_pow_pos (xd_dp K p))
    omega
theorem xd_pl_place (K : List xk_E) (h : Nat) : xd_pl K (h % 2 ^ xd_dp K h) = true := by
  rw [xd_pl_iff, xd_dp_place, Nat.mod_mod]
/-- the depth that the reference's search finds at p -/
theorem xd_ref_iff {K : List xk_E} {p d : Nat} (hd : d ≤ 6) : (p < 2 ^ d ∧ xd_gd K d p = true ∧ (d = 0 ∨ xd_gd K (d - 1) (p % 2 ^ (d - 1)) = false)) ↔ (d = xd_dp K p ∧ xd_pl K p = true) := by
  constructor
  · rintro ⟨h1, h2, h3⟩
    have e : d = xd_dp K p := xd_dp_uniq (by rw [Nat.mod_eq_of_lt h1]; exact h2) h3
    exact ⟨e, by simp only [xd_pl, decide_eq_true_eq]; rw [← e]; exact h1⟩
  · rintro ⟨h1, h2⟩
    simp only [xd_pl, decide_eq_true_eq] at h2
    rw [← h1] at h2
    refine ⟨h2, ?_, ?_⟩
    · have := xd_dp_gd K p
      rw [← h1, Nat.mod_eq_of_lt h2] at this
      exact this
    · by_cases z : d = 0
      · exact Or.inl z
      · exact Or.inr (xd_dp_min (by omega))
/-- the deepest, the pages -/
def xd_gm (K : List xk_E) : Nat → Nat
  | 0 => 0
  | p + 1 => max (xd_gm K p) (xd_dp K p)
theorem xd_gm_ge {K : List xk_E} {p q : Nat} (h : q < p) : xd_dp K q ≤ xd_gm K p := by
  induction p with
  | zero => omega
  | succ p ih =>
    simp only [xd_gm]
    by_cases z : q = p
    · subst z; omega
    · have := ih (by omega); omega
theorem xd_gm_le (K : List xk_E) (p : Nat) : xd_gm K p ≤ 6 := by
  induction p with
  | zero => simp [xd_gm]
  | succ p ih =>
    have := xd_dp_le K p
    simp only [xd_gm]; omega
theorem xd_gm_no {K : List xk_E} {p : Nat} (h : xd_pl K p = false) : xd_gm K (p + 1) = xd_gm K p := by
  have n1 : ¬ p % 2 ^ xd_dp K p = p := fun q => by rw [xd_pl_iff.mpr q] at h; cases h
  have n2 : p % 2 ^ xd_dp K p < p := by have := Nat.mod_le p (2 ^ xd_dp K p); omega
  have := xd_gm_ge (K := K) n2
  rw [xd_dp_place] at this
  simp only [xd_gm]; omega
def xd_bp (n : Nat) : Nat := max 1 ((n + 3) / 4)
def xd_sp (K : List xk_E) : Nat → Nat
  | 0 => 0
  | p + 1 => if xd_pl K p then xd_sp K p + xd_bp (xd_cn K (xd_dp K p) p) else xd_sp K p
theorem xk_take {α : Type} {K : List α} {i : Nat} {e : α} (he : K[i]? = some e) : K.take (i + 1) = K.take i ++ [e] := by
  rw [List.take_add_one, he]; rfl
/-- counting along the list -/
theorem xd_cn_take {K : List xk_E} {d p i : Nat} {e : xk_E} (he : K[i]? = some e) : xd_cn (K.take (i + 1)) d p = if xk_h e.1 % 2 ^ d = p then xd_cn (K.take i) d p + 1 else xd_cn (K.take i) d p := by
  rw [xk_take he]
  simp only [xd_cn, List.countP_append, List.countP_cons, List.countP_nil, xd_in, beq_iff_eq]
  split <;> simp
theorem xd_cn_all (K : List xk_E) (d p : Nat) : xd_cn (K.take K.length) d p = xd_cn K d p := by rw [List.take_length]
theorem xd_cn_le (K : List xk_E) (d p : Nat) : xd_cn K d p ≤ K.length := List.countP_le_length
theorem xd_cn_set (K : List xk_E) (k : Int32) (v : Int64) (d p : Nat) : xd_cn (xk_set K k v) d p = if xk_has K k = false ∧ xk_h k % 2 ^ d = p then xd_cn K d p + 1 else xd_cn K d p := by
  induction K with
  | nil => simp [xk_set, xk_has, xd_cn, xd_in, List.countP_cons]
  | cons a t ih =>
    simp only [xd_cn] at ih
    simp only [xk_set, xk_has, xd_cn]
    by_cases q : a.1 < k
    · simp only [q, if_true, List.countP_cons, ih]
      split <;> omega
    · by_cases r : a.1 = k
      · subst r
        simp [q, List.countP_cons, xd_in]
      · simp only [q, r, if_false, List.countP_cons, xd_in, beq_iff_eq]
        have : (a.1 == k) = false := by simpa using r
        simp only [this, true_and]
        by_cases z1 : xk_h k % 2 ^ d = p <;> by_cases z2 : xk_h a.1 % 2 ^ d = p <;> simp [z1, z2]
theorem xd_cn_rem (K : List xk_E) (k : Int32) (d p : Nat) : xd_cn K d p = if xk_has K k = true ∧ xk_h k % 2 ^ d = p then xd_cn (xk_rem K k) d p + 1 else xd_cn (xk_rem K k) d p := by
  induction K with
  | nil => simp [xk_rem, xk_has, xd_cn]
  | cons a t ih =>
    simp only [xd_cn] at ih
    simp only [xk_rem, xk_has, xd_cn]
    by_cases q : a.1 < k
    · simp only [q, if_true, List.countP_cons, ih]
      split <;> omega
    · by_cases r : a.1 = k
      · subst r
        simp only [q, if_false, if_true, List.countP_cons, xd_in, beq_iff_eq, beq_self_eq_true, true_and]
        split <;> omega
      · have : (a.1 == k) = false := by simpa using r
        simp [q, r, this]
end
section
/-! Pure: how many different hashes a class has. -/
def xd_hc (K : List xk_E) (d p : Nat) : Nat := (List.range 64).countP (fun h => h % 2 ^ d == p && decide (0 < xd_cn K 6 h))
theorem xd_cn6 {K : List xk_E} {h : Nat} (hh : h < 64) : 0 < xd_cn K 6 h ↔ ∃ e ∈ K, xk_h e.1 = h := by
  rw [xd_cn, List.countP_pos_iff]
  have e1 : (2 : Nat) ^ 6 = 64 := rfl
  constructor
  · rintro ⟨e, he, i⟩
    rw [xd_in_iff, e1] at i
    have := xk_h_lt e.1
    exact ⟨e, he, by omega⟩
  · rintro ⟨e, he, i⟩
    refine ⟨e, he, ?_⟩
    rw [xd_in_iff, e1]
    omega
/-- a count over a range with one place changed -/
theorem xd_count1 {P Q : Nat → Bool} {h : Nat} (hd : ∀ j, j ≠ h → P j = Q j) (hP : P h = false) (hQ : Q h = true) : ∀ n, h < n → (List.range n).countP Q = (List.range n).countP P + 1 := by
  intro n hn
  induction n with
  | zero => omega
  | succ n ih =>
    rw [List.range_succ, List.countP_append, List.countP_append]
    simp only [List.countP_cons, List.countP_nil]
    by_cases z : h = n
    · subst z
      have : (List.range h).countP Q = (List.range h).countP P := by
        refine List.countP_congr (fun j hj => ?_)
        have := List.mem_range.mp hj
        rw [hd j (by omega)]
      simp [hP, hQ, this]
    · have := ih (by omega)
      rw [hd n (fun q => z q.symm)]
      omega
theorem xd_count0 {P Q : Nat → Bool} (n : Nat) (hd : ∀ j, j < n → P j = Q j) : (List.range n).countP Q = (List.range n).countP P := by
  refine List.countP_congr (fun j hj => ?_)
  rw [hd j (List.mem_range.mp hj)]
theorem xd_hc_set (K : List xk_E) (k : Int32) (v : Int64) (d p : Nat) (hk : xk_has K k = false) : xd_hc (xk_set K k v) d p = if xk_h k % 2 ^ d = p ∧ xd_cn K 6 (xk_h k) = 0 then xd_hc K d p + 1 else xd_hc K d p := by
  have hlt := xk_h_lt k
  have e1 : (2 : Nat) ^ 6 = 64 := rfl
  have hm : xk_h k % 2 ^ 6 = xk_h k := by rw [e1]; omega
  have hne : ∀ j, j ≠ xk_h k → xd_cn (xk_set K k v) 6 j = xd_cn K 6 j := fun j hj => by
    rw [xd_cn_set, if_neg]; rw [hm]; exact fun q => hj q.2.symm
  have heq : xd_cn (xk_set K k v) 6 (xk_h k) = xd_cn K 6 (xk_h k) + 1 := by
    rw [xd_cn_set, if_pos ⟨hk, hm⟩]
  unfold xd_hc
  by_cases z : xk_h k % 2 ^ d = p ∧ xd_cn K 6 (xk_h k) = 0
  · rw [if_pos z]
    refine xd_count1 (h := xk_h k) (fun j hj => by rw [hne j hj]) ?_ ?_ 64 hlt
    · simp [z.2]
    · simp [z.1, heq]
  · rw [if_neg z]
    refine xd_count0 64 (fun j _ => ?_)
    by_cases q : j = xk_h k
    · subst q
      by_cases w : xk_h k % 2 ^ d = p
      · have : 0 < xd_cn K 6 (xk_h k) := by
          rcases Nat.eq_zero_or_pos (xd_cn K 6 (xk_h k)) with y | y
          · exact absurd ⟨w, y⟩ z
          · exact y
        simp [w, heq, this]
      · have w2 : (xk_h k % 2 ^ d == p) = false := by simpa using w
        simp only [w2, Bool.false_and]
    · rw [hne j q]
theorem xd_hc_rem (K : List xk_E) (k : Int32) (d p : Nat) (hk : xk_has K k = true) : xd_hc K d p = if xk_h k % 2 ^ d = p ∧ xd_cn K 6 (xk_h k) = 1 then xd_hc (xk_rem K k) d p + 1 else xd_hc (xk_rem K k) d p := by
  have hlt := xk_h_lt k
  have e1 : (2 : Nat) ^ 6 = 64 := rfl
  have hm : xk_h k % 2 ^ 6 = xk_h k := by rw [e1]; omega
  have hne : ∀ j, j ≠ xk_h k → xd_cn K 6 j = xd_cn (xk_rem K k) 6 j := fun j hj => by
    rw [xd_cn_rem K k, if_neg]; rw [hm]; exact fun q => hj q.2.symm
  have heq : xd_cn K 6 (xk_h k) = xd_cn (xk_rem K k) 6 (xk_h k) + 1 := by
    rw [xd_cn_rem K k, if_pos ⟨hk, hm⟩]
  unfold xd_hc
  by_cases z : xk_h k % 2 ^ d = p ∧ xd_cn K 6 (xk_h k) = 1
  · rw [if_pos z]
    refine xd_count1 (h := xk_h k) (fun j hj => by rw [hne j hj]) ?_ ?_ 64 hlt
    · have : xd_cn (xk_rem K k) 6 (xk_h k) = 0 := by omega
      simp [this]
    · simp [z.1, z.2]
  · rw [if_neg z]
    refine xd_count0 64 (fun j _ => ?_)
    by_cases q : j = xk_h k
    · subst q
      by_cases w : xk_h k % 2 ^ d = p
      · have h1 : ¬ xd_cn K 6 (xk_h k) = 1 := fun y => z ⟨w, y⟩
        have h2 : 0 < xd_cn (xk_rem K k) 6 (xk_h k) := by omega
        have h3 : 0 < xd_cn K 6 (xk_h k) := by omega
        simp [w, h2, h3]
      · have w2 : (xk_h k % 2 ^ d == p) = false := by simpa using w
        simp only [w2, Bool.false_and]
    · rw [hne j q]
/-- one hash or no more than four keys: good -/
theorem xd_good (K : List xk_E) (d p : Nat) : xd_gd K d p = true ↔ xd_cn K d p ≤ 4 ∨ xd_hc K d p = 1 := by
  simp only [xd_gd, Bool.or_eq_true, decide_eq_true_eq]
  by_cases hc : xd_cn K d p ≤ 4
  · simp [hc]
  · simp only [hc, false_or]
    have hpos : 0 < K.countP (xd_in d p) := by unfold xd_cn at hc; omega
    obtain ⟨e, he, ie⟩ := List.countP_pos_iff.mp hpos
    have hie := xd_in_iff.mp ie
    constructor
    · intro hs
      rw [xd_sm_iff] at hs
      unfold xd_hc
      have : (List.range 64).countP (fun h => h % 2 ^ d == p && decide (0 < xd_cn K 6 h)) = (List.range 64).countP (fun h => h == xk_h e.1) := by
        refine xd_count0 64 (fun j hj => ?_)
        rw [Bool.eq_iff_iff]
        simp only [Bool.and_eq_true, beq_iff_eq, decide_eq_true_eq, xd_cn6 hj]
        constructor
        · intro q
          rw [q]
          exact ⟨hie, e, he, rfl⟩
        · rintro ⟨h1, a, ha, h2⟩
          rw [← h2]
          exact hs a ha e he (xd_in_iff.mpr (by rw [h2]; exact h1)) ie
      rw [this]
      have := xd_count1 (P := fun _ => false) (Q := fun h => h == xk_h e.1) (h := xk_h e.1) (fun j hj => by simp [hj]) rfl (by simp) 64 (xk_h_lt _)
      rw [this]
      simp
    · intro h1
      rw [xd_sm_iff]
      intro a ha b hb ia ib
      refine Classical.byContradiction fun hne => ?_
      have q1 : (fun h => h % 2 ^ d == p && decide (0 < xd_cn K 6 h)) (xk_h a.1) = true := by
        simp only [Bool.and_eq_true, beq_iff_eq, decide_eq_true_eq, xd_cn6 (xk_h_lt a.1)]
        exact ⟨xd_in_iff.mp ia, a, ha, rfl⟩
      have q2 : (fun h => h % 2 ^ d == p && decide (0 < xd_cn K 6 h)) (xk_h b.1) = true := by
        simp only [Bool.and_eq_true, beq_iff_eq, decide_eq_true_eq, xd_cn6 (xk_h_lt b.1)]
        exact ⟨xd_in_iff.mp ib, b, hb, rfl⟩
      unfold xd_hc at h1
      have s1 := xd_count1 (P := fun h => (h % 2 ^ d == p && decide (0 < xd_cn K 6 h)) && !(h == xk_h a.1)) (Q := fun h => h % 2 ^ d == p && decide (0 < xd_cn K 6 h)) (h := xk_h a.1) (fun j hj => by simp [hj]) (by simp) q1 64 (xk_h_lt _)
      rw [h1] at s1
      have s2 : 0 < (List.range 64).countP (fun h => (h % 2 ^ d == p && decide (0 < xd_cn K 6 h)) && !(h == xk_h a.1)) := by
        rw [List.countP_pos_iff]
        refine ⟨xk_h b.1, List.mem_range.mpr (xk_h_lt _), ?_⟩
        have q3 : (xk_h b.1 % 2 ^ d == p && decide (0 < xd_cn K 6 (xk_h b.1))) = true := q2
        rw [q3]
        simp
        exact fun z => hne z.symm
      omega
end
section
/-! Pure: how many bytes a value has: the class's way and the reference's. -/
def xk_lu (v : Int64) (y : Int32) : Int64 := (v.toUInt64 >>> (y.toInt64.toUInt64 &&& Int64.toUInt64 63)).toInt64
def xv_R (v : Int64) : Nat → Nat → Nat
  | b, 0 => b
  | b, n + 1 => if xk_lu v (nI (8 * b)) = 0 then b else xv_R v (b + 1) n
def xv_by (v : Int64) : Nat := xv_R v 1 7
def xv_vp (v : Int64) : Nat := if 2 < xv_by v then (xv_by v + 1) / 2 else 0
def xv_r (v : Int64) : Nat → Int64
  | 0 => v >>> ((nI 8).toInt64 &&& 63)
  | k + 1 => xv_r v k >>> ((nI 8).toInt64 &&& 63)
def xv_n (v : Int64) : Nat → Nat
  | 0 => 1
  | k + 1 => if 0 < xv_r v k then xv_n v k + 1 else xv_n v k
theorem xv_lu (v : Int64) (y : Int32) (k : Nat) (hs : ((y.toInt64.toUInt64 &&& Int64.toUInt64 63).toBitVec % 64).toNat = k) : (xk_lu v y).toBitVec.toNat = v.toBitVec.toNat / 2 ^ k := by
  have e : (xk_lu v y).toBitVec = v.toBitVec >>> k := by
    rw [← hs]
    exact UInt64.toBitVec_shiftRight _ _
  rw [e, BitVec.toNat_ushiftRight, Nat.shiftRight_eq_div_pow]
theorem xv_lu0 (v : Int64) (y : Int32) (k : Nat) (hs : ((y.toInt64.toUInt64 &&& Int64.toUInt64 63).toBitVec % 64).toNat = k) : xk_lu v y = 0 ↔ v.toBitVec.toNat < 2 ^ k := by
  have h := xv_lu v y k hs
  constructor
  · intro z
    rw [z] at h
    have h0 : (0 : Int64).toBitVec.toNat = 0 := by decide
    rw [h0] at h
    exact (Nat.div_eq_zero_iff_lt (Nat.two_pow_pos k)).mp h.symm
  · intro z
    apply Int64.toBitVec_inj.mp
    apply BitVec.eq_of_toNat_eq
    rw [h, Nat.div_eq_of_lt z]
    decide
theorem xv_shr {n : Nat} (h : n < 2 ^ 63) : lN n >>> ((nI 8).toInt64 &&& 63) = lN (n / 256) := by
  apply Int64.toInt_inj.mp
  have h2 : n / 256 ≤ n := Nat.div_le_self _ _
  rw [pk_lT (by omega)]
  show ((lN n).toBitVec.sshiftRight (((nI 8).toInt64 &&& 63).toBitVec.smod 64).toNat).toInt = _
  have e : (((nI 8).toInt64 &&& 63).toBitVec.smod 64).toNat = 8 := by decide
  rw [e, BitVec.toInt_sshiftRight]
  show (lN n).toInt >>> 8 = _
  rw [pk_lT h, Int.shiftRight_eq_div_pow]
  rfl
theorem xv_tn {n : Nat} (h : n < 2 ^ 63) : (lN n).toBitVec.toNat = n := by
  show (BitVec.ofNat 64 n).toNat = n
  rw [BitVec.toNat_ofNat]
  omega
theorem xv_r_eq {n : Nat} (h : n < 2 ^ 63) (k : Nat) : xv_r (lN n) k = lN (n / 256 ^ (k + 1)) := by
  induction k with
  | zero => exact xv_shr h
  | succ k ih =>
    have h2 : n / 256 ^ (k + 1) ≤ n := Nat.div_le_self _ _
    rw [xv_r, ih, xv_shr (by omega), Nat.div_div_eq_div_mul, ← Nat.pow_succ]
theorem xv_r_pos {n : Nat} (h : n < 2 ^ 63) (k : Nat) : 0 < xv_r (lN n) k ↔ ¬ n < 256 ^ (k + 1) := by
  have h2 : n / 256 ^ (k + 1) ≤ n := Nat.div_le_self _ _
  rw [xv_r_eq h, show (0 : Int64) = lN 0 from by decide, pk_lLT (by decide) (by omega)]
  have h3 : 0 < 256 ^ (k + 1) := Nat.pow_pos (by decide)
  rw [← Nat.div_eq_zero_iff_lt h3]
  generalize n / 256 ^ (k + 1) = m
  omega
theorem xv_same {v : Int64} (hv : ¬ v < 0) : xv_n v 7 = xv_by v := by
  obtain ⟨n, hn, rfl⟩ := pk_lOf hv
  have t := xv_tn hn
  have a1 := xv_lu0 (lN n) (nI (8 * 1)) 8 (by decide)
  have a2 := xv_lu0 (lN n) (nI (8 * 2)) 16 (by decide)
  have a3 := xv_lu0 (lN n) (nI (8 * 3)) 24 (by decide)
  have a4 := xv_lu0 (lN n) (nI (8 * 4)) 32 (by decide)
  have a5 := xv_lu0 (lN n) (nI (8 * 5)) 40 (by decide)
  have a6 := xv_lu0 (lN n) (nI (8 * 6)) 48 (by decide)
  have a7 := xv_lu0 (lN n) (nI (8 * 7)) 56 (by decide)
  rw [t] at a1 a2 a3 a4 a5 a6 a7
  simp only [xv_by, xv_R, xv_n, a1, a2, a3, a4, a5, a6, a7, xv_r_pos hn]
  simp only [Nat.reducePow, Nat.reduceAdd]
  by_cases c1 : n < 256
  · simp only [c1, if_true, show n < 65536 from by omega, show n < 16777216 from by omega, show n < 4294967296 from by omega, show n < 1099511627776 from by omega, show n < 281474976710656 from by omega, show n < 72057594037927936 from by omega, not_true, if_false]
  by_cases c2 : n < 65536
  · simp only [c1, c2, if_true, show n < 16777216 from by omega, show n < 4294967296 from by omega, show n < 1099511627776 from by omega, show n < 281474976710656 from by omega, show n < 72057594037927936 from by omega, not_true, not_false_iff, if_false]
  by_cases c3 : n < 16777216
  · simp only [c1, c2, c3, if_true, show n < 4294967296 from by omega, show n < 1099511627776 from by omega, show n < 281474976710656 from by omega, show n < 72057594037927936 from by omega, not_true, not_false_iff, if_false]
  by_cases c4 : n < 4294967296
  · simp only [c1, c2, c3, c4, if_true, show n < 1099511627776 from by omega, show n < 281474976710656 from by omega, show n < 72057594037927936 from by omega, not_true, not_false_iff, if_false]
  by_cases c5 : n < 1099511627776
  · simp only [c1, c2, c3, c4, c5, if_true, show n < 281474976710656 from by omega, show n < 72057594037927936 from by omega, not_true, not_false_iff, if_false]
  by_cases c6 : n < 281474976710656
  · simp only [c1, c2, c3, c4, c5, c6, if_true, show n < 72057594037927936 from by omega, not_true, not_false_iff, if_false]
  by_cases c7 : n < 72057594037927936
  · simp only [c1, c2, c3, c4, c5, c6, c7, if_true, not_true, not_false_iff, if_false]
  · simp only [c1, c2, c3, c4, c5, c6, c7, if_true, not_false_iff, if_false]
theorem xv_neg {v : Int64} (hv : v < 0) : xv_by v = 8 := by
  have t : ¬ v.toBitVec.toNat < 2 ^ 63 := by
    intro z
    rw [Int64.lt_iff_toInt_lt] at hv
    have h0 : (0 : Int64).toInt = 0 := by decide
    have e : v.toInt = v.toBitVec.toNat := by
      show v.toBitVec.toInt = _
      rw [BitVec.toInt_eq_toNat_of_lt (by omega)]
    omega
  have a1 := xv_lu0 v (nI (8 * 1)) 8 (by decide)
  have a2 := xv_lu0 v (nI (8 * 2)) 16 (by decide)
  have a3 := xv_lu0 v (nI (8 * 3)) 24 (by decide)
  have a4 := xv_lu0 v (nI (8 * 4)) 32 (by decide)
  have a5 := xv_lu0 v (nI (8 * 5)) 40 (by decide)
  have a6 := xv_lu0 v (nI (8 * 6)) 48 (by decide)
  have a7 := xv_lu0 v (nI (8 * 7)) 56 (by decide)
  simp only [Nat.reducePow] at *
  simp only [xv_by, xv_R]
  rw [if_neg (by rw [a1]; omega), if_neg (by rw [a2]; omega), if_neg (by rw [a3]; omega), if_neg (by rw [a4]; omega), if_neg (by rw [a5]; omega), if_neg (by rw [a6]; omega), if_neg (by rw [a7]; omega)]
theorem xv_R_le (v : Int64) : ∀ n b, b ≤ xv_R v b n ∧ xv_R v b n ≤ b + n := by
  intro n
  induction n with
  | zero => intro b; simp [xv_R]
  | succ n ih =>
    intro b
    simp only [xv_R]
    split
    · omega
    · have := ih (b + 1); omega
theorem xv_by_le (v : Int64) : 1 ≤ xv_by v ∧ xv_by v ≤ 8 := by
  have := xv_R_le v 7 1
  unfold xv_by; omega
theorem xv_vp_le (v : Int64) : xv_vp v ≤ 4 := by
  have := xv_by_le v
  unfold xv_vp
  split <;> omega
end
section
/-! Pure: the pages in use; taking a key away never needs more of them. -/
def xd_vs (K : List xk_E) : Nat := (K.map (fun e => xv_vp e.2)).sum
def xd_pg (K : List xk_E) : Nat := 1 + (2 ^ xd_gm K 64 + 15) / 16 + xd_sp K 64 + xd_vs K
theorem xd_vs_take {K : List xk_E} {i : Nat} {e : xk_E} (he : K[i]? = some e) : xd_vs (K.take (i + 1)) = xd_vs (K.take i) + xv_vp e.2 := by
  rw [xk_take he]
  simp [xd_vs]
def xt_S (f : Nat → Nat) : Nat → Nat
  | 0 => 0
  | n + 1 => xt_S f n + f n
theorem xt_S_congr {f g : Nat → Nat} : ∀ n, (∀ j, j < n → f j = g j) → xt_S f n = xt_S g n := by
  intro n
  induction n with
  | zero => intro _; rfl
  | succ n ih =>
    intro h
    simp only [xt_S]
    rw [ih (fun j hj => h j (by omega)), h n (by omega)]
theorem xt_S_add (f g : Nat → Nat) : ∀ n, xt_S (fun j => f j + g j) n = xt_S f n + xt_S g n := by
  intro n
  induction n with
  | zero => rfl
  | succ n ih => simp only [xt_S, ih]; omega
theorem xt_S_zero {f : Nat → Nat} : ∀ n, (∀ j, j < n → f j = 0) → xt_S f n = 0 := by
  intro n
  induction n with
  | zero => intro _; rfl
  | succ n ih =>
    intro h
    simp only [xt_S]
    rw [ih (fun j hj => h j (by omega)), h n (by omega)]
theorem xt_S_one {f : Nat → Nat} {p : Nat} : ∀ n, p < n → (∀ j, j < n → j ≠ p → f j = 0) → xt_S f n = f p := by
  intro n
  induction n with
  | zero => intro h; omega
  | succ n ih =>
    intro hp h
    simp only [xt_S]
    by_cases z : p = n
    · subst z
      rw [xt_S_zero p (fun j hj => h j (by omega) (by omega))]
      omega
    · rw [ih (by omega) (fun j hj hne => h j (by omega) hne), h n (by omega) (fun q => z q.symm)]
      rfl
/-- the pages of the buckets below a class -/
def xt_F (K : List xk_E) : Nat → Nat → Nat → Nat
  | 0, d, p => xd_bp (xd_cn K d p)
  | n + 1, d, p => if xd_gd K d p then xd_bp (xd_cn K d p) else xt_F K n (d + 1) p + xt_F K n (d + 1) (p + 2 ^ d)
def xt_g (K : List xk_E) (h : Nat) : Nat := if xd_pl K h then xd_bp (xd_cn K (xd_dp K h) h) else 0
theorem xt_sp (K : List xk_E) : ∀ n, xd_sp K n = xt_S (xt_g K) n := by
  intro n
  induction n with
  | zero => rfl
  | succ n ih =>
    simp only [xd_sp, xt_S, xt_g, ih]
    split <;> rfl
theorem xt_half (x d p : Nat) (hp : p < 2 ^ d) : x % 2 ^ d = p ↔ (x % 2 ^ (d + 1) = p ∨ x % 2 ^ (d + 1) = p + 2 ^ d) := by
  have h1 : x % 2 ^ (d + 1) = x % 2 ^ d + 2 ^ d * (x / 2 ^ d % 2) := by rw [Nat.pow_succ, Nat.mod_mul]
  have h2 : x % 2 ^ d < 2 ^ d := Nat.mod_lt _ (Nat.two_pow_pos d)
  rcases Nat.mod_two_eq_zero_or_one (x / 2 ^ d) with h3 | h3
  · rw [h3] at h1; omega
  · rw [h3] at h1; omega
/-- a class with no good one above it: its buckets' pages -/
theorem xt_tree (K : List xk_E) : ∀ n d p, d + n = 6 → p < 2 ^ d → (∀ j, j < d → xd_gd K j (p % 2 ^ j) = false) → xt_S (fun h => if h % 2 ^ d = p then xt_g K h else 0) 64 = xt_F K n d p := by
  intro n
  induction n with
  | zero =>
    intro d p hd hp hb
    have e : d = 6 := by omega
    subst e
    have e1 : (2 : Nat) ^ 6 = 64 := rfl
    rw [e1] at hp
    have hdp : xd_dp K p = 6 := by
      refine (xd_dp_uniq (xd_gd_6 K _) (Or.inr (hb 5 (by omega)))).symm
    rw [xt_S_one (p := p) 64 hp]
    · have e2 : p % 2 ^ 6 = p := by rw [e1]; omega
      simp only [e2, if_true, xt_g, xd_pl, hdp, xt_F]
      rw [if_pos (by simpa using hp)]
    · intro j hj hne
      have e2 : j % 2 ^ 6 = j := by rw [e1]; omega
      simp only [e2, hne, if_false]
  | succ n ih =>
    intro d p hd hp hb
    simp only [xt_F]
    by_cases g : xd_gd K d p = true
    · rw [if_pos g]
      have key : ∀ h, h % 2 ^ d = p → xd_dp K h = d := by
        intro h hh
        refine (xd_dp_uniq (by rw [hh]; exact g) ?_).symm
        by_cases z : d = 0
        · exact Or.inl z
        · refine Or.inr ?_
          have := hb (d - 1) (by omega)
          rw [← hh, Nat.mod_mod_of_dvd _ (Nat.pow_dvd_pow 2 (Nat.sub_le d 1))] at this
          exact this
      have h64 : p < 64 := Nat.lt_of_lt_of_le hp (by have : (2 : Nat) ^ d ≤ 2 ^ 6 := Nat.pow_le_pow_right (by decide) (by omega); exact this)
      rw [xt_S_one (p := p) 64 h64]
      · have hm := Nat.mod_eq_of_lt hp
        have hk := key p hm
        simp only [hm, if_true, xt_g, xd_pl, hk]
        rw [if_pos (by simpa using hp)]
      · intro j hj hne
        by_cases z : j % 2 ^ d = p
        · have hk := key j z
          simp only [z, if_true, xt_g, xd_pl, hk]
          rw [if_neg]
          simp only [decide_eq_true_eq]
          intro w
          rw [Nat.mod_eq_of_lt w] at z
          exact hne z
        · simp only [z, if_false]
    · rw [if_neg g]
      have gf : xd_gd K d p = false := by simpa using g
      have hm := Nat.mod_eq_of_lt hp
      have hpow : (2 : Nat) ^ (d + 1) = 2 ^ d + 2 ^ d := by rw [Nat.pow_succ]; omega
      have b1 : ∀ j, j < d + 1 → xd_gd K j (p % 2 ^ j) = false := by
        intro j hj
        by_cases z : j = d
        · subst z; rw [hm]; exact gf
        · exact hb j (by omega)
      have b2 : ∀ j, j < d + 1 → xd_gd K j ((p + 2 ^ d) % 2 ^ j) = false := by
        intro j hj
        have hd2 : 2 ^ j ∣ 2 ^ d := Nat.pow_dvd_pow 2 (by omega)
        have : (p + 2 ^ d) % 2 ^ j = p % 2 ^ j := by
          rw [Nat.add_mod, Nat.mod_eq_zero_of_dvd hd2, Nat.add_zero, Nat.mod_mod]
        rw [this]
        exact b1 j hj
      rw [← ih (d + 1) p (by omega) (by omega) b1, ← ih (d + 1) (p + 2 ^ d) (by omega) (by omega) b2, ← xt_S_add]
      refine xt_S_congr 64 (fun h _ => ?_)
      have hh := xt_half h d p hp
      have hpos := Nat.two_pow_pos d
      by_cases z1 : h % 2 ^ (d + 1) = p
      · have z2 : ¬ h % 2 ^ (d + 1) = p + 2 ^ d := by omega
        have z3 : h % 2 ^ d = p := hh.mpr (Or.inl z1)
        simp only [z1, z3, if_true]
        rw [if_neg (by omega)]
        omega
      · by_cases z2 : h % 2 ^ (d + 1) = p + 2 ^ d
        · have z3 : h % 2 ^ d = p := hh.mpr (Or.inr z2)
          simp only [z2, z3, if_true]
          rw [if_neg (by omega)]
          omega
        · have z3 : ¬ h % 2 ^ d = p := fun q => by rcases hh.mp q with q | q; exact z1 q; exact z2 q
          simp only [z1, z2, z3, if_false]
theorem xt_sp_F (K : List xk_E) : xd_sp K 64 = xt_F K 6 0 0 := by
  rw [xt_sp, ← xt_tree K 6 0 0 rfl (by decide) (fun j hj => by omega)]
  refine xt_S_congr 64 (fun h _ => ?_)
  have : h % 2 ^ 0 = 0 := by rw [Nat.pow_zero]; omega
  simp only [this, if_true]
theorem xt_cn_half (K : List xk_E) (d p : Nat) (hp : p < 2 ^ d) : xd_cn K d p = xd_cn K (d + 1) p + xd_cn K (d + 1) (p + 2 ^ d) := by
  have hpos := Nat.two_pow_pos d
  induction K with
  | nil => rfl
  | cons a t ih =>
    simp only [xd_cn] at ih
    simp only [xd_cn, List.countP_cons, ih, xd_in, beq_iff_eq]
    have hh := xt_half (xk_h a.1) d p hp
    by_cases z1 : xk_h a.1 % 2 ^ (d + 1) = p
    · have z3 : xk_h a.1 % 2 ^ d = p := hh.mpr (Or.inl z1)
      simp only [z1, z3, if_true]
      rw [if_neg (by omega)]
      omega
    · by_cases z2 : xk_h a.1 % 2 ^ (d + 1) = p + 2 ^ d
      · have z3 : xk_h a.1 % 2 ^ d = p := hh.mpr (Or.inr z2)
        simp only [z2, z3, if_true]
        rw [if_neg (by omega)]
        omega
      · have z3 : ¬ xk_h a.1 % 2 ^ d = p := fun q => by rcases hh.mp q with q | q; exact z1 q; exact z2 q
        simp only [z1, z2, z3, if_false]
        omega
theorem xt_F_ge (K : List xk_E) : ∀ n d p, p < 2 ^ d → xd_bp (xd_cn K d p) ≤ xt_F K n d p := by
  intro n
  induction n with
  | zero => intro d p _; exact Nat.le_refl _
  | succ n ih =>
    intro d p hp
    simp only [xt_F]
    split
    · exact Nat.le_refl _
    · have hpow : (2 : Nat) ^ (d + 1) = 2 ^ d + 2 ^ d := by rw [Nat.pow_succ]; omega
      have h1 := ih (d + 1) p (by omega)
      have h2 := ih (d + 1) (p + 2 ^ d) (by omega)
      rw [xt_cn_half K d p hp]
      refine Nat.le_trans ?_ (Nat.add_le_add h1 h2)
      unfold xd_bp
      omega
theorem xt_cn_rem (K : List xk_E) (k : Int32) (d p : Nat) : xd_cn (xk_rem K k) d p ≤ xd_cn K d p := by
  rw [xd_cn_rem K k d p]
  split <;> omega
theorem xt_gd_rem {K : List xk_E} (k : Int32) {d p : Nat} (g : xd_gd K d p = true) : xd_gd (xk_rem K k) d p = true := by
  simp only [xd_gd, Bool.or_eq_true, decide_eq_true_eq] at *
  rcases g with g | g
  · exact Or.inl (Nat.le_trans (xt_cn_rem K k d p) g)
  · rw [xd_sm_iff] at *
    exact Or.inr fun a ha b hb => g a (xk_rem_mem ha) b (xk_rem_mem hb)
theorem xt_bp_mono {a b : Nat} (h : a ≤ b) : xd_bp a ≤ xd_bp b := by unfold xd_bp; omega
theorem xt_F_rem (K : List xk_E) (k : Int32) : ∀ n d p, p < 2 ^ d → xt_F (xk_rem K k) n d p ≤ xt_F K n d p := by
  intro n
  induction n with
  | zero => intro d p _; exact xt_bp_mono (xt_cn_rem K k d p)
  | succ n ih =>
    intro d p hp
    have hpow : (2 : Nat) ^ (d + 1) = 2 ^ d + 2 ^ d := by rw [Nat.pow_succ]; omega
    by_cases g : xd_gd K d p = true
    · simp only [xt_F, g, xt_gd_rem k g, if_true]
      exact xt_bp_mono (xt_cn_rem K k d p)
    · by_cases g2 : xd_gd (xk_rem K k) d p = true
      · have h0 : xt_F (xk_rem K k) (n + 1) d p = xd_bp (xd_cn (xk_rem K k) d p) := by simp only [xt_F, g2, if_true]
        rw [h0]
        exact Nat.le_trans (xt_bp_mono (xt_cn_rem K k d p)) (xt_F_ge K (n + 1) d p hp)
      · simp only [xt_F]
        rw [if_neg g, if_neg g2]
        exact Nat.add_le_add (ih (d + 1) p (by omega)) (ih (d + 1) (p + 2 ^ d) (by omega))
theorem xt_dp_rem (K : List xk_E) (k : Int32) (h : Nat) : xd_dp (xk_rem K k) h ≤ xd_dp K h := by
  refine Classical.byContradiction fun q => ?_
  have h1 := xd_dp_min (K := xk_rem K k) (h := h) (j := xd_dp K h) (by omega)
  rw [xt_gd_rem k (xd_dp_gd K h)] at h1
  cases h1
theorem xt_gm_rem (K : List xk_E) (k : Int32) : ∀ n, xd_gm (xk_rem K k) n ≤ xd_gm K n := by
  intro n
  induction n with
  | zero => exact Nat.le_refl _
  | succ n ih =>
    have := xt_dp_rem K k n
    simp only [xd_gm]; omega
theorem xt_vs_rem (K : List xk_E) (k : Int32) : xd_vs (xk_rem K k) ≤ xd_vs K := by
  induction K with
  | nil => simp [xk_rem]
  | cons a t ih =>
    simp only [xd_vs] at ih
    simp only [xk_rem, xd_vs]
    split
    · simp only [List.map_cons, List.sum_cons]; omega
    · split
      · simp only [List.map_cons, List.sum_cons]; omega
      · exact Nat.le_refl _
theorem xd_pg_rem (K : List xk_E) (k : Int32) : xd_pg (xk_rem K k) ≤ xd_pg K := by
  have h1 : 2 ^ xd_gm (xk_rem K k) 64 ≤ 2 ^ xd_gm K 64 := Nat.pow_le_pow_right (by decide) (xt_gm_rem K k 64)
  have h2 := xt_F_rem K k 6 0 0 (by decide)
  have h3 := xt_vs_rem K k
  have h4 : (2 ^ xd_gm (xk_rem K k) 64 + 15) / 16 ≤ (2 ^ xd_gm K 64 + 15) / 16 := Nat.div_le_div_right (by omega)
  unfold xd_pg
  rw [xt_sp_F, xt_sp_F]
  omega
theorem xd_sp_le {K : List xk_E} (hK : K.length ≤ 65) : ∀ n, xd_sp K n ≤ n * 17 := by
  intro n
  induction n with
  | zero => exact Nat.le_refl _
  | succ n ih =>
    have := xd_cn_le K (xd_dp K n) n
    simp only [xd_sp]
    split
    · have : xd_bp (xd_cn K (xd_dp K n) n) ≤ 17 := by unfold xd_bp; omega
      omega
    · omega
theorem xd_vs_le (K : List xk_E) : xd_vs K ≤ K.length * 4 := by
  induction K with
  | nil => simp [xd_vs]
  | cons a t ih =>
    have := xv_vp_le a.2
    simp only [xd_vs] at ih
    simp only [xd_vs, List.map_cons, List.sum_cons, List.length_cons]
    omega
theorem xd_pg_le {K : List xk_E} (hK : K.length ≤ 65) : xd_pg K ≤ 2000 := by
  have h1 := xd_sp_le hK 64
  have h2 := xd_vs_le K
  have h3 : 2 ^ xd_gm K 64 ≤ 2 ^ 6 := Nat.pow_le_pow_right (by decide) (xd_gm_le K 64)
  have e1 : (2 : Nat) ^ 6 = 64 := rfl
  unfold xd_pg
  omega
end
section
/-! Pure: places in order, keys in the order of places, how many pages a look reads. -/
def xo_pls (K : List xk_E) : Nat → List Nat
  | 0 => []
  | p + 1 => if xd_pl K p then xo_pls K p ++ [p] else xo_pls K p
def xo_at (K : List xk_E) (i : Int32) : Int32 := if i < 0 then -1 else match (xo_pls K 64)[i.toNatClampNeg]? with
  | some p => nI p
  | none => -1
theorem xo_pls_more {K : List xk_E} {p j x : Nat} (h : (xo_pls K p)[j]? = some x) : ∀ n, (xo_pls K (p + n))[j]? = some x := by
  intro n
  induction n with
  | zero => exact h
  | succ n ih =>
    have hj := (List.getElem?_eq_some_iff.mp ih).1
    rw [show p + (n + 1) = (p + n) + 1 from rfl]
    simp only [xo_pls]
    split
    · rw [List.getElem?_append_left hj]; exact ih
    · exact ih
theorem xo_pls_last {K : List xk_E} {p : Nat} (h : xd_pl K p = true) : (xo_pls K (p + 1))[(xo_pls K p).length]? = some p := by
  simp [xo_pls, h]
theorem xo_pls_le (K : List xk_E) (p : Nat) : (xo_pls K p).length ≤ p := by
  induction p with
  | zero => simp [xo_pls]
  | succ p ih =>
    simp only [xo_pls]
    split
    · simp only [List.length_append, List.length_cons, List.length_nil]; omega
    · omega
theorem xo_pls_len (K : List xk_E) (p : Nat) : (xo_pls K (p + 1)).length = if xd_pl K p then (xo_pls K p).length + 1 else (xo_pls K p).length := by
  simp only [xo_pls]
  split <;> simp
theorem xo_at_hit {K : List xk_E} {p : Nat} (hp : p < 64) (h : xd_pl K p = true) : xo_at K (nI (xo_pls K p).length) = nI p := by
  have hl := xo_pls_le K p
  have h1 := xo_pls_more (xo_pls_last h) (63 - p)
  rw [show p + 1 + (63 - p) = 64 from by omega] at h1
  unfold xo_at
  rw [if_neg (nI_pos (by omega)), nI_clamp (by omega), h1]
theorem xo_at_miss {K : List xk_E} {i : Int32} (h : ∀ j, j < (xo_pls K 64).length → ¬ i = nI j) : xo_at K i = -1 := by
  unfold xo_at
  split
  · rfl
  · rename_i q
    obtain ⟨j, hj, rfl⟩ := nI_of q
    rw [nI_clamp hj]
    have : (xo_pls K 64)[j]? = none := by
      rw [List.getElem?_eq_none_iff]
      refine Classical.byContradiction fun z => ?_
      exact h j (by omega) rfl
    rw [this]
theorem xo_at_neg {K : List xk_E} {i : Int32} (h : i < 0) : xo_at K i = -1 := by unfold xo_at; rw [if_pos h]
def xo_ko (K : List xk_E) : Nat → List xk_E
  | 0 => []
  | p + 1 => if xd_pl K p then xo_ko K p ++ K.filter (xd_in (xd_dp K p) p) else xo_ko K p
def xo_ka (K : List xk_E) (i : Int32) : Int32 := if i < 0 then 0 else match (xo_ko K 64)[i.toNatClampNeg]? with
  | some e => e.1
  | none => 0
theorem xo_ko_more {K : List xk_E} {p j : Nat} {x : xk_E} (h : (xo_ko K p)[j]? = some x) : ∀ n, (xo_ko K (p + n))[j]? = some x := by
  intro n
  induction n with
  | zero => exact h
  | succ n ih =>
    have hj := (List.getElem?_eq_some_iff.mp ih).1
    rw [show p + (n + 1) = (p + n) + 1 from rfl]
    simp only [xo_ko]
    split
    · rw [List.getElem?_append_left hj]; exact ih
    · exact ih
theorem xo_uniq {K : List xk_E} {h j : Nat} (hp : xd_pl K j = true) (e : h % 2 ^ xd_dp K j = j) : j = h % 2 ^ xd_dp K h := by
  have h1 : xd_dp K h = xd_dp K j := xd_dp_cong (by rw [e]; exact (xd_pl_iff.mp hp).symm)
  rw [h1, e]
theorem xo_sum (K L : List xk_E) : xt_S (fun p => if xd_pl K p then L.countP (xd_in (xd_dp K p) p) else 0) 64 = L.length := by
  induction L with
  | nil => exact xt_S_zero 64 (fun j _ => by simp)
  | cons a t ih =>
    rw [List.length_cons, ← ih]
    have hp0 : xk_h a.1 % 2 ^ xd_dp K (xk_h a.1) < 64 := Nat.lt_of_le_of_lt (Nat.mod_le _ _) (xk_h_lt _)
    have h1 : xt_S (fun p => if xd_pl K p then (if xd_in (xd_dp K p) p a then 1 else 0) else 0) 64 = 1 := by
      rw [xt_S_one (p := xk_h a.1 % 2 ^ xd_dp K (xk_h a.1)) 64 hp0]
      · rw [xd_pl_place, if_pos rfl, xd_dp_place]
        simp [xd_in]
      · intro j _ hne
        split
        · rename_i q
          rw [if_neg]
          intro z
          exact hne (xo_uniq q (xd_in_iff.mp z))
        · rfl
    have h2 : xt_S (fun p => if xd_pl K p then (a :: t).countP (xd_in (xd_dp K p) p) else 0) 64 = xt_S (fun p => (if xd_pl K p then t.countP (xd_in (xd_dp K p) p) else 0) + (if xd_pl K p then (if xd_in (xd_dp K p) p a then 1 else 0) else 0)) 64 := by
      refine xt_S_congr 64 (fun j _ => ?_)
      split
      · rw [List.countP_cons]
      · rfl
    rw [h2, xt_S_add, h1]
theorem xo_ko_len (K : List xk_E) : ∀ n, (xo_ko K n).length = xt_S (fun p => if xd_pl K p then K.countP (xd_in (xd_dp K p) p) else 0) n := by
  intro n
  induction n with
  | zero => rfl
  | succ n ih =>
    simp only [xo_ko, xt_S]
    split
    · rw [List.length_append, ih, List.countP_eq_length_filter]
    · rw [ih]; rfl
theorem xo_ko_all (K : List xk_E) : (xo_ko K 64).length = K.length := by rw [xo_ko_len, xo_sum]
theorem xo_ko_le (K : List xk_E) {n : Nat} (h : n ≤ 64) : (xo_ko K n).length ≤ K.length := by
  have key : ∀ m, (xo_ko K n).length ≤ (xo_ko K (n + m)).length := by
    intro m
    induction m with
    | zero => exact Nat.le_refl _
    | succ m ih =>
      rw [show n + (m + 1) = (n + m) + 1 from rfl]
      simp only [xo_ko]
      split
      · rw [List.length_append]; omega
      · exact ih
  have := key (64 - n)
  rw [show n + (64 - n) = 64 from by omega, xo_ko_all] at this
  exact this
theorem xo_ko_step (K : List xk_E) (p : Nat) : (xo_ko K (p + 1)).length = if xd_pl K p then (xo_ko K p).length + xd_cn K (xd_dp K p) p else (xo_ko K p).length := by
  simp only [xo_ko]
  split
  · rw [List.length_append, xd_cn, List.countP_eq_length_filter]
  · rfl
/-- the n-th key of a class, n counted along the list -/
theorem xo_fil_at {K : List xk_E} {d p i : Nat} {e : xk_E} (he : K[i]? = some e) (hi : xk_h e.1 % 2 ^ d = p) : (K.filter (xd_in d p))[xd_cn (K.take i) d p]? = some e := by
  have hlt := (List.getElem?_eq_some_iff.mp he).1
  have h1 : K = K.take i ++ (e :: K.drop (i + 1)) := by
    obtain ⟨h2, h3⟩ := List.getElem?_eq_some_iff.mp he
    rw [← h3, ← List.drop_eq_getElem_cons h2, List.take_append_drop]
  rw [xd_cn, List.countP_eq_length_filter]
  have h4 : K.filter (xd_in d p) = (K.take i).filter (xd_in d p) ++ (e :: (K.drop (i + 1)).filter (xd_in d p)) := by
    conv => lhs; rw [h1]
    rw [List.filter_append, List.filter_cons, if_pos (xd_in_iff.mpr hi)]
  rw [h4, List.getElem?_append_right (Nat.le_refl _)]
  simp
theorem xo_ka_hit {K : List xk_E} {p i : Nat} {e : xk_E} (hK : K.length ≤ 65) (hp : p < 64) (h : xd_pl K p = true) (he : K[i]? = some e) (hi : xk_h e.1 % 2 ^ xd_dp K p = p) : xo_ka K (nI ((xo_ko K p).length + xd_cn (K.take i) (xd_dp K p) p)) = e.1 := by
  have h0 : (xo_ko K (p + 1))[(xo_ko K p).length + xd_cn (K.take i) (xd_dp K p) p]? = some e := by
    simp only [xo_ko, h, if_true]
    rw [List.getElem?_append_right (by omega), Nat.add_sub_cancel_left]
    exact xo_fil_at he hi
  have h1 := xo_ko_more h0 (63 - p)
  rw [show p + 1 + (63 - p) = 64 from by omega] at h1
  have h2 := (List.getElem?_eq_some_iff.mp h1).1
  rw [xo_ko_all] at h2
  unfold xo_ka
  rw [if_neg (nI_pos (by omega)), nI_clamp (by omega), h1]
theorem xo_ka_miss {K : List xk_E} {i : Int32} (h : ∀ j, j < (xo_ko K 64).length → ¬ i = nI j) : xo_ka K i = 0 := by
  unfold xo_ka
  split
  · rfl
  · rename_i q
    obtain ⟨j, hj, rfl⟩ := nI_of q
    rw [nI_clamp hj]
    have : (xo_ko K 64)[j]? = none := by
      rw [List.getElem?_eq_none_iff]
      refine Classical.byContradiction fun z => ?_
      exact h j (by omega) rfl
    rw [this]
/-- a look's pages -/
def xo_bl (K : List xk_E) (k : Int32) (d p : Nat) : Nat := xd_cn (K.take (xk_lo K k)) d p
def xo_rp (K : List xk_E) (k : Int32) (d p : Nat) : Nat := min (xo_bl K k d p) (xd_cn K d p - 1) / 4 + 1
def xo_rd (K : List xk_E) (k : Int32) : Nat := xo_rp K k (xd_dp K (xk_h k)) (xk_h k % 2 ^ xd_dp K (xk_h k))
theorem xd_cn_mono {K : List xk_E} {d p i j : Nat} (h : i ≤ j) : xd_cn (K.take i) d p ≤ xd_cn (K.take j) d p := by
  obtain ⟨n, rfl⟩ : ∃ n, j = i + n := ⟨j - i, by omega⟩
  rw [List.take_add, xd_cn, xd_cn, List.countP_append]
  omega
theorem xd_cn_sub (K : List xk_E) (d p i : Nat) : xd_cn (K.take i) d p ≤ xd_cn K d p := by
  by_cases z : i ≤ K.length
  · have := xd_cn_mono (K := K) (d := d) (p := p) z
    rwa [List.take_length] at this
  · rw [List.take_of_length_le (by omega)]; exact Nat.le_refl _
def xo_J (K : List xk_E) (k : Int32) (d p i g : Nat) (more : Bool) : Prop :=
  (more = true → g = (xd_cn (K.take i) d p + 3) / 4 ∧ 4 * (xd_cn (K.take i) d p / 4) ≤ xo_bl K k d p ∧ (xd_cn (K.take i) d p = xd_cn K d p → xd_cn K d p = 0 ∨ xo_bl K k d p = xd_cn K d p)) ∧
  (more = false → g = xo_rp K k d p ∧ 0 < xd_cn K d p)
theorem xo_J_0 (K : List xk_E) (k : Int32) (d p : Nat) : xo_J K k d p 0 0 true := by
  have h0 : xd_cn (K.take 0) d p = 0 := by simp [xd_cn]
  refine ⟨fun _ => ⟨by rw [h0], by rw [h0]; omega, fun h => Or.inl (by rw [← h, h0])⟩, fun h => by cases h⟩
theorem xo_J_skip {K : List xk_E} {k : Int32} {d p i g : Nat} {e : xk_E} (h : xo_J K k d p i g true) (he : K[i]? = some e) (hn : ¬ xk_h e.1 % 2 ^ d = p) : xo_J K k d p (i + 1) g true := by
  unfold xo_J at *
  rw [xd_cn_take he, if_neg hn]
  exact h
theorem xo_J_in {K : List xk_E} (hA : xk_asc K) {k : Int32} {d p i g g' : Nat} {e : xk_E} {more : Bool} (h : xo_J K k d p i g true) (he : K[i]? = some e) (hn : xk_h e.1 % 2 ^ d = p) (hg : g' = if xd_cn (K.take i) d p % 4 = 0 then g + 1 else g)
    (hm : more = (decide (e.1 ≠ k) && !((decide ((xd_cn (K.take i) d p + 1) % 4 = 0) || decide (xd_cn (K.take i) d p + 1 = xd_cn K d p)) && decide (k < e.1)))) : xo_J K k d p (i + 1) g' more := by
  obtain ⟨h1, h2, h3⟩ := h.1 rfl
  have ht : xd_cn (K.take (i + 1)) d p = xd_cn (K.take i) d p + 1 := by rw [xd_cn_take he, if_pos hn]
  have hle := xd_cn_sub K d p (i + 1)
  have hbl : xo_bl K k d p ≤ xd_cn K d p := xd_cn_sub K d p _
  have hg' : g' = (xd_cn (K.take i) d p + 1 + 3) / 4 := by rw [hg]; split <;> omega
  have hlt : e.1 < k → xd_cn (K.take i) d p + 1 ≤ xo_bl K k d p := fun q => by
    have := xd_cn_mono (K := K) (d := d) (p := p) (i := i + 1) (j := xk_lo K k) ((xk_below hA he).mp q)
    rw [ht] at this
    exact this
  have hge : ¬ e.1 < k → xo_bl K k d p ≤ xd_cn (K.take i) d p := fun q => by
    have : ¬ i < xk_lo K k := fun z => q ((xk_below hA he).mpr z)
    exact xd_cn_mono (by omega)
  unfold xo_J
  rw [ht] at hle ⊢
  constructor
  · intro q
    rw [q] at hm
    have hm := hm.symm
    simp only [Bool.and_eq_true, Bool.not_eq_true', decide_eq_true_eq, Bool.and_eq_false_iff, Bool.or_eq_false_iff, decide_eq_false_iff_not] at hm
    obtain ⟨m1, m2⟩ := hm
    have end' : (xd_cn (K.take i) d p + 1) % 4 = 0 ∨ xd_cn (K.take i) d p + 1 = xd_cn K d p → e.1 < k := by
      intro z
      rcases m2 with m2 | m2
      · rcases z with z | z
        · exact absurd z m2.1
        · exact absurd z m2.2
      · refine Classical.byContradiction fun w => ?_
        exact m2 (xk_tri w m1)
    refine ⟨hg', ?_, ?_⟩
    · by_cases z : (xd_cn (K.take i) d p + 1) % 4 = 0
      · have := hlt (end' (Or.inl z)); omega
      · omega
    · intro z
      have := hlt (end' (Or.inr z)); omega
  · intro q
    rw [q] at hm
    have hm := hm.symm
    simp only [Bool.and_eq_false_iff, Bool.not_eq_false', decide_eq_false_iff_not, Bool.and_eq_true, Bool.or_eq_true, decide_eq_true_eq] at hm
    refine ⟨?_, by omega⟩
    rw [hg', xo_rp]
    by_cases m1 : e.1 = k
    · obtain ⟨a1, a2⟩ := (xk_there hA he).mp m1
      have : xo_bl K k d p = xd_cn (K.take i) d p := by rw [xo_bl, ← a1]
      rw [this]
      omega
    · rcases hm with hm | hm
      · exact absurd m1 hm
      · have := hge (xk_nlt hm.2)
        omega
theorem xo_J_end {K : List xk_E} {k : Int32} {d p i g : Nat} {more : Bool} (h : xo_J K k d p i g more) (hi : more = true → i = K.length) : (if xd_cn K d p = 0 then 1 else g) = xo_rp K k d p := by
  cases more with
  | false =>
    obtain ⟨h1, h2⟩ := h.2 rfl
    rw [if_neg (by omega), h1]
  | true =>
    have e := hi rfl
    subst e
    obtain ⟨h1, h2, h3⟩ := h.1 rfl
    rw [List.take_length] at h1 h2 h3
    have h4 := h3 rfl
    have hbl : xo_bl K k d p ≤ xd_cn K d p := xd_cn_sub K d p _
    rw [h1, xo_rp]
    split
    · omega
    · rcases h4 with h4 | h4
      · omega
      · rw [h4]; omega
end
