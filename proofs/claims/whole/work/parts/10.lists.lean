/-! Pure: the keys with their values, ascending, as a list; what set and remove do to it. -/
abbrev xk_E : Type := Int32 × Int64
def xk_u (k n : Int32) : Int32 := (k.toUInt32 >>> (n.toUInt32 &&& Int32.toUInt32 31)).toInt32
def xk_x (k : Int32) : Int32 := ((((k ^^^ xk_u k (nI 6)) ^^^ xk_u k (nI 12)) ^^^ xk_u k (nI 18)) ^^^ xk_u k (nI 24)) ^^^ xk_u k (nI 30)
def xk_h (k : Int32) : Nat := (xk_x k).toBitVec.toNat % 64
theorem xk_h_lt (k : Int32) : xk_h k < 64 := Nat.mod_lt _ (by decide)
theorem xk_h_eq (k : Int32) : xk_x k &&& nI 63 = nI (xk_h k) := pk_and (xk_x k) 6 (by decide +kernel)
def xk_lo : List xk_E → Int32 → Nat
  | [], _ => 0
  | e :: t, k => if e.1 < k then xk_lo t k + 1 else 0
def xk_has : List xk_E → Int32 → Bool
  | [], _ => false
  | e :: t, k => if e.1 < k then xk_has t k else e.1 == k
def xk_get : List xk_E → Int32 → Int64
  | [], _ => 0
  | e :: t, k => if e.1 < k then xk_get t k else if e.1 = k then e.2 else 0
def xk_set : List xk_E → Int32 → Int64 → List xk_E
  | [], k, v => [(k, v)]
  | e :: t, k, v => if e.1 < k then e :: xk_set t k v else if e.1 = k then (k, v) :: t else (k, v) :: e :: t
def xk_rem : List xk_E → Int32 → List xk_E
  | [], _ => []
  | e :: t, k => if e.1 < k then e :: xk_rem t k else if e.1 = k then t else e :: t
def xk_asc (K : List xk_E) : Prop := K.Pairwise (fun a b => a.1 < b.1)
theorem xk_irr (k : Int32) : ¬ k < k := by rw [Int32.lt_iff_toInt_lt]; omega
theorem xk_tr {a b c : Int32} (h : a < b) (g : b < c) : a < c := by rw [Int32.lt_iff_toInt_lt] at *; omega
theorem xk_tri {a b : Int32} (h : ¬ a < b) (g : ¬ a = b) : b < a := by
  rw [Int32.lt_iff_toInt_lt] at *
  have : a.toInt ≠ b.toInt := fun q => g (Int32.toInt_inj.mp q)
  omega
theorem xk_nlt {a b : Int32} (h : a < b) : ¬ b < a := by rw [Int32.lt_iff_toInt_lt] at *; omega
theorem xk_lo_le (K : List xk_E) (k : Int32) : xk_lo K k ≤ K.length := by
  induction K with
  | nil => simp [xk_lo]
  | cons e t ih => simp only [xk_lo, List.length_cons]; split <;> omega
theorem xk_lo_lt {K : List xk_E} {k : Int32} {j : Nat} {e : xk_E} (h : j < xk_lo K k) (he : K[j]? = some e) : e.1 < k := by
  induction K generalizing j with
  | nil => simp at he
  | cons a t ih =>
    simp only [xk_lo] at h
    split at h
    · cases j with
      | zero => simp at he; subst he; assumption
      | succ j => exact ih (j := j) (by omega) (by simpa using he)
    · omega
theorem xk_lo_ge {K : List xk_E} {k : Int32} {e : xk_E} (he : K[xk_lo K k]? = some e) : ¬ e.1 < k := by
  induction K with
  | nil => simp at he
  | cons a t ih =>
    simp only [xk_lo] at he
    split at he
    · exact ih (by simpa using he)
    · simp at he; subst he; assumption
theorem xk_lo_eq {K : List xk_E} {k : Int32} {b : Nat} (hb : b ≤ K.length) (h1 : ∀ (j : Nat) (e : xk_E), j < b → K[j]? = some e → e.1 < k) (h2 : ∀ e : xk_E, K[b]? = some e → ¬ e.1 < k) : b = xk_lo K k := by
  induction K generalizing b with
  | nil => simp at hb; simp [xk_lo, hb]
  | cons a t ih =>
    cases b with
    | zero =>
      have := h2 a (by simp)
      simp [xk_lo, this]
    | succ b =>
      have ha := h1 0 a (by omega) (by simp)
      simp only [xk_lo, ha, if_true]
      have := ih (b := b) (by simpa using hb) (fun j e hj he => h1 (j + 1) e (by omega) (by simpa using he)) (fun e he => h2 e (by simpa using he))
      omega
theorem xk_has_iff (K : List xk_E) (k : Int32) : xk_has K k = true ↔ ∃ e, K[xk_lo K k]? = some e ∧ e.1 = k := by
  induction K with
  | nil => simp [xk_has]
  | cons a t ih =>
    simp only [xk_has, xk_lo]
    split
    · simpa using ih
    · simp
theorem xk_has_at {K : List xk_E} {k : Int32} (h : xk_has K k = true) : K[xk_lo K k]? = some (k, xk_get K k) := by
  induction K with
  | nil => simp [xk_has] at h
  | cons a t ih =>
    simp only [xk_has, xk_lo, xk_get] at *
    split
    · rename_i q
      simp only [q, if_true] at h
      simpa using ih h
    · rename_i q
      simp only [q, if_false] at h
      have : a.1 = k := by simpa using h
      subst this
      simp
theorem xk_has_lt {K : List xk_E} {k : Int32} (h : xk_has K k = true) : xk_lo K k < K.length := by
  have := xk_has_at h
  exact (List.getElem?_eq_some_iff.mp this).1
theorem xk_get_0 {K : List xk_E} {k : Int32} (h : xk_has K k = false) : xk_get K k = 0 := by
  induction K with
  | nil => simp [xk_get]
  | cons a t ih =>
    simp only [xk_has, xk_get] at *
    split
    · rename_i q
      simp only [q, if_true] at h
      exact ih h
    · rename_i q
      simp only [q, if_false] at h
      have : ¬ a.1 = k := by simpa using h
      simp [this]
theorem xk_set_len (K : List xk_E) (k : Int32) (v : Int64) : (xk_set K k v).length = if xk_has K k then K.length else K.length + 1 := by
  induction K with
  | nil => simp [xk_set, xk_has]
  | cons a t ih =>
    simp only [xk_set, xk_has]
    by_cases q : a.1 < k
    · simp only [q, if_true, List.length_cons, ih]; split <;> rfl
    · by_cases r : a.1 = k
      · subst r; simp [q]
      · simp [q, r]
theorem xk_rem_len (K : List xk_E) (k : Int32) : (xk_rem K k).length = if xk_has K k then K.length - 1 else K.length := by
  induction K with
  | nil => simp [xk_rem, xk_has]
  | cons a t ih =>
    simp only [xk_rem, xk_has]
    by_cases q : a.1 < k
    · simp only [q, if_true, List.length_cons, ih]
      by_cases w : xk_has t k = true
      · have := xk_has_lt w
        simp only [w, if_true]; omega
      · simp [w]
    · by_cases r : a.1 = k
      · subst r; simp [q]
      · simp [q, r]
theorem xk_set_at (K : List xk_E) (k : Int32) (v : Int64) (i : Nat) : (xk_set K k v)[i]? = if i < xk_lo K k then K[i]? else if i = xk_lo K k then some (k, v) else if xk_has K k then K[i]? else K[i - 1]? := by
  induction K generalizing i with
  | nil => cases i <;> simp [xk_set, xk_has, xk_lo]
  | cons a t ih =>
    simp only [xk_set, xk_has, xk_lo]
    by_cases q : a.1 < k
    · simp only [q, if_true]
      cases i with
      | zero => simp
      | succ i =>
        simp only [List.getElem?_cons_succ, ih, Nat.add_lt_add_iff_right, Nat.add_right_cancel_iff, Nat.add_sub_cancel]
        split
        · rfl
        · split
          · rfl
          · split
            · rfl
            · have : 0 < i := by omega
              obtain ⟨j, rfl⟩ : ∃ j, i = j + 1 := ⟨i - 1, by omega⟩
              simp
    · by_cases r : a.1 = k
      · subst r
        cases i <;> simp [q]
      · cases i with
        | zero => simp [q, r]
        | succ i => simp [q, r]
theorem xk_rem_at (K : List xk_E) (k : Int32) (i : Nat) : (xk_rem K k)[i]? = if i < xk_lo K k ∨ xk_has K k = false then K[i]? else K[i + 1]? := by
  induction K generalizing i with
  | nil => simp [xk_rem]
  | cons a t ih =>
    simp only [xk_rem, xk_has, xk_lo]
    by_cases q : a.1 < k
    · simp only [q, if_true]
      cases i with
      | zero => simp
      | succ i => simp only [List.getElem?_cons_succ, ih, Nat.add_lt_add_iff_right]
    · by_cases r : a.1 = k
      · subst r
        simp [q]
      · simp [q, r]
theorem xk_set_mem {K : List xk_E} {k : Int32} {v : Int64} {e : xk_E} (h : e ∈ xk_set K k v) : e = (k, v) ∨ e ∈ K := by
  induction K with
  | nil => simp only [xk_set, List.mem_singleton] at h; exact Or.inl h
  | cons a t ih =>
    simp only [xk_set] at h
    split at h
    · rcases List.mem_cons.mp h with h | h
      · exact Or.inr (by simp [h])
      · rcases ih h with h | h
        · exact Or.inl h
        · exact Or.inr (List.mem_cons_of_mem _ h)
    · split at h
      · rcases List.mem_cons.mp h with h | h
        · exact Or.inl h
        · exact Or.inr (List.mem_cons_of_mem _ h)
      · rcases List.mem_cons.mp h with h | h
        · exact Or.inl h
        · exact Or.inr h
theorem xk_rem_mem {K : List xk_E} {k : Int32} {e : xk_E} (h : e ∈ xk_rem K k) : e ∈ K := by
  induction K with
  | nil => simp [xk_rem] at h
  | cons a t ih =>
    simp only [xk_rem] at h
    split at h
    · rcases List.mem_cons.mp h with h | h
      · simp [h]
      · exact List.mem_cons_of_mem _ (ih h)
    · split at h
      · exact List.mem_cons_of_mem _ h
      · exact h
theorem xk_asc_set {K : List xk_E} (h : xk_asc K) (k : Int32) (v : Int64) : xk_asc (xk_set K k v) := by
  unfold xk_asc at *
  induction K with
  | nil => simp [xk_set]
  | cons a t ih =>
    have h2 := List.pairwise_cons.mp h
    simp only [xk_set]
    split
    · rename_i q
      refine List.pairwise_cons.mpr ⟨fun e he => ?_, ih h2.2⟩
      rcases xk_set_mem he with rfl | he
      · exact q
      · exact h2.1 e he
    · rename_i q
      split
      · rename_i r
        exact List.pairwise_cons.mpr ⟨fun e he => by rw [← r]; exact h2.1 e he, h2.2⟩
      · rename_i r
        have z := xk_tri q r
        refine List.pairwise_cons.mpr ⟨fun e he => ?_, h⟩
        rcases List.mem_cons.mp he with rfl | he
        · exact z
        · exact xk_tr z (h2.1 e he)
theorem xk_asc_rem {K : List xk_E} (h : xk_asc K) (k : Int32) : xk_asc (xk_rem K k) := by
  unfold xk_asc at *
  induction K with
  | nil => simp [xk_rem]
  | cons a t ih =>
    have h2 := List.pairwise_cons.mp h
    simp only [xk_rem]
    split
    · exact List.pairwise_cons.mpr ⟨fun e he => h2.1 e (xk_rem_mem he), ih h2.2⟩
    · split
      · exact h2.2
      · exact h
theorem xk_un_ss {K : List xk_E} {k : Int32} (v : Int64) (h : xk_has K k = true) : xk_set (xk_set K k v) k (xk_get K k) = K := by
  induction K with
  | nil => simp [xk_has] at h
  | cons a t ih =>
    simp only [xk_has] at h
    simp only [xk_set, xk_get]
    by_cases q : a.1 < k
    · simp only [q, if_true] at h ⊢
      simp only [xk_set, q, if_true, ih h]
    · simp only [q, if_false] at h ⊢
      have r : a.1 = k := by simpa using h
      simp [r, xk_set, xk_irr]
      rw [← r]
theorem xk_un_rs {K : List xk_E} {k : Int32} (v : Int64) (h : xk_has K k = false) : xk_rem (xk_set K k v) k = K := by
  induction K with
  | nil => simp [xk_set, xk_rem, xk_irr]
  | cons a t ih =>
    simp only [xk_has] at h
    simp only [xk_set]
    by_cases q : a.1 < k
    · simp only [q, if_true] at h ⊢
      simp only [xk_rem, q, if_true, ih h]
    · simp only [q, if_false] at h ⊢
      have r : ¬ a.1 = k := by simpa using h
      simp [r, xk_rem, xk_irr]
theorem xk_rem_no {K : List xk_E} {k : Int32} (h : xk_has K k = false) : xk_rem K k = K := by
  induction K with
  | nil => simp [xk_rem]
  | cons a t ih =>
    simp only [xk_has] at h
    simp only [xk_rem]
    by_cases q : a.1 < k
    · simp only [q, if_true] at h ⊢
      rw [ih h]
    · simp only [q, if_false] at h ⊢
      have r : ¬ a.1 = k := by simpa using h
      simp [r]
theorem xk_un_sr {K : List xk_E} (hA : xk_asc K) {k : Int32} (h : xk_has K k = true) : xk_set (xk_rem K k) k (xk_get K k) = K := by
  unfold xk_asc at hA
  induction K with
  | nil => simp [xk_has] at h
  | cons a t ih =>
    have h2 := List.pairwise_cons.mp hA
    simp only [xk_has] at h
    simp only [xk_rem, xk_get]
    by_cases q : a.1 < k
    · simp only [q, if_true] at h ⊢
      simp only [xk_set, q, if_true, ih h2.2 h]
    · simp only [q, if_false] at h ⊢
      have r : a.1 = k := by simpa using h
      simp only [r, if_true]
      have e1 : (k, a.2) = a := by rw [← r]
      cases t with
      | nil => simp [xk_set, e1]
      | cons b u =>
        have hb := h2.1 b (by simp)
        rw [r] at hb
        have n1 : ¬ b.1 < k := xk_nlt hb
        have n2 : ¬ b.1 = k := fun z => by rw [z] at hb; exact xk_irr _ hb
        simp [xk_set, n1, n2, e1]
/-- in an ascending list: which places lie below a key, and which one holds it -/
theorem xk_asc_lt {K : List xk_E} (hA : xk_asc K) {i j : Nat} {a b : xk_E} (h : i < j) (ha : K[i]? = some a) (hb : K[j]? = some b) : a.1 < b.1 := by
  obtain ⟨hi, rfl⟩ := List.getElem?_eq_some_iff.mp ha
  obtain ⟨hj, rfl⟩ := List.getElem?_eq_some_iff.mp hb
  exact (List.pairwise_iff_getElem.mp hA) i j hi hj h
theorem xk_below {K : List xk_E} (hA : xk_asc K) {k : Int32} {i : Nat} {e : xk_E} (he : K[i]? = some e) : e.1 < k ↔ i < xk_lo K k := by
  constructor
  · intro h
    refine Classical.byContradiction fun q => ?_
    have hl : xk_lo K k ≤ i := by omega
    have hi := (List.getElem?_eq_some_iff.mp he).1
    have hlt : xk_lo K k < K.length := by omega
    obtain ⟨e0, ho⟩ : ∃ e0, K[xk_lo K k]? = some e0 := ⟨_, List.getElem?_eq_getElem hlt⟩
    have hn := xk_lo_ge ho
    by_cases z : xk_lo K k = i
    · rw [z, he] at ho
      cases ho
      exact hn h
    · exact hn (xk_tr (xk_asc_lt hA (by omega) ho he) h)
  · intro h
    exact xk_lo_lt h he
theorem xk_there {K : List xk_E} (hA : xk_asc K) {k : Int32} {i : Nat} {e : xk_E} (he : K[i]? = some e) : e.1 = k ↔ i = xk_lo K k ∧ xk_has K k = true := by
  constructor
  · intro h
    have n1 : ¬ i < xk_lo K k := fun q => by
      have := xk_lo_lt q he
      rw [h] at this
      exact xk_irr _ this
    have n2 : ¬ xk_lo K k < i := fun q => by
      have hi := (List.getElem?_eq_some_iff.mp he).1
      obtain ⟨e0, ho⟩ : ∃ e0, K[xk_lo K k]? = some e0 := ⟨_, List.getElem?_eq_getElem (by omega)⟩
      have h3 := xk_asc_lt hA q ho he
      rw [h] at h3
      exact xk_lo_ge ho h3
    have n3 : i = xk_lo K k := by omega
    exact ⟨n3, (xk_has_iff K k).mpr ⟨e, by rw [← n3]; exact he, h⟩⟩
  · rintro ⟨h1, h2⟩
    have := xk_has_at h2
    rw [← h1, he] at this
    cases this
    rfl
/-- arrays hold a list -/
def xk_tie (f : Nat → Int32) (g : Nat → Int64) (K : List xk_E) : Prop := ∀ i : Nat, i < K.length → K[i]? = some (f i, g i)
theorem xk_tie_put {f : Nat → Int32} {g : Nat → Int64} {K : List xk_E} (h : xk_tie f g K) {k : Int32} (v : Int64) (hk : xk_has K k = true) : xk_tie f (vp_updL g (xk_lo K k) v) (xk_set K k v) := by
  intro i hi
  rw [xk_set_len, if_pos hk] at hi
  rw [xk_set_at]
  have ho := h (xk_lo K k) (xk_has_lt hk)
  rw [xk_has_at hk] at ho
  by_cases q : i < xk_lo K k
  · rw [if_pos q, h i hi, pk_uLn (by omega)]
  · rw [if_neg q]
    by_cases r : i = xk_lo K k
    · subst r
      rw [if_pos rfl, pk_uLs]
      have e1 : k = f (xk_lo K k) := by simpa using congrArg Prod.fst (Option.some.inj ho)
      rw [← e1]
    · rw [if_neg r, if_pos hk, h i hi, pk_uLn r]
/-- the arrays with a place opened at b -/
def xk_ins {α : Type} (f : Nat → α) (b : Nat) (x : α) : Nat → α := fun j => if j < b then f j else if j = b then x else f (j - 1)
def xk_del {α : Type} (f : Nat → α) (b : Nat) : Nat → α := fun j => if j < b then f j else f (j + 1)
theorem xk_tie_ins {f f' : Nat → Int32} {g g' : Nat → Int64} {K : List xk_E} (h : xk_tie f g K) {k : Int32} {v : Int64} (hk : xk_has K k = false) (hf : ∀ j, j < K.length + 1 → f' j = xk_ins f (xk_lo K k) k j) (hg : ∀ j, j < K.length + 1 → g' j = xk_ins g (xk_lo K k) v j) : xk_tie f' g' (xk_set K k v) := by
  intro i hi
  rw [xk_set_len, hk] at hi
  have hi : i < K.length + 1 := hi
  rw [xk_set_at, hf i hi, hg i hi]
  have hl := xk_lo_le K k
  unfold xk_ins
  by_cases q : i < xk_lo K k
  · rw [if_pos q, if_pos q, if_pos q, h i (by omega)]
  · rw [if_neg q, if_neg q, if_neg q]
    by_cases r : i = xk_lo K k
    · rw [if_pos r, if_pos r, if_pos r]
    · rw [if_neg r, if_neg r, if_neg r, hk]
      exact h (i - 1) (by omega)
theorem xk_tie_del {f f' : Nat → Int32} {g g' : Nat → Int64} {K : List xk_E} (h : xk_tie f g K) {k : Int32} (hk : xk_has K k = true) (hf : ∀ j, j + 1 < K.length → f' j = xk_del f (xk_lo K k) j) (hg : ∀ j, j + 1 < K.length → g' j = xk_del g (xk_lo K k) j) : xk_tie f' g' (xk_rem K k) := by
  intro i hi
  rw [xk_rem_len, if_pos hk] at hi
  rw [xk_rem_at, hf i (by omega), hg i (by omega)]
  unfold xk_del
  by_cases q : i < xk_lo K k
  · rw [if_pos (Or.inl q), if_pos q, if_pos q]
    exact h i (by omega)
  · rw [if_neg, if_neg q, if_neg q]
    · exact h (i + 1) (by omega)
    · rintro (z | z)
      · exact q z
      · rw [hk] at z; cases z
theorem xk_tie_f {f : Nat → Int32} {g : Nat → Int64} {K : List xk_E} (h : xk_tie f g K) {i : Nat} {e : xk_E} (he : K[i]? = some e) : f i = e.1 ∧ g i = e.2 := by
  have hi := (List.getElem?_eq_some_iff.mp he).1
  have := h i hi
  rw [he] at this
  cases this
  exact ⟨rfl, rfl⟩
