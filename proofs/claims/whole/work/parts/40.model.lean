/-! Pure: the reference's arrays and its searches. -/
def xm_T (ky : Nat → Int32) (vl : Nat → Int64) (K : List xk_E) : Prop := K.length ≤ 65 ∧ xk_asc K ∧ xk_tie ky vl K
theorem xm_T_put {ky : Nat → Int32} {vl : Nat → Int64} {K : List xk_E} (h : xm_T ky vl K) {k : Int32} (v : Int64) (hk : xk_has K k = true) : xm_T ky (vp_updL vl (xk_lo K k) v) (xk_set K k v) := ⟨by rw [xk_set_len, if_pos hk]; exact h.1, xk_asc_set h.2.1 k v, xk_tie_put h.2.2 v hk⟩
theorem xm_T_ins {ky ky' : Nat → Int32} {vl vl' : Nat → Int64} {K : List xk_E} (h : xm_T ky vl K) {k : Int32} {v : Int64} (hk : xk_has K k = false) (hl : (xk_set K k v).length ≤ 65) (hf : ∀ j, j < K.length + 1 → ky' j = xk_ins ky (xk_lo K k) k j) (hg : ∀ j, j < K.length + 1 → vl' j = xk_ins vl (xk_lo K k) v j) : xm_T ky' vl' (xk_set K k v) := ⟨hl, xk_asc_set h.2.1 k v, xk_tie_ins h.2.2 hk hf hg⟩
theorem xm_T_del {ky ky' : Nat → Int32} {vl vl' : Nat → Int64} {K : List xk_E} (h : xm_T ky vl K) {k : Int32} (hk : xk_has K k = true) (hf : ∀ j, j + 1 < K.length → ky' j = xk_del ky (xk_lo K k) j) (hg : ∀ j, j + 1 < K.length → vl' j = xk_del vl (xk_lo K k) j) : xm_T ky' vl' (xk_rem K k) := ⟨by rw [xk_rem_len, if_pos hk]; have := h.1; omega, xk_asc_rem h.2.1 k, xk_tie_del h.2.2 hk hf hg⟩
def xm_fd (K : List xk_E) (k : Int32) : Int32 := if xk_has K k = true then nI (xk_lo K k) else -1
theorem xm_fd_f {K : List xk_E} {k : Int32} (hl : K.length ≤ 65) (h : xm_fd K k < 0) : xk_has K k = false := by
  rw [← Bool.not_eq_true]
  intro q
  have := xk_lo_le K k
  rw [xm_fd, if_pos q] at h
  exact nI_pos (by omega) h
theorem xm_fd_t {K : List xk_E} {k : Int32} (h : ¬ xm_fd K k < 0) : xk_has K k = true := by
  refine Classical.byContradiction fun q => ?_
  rw [xm_fd, if_neg q] at h
  exact h (by decide)
theorem xm_fd_eq {K : List xk_E} {k : Int32} (h : xk_has K k = true) : xm_fd K k = nI (xk_lo K k) := by rw [xm_fd, if_pos h]
theorem xm_f1 {K : List xk_E} (hA : xk_asc K) {k : Int32} {i : Nat} {e : xk_E} (he : K[i]? = some e) (h : e.1 = k) : nI i = if xk_lo K k < i + 1 ∧ xk_has K k = true then nI (xk_lo K k) else (-1) := by
  obtain ⟨h1, h2⟩ := (xk_there hA he).mp h
  rw [if_pos ⟨by omega, h2⟩, h1]
theorem xm_f2 {K : List xk_E} (hA : xk_asc K) {k : Int32} {i : Nat} {e : xk_E} {a : Int32} (ha : a = if xk_lo K k < i ∧ xk_has K k = true then nI (xk_lo K k) else (-1)) (he : K[i]? = some e) (h : ¬ e.1 = k) : a = if xk_lo K k < i + 1 ∧ xk_has K k = true then nI (xk_lo K k) else (-1) := by
  rw [ha]
  by_cases z : xk_lo K k < i ∧ xk_has K k = true
  · rw [if_pos z, if_pos ⟨by omega, z.2⟩]
  · rw [if_neg z, if_neg]
    rintro ⟨y1, y2⟩
    by_cases w : xk_lo K k = i
    · exact h ((xk_there hA he).mpr ⟨w.symm, y2⟩)
    · exact z ⟨by omega, y2⟩
theorem xm_f3 {K : List xk_E} {k : Int32} {i : Nat} {a : Int32} (ha : a = if xk_lo K k < i ∧ xk_has K k = true then nI (xk_lo K k) else (-1)) (h : i = K.length) : a = xm_fd K k := by
  rw [ha, xm_fd]
  by_cases z : xk_has K k = true
  · have := xk_has_lt z
    rw [if_pos z, if_pos ⟨by omega, z⟩]
  · rw [if_neg z, if_neg (fun q => z q.2)]
theorem xg_s0 {same a : Bool} (h : same = false) : nI 0 = xb_i (same && a) := by subst h; exact xb_f.symm
theorem xg_s1 {same : Bool} {a b : Prop} {da : Decidable a} {db : Decidable b} (h : same = true) (g : a ∨ b) : nI 1 = xb_i (same && (decide a || decide b)) := by
  subst h
  have : (true && (decide a || decide b)) = true := by simpa using g
  rw [this]; exact xb_t.symm
theorem xg_s2 {same : Bool} {a b : Prop} {da : Decidable a} {db : Decidable b} (h : ¬ a) (g : ¬ b) : nI 0 = xb_i (same && (decide a || decide b)) := by
  have : (same && (decide a || decide b)) = false := by simp [h, g]
  rw [this]; exact xb_f.symm
/-- the depth at a place, or -1 -/
def xm_rd (K : List xk_E) (p : Nat) : Int32 := if xd_pl K p = true then nI (xd_dp K p) else -1
def xm_wh (K : List xk_E) (p d : Nat) : Bool := decide (d = 0) || !xd_gd K (d - 1) (p % 2 ^ (d - 1))
theorem xm_w1 {K : List xk_E} {p d : Nat} (h : d = 0 ∨ xd_gd K (d - 1) (p % 2 ^ (d - 1)) = false) : nI 1 = xb_i (xm_wh K p d) := by
  have : xm_wh K p d = true := by simpa [xm_wh] using h
  rw [this]; exact xb_t.symm
theorem xm_w0 {K : List xk_E} {p d : Nat} (h1 : ¬ d = 0) (h2 : xd_gd K (d - 1) (p % 2 ^ (d - 1)) = true) : nI 0 = xb_i (xm_wh K p d) := by
  have : xm_wh K p d = false := by simp [xm_wh, h1, h2]
  rw [this]; exact xb_f.symm
theorem xm_wh_iff {K : List xk_E} {p d : Nat} : xm_wh K p d = true ↔ (d = 0 ∨ xd_gd K (d - 1) (p % 2 ^ (d - 1)) = false) := by simp [xm_wh]
theorem xm_rd_y {K : List xk_E} {p d : Nat} (hd : d ≤ 6) (h : p < 2 ^ d) (g : xd_gd K d p = true) (w : xm_wh K p d = true) : nI d = if xd_dp K p < d + 1 ∧ xd_pl K p = true then nI (xd_dp K p) else (-1) := by
  obtain ⟨h1, h2⟩ := (xd_ref_iff hd).mp ⟨h, g, xm_wh_iff.mp w⟩
  rw [if_pos ⟨by omega, h2⟩, h1]
theorem xm_rd_n {K : List xk_E} {p d : Nat} {fo : Int32} (hf : fo = if xd_dp K p < d ∧ xd_pl K p = true then nI (xd_dp K p) else (-1)) (hd : d ≤ 6) (h : ¬ (p < 2 ^ d ∧ xd_gd K d p = true ∧ xm_wh K p d = true)) : fo = if xd_dp K p < d + 1 ∧ xd_pl K p = true then nI (xd_dp K p) else (-1) := by
  rw [hf]
  by_cases z : xd_dp K p < d ∧ xd_pl K p = true
  · rw [if_pos z, if_pos ⟨by omega, z.2⟩]
  · rw [if_neg z, if_neg]
    rintro ⟨y1, y2⟩
    by_cases w : d = xd_dp K p
    · obtain ⟨a, b, c⟩ := (xd_ref_iff hd).mpr ⟨w, y2⟩
      exact h ⟨a, b, xm_wh_iff.mpr c⟩
    · exact z ⟨by omega, y2⟩
theorem xm_rd_e {K : List xk_E} {p d : Nat} {fo : Int32} (hf : fo = if xd_dp K p < d ∧ xd_pl K p = true then nI (xd_dp K p) else (-1)) (h : 6 < d) : fo = xm_rd K p := by
  have := xd_dp_le K p
  rw [hf, xm_rd]
  by_cases z : xd_pl K p = true
  · rw [if_pos z, if_pos ⟨by omega, z⟩]
  · rw [if_neg z, if_neg (fun q => z q.2)]
theorem xm_rd_pl {K : List xk_E} {p : Nat} (h : ¬ xm_rd K p < 0) : xd_pl K p = true := by
  refine Classical.byContradiction fun q => ?_
  rw [xm_rd, if_neg q] at h
  exact h (by decide)
theorem xm_rd_np {K : List xk_E} {p : Nat} (h : xm_rd K p < 0) : xd_pl K p = false := by
  rw [← Bool.not_eq_true]
  intro q
  have := xd_dp_le K p
  rw [xm_rd, if_pos q] at h
  exact nI_pos (by omega) h
theorem xm_rd_eq {K : List xk_E} {p : Nat} (h : xd_pl K p = true) : xm_rd K p = nI (xd_dp K p) := by rw [xm_rd, if_pos h]
theorem xm_g1 {K : List xk_E} {p : Nat} (h : xm_rd K p ≤ nI (xd_gm K p)) : nI (xd_gm K p) = nI (xd_gm K (p + 1)) := by
  cases q : xd_pl K p with
  | false => rw [xd_gm_no q]
  | true =>
    have h1 := xd_dp_le K p
    have h2 := xd_gm_le K p
    rw [xm_rd_eq q, nI_leI (by omega) (by omega)] at h
    simp only [xd_gm]
    rw [Nat.max_eq_left h]
theorem xm_g2 {K : List xk_E} {p : Nat} (h : ¬ xm_rd K p ≤ nI (xd_gm K p)) : xm_rd K p = nI (xd_gm K (p + 1)) := by
  have h1 := xd_dp_le K p
  have h2 := xd_gm_le K p
  cases q : xd_pl K p with
  | false =>
    rw [xm_rd, if_neg (by rw [q]; decide)] at h
    refine absurd ?_ h
    rw [Int32.le_iff_toInt_le, nI_toInt (by omega)]
    have e : (-1 : Int32).toInt = -1 := by decide
    omega
  | true =>
    rw [xm_rd_eq q, nI_leI (by omega) (by omega)] at h
    rw [xm_rd_eq q]
    simp only [xd_gm]
    rw [Nat.max_eq_right (by omega)]
theorem xm_b1 {K : List xk_E} {h p : Nat} (hp : xd_pl K p = true) (g : h % 2 ^ xd_dp K p = p) : p = h % 2 ^ xd_dp K h := xo_uniq hp g
theorem xm_b2 {K : List xk_E} {h : Nat} : xd_pl K (h % 2 ^ xd_dp K h) = true ∧ h % 2 ^ xd_dp K (h % 2 ^ xd_dp K h) = h % 2 ^ xd_dp K h := ⟨xd_pl_place K h, by rw [xd_dp_place]⟩
theorem xm_bn {K : List xk_E} {h p pl : Nat} (hf : pl = if h % 2 ^ xd_dp K h < p then h % 2 ^ xd_dp K h else 0) (hn : ¬ (xd_pl K p = true ∧ h % 2 ^ xd_dp K p = p)) : pl = if h % 2 ^ xd_dp K h < p + 1 then h % 2 ^ xd_dp K h else 0 := by
  have hne : h % 2 ^ xd_dp K h ≠ p := fun q => by
    have := xm_b2 (K := K) (h := h)
    rw [q] at this
    exact hn this
  rw [hf]
  by_cases z : h % 2 ^ xd_dp K h < p
  · rw [if_pos z, if_pos (by omega)]
  · rw [if_neg z, if_neg (by omega)]
theorem xm_by {K : List xk_E} {h p : Nat} (hp : xd_pl K p = true) (g : h % 2 ^ xd_dp K p = p) : p = if h % 2 ^ xd_dp K h < p + 1 then h % 2 ^ xd_dp K h else 0 := by
  have e := xm_b1 hp g
  rw [if_pos (by omega)]
  exact e
