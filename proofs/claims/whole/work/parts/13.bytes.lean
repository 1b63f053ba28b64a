/-! Pure: how many bytes a value has: the class's way and the reference's. -/
def xk_lu (v : Int64) (y : Int32) : Int64 := (v.toUInt64 >>> (y.toInt64.toUInt64 &&& Int64.toUInt64 63)).toInt64
def xv_R (v : Int64) : Nat → Nat → Nat
  | b, 0 => b
  | b, n + 1 => if xk_lu v (nI (8 * b)) = 0 then b else xv_R v (b + 1) n
def xv_by (v : Int64) : Nat := xv_R v 1 7
def xv_vp (v : Int64) : Nat := if 2 < xv_by v then (xv_by v + 1) / 2 else 0
def xv_r (v : Int64) : Nat → Int64
  | 0 => v >>> ((nI 8).toInt64 &&& 63)
  | k + 1 => xv_r v k >>> ((nI 8).toInt64 &&& 63)
def xv_n (v : Int64) : Nat → Nat
  | 0 => 1
  | k + 1 => if 0 < xv_r v k then xv_n v k + 1 else xv_n v k
theorem xv_lu (v : Int64) (y : Int32) (k : Nat) (hs : ((y.toInt64.toUInt64 &&& Int64.toUInt64 63).toBitVec % 64).toNat = k) : (xk_lu v y).toBitVec.toNat = v.toBitVec.toNat / 2 ^ k := by
  have e : (xk_lu v y).toBitVec = v.toBitVec >>> k := by
    rw [← hs]
    exact UInt64.toBitVec_shiftRight _ _
  rw [e, BitVec.toNat_ushiftRight, Nat.shiftRight_eq_div_pow]
theorem xv_lu0 (v : Int64) (y : Int32) (k : Nat) (hs : ((y.toInt64.toUInt64 &&& Int64.toUInt64 63).toBitVec % 64).toNat = k) : xk_lu v y = 0 ↔ v.toBitVec.toNat < 2 ^ k := by
  have h := xv_lu v y k hs
  constructor
  · intro z
    rw [z] at h
    have h0 : (0 : Int64).toBitVec.toNat = 0 := by decide
    rw [h0] at h
    exact (Nat.div_eq_zero_iff_lt (Nat.two_pow_pos k)).mp h.symm
  · intro z
    apply Int64.toBitVec_inj.mp
    apply BitVec.eq_of_toNat_eq
    rw [h, Nat.div_eq_of_lt z]
    decide
theorem xv_shr {n : Nat} (h : n < 2 ^ 63) : lN n >>> ((nI 8).toInt64 &&& 63) = lN (n / 256) := by
  apply Int64.toInt_inj.mp
  have h2 : n / 256 ≤ n := Nat.div_le_self _ _
  rw [pk_lT (by omega)]
  show ((lN n).toBitVec.sshiftRight (((nI 8).toInt64 &&& 63).toBitVec.smod 64).toNat).toInt = _
  have e : (((nI 8).toInt64 &&& 63).toBitVec.smod 64).toNat = 8 := by decide
  rw [e, BitVec.toInt_sshiftRight]
  show (lN n).toInt >>> 8 = _
  rw [pk_lT h, Int.shiftRight_eq_div_pow]
  rfl
theorem xv_tn {n : Nat} (h : n < 2 ^ 63) : (lN n).toBitVec.toNat = n := by
  show (BitVec.ofNat 64 n).toNat = n
  rw [BitVec.toNat_ofNat]
  omega
theorem xv_r_eq {n : Nat} (h : n < 2 ^ 63) (k : Nat) : xv_r (lN n) k = lN (n / 256 ^ (k + 1)) := by
  induction k with
  | zero => exact xv_shr h
  | succ k ih =>
    have h2 : n / 256 ^ (k + 1) ≤ n := Nat.div_le_self _ _
    rw [xv_r, ih, xv_shr (by omega), Nat.div_div_eq_div_mul, ← Nat.pow_succ]
theorem xv_r_pos {n : Nat} (h : n < 2 ^ 63) (k : Nat) : 0 < xv_r (lN n) k ↔ ¬ n < 256 ^ (k + 1) := by
  have h2 : n / 256 ^ (k + 1) ≤ n := Nat.div_le_self _ _
  rw [xv_r_eq h, show (0 : Int64) = lN 0 from by decide, pk_lLT (by decide) (by omega)]
  have h3 : 0 < 256 ^ (k + 1) := Nat.pow_pos (by decide)
  rw [← Nat.div_eq_zero_iff_lt h3]
  generalize n / 256 ^ (k + 1) = m
  omega
theorem xv_same {v : Int64} (hv : ¬ v < 0) : xv_n v 7 = xv_by v := by
  obtain ⟨n, hn, rfl⟩ := pk_lOf hv
  have t := xv_tn hn
  have a1 := xv_lu0 (lN n) (nI (8 * 1)) 8 (by decide)
  have a2 := xv_lu0 (lN n) (nI (8 * 2)) 16 (by decide)
  have a3 := xv_lu0 (lN n) (nI (8 * 3)) 24 (by decide)
  have a4 := xv_lu0 (lN n) (nI (8 * 4)) 32 (by decide)
  have a5 := xv_lu0 (lN n) (nI (8 * 5)) 40 (by decide)
  have a6 := xv_lu0 (lN n) (nI (8 * 6)) 48 (by decide)
  have a7 := xv_lu0 (lN n) (nI (8 * 7)) 56 (by decide)
  rw [t] at a1 a2 a3 a4 a5 a6 a7
  simp only [xv_by, xv_R, xv_n, a1, a2, a3, a4, a5, a6, a7, xv_r_pos hn]
  simp only [Nat.reducePow, Nat.reduceAdd]
  by_cases c1 : n < 256
  · simp only [c1, if_true, show n < 65536 from by omega, show n < 16777216 from by omega, show n < 4294967296 from by omega, show n < 1099511627776 from by omega, show n < 281474976710656 from by omega, show n < 72057594037927936 from by omega, not_true, if_false]
  by_cases c2 : n < 65536
  · simp only [c1, c2, if_true, show n < 16777216 from by omega, show n < 4294967296 from by omega, show n < 1099511627776 from by omega, show n < 281474976710656 from by omega, show n < 72057594037927936 from by omega, not_true, not_false_iff, if_false]
  by_cases c3 : n < 16777216
  · simp only [c1, c2, c3, if_true, show n < 4294967296 from by omega, show n < 1099511627776 from by omega, show n < 281474976710656 from by omega, show n < 72057594037927936 from by omega, not_true, not_false_iff, if_false]
  by_cases c4 : n < 4294967296
  · simp only [c1, c2, c3, c4, if_true, show n < 1099511627776 from by omega, show n < 281474976710656 from by omega, show n < 72057594037927936 from by omega, not_true, not_false_iff, if_false]
  by_cases c5 : n < 1099511627776
  · simp only [c1, c2, c3, c4, c5, if_true, show n < 281474976710656 from by omega, show n < 72057594037927936 from by omega, not_true, not_false_iff, if_false]
  by_cases c6 : n < 281474976710656
  · simp only [c1, c2, c3, c4, c5, c6, if_true, show n < 72057594037927936 from by omega, not_true, not_false_iff, if_false]
  by_cases c7 : n < 72057594037927936
  · simp only [c1, c2, c3, c4, c5, c6, c7, if_true, not_true, not_false_iff, if_false]
  · simp only [c1, c2, c3, c4, c5, c6, c7, if_true, not_false_iff, if_false]
theorem xv_neg {v : Int64} (hv : v < 0) : xv_by v = 8 := by
  have t : ¬ v.toBitVec.toNat < 2 ^ 63 := by
    intro z
    rw [Int64.lt_iff_toInt_lt] at hv
    have h0 : (0 : Int64).toInt = 0 := by decide
    have e : v.toInt = v.toBitVec.toNat := by
      show v.toBitVec.toInt = _
      rw [BitVec.toInt_eq_toNat_of_lt (by omega)]
    omega
  have a1 := xv_lu0 v (nI (8 * 1)) 8 (by decide)
  have a2 := xv_lu0 v (nI (8 * 2)) 16 (by decide)
  have a3 := xv_lu0 v (nI (8 * 3)) 24 (by decide)
  have a4 := xv_lu0 v (nI (8 * 4)) 32 (by decide)
  have a5 := xv_lu0 v (nI (8 * 5)) 40 (by decide)
  have a6 := xv_lu0 v (nI (8 * 6)) 48 (by decide)
  have a7 := xv_lu0 v (nI (8 * 7)) 56 (by decide)
  simp only [Nat.reducePow] at *
  simp only [xv_by, xv_R]
  rw [if_neg (by rw [a1]; omega), if_neg (by rw [a2]; omega), if_neg (by rw [a3]; omega), if_neg (by rw [a4]; omega), if_neg (by rw [a5]; omega), if_neg (by rw [a6]; omega), if_neg (by rw [a7]; omega)]
theorem xv_R_le (v : Int64) : ∀ n b, b ≤ xv_R v b n ∧ xv_R v b n ≤ b + n := by
  intro n
  induction n with
  | zero => intro b; simp [xv_R]
  | succ n ih =>
    intro b
    simp only [xv_R]
    split
    · omega
    · have := ih (b + 1); omega
theorem xv_by_le (v : Int64) : 1 ≤ xv_by v ∧ xv_by v ≤ 8 := by
  have := xv_R_le v 7 1
  unfold xv_by; omega
theorem xv_vp_le (v : Int64) : xv_vp v ≤ 4 := by
  have := xv_by_le v
  unfold xv_vp
  split <;> omega
