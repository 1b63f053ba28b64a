/-! Pure: what the loops that move cells leave behind. -/
def xm_sh {α : Type} (f : Nat → α) (n i : Nat) : Nat → α := fun j => if i < j ∧ j ≤ n then f (j - 1) else f j
theorem xm_sh_0 {α : Type} (f : Nat → α) (n : Nat) : xm_sh f n n = f := by
  funext j; unfold xm_sh; rw [if_neg (by omega)]
theorem xm_sh_at {α : Type} (f : Nat → α) {n i : Nat} (h : 0 < i) : xm_sh f n i (i - 1) = f (i - 1) := by
  unfold xm_sh; rw [if_neg (by omega)]
theorem xm_sh_up (f : Nat → Int32) {n i : Nat} (h : 0 < i) (hn : i ≤ n) : upd (xm_sh f n i) i (f (i - 1)) = xm_sh f n (i - 1) := by
  funext j
  by_cases z : j = i
  · subst z; rw [pk_us]; unfold xm_sh; rw [if_pos (by omega)]
  · rw [pk_un z]; unfold xm_sh
    by_cases y : i < j ∧ j ≤ n
    · rw [if_pos y, if_pos (by omega)]
    · rw [if_neg y, if_neg (by omega)]
theorem xm_sh_upL (f : Nat → Int64) {n i : Nat} (h : 0 < i) (hn : i ≤ n) : vp_updL (xm_sh f n i) i (f (i - 1)) = xm_sh f n (i - 1) := by
  funext j
  by_cases z : j = i
  · subst z; rw [pk_uLs]; unfold xm_sh; rw [if_pos (by omega)]
  · rw [pk_uLn z]; unfold xm_sh
    by_cases y : i < j ∧ j ≤ n
    · rw [if_pos y, if_pos (by omega)]
    · rw [if_neg y, if_neg (by omega)]
theorem xm_sh_ins (f : Nat → Int32) (n b : Nat) (x : Int32) {j : Nat} (hj : j < n + 1) : upd (xm_sh f n b) b x j = xk_ins f b x j := by
  unfold xk_ins
  by_cases z : j = b
  · subst z; rw [pk_us, if_neg (by omega), if_pos rfl]
  · rw [pk_un z]; unfold xm_sh
    by_cases y : j < b
    · rw [if_pos y, if_neg (by omega)]
    · rw [if_neg y, if_neg z, if_pos (by omega)]
theorem xm_sh_insL (f : Nat → Int64) (n b : Nat) (x : Int64) {j : Nat} (hj : j < n + 1) : vp_updL (xm_sh f n b) b x j = xk_ins f b x j := by
  unfold xk_ins
  by_cases z : j = b
  · subst z; rw [pk_uLs, if_neg (by omega), if_pos rfl]
  · rw [pk_uLn z]; unfold xm_sh
    by_cases y : j < b
    · rw [if_pos y, if_neg (by omega)]
    · rw [if_neg y, if_neg z, if_pos (by omega)]
def xm_dn {α : Type} (f : Nat → α) (a i : Nat) : Nat → α := fun j => if a ≤ j ∧ j < i then f (j + 1) else f j
theorem xm_dn_0 {α : Type} (f : Nat → α) (a : Nat) : xm_dn f a a = f := by
  funext j; unfold xm_dn; rw [if_neg (by omega)]
theorem xm_dn_at {α : Type} (f : Nat → α) (a i : Nat) : xm_dn f a i (i + 1) = f (i + 1) := by
  unfold xm_dn; rw [if_neg (by omega)]
theorem xm_dn_up (f : Nat → Int32) {a i : Nat} (h : a ≤ i) : upd (xm_dn f a i) i (f (i + 1)) = xm_dn f a (i + 1) := by
  funext j
  by_cases z : j = i
  · subst z; rw [pk_us]; unfold xm_dn; rw [if_pos (by omega)]
  · rw [pk_un z]; unfold xm_dn
    by_cases y : a ≤ j ∧ j < i
    · rw [if_pos y, if_pos (by omega)]
    · rw [if_neg y, if_neg (by omega)]
theorem xm_dn_upL (f : Nat → Int64) {a i : Nat} (h : a ≤ i) : vp_updL (xm_dn f a i) i (f (i + 1)) = xm_dn f a (i + 1) := by
  funext j
  by_cases z : j = i
  · subst z; rw [pk_uLs]; unfold xm_dn; rw [if_pos (by omega)]
  · rw [pk_uLn z]; unfold xm_dn
    by_cases y : a ≤ j ∧ j < i
    · rw [if_pos y, if_pos (by omega)]
    · rw [if_neg y, if_neg (by omega)]
theorem xm_dn_del {α : Type} (f : Nat → α) (a n : Nat) {j : Nat} (hj : j + 1 < n) : xm_dn f a (n - 1) j = xk_del f a j := by
  unfold xm_dn xk_del
  by_cases y : j < a
  · rw [if_pos y, if_neg (by omega)]
  · rw [if_neg y, if_pos (by omega)]
def xm_cp {α : Type} (f g : Nat → α) (i : Nat) : Nat → α := fun j => if j < i then g j else f j
theorem xm_cp_0 {α : Type} (f g : Nat → α) : xm_cp f g 0 = f := by
  funext j; unfold xm_cp; rw [if_neg (by omega)]
theorem xm_cp_up (f g : Nat → Int32) (i : Nat) : upd (xm_cp f g i) i (g i) = xm_cp f g (i + 1) := by
  funext j
  by_cases z : j = i
  · subst z; rw [pk_us]; unfold xm_cp; rw [if_pos (by omega)]
  · rw [pk_un z]; unfold xm_cp
    by_cases y : j < i
    · rw [if_pos y, if_pos (by omega)]
    · rw [if_neg y, if_neg (by omega)]
theorem xm_cp_upL (f g : Nat → Int64) (i : Nat) : vp_updL (xm_cp f g i) i (g i) = xm_cp f g (i + 1) := by
  funext j
  by_cases z : j = i
  · subst z; rw [pk_uLs]; unfold xm_cp; rw [if_pos (by omega)]
  · rw [pk_uLn z]; unfold xm_cp
    by_cases y : j < i
    · rw [if_pos y, if_pos (by omega)]
    · rw [if_neg y, if_neg (by omega)]
theorem xm_cp_in {α : Type} (f g : Nat → α) {i j : Nat} (h : j < i) : xm_cp f g i j = g j := by unfold xm_cp; rw [if_pos h]
theorem xm_cp_tie {f fb : Nat → Int32} {g gb : Nat → Int64} {K : List xk_E} (h : xk_tie fb gb K) {n : Nat} (hn : n = K.length) : xk_tie (xm_cp f fb n) (xm_cp g gb n) K := by
  intro i hi
  rw [xm_cp_in _ _ (by omega), xm_cp_in _ _ (by omega)]
  exact h i hi
/-- the beginnings of batches, moved and counted anew -/
def xm_mb (f : Nat → Int32) (n w : Nat) : Nat → Int32 := fun j => if j < w then f (n + j) - nI n else f j
theorem xm_mb_0 (f : Nat → Int32) (n : Nat) : xm_mb f n 0 = f := by funext j; simp [xm_mb]
theorem xm_mb_at (f : Nat → Int32) (n w : Nat) : xm_mb f n w (n + w) = f (n + w) := by
  unfold xm_mb
  rw [if_neg (by omega)]
theorem xm_mb_up (f : Nat → Int32) (n w : Nat) : upd (xm_mb f n w) w (f (n + w) - nI n) = xm_mb f n (w + 1) := by
  funext j
  by_cases z : j = w
  · subst z; rw [pk_us]; unfold xm_mb; rw [if_pos (by omega)]
  · rw [pk_un z]; unfold xm_mb
    by_cases y : j < w
    · rw [if_pos y, if_pos (by omega)]
    · rw [if_neg y, if_neg (by omega)]
/-- System.arraycopy within the class's rows -/
theorem xm_ins (f : Nat → Int32) {n b : Nat} (hb : b ≤ n) (x : Int32) {j : Nat} (hj : j < n + 1) : upd (va_cpy f f b (b + 1) (n - b)) b x j = xk_ins f b x j := by
  unfold xk_ins
  by_cases z : j = b
  · subst z; rw [pk_us, if_neg (by omega), if_pos rfl]
  · rw [pk_un z]
    by_cases y : j < b
    · rw [if_pos y, pk_cpy_out (by omega)]
    · rw [if_neg y, if_neg z, pk_cpy_in (by omega) (by omega)]
      congr 1
      omega
theorem xm_insL (f : Nat → Int64) {n b : Nat} (hb : b ≤ n) (x : Int64) {j : Nat} (hj : j < n + 1) : vp_updL (va_cpy f f b (b + 1) (n - b)) b x j = xk_ins f b x j := by
  unfold xk_ins
  by_cases z : j = b
  · subst z; rw [pk_uLs, if_neg (by omega), if_pos rfl]
  · rw [pk_uLn z]
    by_cases y : j < b
    · rw [if_pos y, pk_cpy_out (by omega)]
    · rw [if_neg y, if_neg z, pk_cpy_in (by omega) (by omega)]
      congr 1
      omega
theorem xm_del {α : Type} (f : Nat → α) {n b : Nat} (hb : b < n) {j : Nat} (hj : j + 1 < n) : va_cpy f f (b + 1) b (n - 1 - b) j = xk_del f b j := by
  unfold xk_del
  by_cases y : j < b
  · rw [if_pos y, pk_cpy_out (by omega)]
  · rw [if_neg y, pk_cpy_in (by omega) (by omega)]
    congr 1
    omega
