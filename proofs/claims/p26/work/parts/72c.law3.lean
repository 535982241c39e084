/-! ===== the law's rows of numbers ===== -/
theorem upd_upd9 {f : Nat → Int32} {i : Nat} {a b : Int32} : upd (upd f i a) i b = upd f i b := by
  funext j
  by_cases h : j = i
  · subst h; rw [pk_us, pk_us]
  · rw [pk_un h, pk_un h, pk_un h]
def fwF (i : Nat) : Nat := if i = 3 then 8 else 9 + i
theorem i4_cases {i : Nat} (hi : i < 4) : i = 0 ∨ i = 1 ∨ i = 2 ∨ i = 3 := by omega
theorem fw_i {i : Nat} (hi : i < 4) : 8 + ((nI i + 1) - (nI i + 1) / 4 * 4) = nI (fwF i) := by
  rcases i4_cases hi with rfl | rfl | rfl | rfl <;> decide
theorem fwF_lt {i : Nat} (hi : i < 4) : fwF i < 12 ∧ fwF i ≠ 4 := by
  unfold fwF
  split <;> omega
noncomputable def dUp (p : HC) (n : Nat) : Nat → Nat → Int32
  | 0 => fun _ => 0
  | i + 1 => upd (dUp p n i) i (kifR p (nI n) (nI i))
def hUp (p : HC) : Nat → Nat → Int32
  | 0 => fun _ => 0
  | i + 1 => upd (hUp p i) i (sumF p.2 (fwF i) 8)
theorem dUp_at {p : HC} {n : Nat} : ∀ i k, k < i → dUp p n i k = kifR p (nI n) (nI k) := by
  intro i
  induction i with
  | zero => intro k h; exact absurd h (Nat.not_lt_zero _)
  | succ i ih =>
    intro k h
    rw [dUp]
    by_cases e : k = i
    · subst e; exact pk_us
    · rw [pk_un e]; exact ih k (by omega)
theorem hUp_at {p : HC} : ∀ i k, k < i → hUp p i k = sumF p.2 (fwF k) 8 := by
  intro i
  induction i with
  | zero => intro k h; exact absurd h (Nat.not_lt_zero _)
  | succ i ih =>
    intro k h
    rw [hUp]
    by_cases e : k = i
    · subst e; exact pk_us
    · rw [pk_un e]; exact ih k (by omega)
theorem hUp_ge {p : HC} : ∀ i k, i ≤ k → hUp p i k = 0 := by
  intro i
  induction i with
  | zero => intro k _; rfl
  | succ i ih => intro k h; rw [hUp, pk_un (by omega)]; exact ih k (by omega)
theorem hUp_z {p : HC} {i : Nat} : upd (hUp p i) i 0 = hUp p i := by
  have g := upd_same (f := hUp p i) (k := i)
  rw [hUp_ge i i (Nat.le_refl _)] at g
  exact g
theorem ifs_eq {p : HC} (h : CI p) {n i : Nat} (h1 : 1 ≤ n) (h2 : n ≤ 99) (hi : i < 4) : sumF (tkN p n).2 (fwF i) 8 - hUp p 4 i = dUp p n 4 i := by
  rw [hUp_at 4 i hi, dUp_at 4 i hi]
  have e1 : ¬ inF (nI n) 1 500 = 0 := by
    unfold inF
    rw [if_neg (show ¬ nI n < 1 from nI_nlt (b := 1) h1 (by omega)), if_neg (show ¬ (500 : Int32) < nI n from nI_nlt (a := 500) (by omega) (by decide))]
    decide
  have e2 : ¬ inF (nI i) 0 3 = 0 := by rcases i4_cases hi with rfl | rfl | rfl | rfl <;> decide
  have e3 : (if nI i = 3 then (8 : Int32) else 9 + nI i) = nI (fwF i) := by rcases i4_cases hi with rfl | rfl | rfl | rfl <;> decide
  have hf := fwF_lt hi
  unfold kifR kifX
  rw [if_neg e1, if_neg e2, e3, ts_eq _ hf.1 hf.2, ts_eq _ hf.1 hf.2, nn_nI (by omega), kN_eq h]
theorem ifs_all {p : HC} (h : CI p) {n : Nat} (h1 : 1 ≤ n) (h2 : n ≤ 99) : kS p n = dUp p n 4 3 := by
  rw [← ifs_eq h h1 h2 (i := 3) (by decide), hUp_at 4 3 (by decide)]
  show _ = sumF (tkN p n).2 8 8 - sumF p.2 8 8
  rw [kS_sum h, add_sub9]
noncomputable def wUp (p : HC) : Nat → Nat → Int32
  | 0 => fun _ => 0
  | i + 1 => upd (wUp p i) i (kreR p (nI i))
theorem wUp_at {p : HC} : ∀ i k, k < i → wUp p i k = kreR p (nI k) := by
  intro i
  induction i with
  | zero => intro k h; exact absurd h (Nat.not_lt_zero _)
  | succ i ih =>
    intro k h
    rw [wUp]
    by_cases e : k = i
    · subst e; exact pk_us
    · rw [pk_un e]; exact ih k (by omega)
def gRow (f : Nat → Int32) (p : HC) (k : Nat) : Nat → Nat → Int32
  | 0 => f
  | d + 1 => upd (gRow f p k d) (4 * k + d) (p.2 k (8 + d))
def gUp (p : HC) : Nat → Nat → Int32
  | 0 => fun _ => 0
  | k + 1 => gRow (gUp p k) p k 4
theorem gRow_in {f : Nat → Int32} {p : HC} {k : Nat} : ∀ d c, c < d → gRow f p k d (4 * k + c) = p.2 k (8 + c) := by
  intro d
  induction d with
  | zero => intro c h; exact absurd h (Nat.not_lt_zero _)
  | succ d ih =>
    intro c h
    rw [gRow]
    by_cases e : c = d
    · subst e; exact pk_us
    · rw [pk_un (by omega)]; exact ih c (by omega)
theorem gRow_out {f : Nat → Int32} {p : HC} {k j : Nat} (hj : j < 4 * k) : ∀ d, gRow f p k d j = f j := by
  intro d
  induction d with
  | zero => rfl
  | succ d ih => rw [gRow, pk_un (by omega)]; exact ih
theorem gUp_at {p : HC} {c : Nat} (hc : c < 4) : ∀ i k, k < i → gUp p i (4 * k + c) = p.2 k (8 + c) := by
  intro i
  induction i with
  | zero => intro k h; exact absurd h (Nat.not_lt_zero _)
  | succ i ih =>
    intro k h
    rw [gUp]
    by_cases e : k = i
    · subst e; exact gRow_in 4 c hc
    · rw [gRow_out (by omega)]; exact ih k (by omega)
theorem x4 (k d : Nat) : 4 * nI k + nI d = nI (4 * k + d) := by
  rw [show (4 : Int32) = nI 4 from rfl, pk_mul, nI_add]
theorem x40 (k : Nat) : 4 * nI k = nI (4 * k + 0) := by
  rw [show (4 : Int32) = nI 4 from rfl, pk_mul]
  rfl
theorem hweq {F : Nat} {p : HC} (h : PI F p) {k : Nat} (hk : k < 8) : (if kreR p (nI k) = 0 then (1 : Int32) else 0) = if ktiR p (nI k) = 1 then 1 else 0 := by
  have a := (h.why hk).2.2
  have b := h.tips1 hk
  by_cases z : tg p k 0 = 0
  · rw [if_neg (fun q => a.mp q z), if_neg (fun q => b.mp q z)]
  · rw [if_pos (a.mpr z), if_pos (b.mpr z)]
theorem hwz {F : Nat} {p : HC} (h : PI F p) {k : Nat} (hk : k < 8) : tg p k 0 = if kreR p (nI k) = 0 then 1 else 0 := by
  have a := (h.why hk).2.2
  by_cases z : tg p k 0 = 0
  · rw [if_neg (fun q => a.mp q z), z]
  · rw [if_pos (a.mpr z), tg_one z]
