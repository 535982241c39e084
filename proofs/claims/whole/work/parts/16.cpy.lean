/-! ===== copies, and what the history's row is behind a record ===== -/
theorem cpy_0 {F T : Nat → Int32} {i j : Nat} : va_cpy F T i j 0 = T := by
  funext q
  exact pk_cpy_out (by omega)
theorem cpy_s {F T : Nat → Int32} {i j k : Nat} : upd (va_cpy F T i j k) (j + k) (F (i + k)) = va_cpy F T i j (k + 1) := by
  funext q
  by_cases e : q = j + k
  · subst e
    rw [pk_us, pk_cpy_in (by omega) (by omega)]
    congr 1
    omega
  · rw [pk_un e]
    by_cases h : j ≤ q ∧ q < j + k
    · rw [pk_cpy_in h.1 h.2, pk_cpy_in h.1 (by omega)]
    · rw [pk_cpy_out (by omega), pk_cpy_out (by omega)]
theorem cpy_at {F T : Nat → Int32} {i n q : Nat} (h : q < n) : va_cpy F T i 0 n q = F (i + q) := by
  rw [pk_cpy_in (Nat.zero_le _) (by omega)]
  congr 1
theorem cpy_at0 {F T : Nat → Int32} {n q : Nat} (h : q < n) : va_cpy F T 0 0 n q = F q := by
  rw [cpy_at h]
  congr 1
  omega
def shF (hi : Nat → Int32) (k : Nat) : Nat → Int32 := fun q => if q < k then hi (104 + q) else hi q
theorem shF_0 {hi : Nat → Int32} : shF hi 0 = hi := by
  funext q
  simp [shF]
theorem shF_ge {hi : Nat → Int32} {k : Nat} : shF hi k (104 + k) = hi (104 + k) := by
  have h1 : ¬ 104 + k < k := by omega
  simp [shF, h1]
theorem shF_s {hi : Nat → Int32} {k : Nat} : upd (shF hi k) k (hi (104 + k)) = shF hi (k + 1) := by
  funext q
  by_cases e : q = k
  · subst e
    simp [pk_us, shF]
  · rw [pk_un e]
    by_cases h : q < k
    · have h2 : q < k + 1 := by omega
      simp [shF, h, h2]
    · have h2 : ¬ q < k + 1 := by omega
      simp [shF, h, h2]
def recK (kp : Nat) : Nat := if kp = 4 then 4 else kp + 1
def recHi (hi row : Nat → Int32) (kp : Nat) : Nat → Int32 := if kp = 4 then va_cpy row (shF hi 312) 0 312 104 else va_cpy row hi 0 (104 * kp) 104
def actF (f : Nat → Int32) (kp : Nat) (r : Int32) : Nat → Int32 := if r < 0 then f else upd f 2 (nI (recK kp))
def actHi (hi row : Nat → Int32) (kp : Nat) (r : Int32) : Nat → Int32 := if r < 0 then hi else recHi hi row kp
/-- a row of numbers counts by its places alone -/
theorem zw.cell {G : va_G} {ca : Nat → ClassId} {A : Nat → Prop} {H0 : Heap} {s : State} {ws : va_W} {H : Heap} {locs : List Loc} (hz : zw G ca A H0 s ws H locs) {g : Nat → Int32} (q0 : Nat) {x n : Nat} {cA : ClassId} {f : Nat → Int32} (hq : ws[q0]? = some (x, .inl (cA, n, .inl f))) (h : ∀ j, j < n → f j = g j) : zw G ca A H0 s (ws.set q0 (x, .inl (cA, n, .inl g))) H locs := by
  refine ⟨hz.1, hz.2.1.set hz.2.2.1 hq ?_ (fun _ _ => rfl), hz.2.2.1.set hq, hz.2.2.2⟩
  have h1 := hz.2.1 q0 _ hq
  show H[x]? = some (vp_cell cA (n, .inl g))
  rw [← arr_congr h]
  exact h1
