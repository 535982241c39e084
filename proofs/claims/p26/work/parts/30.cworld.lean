/-! ===== the class's worlds: which cell lies where ===== -/
theorem k8_cases {k : Nat} (hk : k < 8) : k = 0 ∨ k = 1 ∨ k = 2 ∨ k = 3 ∨ k = 4 ∨ k = 5 ∨ k = 6 ∨ k = 7 := by omega
theorem w12_cases {w : Nat} (hw : w < 12) : w = 0 ∨ w = 1 ∨ w = 2 ∨ w = 3 ∨ w = 4 ∨ w = 5 ∨ w = 6 ∨ w = 7 ∨ w = 8 ∨ w = 9 ∨ w = 10 ∨ w = 11 := by omega
theorem wS_at {ca : Nat → ClassId} {a : Nat → Nat} {h : Nat → Int32} {c : Nat → Nat → Int32} {z : Nat → Int32} {k : Nat} (hk : k < 8) : (wS ca a h c z)[2 + k]? = some (a (2 + k), .inr (0, cupF (c k) (z k))) := by
  rcases k8_cases hk with rfl | rfl | rfl | rfl | rfl | rfl | rfl | rfl <;> rfl
theorem cupF_set {c : Nat → Nat → Int32} {k w : Nat} {x y : Int32} (hw : w < 12) : (cupF (c k) y).set w (.int x) = cupF (u2 c k w x k) y := by
  have h : ∀ w2, w2 ≠ w → u2 c k w x k w2 = c k w2 := fun w2 h => u2_nw h
  rcases w12_cases hw with rfl | rfl | rfl | rfl | rfl | rfl | rfl | rfl | rfl | rfl | rfl | rfl <;> simp [cupF, u2]
theorem cupF_ne {c : Nat → Nat → Int32} {k k2 w : Nat} {x y : Int32} (h : k2 ≠ k) : cupF (u2 c k w x k2) y = cupF (c k2) y := by
  simp [cupF, u2, h]
theorem wS_set {ca : Nat → ClassId} {a : Nat → Nat} {h : Nat → Int32} {c : Nat → Nat → Int32} {z : Nat → Int32} {k w : Nat} {x : Int32} (hk : k < 8) (hw : w < 12) : (wS ca a h c z).set (2 + k) (a (2 + k), .inr (0, (cupF (c k) (z k)).set w (.int x))) = wS ca a h (u2 c k w x) z := by
  rw [cupF_set hw]
  rcases k8_cases hk with rfl | rfl | rfl | rfl | rfl | rfl | rfl | rfl <;> (simp only [wS]; simp [cupF_ne])
theorem wS_setz {ca : Nat → ClassId} {a : Nat → Nat} {h : Nat → Int32} {c : Nat → Nat → Int32} {z : Nat → Int32} {k : Nat} {x : Int32} (hk : k < 8) : (wS ca a h c z).set (2 + k) (a (2 + k), .inr (0, (cupF (c k) (z k)).set 12 (.int x))) = wS ca a h c (upd z k x) := by
  have e : (cupF (c k) (z k)).set 12 (.int x) = cupF (c k) x := rfl
  rw [e]
  rcases k8_cases hk with rfl | rfl | rfl | rfl | rfl | rfl | rfl | rfl <;> (simp only [wS]; simp [upd])
def wSr (ca : Nat → ClassId) (a : Nat → Nat) (h : Nat → Int32) (c : Nat → Nat → Int32) (z : Nat → Int32) (k : Nat) : va_W := (wS ca a h c z).eraseIdx (2 + k)
def pk1 (k : Nat) : List Nat := (2 + k) :: ((List.range 10).eraseIdx (2 + k))
theorem wS_pm {ca : Nat → ClassId} {a : Nat → Nat} {h : Nat → Int32} {c : Nat → Nat → Int32} {z : Nat → Int32} {k : Nat} (hk : k < 8) : (wS ca a h c z).Perm (wC (a (2 + k)) (c k) (z k) ++ wSr ca a h c z k) := by
  rcases k8_cases hk with rfl | rfl | rfl | rfl | rfl | rfl | rfl | rfl
  · exact z_pick (pk1 0) rfl rfl
  · exact z_pick (pk1 1) rfl rfl
  · exact z_pick (pk1 2) rfl rfl
  · exact z_pick (pk1 3) rfl rfl
  · exact z_pick (pk1 4) rfl rfl
  · exact z_pick (pk1 5) rfl rfl
  · exact z_pick (pk1 6) rfl rfl
  · exact z_pick (pk1 7) rfl rfl
theorem wS_pm1 {ca : Nat → ClassId} {a : Nat → Nat} {h : Nat → Int32} {c : Nat → Nat → Int32} {z : Nat → Int32} {k : Nat} {r : Nat → Int32} (hk : k < 8) : (wC (a (2 + k)) r (z k) ++ wSr ca a h c z k).Perm (wS ca a h (va_up c k r) z) := by
  rcases k8_cases hk with rfl | rfl | rfl | rfl | rfl | rfl | rfl | rfl
  · exact (z_pick (ws := wS ca a h (va_up c 0 r) z) (pk1 0) rfl rfl).symm
  · exact (z_pick (ws := wS ca a h (va_up c 1 r) z) (pk1 1) rfl rfl).symm
  · exact (z_pick (ws := wS ca a h (va_up c 2 r) z) (pk1 2) rfl rfl).symm
  · exact (z_pick (ws := wS ca a h (va_up c 3 r) z) (pk1 3) rfl rfl).symm
  · exact (z_pick (ws := wS ca a h (va_up c 4 r) z) (pk1 4) rfl rfl).symm
  · exact (z_pick (ws := wS ca a h (va_up c 5 r) z) (pk1 5) rfl rfl).symm
  · exact (z_pick (ws := wS ca a h (va_up c 6 r) z) (pk1 6) rfl rfl).symm
  · exact (z_pick (ws := wS ca a h (va_up c 7 r) z) (pk1 7) rfl rfl).symm
/-! two states: the one that is written ahead -/
def w2S (ca : Nat → ClassId) (a b : Nat → Nat) (h : Nat → Int32) (c : Nat → Nat → Int32) (h2 : Nat → Int32) (c2 : Nat → Nat → Int32) (z z2 : Nat → Int32) : va_W := wS ca a h c z ++ wS ca b h2 c2 z2
theorem w2S_a {ca : Nat → ClassId} {a b : Nat → Nat} {h : Nat → Int32} {c : Nat → Nat → Int32} {h2 : Nat → Int32} {c2 : Nat → Nat → Int32} {z z2 : Nat → Int32} {k : Nat} (hk : k < 8) : (w2S ca a b h c h2 c2 z z2)[2 + k]? = some (a (2 + k), .inr (0, cupF (c k) (z k))) := by
  rcases k8_cases hk with rfl | rfl | rfl | rfl | rfl | rfl | rfl | rfl <;> rfl
def w2r (ca : Nat → ClassId) (a b : Nat → Nat) (h : Nat → Int32) (c : Nat → Nat → Int32) (h2 : Nat → Int32) (c2 : Nat → Nat → Int32) (z z2 : Nat → Int32) (k : Nat) : va_W := wSr ca a h c z k ++ wSr ca b h2 c2 z2 k
theorem perm4 {α : Type} (A B C D : List α) : ((A ++ B) ++ (C ++ D)).Perm ((A ++ C) ++ (B ++ D)) := by
  rw [List.append_assoc, List.append_assoc]
  exact List.Perm.append_left A (List.perm_append_comm_assoc B C D)
theorem w2_pm {ca : Nat → ClassId} {a b : Nat → Nat} {h : Nat → Int32} {c : Nat → Nat → Int32} {h2 : Nat → Int32} {c2 : Nat → Nat → Int32} {z z2 : Nat → Int32} {k : Nat} (hk : k < 8) : (w2S ca a b h c h2 c2 z z2).Perm ((wC (a (2 + k)) (c k) (z k) ++ wC (b (2 + k)) (c2 k) (z2 k)) ++ w2r ca a b h c h2 c2 z z2 k) :=
  ((wS_pm hk).append (wS_pm hk)).trans (perm4 _ _ _ _)
theorem up_same {c : Nat → Nat → Int32} {k : Nat} : va_up c k (c k) = c := by
  funext k2
  by_cases h : k2 = k
  · subst h; simp [va_up]
  · simp [va_up, h]
theorem w2_pm1 {ca : Nat → ClassId} {a b : Nat → Nat} {h : Nat → Int32} {c : Nat → Nat → Int32} {h2 : Nat → Int32} {c2 : Nat → Nat → Int32} {z z2 : Nat → Int32} {k : Nat} {r : Nat → Int32} (hk : k < 8) : ((wC (a (2 + k)) r (z k) ++ wC (b (2 + k)) (c2 k) (z2 k)) ++ w2r ca a b h c h2 c2 z z2 k).Perm (w2S ca a b h (va_up c k r) h2 c2 z z2) :=
  (perm4 _ _ _ _).trans ((wS_pm1 hk).append (wS_pm hk).symm)
/-! booleans -/
def b01 (x : Int32) : Prop := x = 0 ∨ x = 1
theorem b01_n {x : Int32} (h : b01 x) : narrow .boolean (.int x) = .int x := by rcases h with rfl | rfl <;> rfl
theorem b01_f {x : Int32} (h : b01 x) : fits .boolean (.int x) = true := by rcases h with rfl | rfl <;> rfl
theorem b01_a {x : Int32} (h : b01 x) : (if x = 0 then (0 : Int32) else 1) = x := by rcases h with rfl | rfl <;> rfl
theorem up_u2 {c : Nat → Nat → Int32} {k w : Nat} {x : Int32} : va_up c k (upd (c k) w x) = u2 c k w x := by
  funext k2 w2
  by_cases h1 : k2 = k
  · subst h1
    by_cases h2 : w2 = w
    · subst h2; simp [va_up, u2, upd]
    · simp [va_up, u2, upd, h2]
  · simp [va_up, u2, h1]
def numF (x : Int32) : Int32 := if x = 0 then 0 else 1
def errF (x : Int32) : Int32 := if 0 ≤ x then 0 else if x = -5 then 0 else 1
theorem errF_n (x : Int32) : narrow .boolean (.int (errF x)) = .int (errF x) := by
  unfold errF; split
  · exact nb0
  · split
    · exact nb0
    · exact nb1
/-! a cup's own acts, on its row of numbers -/
def fullR (c : Nat → Int32) : Int32 := if c 3 < c 0 then 0 else 1
theorem fullR_n (c : Nat → Int32) : narrow .boolean (.int (fullR c)) = .int (fullR c) := by
  unfold fullR; split
  · exact nb0
  · exact nb1
def highR (c : Nat → Int32) : Int32 := if c 0 ≤ 0 then 0 else 10 * c 3 / c 0
def jetR (c : Nat → Int32) : Int32 := if 30 ≤ highR c then 30 else highR c
def tip0 (c : Nat → Int32) : Nat → Int32 := upd (upd (upd c 7 (jetR c)) 3 0) 8 (c 8 + 1)
def tipR (c : Nat → Int32) (hour : Int32) : Nat → Int32 := if c 4 = -1 then tip0 c else if hour = c 4 then upd (tip0 c) 9 (c 9 + 1) else if c 4 ≤ hour then upd (tip0 c) 11 (c 11 + 1) else upd (tip0 c) 10 (c 10 + 1)
def overR (c : Nat → Int32) : Int32 := if c 3 ≤ 9999 then 0 else c 3 - 9999
def dripR (c : Nat → Int32) : Int32 := if c 1 < c 3 then c 1 else c 3
def tellR (c : Nat → Int32) (what : Int32) : Int32 := if inF what 0 11 = 0 then -2 else if what = 4 then (if c 4 = -1 then -5 else c (nn what)) else c (nn what)
theorem sw12 (x : Int32) : inF x 0 11 = 0 ∨ x = 0 ∨ x = 1 ∨ x = 2 ∨ x = 3 ∨ x = 4 ∨ x = 5 ∨ x = 6 ∨ x = 7 ∨ x = 8 ∨ x = 9 ∨ x = 10 ∨ x = 11 := by
  by_cases h : inF x 0 11 = 0
  · exact Or.inl h
  · obtain ⟨k, hk, e⟩ := i32_nI (n := 11) (Or.inl rfl) rfl (by decide) (inF_ne h)
    subst e
    rcases w12_cases (show k < 12 by omega) with rfl | rfl | rfl | rfl | rfl | rfl | rfl | rfl | rfl | rfl | rfl | rfl <;> decide
theorem sw13 (x : Int32) : inF x 0 12 = 0 ∨ x = 0 ∨ x = 1 ∨ x = 2 ∨ x = 3 ∨ x = 4 ∨ x = 5 ∨ x = 6 ∨ x = 7 ∨ x = 8 ∨ x = 9 ∨ x = 10 ∨ x = 11 ∨ x = 12 := by
  by_cases h : inF x 0 12 = 0
  · exact Or.inl h
  · obtain ⟨k, hk, e⟩ := i32_nI (n := 12) (Or.inl rfl) rfl (by decide) (inF_ne h)
    subst e
    have h13 : k = 12 ∨ k < 12 := by omega
    rcases h13 with rfl | h13
    · decide
    · rcases w12_cases h13 with rfl | rfl | rfl | rfl | rfl | rfl | rfl | rfl | rfl | rfl | rfl | rfl <;> decide
theorem sw3 (x : Int32) : inF x 0 2 = 0 ∨ x = 0 ∨ x = 1 ∨ x = 2 := by
  by_cases h : inF x 0 2 = 0
  · exact Or.inl h
  · obtain ⟨k, hk, e⟩ := i32_nI (n := 2) (Or.inl rfl) rfl (by decide) (inF_ne h)
    subst e
    have h3 : k = 0 ∨ k = 1 ∨ k = 2 := by omega
    rcases h3 with rfl | rfl | rfl <;> decide
