/-! ===== what the reference's methods do, as functions of the head h and the cups c ===== -/
def inF (x lo hi : Int32) : Int32 := if x < lo then 0 else if hi < x then 0 else 1
theorem inF_n (x lo hi : Int32) : narrow .boolean (.int (inF x lo hi)) = .int (inF x lo hi) := by
  unfold inF; split
  · rfl
  · split <;> rfl
theorem inF_01 (x lo hi : Int32) : inF x lo hi = 0 ∨ inF x lo hi = 1 := by
  unfold inF; split
  · exact Or.inl rfl
  · split
    · exact Or.inl rfl
    · exact Or.inr rfl
theorem inF_ne {x lo hi : Int32} (h : ¬ inF x lo hi = 0) : ¬ x < lo ∧ ¬ hi < x := by
  unfold inF at h
  split at h
  · exact absurd rfl h
  · rename_i h1
    split at h
    · exact absurd rfl h
    · rename_i h2; exact ⟨h1, h2⟩
theorem i32_nI {x lo hi : Int32} {n : Nat} (hlo : lo = 0 ∨ lo = 1) (hhi : hi = nI n) (hn : n < 2 ^ 31) (h : ¬ x < lo ∧ ¬ hi < x) : ∃ k, k ≤ n ∧ x = nI k := by
  have h0 : ¬ x < 0 := by
    intro q
    apply h.1
    rcases hlo with e | e
    · rw [e]; exact q
    · rw [e]; exact Int32.lt_trans q (by decide)
  obtain ⟨j, hj, e⟩ := nI_of h0
  refine ⟨j, ?_, e⟩
  have h2 := h.2
  rw [e, hhi, nI_ltI hn hj] at h2
  omega
theorem isCup_pos {x : Int32} (h : ¬ inF x 0 7 = 0) : ∃ k, k < 8 ∧ x = nI k := by
  obtain ⟨k, hk, e⟩ := i32_nI (n := 7) (Or.inl rfl) rfl (by decide) (inF_ne h)
  exact ⟨k, by omega, e⟩
def nn (x : Int32) : Nat := x.toNatClampNeg
theorem nn_nI {n : Nat} (h : n < 2 ^ 31) : nn (nI n) = n := nI_clamp h
def hrF (h : Nat → Int32) (t : Int32) : Int32 := t - t / h 7 * h 7
def fullF (c : Nat → Nat → Int32) (k : Nat) : Int32 := if c k 3 < c k 0 then 0 else 1
theorem fullF_n (c : Nat → Nat → Int32) (k : Nat) : narrow .boolean (.int (fullF c k)) = .int (fullF c k) := by
  unfold fullF; split <;> rfl
def pourH (h : Nat → Int32) (t : Nat) (x : Int32) : Nat → Int32 := if t = 8 then upd h 1 (h 1 + x) else h
def pourC (c : Nat → Nat → Int32) (t : Nat) (x : Int32) : Nat → Nat → Int32 := if t = 8 then c else u2 c t 3 (c t 3 + x)
def whenF (hour its : Int32) : Nat := if hour = its then 9 else if its ≤ hour then 11 else 10
theorem whenF_lt (hour its : Int32) : whenF hour its < 12 := by unfold whenF; split <;> (try split) <;> decide
def tipC (c : Nat → Nat → Int32) (k : Nat) (hour : Int32) : Nat → Nat → Int32 :=
  if c k 4 = -1 then u2 c k 8 (c k 8 + 1) else u2 (u2 c k 8 (c k 8 + 1)) k (whenF hour (c k 4)) (u2 c k 8 (c k 8 + 1) k (whenF hour (c k 4)) + 1)
def opF (c : Nat → Nat → Int32) (k : Nat) (hour : Int32) : Int32 := if c k 6 = 1 then (if hour = c k 4 then 1 else 0) else (if c k 5 = 1 then 1 else 0)
def tpF (c : Nat → Nat → Int32) (k : Nat) (hour : Int32) : Int32 := if fullF c k = 0 then 0 else if opF c k hour = 0 then 0 else 1
theorem tpF_n (c : Nat → Nat → Int32) (k : Nat) (hour : Int32) : vp_nar .boolean (tpF c k hour) = tpF c k hour := by
  unfold tpF; split
  · rfl
  · split <;> rfl
def jetF (c : Nat → Nat → Int32) (k : Nat) : Int32 := if 10 * c k 3 / c k 0 ≤ 30 then 10 * c k 3 / c k 0 else 30
def tokH (h : Nat → Int32) (c : Nat → Nat → Int32) (k : Nat) (hour : Int32) : Nat → Int32 :=
  if tpF c k hour = 0 then (if c k 3 ≤ 9999 then h else upd h 1 (h 1 + (c k 3 - 9999))) else pourH h (nn (c k 2)) (c k 3)
def tokC (c : Nat → Nat → Int32) (k : Nat) (hour : Int32) : Nat → Nat → Int32 :=
  if tpF c k hour = 0 then (if c k 3 ≤ 9999 then u2 c k 7 0 else u2 (u2 c k 7 0) k 3 9999) else tipC (pourC (u2 (u2 c k 7 (jetF c k)) k 3 0) (nn (c k 2)) (c k 3)) k hour
abbrev HC : Type := (Nat → Int32) × (Nat → Nat → Int32)
/-- the cups one after the other: tipping or keeping -/
def it1 (hour : Int32) (p : HC) : Nat → HC
  | 0 => p
  | n + 1 => (tokH (it1 hour p n).1 (it1 hour p n).2 n hour, tokC (it1 hour p n).2 n hour)
def itT (hour : Int32) (p : HC) (ti : Nat → Int32) : Nat → Nat → Int32
  | 0 => ti
  | n + 1 => upd (itT hour p ti n) n (tpF (it1 hour p n).2 n hour)
theorem it1_0 (hour : Int32) (p : HC) : it1 hour p 0 = p := rfl
theorem it1_s (hour : Int32) (p : HC) (n : Nat) : it1 hour p (n + 1) = (tokH (it1 hour p n).1 (it1 hour p n).2 n hour, tokC (it1 hour p n).2 n hour) := rfl
theorem itT_0 (hour : Int32) (p : HC) (ti : Nat → Int32) : itT hour p ti 0 = ti := rfl
theorem itT_s (hour : Int32) (p : HC) (ti : Nat → Int32) (n : Nat) : itT hour p ti (n + 1) = upd (itT hour p ti n) n (tpF (it1 hour p n).2 n hour) := rfl
def drF (c : Nat → Nat → Int32) (k : Nat) : Int32 := if c k 3 ≤ c k 1 then c k 3 else c k 1
/-- and each drips -/
def it2 (p : HC) : Nat → HC
  | 0 => p
  | n + 1 => (upd (it2 p n).1 2 ((it2 p n).1 2 + drF (it2 p n).2 n), u2 (it2 p n).2 n 3 ((it2 p n).2 n 3 - drF (it2 p n).2 n))
theorem it2_0 (p : HC) : it2 p 0 = p := rfl
theorem it2_s (p : HC) (n : Nat) : it2 p (n + 1) = (upd (it2 p n).1 2 ((it2 p n).1 2 + drF (it2 p n).2 n), u2 (it2 p n).2 n 3 ((it2 p n).2 n 3 - drF (it2 p n).2 n)) := rfl
def backF (h : Nat → Int32) : Int32 := if h 1 ≤ h 6 then h 1 else h 6
def springH (h : Nat → Int32) : Nat → Int32 := upd (upd h 1 (h 1 - backF h)) 3 (h 3 + h 5)
def springP (p : HC) : HC := (springH p.1, u2 p.2 0 3 (p.2 0 3 + (backF p.1 + p.1 5)))
def hourP (p : HC) : Int32 := hrF p.1 (p.1 0)
-- chosen, not defined: so nothing is unrolled where a tick is compared with a tick
theorem tick1_x : ∃ f : HC → HC, ∀ p, f p = it1 (hourP p) (springP p) 8 := ⟨_, fun _ => rfl⟩
noncomputable def tick1 : HC → HC := Classical.choose tick1_x
theorem tick1_d (p : HC) : tick1 p = it1 (hourP p) (springP p) 8 := Classical.choose_spec tick1_x p
theorem tick2_x : ∃ f : HC → HC, ∀ p, f p = it2 (tick1 p) 8 := ⟨_, fun _ => rfl⟩
noncomputable def tick2 : HC → HC := Classical.choose tick2_x
theorem tick2_d (p : HC) : tick2 p = it2 (tick1 p) 8 := Classical.choose_spec tick2_x p
/-- A TICK -/
noncomputable def tickP (p : HC) : HC := (upd (tick2 p).1 0 ((tick2 p).1 0 + 1), (tick2 p).2)
theorem tickP_1 (p : HC) : (tickP p).1 = upd (tick2 p).1 0 ((tick2 p).1 0 + 1) := rfl
theorem tickP_2 (p : HC) : (tickP p).2 = (tick2 p).2 := rfl
theorem tickT_x : ∃ f : HC → (Nat → Int32) → Nat → Int32, ∀ p ti, f p ti = itT (hourP p) (springP p) ti 8 := ⟨_, fun _ _ => rfl⟩
noncomputable def tickT : HC → (Nat → Int32) → Nat → Int32 := Classical.choose tickT_x
theorem tickT_d (p : HC) (ti : Nat → Int32) : tickT p ti = itT (hourP p) (springP p) ti 8 := Classical.choose_spec tickT_x p ti
def sumF (c : Nat → Nat → Int32) (w : Nat) : Nat → Int32
  | 0 => 0
  | n + 1 => sumF c w n + c n w
/-! what a tick leaves as it was -/
theorem hrF_upd {h : Nat → Int32} {t x : Int32} {j : Nat} (hj : j ≠ 7) : hrF (upd h j x) t = hrF h t := by simp [hrF, pk_un (Ne.symm hj)]
theorem tipC_w {c : Nat → Nat → Int32} {k k2 w : Nat} {hour : Int32} (hw : w < 8) : tipC c k hour k2 w = c k2 w := by
  have h9 : whenF hour (c k 4) = 9 ∨ whenF hour (c k 4) = 11 ∨ whenF hour (c k 4) = 10 := by unfold whenF; split <;> (try split) <;> simp
  unfold tipC
  split
  · exact u2_nw (by omega)
  · rw [u2_nw (by omega), u2_nw (by omega)]
theorem pourC_w {c : Nat → Nat → Int32} {t k2 w : Nat} {x : Int32} (hw : w ≠ 3) : pourC c t x k2 w = c k2 w := by
  unfold pourC
  split
  · rfl
  · exact u2_nw hw
theorem tokC_w {h : Nat → Int32} {c : Nat → Nat → Int32} {k k2 w : Nat} {hour : Int32} (hw : w < 8) (h3 : w ≠ 3) (h7 : w ≠ 7) : tokC c k hour k2 w = c k2 w := by
  unfold tokC
  split
  · split
    · exact u2_nw h7
    · rw [u2_nw h3, u2_nw h7]
  · rw [tipC_w hw, pourC_w h3, u2_nw h3, u2_nw h7]
theorem pourH_j {h : Nat → Int32} {t j : Nat} {x : Int32} (hj : j ≠ 1) : pourH h t x j = h j := by
  unfold pourH
  split
  · exact pk_un hj
  · rfl
theorem tokH_j {h : Nat → Int32} {c : Nat → Nat → Int32} {k j : Nat} {hour : Int32} (hj : j ≠ 1) : tokH h c k hour j = h j := by
  unfold tokH
  split
  · split
    · rfl
    · exact pk_un hj
  · exact pourH_j hj
theorem it1_w (hour : Int32) (p : HC) (n k2 w : Nat) (hw : w < 8) (h3 : w ≠ 3) (h7 : w ≠ 7) : (it1 hour p n).2 k2 w = p.2 k2 w := by
  induction n with
  | zero => rfl
  | succ n ih => exact (tokC_w (h := p.1) hw h3 h7).trans ih
theorem it1_j (hour : Int32) (p : HC) (n j : Nat) (hj : j ≠ 1) : (it1 hour p n).1 j = p.1 j := by
  induction n with
  | zero => rfl
  | succ n ih => exact (tokH_j hj).trans ih
theorem it2_w (p : HC) (n k2 w : Nat) (h3 : w ≠ 3) : (it2 p n).2 k2 w = p.2 k2 w := by
  induction n with
  | zero => rfl
  | succ n ih => exact (u2_nw h3).trans ih
theorem it2_j (p : HC) (n j : Nat) (hj : j ≠ 2) : (it2 p n).1 j = p.1 j := by
  induction n with
  | zero => rfl
  | succ n ih => exact (pk_un hj).trans ih
theorem springP_w (p : HC) (k2 w : Nat) (h3 : w ≠ 3) : (springP p).2 k2 w = p.2 k2 w := u2_nw h3
theorem springP_j (p : HC) (j : Nat) (h1 : j ≠ 1) (h3 : j ≠ 3) : (springP p).1 j = p.1 j := by
  show upd (upd p.1 1 _) 3 _ j = _
  rw [pk_un h3, pk_un h1]
theorem tickP_w (p : HC) (k2 w : Nat) (hw : w < 8) (h3 : w ≠ 3) (h7 : w ≠ 7) : (tickP p).2 k2 w = p.2 k2 w :=
  show (tick2 p).2 k2 w = p.2 k2 w by rw [tick2_d, tick1_d]; exact (it2_w _ _ _ _ h3).trans ((it1_w _ _ _ _ _ hw h3 h7).trans (springP_w _ _ _ h3))
theorem tickP_j (p : HC) (j : Nat) (h : 4 ≤ j) : (tickP p).1 j = p.1 j := by
  rw [tickP_1, pk_un (by omega), tick2_d, tick1_d]
  exact ((it2_j _ _ _ (by omega)).trans ((it1_j _ _ _ _ (by omega)).trans (springP_j _ _ (by omega) (by omega))))
/-- what the reference needs of a state, that nothing is thrown: a day is not 0, no size is 0, water goes on -/
def okP (p : HC) : Prop := ¬ p.1 7 = 0 ∧ ∀ k, k < 8 → ¬ p.2 k 0 = 0 ∧ p.2 k 2 = nI (nn (p.2 k 2)) ∧ nn (p.2 k 2) ≤ 8
theorem okP.tick {p : HC} (h : okP p) : okP (tickP p) :=
  ⟨by rw [tickP_j _ _ (by decide)]; exact h.1, fun k hk => by
    rw [tickP_w _ _ _ (by decide) (by decide) (by decide), tickP_w _ _ _ (by decide) (by decide) (by decide)]
    exact h.2 k hk⟩
noncomputable def tkN (p : HC) : Nat → HC
  | 0 => p
  | n + 1 => tickP (tkN p n)
noncomputable def tkT (p : HC) (ti : Nat → Int32) : Nat → Nat → Int32
  | 0 => ti
  | n + 1 => tickT (tkN p n) (tkT p ti n)
theorem tkN_0 (p : HC) : tkN p 0 = p := rfl
theorem tkN_s (p : HC) (n : Nat) : tkN p (n + 1) = tickP (tkN p n) := rfl
theorem tkT_0 (p : HC) (ti : Nat → Int32) : tkT p ti 0 = ti := rfl
theorem tkT_s (p : HC) (ti : Nat → Int32) (n : Nat) : tkT p ti (n + 1) = tickT (tkN p n) (tkT p ti n) := rfl
theorem okP.ticks {p : HC} (h : okP p) (n : Nat) : okP (tkN p n) := by
  induction n with
  | zero => exact h
  | succ n ih => exact ih.tick
def isValF (cup which value : Int32) : Int32 := if which = 0 then inF value 1 99 else if which = 1 then inF value 0 9 else if which = 2 then (if inF value (cup + 1) 8 = 0 then 0 else 1) else 0
theorem isValF_n (cup which value : Int32) : narrow .boolean (.int (isValF cup which value)) = .int (isValF cup which value) := by
  unfold isValF
  split
  · exact inF_n _ _ _
  · split
    · exact inF_n _ _ _
    · split
      · split <;> rfl
      · rfl
theorem isVal_pos {cup which value : Int32} (h : ¬ isValF cup which value = 0) : ∃ w, w < 3 ∧ which = nI w := by
  unfold isValF at h
  split at h
  · rename_i e; exact ⟨0, by decide, e⟩
  · split at h
    · rename_i e; exact ⟨1, by decide, e⟩
    · split at h
      · rename_i e; exact ⟨2, by decide, e⟩
      · exact absurd rfl h
/-! the acts: answer (R), head (H) and cups (C) behind them -/
def setR (c : Nat → Nat → Int32) (cup which value : Int32) : Int32 := if inF cup 0 7 = 0 then -1 else if isValF cup which value = 0 then -2 else if c (nn cup) (nn which) = value then -5 else c (nn cup) (nn which)
def setC (c : Nat → Nat → Int32) (cup which value : Int32) : Nat → Nat → Int32 := if inF cup 0 7 = 0 then c else if isValF cup which value = 0 then c else u2 c (nn cup) (nn which) value
def turnR (c : Nat → Nat → Int32) (cup : Int32) : Int32 := if inF cup 0 7 = 0 then -1 else if c (nn cup) 6 = 1 then -4 else 1 - c (nn cup) 5
def turnC (c : Nat → Nat → Int32) (cup : Int32) : Nat → Nat → Int32 := if inF cup 0 7 = 0 then c else if c (nn cup) 6 = 1 then c else u2 c (nn cup) 5 (1 - c (nn cup) 5)
def hourR (c : Nat → Nat → Int32) (cup hour : Int32) : Int32 := if inF cup 0 7 = 0 then -1 else if inF hour (-1) 239 = 0 then -2 else if c (nn cup) 4 = hour then -5 else if c (nn cup) 4 = -1 then 240 else c (nn cup) 4
def hourC (c : Nat → Nat → Int32) (cup hour : Int32) : Nat → Nat → Int32 := if inF cup 0 7 = 0 then c else if inF hour (-1) 239 = 0 then c else if c (nn cup) 4 = hour then c else if hour = -1 then u2 (u2 (u2 c (nn cup) 4 hour) (nn cup) 6 0) (nn cup) 5 1 else u2 c (nn cup) 4 hour
def guardR (c : Nat → Nat → Int32) (cup : Int32) : Int32 := if inF cup 0 7 = 0 then -1 else if c (nn cup) 4 = -1 then -4 else 1 - c (nn cup) 6
def guardC (c : Nat → Nat → Int32) (cup : Int32) : Nat → Nat → Int32 := if inF cup 0 7 = 0 then c else if c (nn cup) 4 = -1 then c else u2 (u2 c (nn cup) 5 (c (nn cup) 6)) (nn cup) 6 (1 - c (nn cup) 6)
def fillR (c : Nat → Nat → Int32) (cup water : Int32) : Int32 := if inF cup 0 7 = 0 then -1 else if inF water 1 99 = 0 then -2 else if c (nn cup) 3 + water ≤ 9999 then c (nn cup) 3 + water else -3
def fillC (c : Nat → Nat → Int32) (cup water : Int32) : Nat → Nat → Int32 := if inF cup 0 7 = 0 then c else if inF water 1 99 = 0 then c else if c (nn cup) 3 + water ≤ 9999 then u2 c (nn cup) 3 (c (nn cup) 3 + water) else c
def fillH (h : Nat → Int32) (c : Nat → Nat → Int32) (cup water : Int32) : Nat → Int32 := if inF cup 0 7 = 0 then h else if inF water 1 99 = 0 then h else if c (nn cup) 3 + water ≤ 9999 then upd h 4 (h 4 + water) else h
def putR (h : Nat → Int32) (which value : Int32) : Int32 := if inF which 0 2 = 0 then -1 else if inF value (if which = 2 then 1 else 0) (if which = 2 then 240 else 99) = 0 then -2 else if h (5 + nn which) = value then -5 else h (5 + nn which)
def putH (h : Nat → Int32) (which value : Int32) : Nat → Int32 := if inF which 0 2 = 0 then h else if inF value (if which = 2 then 1 else 0) (if which = 2 then 240 else 99) = 0 then h else upd h (5 + nn which) value
noncomputable def passR (p : HC) (ticks : Int32) : Int32 := if inF ticks 1 99 = 0 then -2 else if p.1 0 + ticks ≤ 99999 then sumF (tkN p (nn ticks)).2 8 8 - sumF p.2 8 8 else -3
def passN (p : HC) (ticks : Int32) : Nat := if inF ticks 1 99 = 0 then 0 else if p.1 0 + ticks ≤ 99999 then nn ticks else 0
