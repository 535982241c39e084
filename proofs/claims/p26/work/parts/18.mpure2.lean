/-! ===== the reference's answers ===== -/
def typeR (ln : Nat) : Int32 := if ln = 60 then -3 else nI (ln + 1)
def typeF (f : Nat → Int32) (ln : Nat) : Nat → Int32 := if ln = 60 then f else upd f 7 (nI (ln + 1))
def typeT (tx : Nat → Int32) (ln : Nat) (x : Int32) : Nat → Int32 := if ln = 60 then tx else upd tx ln x
def stopR (f : Nat → Int32) (what : Int32) : Int32 := if inF what 0 1 = 0 then -2 else if f 8 = -5 then -5 else if what = 0 then f 8 else f 9
def cupR (c : Nat → Nat → Int32) (cup what : Int32) : Int32 := if inF cup 0 7 = 0 then -1 else if inF what 0 11 = 0 then -2 else if what = 4 then (if c (nn cup) 4 = -1 then -5 else c (nn cup) (nn what)) else c (nn cup) (nn what)
/-- whether the cup k tips in the tick behind the next i ones -/
noncomputable def tg (p : HC) (k i : Nat) : Int32 := tpF (it1 (hourP (tkN p i)) (springP (tkN p i)) k).2 k (hourP (tkN p i))
noncomputable def isF (p : HC) (k : Nat) : Nat → Int32
  | 0 => 0
  | i + 1 => tg p k i
noncomputable def utF (p : HC) (k : Nat) : Nat → Nat → Int32
  | 0, _ => -5
  | r + 1, i => if tg p k i = 0 then utF p k r (i + 1) else nI (i + 1)
noncomputable def utN (p : HC) (k : Nat) : Nat → Nat → Nat
  | 0, i => i
  | r + 1, i => if tg p k i = 0 then utN p k r (i + 1) else i + 1
theorem itT_at {hour : Int32} {p : HC} {ti : Nat → Int32} {k n : Nat} (h : k < n) : itT hour p ti n k = tpF (it1 hour p k).2 k hour := by
  induction n with
  | zero => omega
  | succ n ih =>
    rw [itT_s]
    by_cases e : k = n
    · subst e
      exact pk_us
    · rw [pk_un e]
      exact ih (by omega)
theorem tkT_at {p : HC} {ti : Nat → Int32} {k i : Nat} (h : k < 8) : tkT p ti (i + 1) k = isF p k (i + 1) := by
  rw [tkT_s, tickT_d]
  exact itT_at h
theorem ut_skip {p : HC} {k : Nat} : ∀ (i M : Nat), i ≤ M → (∀ j, j < i → tg p k j = 0) → utF p k M 0 = utF p k (M - i) i ∧ utN p k M 0 = utN p k (M - i) i := by
  intro i
  induction i with
  | zero => intro M _ _; exact ⟨rfl, rfl⟩
  | succ i ih =>
    intro M hM hz
    obtain ⟨h1, h2⟩ := ih M (by omega) (fun j hj => hz j (by omega))
    obtain ⟨r, hr⟩ : ∃ r, M - i = r + 1 := ⟨M - i - 1, by omega⟩
    have h3 : M - (i + 1) = r := by omega
    rw [h1, h2, hr, h3]
    have h4 := hz i (by omega)
    exact ⟨by rw [utF, if_pos h4], by rw [utN, if_pos h4]⟩
theorem ut_end0 {p : HC} {k M : Nat} (hno : ∀ j, j + 1 < M → tg p k j = 0) (h0 : isF p k M = 0) : utF p k M 0 = -5 ∧ utN p k M 0 = M := by
  have hz : ∀ j, j < M → tg p k j = 0 := by
    intro j hj
    by_cases e : j + 1 < M
    · exact hno j e
    · obtain rfl : M = j + 1 := by omega
      exact h0
  obtain ⟨h1, h2⟩ := ut_skip M M (Nat.le_refl _) hz
  rw [h1, h2, Nat.sub_self]
  exact ⟨by rw [utF], by rw [utN]⟩
theorem ut_end1 {p : HC} {k i M : Nat} (hiM : i ≤ M) (hno : ∀ j, j + 1 < i → tg p k j = 0) (h1 : ¬ isF p k i = 0) : utF p k M 0 = nI i ∧ utN p k M 0 = i := by
  cases i with
  | zero => exact absurd rfl h1
  | succ i =>
    obtain ⟨g1, g2⟩ := ut_skip (p := p) (k := k) i M (by omega) (fun j hj => hno j (by omega))
    obtain ⟨r, hr⟩ : ∃ r, M - i = r + 1 := ⟨M - i - 1, by omega⟩
    rw [g1, g2, hr]
    have h4 : ¬ tg p k i = 0 := h1
    exact ⟨by rw [utF, if_neg h4], by rw [utN, if_neg h4]⟩
theorem ut_next {p : HC} {k i : Nat} (hno : ∀ j, j + 1 < i → tg p k j = 0) (h0 : isF p k i = 0) : ∀ j, j + 1 < i + 1 → tg p k j = 0 := by
  intro j hj
  by_cases e : j + 1 < i
  · exact hno j e
  · obtain rfl : i = j + 1 := by omega
    exact h0
noncomputable def hotF (p : HC) (k : Nat) : Int32 := if utF p k 500 0 = -5 then -5 else hrF p.1 (p.1 0 + utF p k 500 0 - 1)
noncomputable def tipsInF (p : HC) (cup : Int32) : Int32 := if inF cup 0 7 = 0 then -1 else utF p (nn cup) 500 0
noncomputable def tipsAtF (p : HC) (cup : Int32) : Int32 := if inF cup 0 7 = 0 then -1 else hotF p (nn cup)
def scB (cup : Int32) (be e : Nat → Int32) : Nat → Int32 := if inF cup 0 7 = 0 then be else e
noncomputable def scT (p : HC) (ti : Nat → Int32) (cup : Int32) : Nat → Int32 := if inF cup 0 7 = 0 then ti else tkT p ti (utN p (nn cup) 500 0)
noncomputable def stF (p : HC) : Nat → Int32
  | 0 => -5
  | m + 1 => if utF p (7 - m) 500 0 = -5 then nI (7 - m) else stF p m
def stB (be e : Nat → Int32) : Nat → Nat → Int32
  | 0 => be
  | _ + 1 => e
noncomputable def stT (p : HC) (ti : Nat → Int32) : Nat → Nat → Int32
  | 0 => ti
  | m + 1 => tkT p (stT p ti m) (utN p (7 - m) 500 0)
def ifw (what : Int32) : Nat := if what = 3 then 8 else 9 + nn what
noncomputable def ifF (p : HC) (ticks what : Int32) : Int32 := if inF ticks 1 500 = 0 then -2 else if inF what 0 3 = 0 then -2 else sumF (tkN p (nn ticks)).2 (ifw what) 8 - sumF p.2 (ifw what) 8
def ifB (ticks what : Int32) (be e : Nat → Int32) : Nat → Int32 := if inF ticks 1 500 = 0 then be else if inF what 0 3 = 0 then be else e
noncomputable def ifT (p : HC) (ti : Nat → Int32) (ticks what : Int32) : Nat → Int32 := if inF ticks 1 500 = 0 then ti else if inF what 0 3 = 0 then ti else tkT p ti (nn ticks)
def hgF (c : Nat → Nat → Int32) : Nat → Nat
  | 0 => 0
  | i + 1 => if c (i + 1) 7 ≤ c (hgF c i) 7 then hgF c i else i + 1
theorem hgF_le (c : Nat → Nat → Int32) (i : Nat) : hgF c i ≤ i := by
  induction i with
  | zero => exact Nat.le_refl _
  | succ i ih => unfold hgF; split <;> omega
def hiR (c : Nat → Nat → Int32) : Int32 := if c (hgF c 7) 7 = 0 then -5 else nI (hgF c 7)
def fuF (c : Nat → Nat → Int32) : Nat → Int32
  | 0 => 0
  | k + 1 => fuF c k + (if fullF c k = 0 then 0 else 1)
def countR (p : HC) (kp ln : Nat) (x : Int32) : Int32 := if inF x 0 14 = 0 then -2 else if x = 0 then p.1 0 else if x = 1 then hrF p.1 (p.1 0) else if x = 2 then sumF p.2 3 8 else if x = 3 then p.1 1 else if x = 4 then p.1 2 else if x = 5 then p.1 3 else if x = 6 then p.1 4 else if x = 7 then sumF p.2 8 8 else if x = 8 then sumF p.2 9 8 else if x = 9 then fuF p.2 8 else if x = 10 then p.1 5 else if x = 11 then p.1 6 else if x = 12 then p.1 7 else if x = 13 then nI kp else nI ln
theorem inF_out {x lo hi : Int32} (h : inF x lo hi = 0) : x.toInt < lo.toInt ∨ hi.toInt < x.toInt := by
  unfold inF at h
  split at h
  · rename_i q; exact Or.inl (Int32.lt_iff_toInt_lt.mp q)
  · split at h
    · rename_i q; exact Or.inr (Int32.lt_iff_toInt_lt.mp q)
    · exact absurd h (by decide)
theorem sw15 (x : Int32) : inF x 0 14 = 0 ∨ x = 0 ∨ x = 1 ∨ x = 2 ∨ x = 3 ∨ x = 4 ∨ x = 5 ∨ x = 6 ∨ x = 7 ∨ x = 8 ∨ x = 9 ∨ x = 10 ∨ x = 11 ∨ x = 12 ∨ x = 13 ∨ x = 14 := by
  by_cases h : inF x 0 14 = 0
  · exact Or.inl h
  · obtain ⟨k, hk, e⟩ := i32_nI (n := 14) (Or.inl rfl) rfl (by decide) (inF_ne h)
    subst e
    have h15 : k = 0 ∨ k = 1 ∨ k = 2 ∨ k = 3 ∨ k = 4 ∨ k = 5 ∨ k = 6 ∨ k = 7 ∨ k = 8 ∨ k = 9 ∨ k = 10 ∨ k = 11 ∨ k = 12 ∨ k = 13 ∨ k = 14 := by omega
    rcases h15 with rfl | rfl | rfl | rfl | rfl | rfl | rfl | rfl | rfl | rfl | rfl | rfl | rfl | rfl | rfl <;> decide
def rsG {α : Type} (p : HC) (cup : Int32) (x1 x2 x3 z : α) : α :=
  if inF cup 0 7 = 0 then x1 else if p.2 (nn cup) 6 = 1 then (if hrF p.1 (p.1 0) = p.2 (nn cup) 4 then (if p.2 (nn cup) 6 = 0 then (if p.2 (nn cup) 5 = 0 then x3 else z) else z) else x2)
  else if p.2 (nn cup) 6 = 0 then (if p.2 (nn cup) 5 = 0 then x3 else z) else z
noncomputable def reasonR (p : HC) (cup : Int32) : Int32 := rsG p cup (-1) 1 2 (if utF p (nn cup) 1 0 = 1 then 0 else 3)
noncomputable def reasonB (p : HC) (be : Nat → Int32) (cup : Int32) : Nat → Int32 := rsG p cup be be be (enc p.1 p.2)
noncomputable def reasonT (p : HC) (ti : Nat → Int32) (cup : Int32) : Nat → Int32 := rsG p cup ti ti ti (tkT p ti (utN p (nn cup) 1 0))
theorem u2_same {c : Nat → Nat → Int32} {k w : Nat} : u2 c k w (c k w) = c := by
  funext a b
  by_cases h : a = k ∧ b = w
  · obtain ⟨rfl, rfl⟩ := h; exact u2_s
  · exact u2_n h
theorem u2_u2 {c : Nat → Nat → Int32} {k w : Nat} {x y : Int32} : u2 (u2 c k w x) k w y = u2 c k w y := by
  funext a b
  by_cases h : a = k ∧ b = w
  · obtain ⟨rfl, rfl⟩ := h; rw [u2_s, u2_s]
  · rw [u2_n h, u2_n h, u2_n h]
/-- the state with the size i in the cup k (0: as it is) -/
def szP (p : HC) (k : Nat) : Nat → HC
  | 0 => p
  | i + 1 => (p.1, u2 p.2 k 0 (nI (i + 1)))
theorem szP_s (p : HC) (k i : Nat) : szP p k (i + 1) = (p.1, u2 p.2 k 0 (nI (i + 1))) := rfl
theorem szP_1 (p : HC) (k i : Nat) : (szP p k i).1 = p.1 := by cases i <;> rfl
theorem szP_u (p : HC) (k i : Nat) (x : Int32) : u2 (szP p k i).2 k 0 x = u2 p.2 k 0 x := by
  cases i with
  | zero => rfl
  | succ i => exact u2_u2
theorem szP_4 (p : HC) (k i k2 w : Nat) (hw : w ≠ 0) : (szP p k i).2 k2 w = p.2 k2 w := by
  cases i with
  | zero => rfl
  | succ i => exact u2_nw hw
theorem okP.size {p : HC} (h : okP p) (k i : Nat) (hi : i < 1000) : okP (szP p k i) := by
  cases i with
  | zero => exact h
  | succ i =>
    refine ⟨h.1, fun k2 hk2 => ?_⟩
    rw [szP_s]
    show ¬ u2 p.2 k 0 (nI (i + 1)) k2 0 = 0 ∧ u2 p.2 k 0 (nI (i + 1)) k2 2 = nI (nn (u2 p.2 k 0 (nI (i + 1)) k2 2)) ∧ nn (u2 p.2 k 0 (nI (i + 1)) k2 2) ≤ 8
    refine ⟨?_, by rw [u2_nw (by decide)]; exact (h.2 k2 hk2).2.1, by rw [u2_nw (by decide)]; exact (h.2 k2 hk2).2.2⟩
    by_cases e : k2 = k
    · subst e
      rw [u2_s]
      exact nI_ne0 (by omega) (by omega)
    · rw [u2_nk e]
      exact (h.2 k2 hk2).1

noncomputable def fbF (p : HC) (k : Nat) : Nat → Int32
  | 0 => -5
  | i + 1 => if hotF (szP p k (i + 1)) k = p.2 k 4 then nI (i + 1) else -5
noncomputable def bsF (p : HC) (k : Nat) : Nat → Nat → Int32
  | 0, _ => -5
  | r + 1, i => if hotF (szP p k (i + 1)) k = p.2 k 4 then nI (i + 1) else bsF p k r (i + 1)
noncomputable def bsN (p : HC) (k : Nat) : Nat → Nat → Nat
  | 0, i => i
  | r + 1, i => if hotF (szP p k (i + 1)) k = p.2 k 4 then i + 1 else bsN p k r (i + 1)
def bsB (p : HC) (k : Nat) (be : Nat → Int32) : Nat → Nat → Int32
  | 0 => be
  | i + 1 => enc p.1 (u2 p.2 k 0 (nI (i + 1)))
noncomputable def bsT (p : HC) (k : Nat) (ti : Nat → Int32) : Nat → Nat → Int32
  | 0 => ti
  | i + 1 => tkT (szP p k (i + 1)) (bsT p k ti i) (utN (szP p k (i + 1)) k 500 0)
theorem bs_skip {p : HC} {k : Nat} : ∀ (i M : Nat), i ≤ M → (∀ j, j < i → ¬ hotF (szP p k (j + 1)) k = p.2 k 4) → bsF p k M 0 = bsF p k (M - i) i ∧ bsN p k M 0 = bsN p k (M - i) i := by
  intro i
  induction i with
  | zero => intro M _ _; exact ⟨rfl, rfl⟩
  | succ i ih =>
    intro M hM hz
    obtain ⟨h1, h2⟩ := ih M (by omega) (fun j hj => hz j (by omega))
    obtain ⟨r, hr⟩ : ∃ r, M - i = r + 1 := ⟨M - i - 1, by omega⟩
    have h3 : M - (i + 1) = r := by omega
    rw [h1, h2, hr, h3]
    have h4 := hz i (by omega)
    exact ⟨by rw [bsF, if_neg h4], by rw [bsN, if_neg h4]⟩
theorem fb_ne {p : HC} {k i : Nat} (hi : i < 1000) : fbF p k (i + 1) = -5 ↔ ¬ hotF (szP p k (i + 1)) k = p.2 k 4 := by
  rw [fbF]
  by_cases h : hotF (szP p k (i + 1)) k = p.2 k 4
  · rw [if_pos h]
    constructor
    · intro q
      have h2 : ¬ nI (i + 1) < 0 := nI_pos (by omega)
      rw [q] at h2
      exact absurd (by decide) h2
    · intro q; exact absurd h q
  · rw [if_neg h]
    exact ⟨fun _ => h, fun _ => rfl⟩
theorem bs_end {p : HC} {k i M : Nat} (hM : M < 1000) (hiM : i ≤ M) (hno : ∀ j, j + 1 < i → ¬ hotF (szP p k (j + 1)) k = p.2 k 4) (hx : i = M ∨ ¬ fbF p k i = -5) : bsF p k M 0 = fbF p k i ∧ bsN p k M 0 = i := by
  cases i with
  | zero =>
    rcases hx with e | e
    · subst e; exact ⟨by rw [bsF, fbF], by rw [bsN]⟩
    · exact absurd rfl e
  | succ i =>
    obtain ⟨g1, g2⟩ := bs_skip (p := p) (k := k) i M (by omega) (fun j hj => hno j (by omega))
    obtain ⟨r, hr⟩ : ∃ r, M - i = r + 1 := ⟨M - i - 1, by omega⟩
    rw [g1, g2, hr]
    by_cases h4 : hotF (szP p k (i + 1)) k = p.2 k 4
    · exact ⟨by rw [bsF, fbF, if_pos h4, if_pos h4], by rw [bsN, if_pos h4]⟩
    · have h5 : i + 1 = M := by
        rcases hx with e | e
        · exact e
        · exact absurd ((fb_ne (by omega)).mpr h4) e
      have h6 : r = 0 := by omega
      subst h6
      exact ⟨by rw [bsF, fbF, if_neg h4, if_neg h4, bsF], by rw [bsN, if_neg h4, bsN]⟩
noncomputable def bestF (p : HC) (cup : Int32) : Int32 := if inF cup 0 7 = 0 then -1 else if p.2 (nn cup) 4 = -1 then -4 else bsF p (nn cup) 99 0
noncomputable def bestB (p : HC) (be : Nat → Int32) (cup : Int32) : Nat → Int32 := if inF cup 0 7 = 0 then be else if p.2 (nn cup) 4 = -1 then be else bsB p (nn cup) be (bsN p (nn cup) 99 0)
noncomputable def bestT (p : HC) (ti : Nat → Int32) (cup : Int32) : Nat → Int32 := if inF cup 0 7 = 0 then ti else if p.2 (nn cup) 4 = -1 then ti else bsT p (nn cup) ti (bsN p (nn cup) 99 0)
theorem ifw_lt {j : Nat} (hj : j ≤ 3) : ifw (nI j) < 12 := by
  have h4 : j = 0 ∨ j = 1 ∨ j = 2 ∨ j = 3 := by omega
  rcases h4 with rfl | rfl | rfl | rfl <;> decide
theorem nIm1 (n : Nat) : nI n + (-1) = nI n - 1 := by
  cases n with
  | zero => decide
  | succ n => rw [pk_m1, nI_pred]
theorem bs_next {p : HC} {k i : Nat} (hi : i < 1000) (hno : ∀ j, j + 1 < i → ¬ hotF (szP p k (j + 1)) k = p.2 k 4) (h0 : fbF p k i = -5) : ∀ j, j + 1 < i + 1 → ¬ hotF (szP p k (j + 1)) k = p.2 k 4 := by
  intro j hj
  by_cases e : j + 1 < i
  · exact hno j e
  · obtain rfl : i = j + 1 := by omega
    exact (fb_ne (by omega)).mp h0
