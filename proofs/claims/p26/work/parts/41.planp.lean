/-! ===== the class's plan: what its readers do. A state of reading is the place, the kinds, the cups, the numbers ===== -/
abbrev PQ : Type := Nat × (Nat → Int32) × (Nat → Int32) × (Nat → Int32)
def gQ (g : Nat → Int32) (th : Int32) (pl : Nat) : Nat → Int32 := upd (upd g 5 th) 6 (nI pl)
def wQ (ca : Nat → ClassId) (q : Nat → Nat) (g tx : Nat → Int32) (th : Int32) (s : PQ) : va_W := wP ca q (gQ g th s.1) tx s.2.1 s.2.2.1 s.2.2.2
def lkF (tx : Nat → Int32) (ln pl : Nat) : Int32 := if ln ≤ pl then -1 else tx pl
def ldF (tx : Nat → Int32) (ln pl : Nat) : Int32 := if inF (lkF tx ln pl) 48 57 = 0 then -1 else lkF tx ln pl - 48
def qSt (i : Nat) (kind : Int32) (s : PQ) : Int32 × PQ := (1, (s.1 + 1, upd s.2.1 i kind, s.2.2.1, s.2.2.2))
def qChr (tx : Nat → Int32) (ln : Nat) (code : Int32) (s : PQ) : Int32 × PQ := if lkF tx ln s.1 = code then (1, (s.1 + 1, s.2.1, s.2.2.1, s.2.2.2)) else (0, s)
def qCup (tx : Nat → Int32) (ln i : Nat) (s : PQ) : Int32 × PQ := if inF (ldF tx ln s.1) 0 7 = 0 then (0, s) else (1, (s.1 + 1, s.2.1, upd s.2.2.1 i (ldF tx ln s.1), s.2.2.2))
def qL (tx : Nat → Int32) (ln : Nat) (most : Int32) : Nat → Int32 → Nat → Int32 × Nat
  | 0, n, q => (n, q)
  | r + 1, n, q => if n = 0 then (n, q) else if ldF tx ln q < 0 then (n, q) else if 10 * n + ldF tx ln q ≤ most then qL tx ln most r (10 * n + ldF tx ln q) (q + 1) else (n, q)
def qNum (tx : Nat → Int32) (ln i : Nat) (least most : Int32) (s : PQ) : Int32 × PQ :=
  if least ≤ ldF tx ln s.1 then (1, ((qL tx ln most 2 (ldF tx ln s.1) (s.1 + 1)).2, s.2.1, s.2.2.1, upd s.2.2.2 i (qL tx ln most 2 (ldF tx ln s.1) (s.1 + 1)).1)) else (0, s)
def sqQ (r : Int32 × PQ) (g : PQ → Int32 × PQ) : Int32 × PQ := if r.1 = 0 then (0, r.2) else g r.2
def finQ (r : Int32 × PQ) : Int32 × PQ := if r.1 = 0 then (0, r.2) else (1, r.2)
def qThing (tx : Nat → Int32) (ln i : Nat) (s : PQ) : Int32 × PQ :=
  if lkF tx ln s.1 = 46 then finQ (qNum tx ln i 1 99 (qSt i (lkF tx ln s.1) s).2)
  else if lkF tx ln s.1 = 102 then sqQ (qCup tx ln i (qSt i (lkF tx ln s.1) s).2) (fun s => sqQ (qChr tx ln 43 s) (fun s => finQ (qNum tx ln i 1 99 s)))
  else if lkF tx ln s.1 = 103 then finQ (qCup tx ln i (qSt i (lkF tx ln s.1) s).2)
  else if lkF tx ln s.1 = 104 then sqQ (qCup tx ln i (qSt i (lkF tx ln s.1) s).2) (fun s => sqQ (qChr tx ln 64 s) (fun s => finQ (qNum tx ln i 0 239 s)))
  else if lkF tx ln s.1 = 115 then sqQ (qCup tx ln i (qSt i (lkF tx ln s.1) s).2) (fun s => sqQ (qChr tx ln 61 s) (fun s => finQ (qNum tx ln i 1 99 s)))
  else (0, s)
def headQ (tx : Nat → Int32) (ln : Nat) (s : PQ) : Nat → PQ
  | 0 => s
  | i + 1 => (qChr tx ln 59 (qThing tx ln i (headQ tx ln s i)).2).2
/-- the answer, the things, the state left -/
def qF (tx : Nat → Int32) (ln : Nat) (s : PQ) : Nat → Nat → Int32 × Nat × PQ
  | 0, i => (nI (headQ tx ln s i).1, i, headQ tx ln s i)
  | r + 1, i => if (qThing tx ln i (headQ tx ln s i)).1 = 0 then (nI (qThing tx ln i (headQ tx ln s i)).2.1, i, (qThing tx ln i (headQ tx ln s i)).2)
      else if ln ≤ (qThing tx ln i (headQ tx ln s i)).2.1 then (-1, i + 1, (qThing tx ln i (headQ tx ln s i)).2)
      else if (qChr tx ln 59 (qThing tx ln i (headQ tx ln s i)).2).1 = 0 then (nI (qChr tx ln 59 (qThing tx ln i (headQ tx ln s i)).2).2.1, i + 1, (qChr tx ln 59 (qThing tx ln i (headQ tx ln s i)).2).2)
      else qF tx ln s r (i + 1)
theorem qX_x : ∃ g : (Nat → Int32) → Nat → PQ → Int32 × Nat × PQ, ∀ tx ln s, g tx ln s = qF tx ln s 60 0 := ⟨_, fun _ _ _ => rfl⟩
noncomputable def qX : (Nat → Int32) → Nat → PQ → Int32 × Nat × PQ := Classical.choose qX_x
theorem qX_d (tx : Nat → Int32) (ln : Nat) (s : PQ) : qX tx ln s = qF tx ln s 60 0 := Classical.choose_spec qX_x tx ln s
theorem in59 {i : Nat} (hi : i < 60) : ¬ inF (nI i) 0 59 = 0 := by
  unfold inF
  rw [if_neg (nI_pos (by omega)), if_neg (show ¬ (59 : Int32) < nI i from fun e => by rw [show (59 : Int32) = nI 59 from rfl, nI_ltI (by decide) (by omega)] at e; omega)]
  decide
def apG (g : Nat → Int32) (ln : Nat) : Nat → Int32 := if ln = 60 then g else upd g 1 (nI (ln + 1))
theorem qChr_n (tx : Nat → Int32) (ln : Nat) (code : Int32) (s : PQ) : narrow .boolean (.int (qChr tx ln code s).1) = .int (qChr tx ln code s).1 := by
  unfold qChr; split
  · exact nb1
  · exact nb0
theorem qL_le {tx : Nat → Int32} {ln : Nat} {most : Int32} : ∀ (r : Nat) (n : Int32) (q : Nat), (qL tx ln most r n q).2 ≤ q + r ∧ q ≤ (qL tx ln most r n q).2 := by
  intro r
  induction r with
  | zero => intro n q; exact ⟨Nat.le_refl _, Nat.le_refl _⟩
  | succ r ih =>
    intro n q
    unfold qL
    split
    · exact ⟨by show q ≤ _; omega, Nat.le_refl _⟩
    · split
      · exact ⟨by show q ≤ _; omega, Nat.le_refl _⟩
      · split
        · have := ih (10 * n + ldF tx ln q) (q + 1)
          omega
        · exact ⟨by show q ≤ _; omega, Nat.le_refl _⟩
theorem qChr_le {tx : Nat → Int32} {ln : Nat} {code : Int32} {s : PQ} : (qChr tx ln code s).2.1 ≤ s.1 + 1 := by
  unfold qChr; split
  · exact Nat.le_refl _
  · exact Nat.le_succ _
theorem qCup_le {tx : Nat → Int32} {ln i : Nat} {s : PQ} : (qCup tx ln i s).2.1 ≤ s.1 + 1 := by
  unfold qCup; split
  · exact Nat.le_succ _
  · exact Nat.le_refl _
theorem qNum_le {tx : Nat → Int32} {ln i : Nat} {least most : Int32} {s : PQ} : (qNum tx ln i least most s).2.1 ≤ s.1 + 3 := by
  unfold qNum; split
  · exact Nat.le_trans (qL_le 2 _ _).1 (Nat.le_refl _)
  · show s.1 ≤ _; omega
theorem finQ_2 {r : Int32 × PQ} : (finQ r).2 = r.2 := by unfold finQ; split <;> rfl
theorem sqQ_le {r : Int32 × PQ} {g : PQ → Int32 × PQ} {n : Nat} (h : r.2.1 ≤ n) (hg : (g r.2).2.1 ≤ n) : (sqQ r g).2.1 ≤ n := by
  unfold sqQ; split
  · exact h
  · exact hg
theorem q3_le {tx : Nat → Int32} {ln i : Nat} {code least most : Int32} {s : PQ} : (sqQ (qCup tx ln i s) (fun s => sqQ (qChr tx ln code s) (fun s => finQ (qNum tx ln i least most s)))).2.1 ≤ s.1 + 5 := by
  have h1 := qCup_le (tx := tx) (ln := ln) (i := i) (s := s)
  have h2 := qChr_le (tx := tx) (ln := ln) (code := code) (s := (qCup tx ln i s).2)
  have h3 := qNum_le (tx := tx) (ln := ln) (i := i) (least := least) (most := most) (s := (qChr tx ln code (qCup tx ln i s).2).2)
  refine sqQ_le (by omega) (sqQ_le (by omega) ?_)
  rw [finQ_2]; omega
theorem qThing_le {tx : Nat → Int32} {ln i : Nat} {s : PQ} : (qThing tx ln i s).2.1 ≤ s.1 + 6 := by
  unfold qThing
  have h3 : ∀ (code least most : Int32) (s0 : PQ), s0.1 = s.1 + 1 → (sqQ (qCup tx ln i s0) (fun s => sqQ (qChr tx ln code s) (fun s => finQ (qNum tx ln i least most s)))).2.1 ≤ s.1 + 6 := by
    intro code least most s0 e
    have := q3_le (tx := tx) (ln := ln) (i := i) (code := code) (least := least) (most := most) (s := s0)
    omega
  split
  · rw [finQ_2]
    have := qNum_le (tx := tx) (ln := ln) (i := i) (least := 1) (most := 99) (s := (qSt i (lkF tx ln s.1) s).2)
    have e : (qSt i (lkF tx ln s.1) s).2.1 = s.1 + 1 := rfl
    omega
  · split
    · exact h3 _ _ _ _ rfl
    · split
      · rw [finQ_2]
        have := qCup_le (tx := tx) (ln := ln) (i := i) (s := (qSt i (lkF tx ln s.1) s).2)
        have e : (qSt i (lkF tx ln s.1) s).2.1 = s.1 + 1 := rfl
        omega
      · split
        · exact h3 _ _ _ _ rfl
        · split
          · exact h3 _ _ _ _ rfl
          · show s.1 ≤ _; omega
theorem headQ_le {tx : Nat → Int32} {ln : Nat} {s : PQ} (i : Nat) : (headQ tx ln s i).1 ≤ s.1 + 7 * i := by
  induction i with
  | zero => exact Nat.le_refl _
  | succ i ih =>
    have h1 := qThing_le (tx := tx) (ln := ln) (i := i) (s := headQ tx ln s i)
    have h2 := qChr_le (tx := tx) (ln := ln) (code := 59) (s := (qThing tx ln i (headQ tx ln s i)).2)
    show (qChr tx ln 59 (qThing tx ln i (headQ tx ln s i)).2).2.1 ≤ _
    omega
/-- what the plan's thing does to a state -/
noncomputable def kDoR (p : HC) (kd wh nu : Int32) : Int32 := if kd = 102 then fillR p.2 wh nu else if kd = 103 then guardR p.2 wh else if kd = 104 then hourR p.2 wh nu else if kd = 115 then setR p.2 wh 0 nu else kpassR p nu
noncomputable def kDoP (p : HC) (kd wh nu : Int32) : HC := if kd = 102 then (fillH p.1 p.2 wh nu, fillC p.2 wh nu) else if kd = 103 then (p.1, guardC p.2 wh) else if kd = 104 then (p.1, hourC p.2 wh nu) else if kd = 115 then (p.1, setC p.2 wh 0 nu) else kN p (passN p nu)
noncomputable def kDoZ (p : HC) (z : Nat → Int32) (kd nu : Int32) : Nat → Int32 := if kd = 102 then z else if kd = 103 then z else if kd = 104 then z else if kd = 115 then z else zTk p z (passN p nu)
