/-! ===== a thing, and things one after the other ===== -/
/-- the thing that was read does the same on both sides -/
def sameDo (lt cu nu : Int32) (T : PQ) (i : Nat) : Prop := ∀ p : HC, doesP p lt cu nu = doesP p (T.2.1 i) (T.2.2.1 i) (T.2.2.2 i) ∧ doesR p lt cu nu = doesR p (T.2.1 i) (T.2.2.1 i) (T.2.2.2 i)
def agree (i : Nat) (T s : PQ) : Prop := ∀ j, j ≠ i → T.2.1 j = s.2.1 j ∧ T.2.2.1 j = s.2.2.1 j ∧ T.2.2.2 j = s.2.2.2 j
theorem sameDo.of {lt cu nu : Int32} {T T' : PQ} {i j : Nat} (h : sameDo lt cu nu T i) (a : agree j T' T) (hij : i ≠ j) : sameDo lt cu nu T' i := by
  intro p
  obtain ⟨e1, e2, e3⟩ := a i hij
  rw [e1, e2, e3]
  exact h p
/-- what follows from a thing's reading -/
def TH (tx : Nat → Int32) (ln i : Nat) (s : PQ) (s' : PS) (lt : Int32) (A : Int32 × PQ) (B : Int32 × PS) : Prop :=
  A.1 = B.1 ∧ A.2.1 = B.2.1 ∧ (¬ B.1 = 0 → sameDo lt B.2.2.1 B.2.2.2 A.2 i) ∧ agree i A.2 s
theorem n3_rd {tx : Nat → Int32} {ln i l M : Nat} {code : Int32} (hln : ln ≤ 60) (hl : l ≤ 1) (hM : M < 1000) (hc : ¬ code = -1) {s : PQ} {s' : PS} (e : s.1 = s'.1) :
    (sqQ (qCup tx ln i s) (fun s => sqQ (qChr tx ln code s) (fun s => finQ (qNum tx ln i (nI l) (nI M) s)))).1 = (sq (rdCup tx ln s') (fun s => sq (rdChr tx ln code s) (fun s => fin (rdNum tx ln (nI l) (nI M) s)))).1 ∧
    (sqQ (qCup tx ln i s) (fun s => sqQ (qChr tx ln code s) (fun s => finQ (qNum tx ln i (nI l) (nI M) s)))).2.1 = (sq (rdCup tx ln s') (fun s => sq (rdChr tx ln code s) (fun s => fin (rdNum tx ln (nI l) (nI M) s)))).2.1 ∧
    (¬ (sq (rdCup tx ln s') (fun s => sq (rdChr tx ln code s) (fun s => fin (rdNum tx ln (nI l) (nI M) s)))).1 = 0 →
      (sqQ (qCup tx ln i s) (fun s => sqQ (qChr tx ln code s) (fun s => finQ (qNum tx ln i (nI l) (nI M) s)))).2.2.2.1 i = (sq (rdCup tx ln s') (fun s => sq (rdChr tx ln code s) (fun s => fin (rdNum tx ln (nI l) (nI M) s)))).2.2.1 ∧
      (sqQ (qCup tx ln i s) (fun s => sqQ (qChr tx ln code s) (fun s => finQ (qNum tx ln i (nI l) (nI M) s)))).2.2.2.2 i = (sq (rdCup tx ln s') (fun s => sq (rdChr tx ln code s) (fun s => fin (rdNum tx ln (nI l) (nI M) s)))).2.2.2) ∧
    (sqQ (qCup tx ln i s) (fun s => sqQ (qChr tx ln code s) (fun s => finQ (qNum tx ln i (nI l) (nI M) s)))).2.2.1 = s.2.1 ∧
    agree i (sqQ (qCup tx ln i s) (fun s => sqQ (qChr tx ln code s) (fun s => finQ (qNum tx ln i (nI l) (nI M) s)))).2 s := by
  obtain ⟨a1, a2, a3, a4, a5, a6, a7⟩ := cup_rd (tx := tx) (ln := ln) (i := i) e
  generalize qCup tx ln i s = A at *
  generalize rdCup tx ln s' = A' at *
  unfold sqQ sq
  rw [a1]
  by_cases z : A'.1 = 0
  · simp only [if_pos z]
    exact ⟨trivial, a2, fun y => absurd rfl y, a5, fun j hj => ⟨by rw [a5], a6 j hj, by rw [a7]⟩⟩
  · simp only [if_neg z]
    obtain ⟨b1, b2, b3, b4⟩ := chr_eq (tx := tx) (ln := ln) hc a2
    generalize qChr tx ln code A.2 = B at *
    generalize rdChr tx ln code A'.2 = B' at *
    rw [b1]
    by_cases y : B'.1 = 0
    · simp only [if_pos y]
      refine ⟨trivial, b2, fun y => absurd rfl y, by rw [b3]; exact a5, fun j hj => ⟨by rw [b3, a5], by rw [b3]; exact a6 j hj, by rw [b3, a7]⟩⟩
    · simp only [if_neg y]
      obtain ⟨c1, c2, c3, c4, c5, c6, c7⟩ := num_rd (tx := tx) (i := i) hln hl hM b2
      generalize qNum tx ln i (nI l) (nI M) B.2 = C at *
      generalize rdNum tx ln (nI l) (nI M) B'.2 = C' at *
      unfold finQ fin
      rw [c1]
      have ag : agree i C.2 s := fun j hj => ⟨by rw [c5, b3, a5], by rw [c6, b3]; exact a6 j hj, by rw [c7 j hj, b3, a7]⟩
      have k5 : C.2.2.1 = s.2.1 := by rw [c5, b3]; exact a5
      by_cases x : C'.1 = 0
      · simp only [if_pos x]
        exact ⟨trivial, c2, fun y => absurd rfl y, k5, ag⟩
      · simp only [if_neg x]
        refine ⟨trivial, c2, fun _ => ⟨?_, c4 x⟩, k5, ag⟩
        rw [c6, b3, a4 z, c3, b4]
theorem thing_eq {tx : Nat → Int32} {ln i : Nat} (hln : ln ≤ 60) {s : PQ} {s' : PS} (e : s.1 = s'.1) : TH tx ln i s s' (ltF tx ln s'.1) (qThing tx ln i s) (rdThing tx ln s') := by
  -- the letter
  have hk : ∀ k : Int32, ¬ k = -1 → ¬ k = 0 → (lkF tx ln s.1 = k ↔ ltF tx ln s'.1 = k) := by
    intro k h1 h0
    unfold lkF ltF
    rw [e]
    by_cases a : ln ≤ s'.1
    · rw [if_pos a, if_pos a]; exact ⟨fun z => absurd z.symm h1, fun z => absurd z.symm h0⟩
    · rw [if_neg a, if_neg a]
  have k46 := hk 46 (by decide) (by decide)
  have k102 := hk 102 (by decide) (by decide)
  have k103 := hk 103 (by decide) (by decide)
  have k104 := hk 104 (by decide) (by decide)
  have k115 := hk 115 (by decide) (by decide)
  unfold qThing rdThing rdBody
  generalize lkF tx ln s.1 = kd at *
  generalize ltF tx ln s'.1 = lt at *
  have e1 : (qSt i kd s).2.1 = s'.1 + 1 := by show s.1 + 1 = _; rw [e]
  have eS : ∀ j, j ≠ i → (qSt i kd s).2.2.1 j = s.2.1 j := fun j hj => pk_un hj
  have eK : (qSt i kd s).2.2.1 i = kd := pk_us
  by_cases c : lt = 46
  · have c' := k46.mpr c
    simp only [if_pos c, if_pos c']
    obtain ⟨c1, c2, c3, c4, c5, c6, c7⟩ := num_rd (tx := tx) (i := i) (l := 1) (M := 99) (s := (qSt i kd s).2) (s' := (s'.1 + 1, s'.2.1, s'.2.2)) hln (by decide) (by decide) e1
    refine ⟨?_, by rw [finQ_2]; exact c2, fun x p => ?_, fun j hj => by rw [finQ_2]; exact ⟨by rw [c5]; exact eS j hj, by rw [c6]; rfl, by rw [c7 j hj]; rfl⟩⟩
    · unfold finQ
      rw [c1]
      by_cases x : (rdNum tx ln (nI 1) (nI 99) (s'.1 + 1, s'.2.1, s'.2.2)).1 = 0
      · rw [if_pos x]; exact x.symm
      · rw [if_neg x]
        unfold rdNum at x ⊢
        split at x
        · exact absurd rfl x
        · rename_i y; rw [if_neg y]
    · rw [finQ_2, c5, eK, c4 x, c, c']
      exact ⟨rfl, rfl⟩
  · have c' : ¬ kd = 46 := fun z => c (k46.mp z)
    simp only [if_neg c, if_neg c']
    by_cases d : lt = 102
    · have d' := k102.mpr d
      simp only [if_pos d, if_pos d']
      obtain ⟨a1, a2, a3, a4, a5⟩ := n3_rd (tx := tx) (ln := ln) (i := i) (l := 1) (M := 99) (code := 43) (s := (qSt i kd s).2) (s' := (s'.1 + 1, s'.2.1, s'.2.2)) hln (by decide) (by decide) (by decide) e1
      refine ⟨a1, a2, fun x p => ?_, fun j hj => ⟨(a5 j hj).1.trans (eS j hj), (a5 j hj).2.1, (a5 j hj).2.2⟩⟩
      have g := a3 x
      have g1 := g.1
      have g2 := g.2
      rw [← d'] at g1 g2 ⊢
      rw [← d'] at a4
      exact ⟨by rw [a4, eK]; rw [show lt = kd from d.trans d'.symm]; exact congrArg₂ (doesP p kd) g1.symm g2.symm, by rw [a4, eK]; rw [show lt = kd from d.trans d'.symm]; exact congrArg₂ (doesR p kd) g1.symm g2.symm⟩
    · have d' : ¬ kd = 102 := fun z => d (k102.mp z)
      simp only [if_neg d, if_neg d']
      by_cases f : lt = 103
      · have f' := k103.mpr f
        simp only [if_pos f, if_pos f']
        obtain ⟨a1, a2, a3, a4, a5, a6, a7⟩ := cup_rd (tx := tx) (ln := ln) (i := i) (s := (qSt i kd s).2) (s' := (s'.1 + 1, s'.2.1, s'.2.2)) e1
        refine ⟨?_, by rw [finQ_2]; exact a2, fun x p => ?_, fun j hj => by rw [finQ_2]; exact ⟨by rw [a5]; exact eS j hj, by rw [a6 j hj]; rfl, by rw [a7]; rfl⟩⟩
        · unfold finQ
          rw [a1]
          by_cases x : (rdCup tx ln (s'.1 + 1, s'.2.1, s'.2.2)).1 = 0
          · rw [if_pos x]; exact x.symm
          · rw [if_neg x]
            have y : ¬ nxF tx ln (s'.1 + 1) 48 55 = 0 := x
            show 1 = nxF tx ln (s'.1 + 1) 48 55
            unfold nxF at y ⊢
            split at y
            · exact absurd rfl y
            · rename_i z
              rw [if_neg z]
              split at y
              · exact absurd rfl y
              · rename_i w; rw [if_neg w]
        · rw [finQ_2, a5, eK, a4 x, f, f']
          exact ⟨rfl, rfl⟩
      · have f' : ¬ kd = 103 := fun z => f (k103.mp z)
        simp only [if_neg f, if_neg f']
        by_cases g : lt = 104
        · have g' := k104.mpr g
          simp only [if_pos g, if_pos g']
          obtain ⟨a1, a2, a3, a4, a5⟩ := n3_rd (tx := tx) (ln := ln) (i := i) (l := 0) (M := 239) (code := 64) (s := (qSt i kd s).2) (s' := (s'.1 + 1, s'.2.1, s'.2.2)) hln (by decide) (by decide) (by decide) e1
          refine ⟨a1, a2, fun x p => ?_, fun j hj => ⟨(a5 j hj).1.trans (eS j hj), (a5 j hj).2.1, (a5 j hj).2.2⟩⟩
          have gg := a3 x
          have g1 := gg.1
          have g2 := gg.2
          rw [← g'] at g1 g2 ⊢
          rw [← g'] at a4
          exact ⟨by rw [a4, eK]; rw [show lt = kd from g.trans g'.symm]; exact congrArg₂ (doesP p kd) g1.symm g2.symm, by rw [a4, eK]; rw [show lt = kd from g.trans g'.symm]; exact congrArg₂ (doesR p kd) g1.symm g2.symm⟩
        · have g' : ¬ kd = 104 := fun z => g (k104.mp z)
          simp only [if_neg g, if_neg g']
          by_cases h : lt = 115
          · have h' := k115.mpr h
            simp only [if_pos h, if_pos h']
            obtain ⟨a1, a2, a3, a4, a5⟩ := n3_rd (tx := tx) (ln := ln) (i := i) (l := 1) (M := 99) (code := 61) (s := (qSt i kd s).2) (s' := (s'.1 + 1, s'.2.1, s'.2.2)) hln (by decide) (by decide) (by decide) e1
            refine ⟨a1, a2, fun x p => ?_, fun j hj => ⟨(a5 j hj).1.trans (eS j hj), (a5 j hj).2.1, (a5 j hj).2.2⟩⟩
            have gg := a3 x
            have g1 := gg.1
            have g2 := gg.2
            rw [← h'] at g1 g2 ⊢
            rw [← h'] at a4
            exact ⟨by rw [a4, eK]; rw [show lt = kd from h.trans h'.symm]; exact congrArg₂ (doesP p kd) g1.symm g2.symm, by rw [a4, eK]; rw [show lt = kd from h.trans h'.symm]; exact congrArg₂ (doesR p kd) g1.symm g2.symm⟩
          · have h' : ¬ kd = 115 := fun z => h (k115.mp z)
            simp only [if_neg h, if_neg h']
            exact ⟨rfl, by rw [e]; show s'.1 = s'.1 + 1 - 1; omega, fun x => absurd rfl x, fun _ _ => ⟨rfl, rfl, rfl⟩⟩
