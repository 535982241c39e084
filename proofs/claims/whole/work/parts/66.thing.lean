/-! ===== a thing, and things one after the other ===== -/
/-- the thing that was read does the same on both sides -/
def sameDo (lt cu nu : Int32) (T : PQ) (i : Nat) : Prop := ∀ p : HC, doesP p lt cu nu = doesP p (T.2.1 i) (T.2.2.1 i) (T.2.2.2 i) ∧ doesR p lt cu nu = doesR p (T.2.1 i) (T.2.2.1 i) (T.2.2.2 i)
def agree (i : Nat) (T s : PQ) : Prop := ∀ j, j ≠ i → T.2.1 j = s.2.1 j ∧ T.2.2.1 j = s.2.2.1 j ∧ T.2.2.2 j = s.2.2.2 j
theorem sameDo.of {lt cu nu : Int32} {T T' : PQ} {i j : Nat} (h : sameDo lt cu nu T i) (a : agree j T' T) (hij : i ≠ j) : sameDo lt cu nu T' i := by
  intro p
  obtain ⟨e1, e2, e3⟩ := a i hij
  rw [e1, e2, e3]
  exact h p
/-- what follows from a thing's reading -/
def TH (tx : Nat → Int32) (ln i : Nat) (s : PQ) (s' : PS) (lt : Int32) (A : Int32 × PQ) (B : Int32 × PS) : Prop :=
  A.1 = B.1 ∧ A.2.1 = B.2.1 ∧ (¬ B.1 = 0 → sameDo lt B.2.2.1 B.2.2.2 A.2 i) ∧ agree i A.2 s
theorem num_rd2 {tx : Nat → Int32} {ln i l M : Nat} {least most : Int32} (hle : least = nI l) (hmo : most = nI M) (hln : ln ≤ 60) (hl : l ≤ 1) (hM : M < 1000) {s : PQ} {s' : PS} (e : s.1 = s'.1) : (qNum tx ln i least most s).1 = (rdNum tx ln least most s').1 ∧ (qNum tx ln i least most s).2.1 = (rdNum tx ln least most s').2.1 ∧ (rdNum tx ln least most s').2.2.1 = s'.2.1 ∧ (¬ (rdNum tx ln least most s').1 = 0 → (qNum tx ln i least most s).2.2.2.2 i = (rdNum tx ln least most s').2.2.2) ∧ (qNum tx ln i least most s).2.2.1 = s.2.1 ∧ (qNum tx ln i least most s).2.2.2.1 = s.2.2.1 ∧ (∀ j, j ≠ i → (qNum tx ln i least most s).2.2.2.2 j = s.2.2.2 j) := by
  subst hle
  subst hmo
  exact num_rd hln hl hM e
theorem n3_rd {tx : Nat → Int32} {ln i l M : Nat} {code least most : Int32} (hle : least = nI l) (hmo : most = nI M) (hln : ln ≤ 60) (hl : l ≤ 1) (hM : M < 1000) (hc : ¬ code = -1) {s : PQ} {s' : PS} (e : s.1 = s'.1) :
    (sqQ (qCup tx ln i s) (fun s => sqQ (qChr tx ln code s) (fun s => finQ (qNum tx ln i least most s)))).1 = (sq (rdCup tx ln s') (fun s => sq (rdChr tx ln code s) (fun s => fin (rdNum tx ln least most s)))).1 ∧
    (sqQ (qCup tx ln i s) (fun s => sqQ (qChr tx ln code s) (fun s => finQ (qNum tx ln i least most s)))).2.1 = (sq (rdCup tx ln s') (fun s => sq (rdChr tx ln code s) (fun s => fin (rdNum tx ln least most s)))).2.1 ∧
    (¬ (sq (rdCup tx ln s') (fun s => sq (rdChr tx ln code s) (fun s => fin (rdNum tx ln least most s)))).1 = 0 →
      (sqQ (qCup tx ln i s) (fun s => sqQ (qChr tx ln code s) (fun s => finQ (qNum tx ln i least most s)))).2.2.2.1 i = (sq (rdCup tx ln s') (fun s => sq (rdChr tx ln code s) (fun s => fin (rdNum tx ln least most s)))).2.2.1 ∧
      (sqQ (qCup tx ln i s) (fun s => sqQ (qChr tx ln code s) (fun s => finQ (qNum tx ln i least most s)))).2.2.2.2 i = (sq (rdCup tx ln s') (fun s => sq (rdChr tx ln code s) (fun s => fin (rdNum tx ln least most s)))).2.2.2) ∧
    (sqQ (qCup tx ln i s) (fun s => sqQ (qChr tx ln code s) (fun s => finQ (qNum tx ln i least most s)))).2.2.1 = s.2.1 ∧
    agree i (sqQ (qCup tx ln i s) (fun s => sqQ (qChr tx ln code s) (fun s => finQ (qNum tx ln i least most s)))).2 s := by
  obtain ⟨a1, a2, a3, a4, a5, a6, a7⟩ := cup_rd (tx := tx) (ln := ln) (i := i) e
  generalize qCup tx ln i s = A at *
  generalize rdCup tx ln s' = A' at *
  unfold sqQ sq
  rw [a1]
  by_cases z : A'.1 = 0
  · simp only [if_pos z]
    exact ⟨trivial, a2, fun y => absurd trivial y, a5, fun j hj => ⟨by rw [a5], a6 j hj, by rw [a7]⟩⟩
  · simp only [if_neg z]
    obtain ⟨b1, b2, b3, b4⟩ := chr_eq (tx := tx) (ln := ln) hc a2
    generalize qChr tx ln code A.2 = B at *
    generalize rdChr tx ln code A'.2 = B' at *
    rw [b1]
    by_cases y : B'.1 = 0
    · simp only [if_pos y]
      refine ⟨trivial, b2, fun y => absurd trivial y, by rw [b3]; exact a5, fun j hj => ⟨by rw [b3, a5], by rw [b3]; exact a6 j hj, by rw [b3, a7]⟩⟩
    · simp only [if_neg y]
      obtain ⟨c1, c2, c3, c4, c5, c6, c7⟩ := num_rd2 (tx := tx) (i := i) hle hmo hln hl hM b2
      generalize qNum tx ln i least most B.2 = C at *
      generalize rdNum tx ln least most B'.2 = C' at *
      unfold finQ fin
      rw [c1]
      have ag : agree i C.2 s := fun j hj => ⟨by rw [c5, b3, a5], by rw [c6, b3]; exact a6 j hj, by rw [c7 j hj, b3, a7]⟩
      have k5 : C.2.2.1 = s.2.1 := by rw [c5, b3]; exact a5
      by_cases x : C'.1 = 0
      · simp only [if_pos x]
        exact ⟨trivial, c2, fun y => absurd trivial y, k5, ag⟩
      · simp only [if_neg x]
        refine ⟨trivial, c2, fun _ => ⟨?_, c4 x⟩, k5, ag⟩
        rw [c6, b3, a4 z, c3, b4]
theorem TH.of {tx : Nat → Int32} {ln i : Nat} {s : PQ} {s' : PS} {A : Int32 × PQ} {B : Int32 × PS} {kd lt : Int32} (hlk : lt = kd) (a1 : A.1 = B.1) (a2 : A.2.1 = B.2.1) (a3 : ¬ B.1 = 0 → A.2.2.2.1 i = B.2.2.1 ∧ A.2.2.2.2 i = B.2.2.2) (a4 : A.2.2.1 i = kd) (ag : agree i A.2 s) : TH tx ln i s s' lt A B := by
  refine ⟨a1, a2, fun x p => ?_, ag⟩
  obtain ⟨g1, g2⟩ := a3 x
  rw [a4, g1, g2, hlk]
  exact ⟨rfl, rfl⟩
theorem does_46 (p : HC) (cu cu' nu : Int32) : doesP p 46 cu nu = doesP p 46 cu' nu ∧ doesR p 46 cu nu = doesR p 46 cu' nu := by
  unfold doesP doesR
  rw [if_neg (by decide), if_neg (by decide), if_neg (by decide), if_neg (by decide), if_neg (by decide), if_neg (by decide), if_neg (by decide), if_neg (by decide)]
  rw [if_neg (by decide), if_neg (by decide), if_neg (by decide), if_neg (by decide), if_neg (by decide), if_neg (by decide), if_neg (by decide), if_neg (by decide)]
  exact ⟨rfl, rfl⟩
theorem does_103 (p : HC) (cu nu nu' : Int32) : doesP p 103 cu nu = doesP p 103 cu nu' ∧ doesR p 103 cu nu = doesR p 103 cu nu' := by
  unfold doesP doesR
  rw [if_neg (by decide), if_pos rfl, if_neg (by decide), if_pos rfl, if_neg (by decide), if_pos rfl, if_neg (by decide), if_pos rfl]
  exact ⟨rfl, rfl⟩
theorem fin1 {tx : Nat → Int32} {ln : Nat} {least most : Int32} {s : PS} {a : Int32} (h : a = (rdNum tx ln least most s).1) {q : PQ} : (finQ (a, q)).1 = (rdNum tx ln least most s).1 := by
  unfold finQ
  subst h
  by_cases x : (rdNum tx ln least most s).1 = 0
  · simp only [if_pos x]; exact x.symm
  · simp only [if_neg x]
    unfold rdNum at x ⊢
    split at x
    · exact absurd rfl x
    · rename_i y; rw [if_neg y]
theorem fin2 {tx : Nat → Int32} {ln : Nat} {s : PS} {a : Int32} (h : a = (rdCup tx ln s).1) {q : PQ} : (finQ (a, q)).1 = (rdCup tx ln s).1 := by
  unfold finQ
  subst h
  by_cases x : (rdCup tx ln s).1 = 0
  · simp only [if_pos x]; exact x.symm
  · simp only [if_neg x]
    have y : ¬ nxF tx ln s.1 48 55 = 0 := x
    show 1 = nxF tx ln s.1 48 55
    unfold nxF at y ⊢
    split at y
    · exact absurd rfl y
    · rename_i z
      rw [if_neg z]
      split at y
      · exact absurd rfl y
      · rename_i w; rw [if_neg w]
theorem thing_eq {tx : Nat → Int32} {ln i : Nat} (hln : ln ≤ 60) {s : PQ} {s' : PS} (e : s.1 = s'.1) : TH tx ln i s s' (ltF tx ln s'.1) (qThing tx ln i s) (rdThing tx ln s') := by
  -- the letter
  have hk : ∀ k : Int32, ¬ k = -1 → ¬ k = 0 → (lkF tx ln s.1 = k ↔ ltF tx ln s'.1 = k) := by
    intro k h1 h0
    unfold lkF ltF
    rw [e]
    by_cases a : ln ≤ s'.1
    · rw [if_pos a, if_pos a]; exact ⟨fun z => absurd z.symm h1, fun z => absurd z.symm h0⟩
    · rw [if_neg a, if_neg a]
  have k46 := hk 46 (by decide) (by decide)
  have k102 := hk 102 (by decide) (by decide)
  have k103 := hk 103 (by decide) (by decide)
  have k104 := hk 104 (by decide) (by decide)
  have k115 := hk 115 (by decide) (by decide)
  unfold qThing rdThing rdBody
  generalize lkF tx ln s.1 = kd at *
  generalize ltF tx ln s'.1 = lt at *
  have e1 : (qSt i kd s).2.1 = s'.1 + 1 := by show s.1 + 1 = _; rw [e]
  have eS : ∀ j, j ≠ i → (qSt i kd s).2.2.1 j = s.2.1 j := fun j hj => pk_un hj
  have eK : (qSt i kd s).2.2.1 i = kd := pk_us
  by_cases c : lt = 46
  · have c' := k46.mpr c
    simp only [if_pos c, if_pos c']
    obtain ⟨c1, c2, c3, c4, c5, c6, c7⟩ := num_rd2 (tx := tx) (ln := ln) (i := i) (l := 1) (M := 99) (least := 1) (most := 99) (s := (qSt i kd s).2) (s' := (s'.1 + 1, s'.2.1, s'.2.2)) rfl rfl hln (by decide) (by decide) e1
    generalize hA : qNum tx ln i 1 99 (qSt i kd s).2 = A at *
    refine ⟨fin1 c1, by rw [finQ_2]; exact c2, fun x p => ?_, fun j hj => by rw [finQ_2]; exact ⟨by rw [c5]; exact eS j hj, by rw [c6]; rfl, by rw [c7 j hj]; rfl⟩⟩
    rw [finQ_2, c5, eK, c4 x, c, c']
    exact does_46 _ _ _ _
  · have c' : ¬ kd = 46 := fun z => c (k46.mp z)
    simp only [if_neg c, if_neg c']
    by_cases d : lt = 102
    · have d' := k102.mpr d
      simp only [if_pos d, if_pos d']
      obtain ⟨a1, a2, a3, a4, a5⟩ := n3_rd (tx := tx) (ln := ln) (i := i) (l := 1) (M := 99) (least := 1) (most := 99) (code := 43) (s := (qSt i kd s).2) (s' := (s'.1 + 1, s'.2.1, s'.2.2)) rfl rfl hln (by decide) (by decide) (by decide) e1
      exact TH.of (d.trans d'.symm) a1 a2 a3 ((congrFun a4 i).trans eK) (fun j hj => ⟨(a5 j hj).1.trans (eS j hj), (a5 j hj).2.1, (a5 j hj).2.2⟩)
    · have d' : ¬ kd = 102 := fun z => d (k102.mp z)
      simp only [if_neg d, if_neg d']
      by_cases f : lt = 103
      · have f' := k103.mpr f
        simp only [if_pos f, if_pos f']
        obtain ⟨a1, a2, a3, a4, a5, a6, a7⟩ := cup_rd (tx := tx) (ln := ln) (i := i) (s := (qSt i kd s).2) (s' := (s'.1 + 1, s'.2.1, s'.2.2)) e1
        generalize hA : qCup tx ln i (qSt i kd s).2 = A at *
        refine ⟨fin2 a1, by rw [finQ_2]; exact a2, fun x p => ?_, fun j hj => by rw [finQ_2]; exact ⟨by rw [a5]; exact eS j hj, by rw [a6 j hj]; rfl, by rw [a7]; rfl⟩⟩
        rw [finQ_2, a5, eK, a4 x, f, f']
        exact does_103 _ _ _ _
      · have f' : ¬ kd = 103 := fun z => f (k103.mp z)
        simp only [if_neg f, if_neg f']
        by_cases g : lt = 104
        · have g' := k104.mpr g
          simp only [if_pos g, if_pos g']
          obtain ⟨a1, a2, a3, a4, a5⟩ := n3_rd (tx := tx) (ln := ln) (i := i) (l := 0) (M := 239) (least := 0) (most := 239) (code := 64) (s := (qSt i kd s).2) (s' := (s'.1 + 1, s'.2.1, s'.2.2)) rfl rfl hln (by decide) (by decide) (by decide) e1
          exact TH.of (g.trans g'.symm) a1 a2 a3 ((congrFun a4 i).trans eK) (fun j hj => ⟨(a5 j hj).1.trans (eS j hj), (a5 j hj).2.1, (a5 j hj).2.2⟩)
        · have g' : ¬ kd = 104 := fun z => g (k104.mp z)
          simp only [if_neg g, if_neg g']
          by_cases h : lt = 115
          · have h' := k115.mpr h
            simp only [if_pos h, if_pos h']
            obtain ⟨a1, a2, a3, a4, a5⟩ := n3_rd (tx := tx) (ln := ln) (i := i) (l := 1) (M := 99) (least := 1) (most := 99) (code := 61) (s := (qSt i kd s).2) (s' := (s'.1 + 1, s'.2.1, s'.2.2)) rfl rfl hln (by decide) (by decide) (by decide) e1
            exact TH.of (h.trans h'.symm) a1 a2 a3 ((congrFun a4 i).trans eK) (fun j hj => ⟨(a5 j hj).1.trans (eS j hj), (a5 j hj).2.1, (a5 j hj).2.2⟩)
          · have h' : ¬ kd = 115 := fun z => h (k115.mp z)
            simp only [if_neg h, if_neg h']
            exact ⟨rfl, by show s.1 = s'.1 + 1 - 1; omega, fun x => absurd rfl x, fun _ _ => ⟨rfl, rfl, rfl⟩⟩
