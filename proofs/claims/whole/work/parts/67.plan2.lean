/-! ===== the plan read whole, and done ===== -/
def hR9 (tx : Nat → Int32) (ln : Nat) (s : PS) : Nat → PS
  | 0 => s
  | i + 1 => (rdChr tx ln 59 (sI tx ln s i).2).2
def chOk (tx : Nat → Int32) (ln : Nat) (s : PS) : Nat → Prop
  | 0 => True
  | i + 1 => ¬ (rdChr tx ln 59 (sI tx ln s i).2).1 = 0
theorem sI_hd {tx : Nat → Int32} {ln : Nat} {s : PS} : ∀ i, chOk tx ln s i → ((sI tx ln s i).1 = 0 ↔ (rdThing tx ln (hR9 tx ln s i)).1 = 0) ∧ (sI tx ln s i).2 = (rdThing tx ln (hR9 tx ln s i)).2 ∧ lI tx ln s i = ltF tx ln (hR9 tx ln s i).1 := by
  intro i
  cases i with
  | zero => intro _; exact ⟨Iff.rfl, rfl, rfl⟩
  | succ i =>
    intro h
    have h : ¬ (rdChr tx ln 59 (sI tx ln s i).2).1 = 0 := h
    have e : sI tx ln s (i + 1) = fin (rdThing tx ln (rdChr tx ln 59 (sI tx ln s i).2).2) := by
      rw [sI]
      unfold nxThing sq
      rw [if_neg h]
    refine ⟨?_, ?_, ?_⟩
    · rw [e]
      unfold fin
      show _ ↔ (rdThing tx ln (rdChr tx ln 59 (sI tx ln s i).2).2).1 = 0
      split
      · rename_i z; exact ⟨fun _ => z, fun _ => rfl⟩
      · rename_i z; exact ⟨fun y => absurd y i10, fun y => absurd y z⟩
    · rw [e]
      unfold fin
      show _ = (rdThing tx ln (rdChr tx ln 59 (sI tx ln s i).2).2).2
      split <;> rfl
    · rw [lI, if_neg h]
      rfl
theorem sI_bad {tx : Nat → Int32} {ln : Nat} {s : PS} {i : Nat} (h : (rdChr tx ln 59 (sI tx ln s i).2).1 = 0) : (sI tx ln s (i + 1)).1 = 0 ∧ (sI tx ln s (i + 1)).2 = (rdChr tx ln 59 (sI tx ln s i).2).2 := by
  have e : sI tx ln s (i + 1) = fin (0, (rdChr tx ln 59 (sI tx ln s i).2).2) := by
    rw [sI]
    unfold nxThing sq
    rw [if_pos h]
  rw [e]
  exact ⟨rfl, rfl⟩
def GG (tx : Nat → Int32) (ln : Nat) (s0 : PQ) (s : PS) (i : Nat) : Prop :=
  (headQ tx ln s0 i).1 = (hR9 tx ln s i).1 ∧ chOk tx ln s i ∧ ∀ j, j < i → ¬ (sI tx ln s j).1 = 0 ∧ ¬ (sI tx ln s j).2.1 = ln ∧ sameDo (lI tx ln s j) (sI tx ln s j).2.2.1 (sI tx ln s j).2.2.2 (headQ tx ln s0 i) j
/-- what the two readings agree on -/
def RE (tx : Nat → Int32) (ln : Nat) (s : PS) (R : Int32 × Nat × PQ) (rt : Int32 × Nat) : Prop :=
  (rt.1 = 0 ∧ (∃ n : Nat, n < 1000 ∧ (sI tx ln s rt.2).2.1 = n ∧ R.1 = nI n)) ∨
  (rt.1 = 1 ∧ R.1 = -1 ∧ R.2.1 = rt.2 + 1 ∧ R.2.1 ≤ 60 ∧ (sI tx ln s rt.2).2.1 = ln ∧ (∀ j, j < rt.2 → ¬ (sI tx ln s j).2.1 = ln) ∧ ∀ j, j ≤ rt.2 → ¬ (sI tx ln s j).1 = 0 ∧ sameDo (lI tx ln s j) (sI tx ln s j).2.2.1 (sI tx ln s j).2.2.2 R.2.2 j)
theorem re_all {tx : Nat → Int32} {ln : Nat} (hln : ln ≤ 60) {s0 : PQ} {s : PS} (h0 : s0.1 = 0) : ∀ r i, i + r = 60 → GG tx ln s0 s i → RE tx ln s (qF tx ln s0 r i) (rtF tx ln s (r + 1) i) := by
  intro r
  induction r with
  | zero =>
    intro i hi g
    exfalso
    have e : i = 60 := by omega
    subst e
    have g59 := g.2.2 59 (by decide)
    have k := sI_ok (tx := tx) (ln := ln) (s := s) 59 (fun j hj => (g.2.2 j (by omega)).1)
    have : (sI tx ln s 59).2.1 = ln := by omega
    exact g59.2.1 this
  | succ r ih =>
    intro i hi g
    obtain ⟨g1, g2, g3⟩ := id g
    obtain ⟨k1, k2, k3⟩ := sI_hd i g2
    obtain ⟨a1, a2, a3, a4⟩ := thing_eq (tx := tx) (i := i) hln g1
    have b1 := headQ_le (tx := tx) (ln := ln) (s := s0) i
    have b2 := qThing_le (tx := tx) (ln := ln) (i := i) (s := headQ tx ln s0 i)
    rw [h0] at b1
    rw [qF, rtF]
    by_cases z : (sI tx ln s i).1 = 0
    · have z2 : (qThing tx ln i (headQ tx ln s0 i)).1 = 0 := a1.trans (k1.mp z)
      rw [if_pos z, if_pos z2]
      exact Or.inl ⟨rfl, _, by omega, by rw [k2]; exact a2.symm, rfl⟩
    · have z1 : ¬ (rdThing tx ln (hR9 tx ln s i)).1 = 0 := fun q => z (k1.mpr q)
      have z2 : ¬ (qThing tx ln i (headQ tx ln s0 i)).1 = 0 := fun q => z1 (a1.symm.trans q)
      rw [if_neg z, if_neg z2]
      have hall : ∀ j, j ≤ i → ¬ (sI tx ln s j).1 = 0 := sI_next (fun j hj => (g3 j hj).1) z
      have hok := sI_ok i hall
      have ep : (qThing tx ln i (headQ tx ln s0 i)).2.1 = (sI tx ln s i).2.1 := by rw [k2]; exact a2
      have sd : ∀ j, j ≤ i → sameDo (lI tx ln s j) (sI tx ln s j).2.2.1 (sI tx ln s j).2.2.2 (qThing tx ln i (headQ tx ln s0 i)).2 j := by
        intro j hj
        by_cases e : j = i
        · subst e; rw [k3, k2]; exact a3 z1
        · exact (g3 j (by omega)).2.2.of a4 e
      by_cases y : (sI tx ln s i).2.1 = ln
      · have y2 : ln ≤ (qThing tx ln i (headQ tx ln s0 i)).2.1 := by omega
        rw [if_pos y, if_pos y2]
        exact Or.inr ⟨rfl, rfl, rfl, by show i + 1 ≤ 60; omega, y, fun j hj => (g3 j hj).2.1, fun j hj => ⟨hall j hj, sd j hj⟩⟩
      · have y2 : ¬ ln ≤ (qThing tx ln i (headQ tx ln s0 i)).2.1 := by omega
        rw [if_neg y, if_neg y2]
        obtain ⟨c1, c2, c3, c4⟩ := chr_eq (tx := tx) (ln := ln) (code := 59) (by decide) ep
        have b3 := qChr_le (tx := tx) (ln := ln) (code := 59) (s := (qThing tx ln i (headQ tx ln s0 i)).2)
        by_cases x : (rdChr tx ln 59 (sI tx ln s i).2).1 = 0
        · have x2 : (qChr tx ln 59 (qThing tx ln i (headQ tx ln s0 i)).2).1 = 0 := c1.trans x
          obtain ⟨d1, d2⟩ := sI_bad x
          rw [if_pos x2, rtF, if_pos d1]
          exact Or.inl ⟨rfl, _, by omega, by show (sI tx ln s (i + 1)).2.1 = _; rw [d2]; exact c2.symm, rfl⟩
        · have x2 : ¬ (qChr tx ln 59 (qThing tx ln i (headQ tx ln s0 i)).2).1 = 0 := fun q => x (c1.symm.trans q)
          rw [if_neg x2]
          refine ih (i + 1) (by omega) ⟨c2, x, fun j hj => ⟨hall j (by omega), ?_, ?_⟩⟩
          · by_cases e : j = i
            · subst e; exact y
            · exact (g3 j (by omega)).2.1
          · have e2 : (headQ tx ln s0 (i + 1)).2 = (qThing tx ln i (headQ tx ln s0 i)).2.2 := c3
            intro p
            rw [e2]
            exact sd j (by omega) p
theorem re_eq9 {tx : Nat → Int32} {ln : Nat} (hln : ln ≤ 60) {s0 : PQ} {s : PS} (h0 : s0.1 = 0) (h1 : s.1 = 0) : RE tx ln s (qX tx ln s0) (rtX tx ln s) := by
  rw [qX_d, rtX_d]
  exact re_all hln h0 60 0 rfl ⟨h0.trans h1.symm, trivial, fun j hj => absurd hj (by omega)⟩
/-- doing the things -/
theorem pI_eq {tx : Nat → Int32} {ln n : Nat} {s : PS} {T : PQ} {p : HC} (hc : CI p) (hs : ∀ j, j ≤ n → sameDo (lI tx ln s j) (sI tx ln s j).2.2.1 (sI tx ln s j).2.2.2 T j) : ∀ i, i ≤ n + 1 → pI tx ln s p i = kI T p i := by
  intro i
  induction i with
  | zero => intro _; rfl
  | succ i ih =>
    intro hi
    rw [pI, kI, ih (by omega), kDo_eq (hc.things i), (hs i (by omega) _).1]
theorem rI_eq {tx : Nat → Int32} {ln n : Nat} {s : PS} {T : PQ} {p : HC} (hc : CI p) (hs : ∀ j, j ≤ n → sameDo (lI tx ln s j) (sI tx ln s j).2.2.1 (sI tx ln s j).2.2.2 T j) {i : Nat} (hi : i ≤ n) : rI tx ln s p i = kRi T p i := by
  unfold rI kRi
  rw [pI_eq hc hs i (by omega), do_eq (hc.things i), (hs i hi _).2]
theorem rd_all {tx : Nat → Int32} {ln n : Nat} {s : PS} {T : PQ} {p : HC} (hc : CI p) (hend : (sI tx ln s n).2.1 = ln) (hbe : ∀ j, j < n → ¬ (sI tx ln s j).2.1 = ln) (hs : ∀ j, j ≤ n → ¬ (sI tx ln s j).1 = 0 ∧ sameDo (lI tx ln s j) (sI tx ln s j).2.2.1 (sI tx ln s j).2.2.2 T j) :
    ∀ r i, i ≤ n → n < i + r → (∀ j, j < i → errF (kRi T p j) = 0) → (rdF tx ln s p r i = (1, n) ∧ ∀ j, j ≤ n → errF (kRi T p j) = 0) ∨ ∃ j0, j0 ≤ n ∧ rdF tx ln s p r i = (2, j0) ∧ (∀ j, j < j0 → errF (kRi T p j) = 0) ∧ ¬ errF (kRi T p j0) = 0 ∧ ¬ 0 ≤ kRi T p j0 := by
  intro r
  induction r with
  | zero => intro i h1 h2 _; omega
  | succ r ih =>
    intro i h1 h2 h3
    have e := rI_eq hc (fun j hj => (hs j hj).2) h1
    rw [rdF, if_neg (hs i h1).1, e]
    have go : errF (kRi T p i) = 0 → ((if (sI tx ln s i).2.1 = ln then (1, i) else rdF tx ln s p r (i + 1)) = (1, n) ∧ ∀ j, j ≤ n → errF (kRi T p j) = 0) ∨ ∃ j0, j0 ≤ n ∧ (if (sI tx ln s i).2.1 = ln then (1, i) else rdF tx ln s p r (i + 1)) = (2, j0) ∧ (∀ j, j < j0 → errF (kRi T p j) = 0) ∧ ¬ errF (kRi T p j0) = 0 ∧ ¬ 0 ≤ kRi T p j0 := by
      intro z
      have h4 : ∀ j, j < i + 1 → errF (kRi T p j) = 0 := fun j hj => by
        by_cases q : j = i
        · subst q; exact z
        · exact h3 j (by omega)
      by_cases q : i = n
      · subst q
        rw [if_pos hend]
        exact Or.inl ⟨rfl, fun j hj => h4 j (by omega)⟩
      · rw [if_neg (hbe i (by omega))]
        exact ih (i + 1) (by omega) (by omega) h4
    by_cases a : 0 ≤ kRi T p i
    · have z : errF (kRi T p i) = 0 := by unfold errF; rw [if_pos a]
      rw [if_pos a]
      exact go z
    · rw [if_neg a]
      by_cases b : kRi T p i = -5
      · have z : errF (kRi T p i) = 0 := by unfold errF; rw [if_neg a, if_pos b]
        rw [if_pos b]
        exact go z
      · have z : ¬ errF (kRi T p i) = 0 := by unfold errF; rw [if_neg a, if_neg b]; decide
        rw [if_neg b]
        exact Or.inr ⟨i, h1, rfl, h3, z, a⟩
