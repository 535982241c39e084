/-! ===== the reference's plan: things one after the other ===== -/
noncomputable def doesP (p : HC) (lt cu nu : Int32) : HC := if lt = 102 then (fillH p.1 p.2 cu nu, fillC p.2 cu nu) else if lt = 103 then (p.1, guardC p.2 cu) else if lt = 104 then (p.1, hourC p.2 cu nu) else if lt = 115 then (p.1, setC p.2 cu 0 nu) else tkN p (passN p nu)
noncomputable def doesR (p : HC) (lt cu nu : Int32) : Int32 := if lt = 102 then fillR p.2 cu nu else if lt = 103 then guardR p.2 cu else if lt = 104 then hourR p.2 cu nu else if lt = 115 then setR p.2 cu 0 nu else passR p nu
noncomputable def doesT (p : HC) (ti : Nat → Int32) (lt cu nu : Int32) : Nat → Int32 := if lt = 102 then ti else if lt = 103 then ti else if lt = 104 then ti else if lt = 115 then ti else tkT p ti (passN p nu)
theorem okP.of {p q : HC} (h : okP p) (h7 : q.1 7 = p.1 7) (hc : ∀ k w, w = 0 ∨ w = 2 → q.2 k w = p.2 k w) : okP q :=
  ⟨by rw [h7]; exact h.1, fun k hk => by rw [hc k 0 (Or.inl rfl), hc k 2 (Or.inr rfl)]; exact h.2 k hk⟩
theorem okP.fill {p : HC} (h : okP p) (cu nu : Int32) : okP (fillH p.1 p.2 cu nu, fillC p.2 cu nu) := by
  refine h.of ?_ ?_
  · show fillH p.1 p.2 cu nu 7 = p.1 7
    unfold fillH
    split
    · rfl
    · split
      · rfl
      · split
        · exact pk_un (by decide)
        · rfl
  · intro k w hw
    show fillC p.2 cu nu k w = p.2 k w
    unfold fillC
    split
    · rfl
    · split
      · rfl
      · split
        · exact u2_nw (by omega)
        · rfl
theorem okP.guard {p : HC} (h : okP p) (cu : Int32) : okP (p.1, guardC p.2 cu) := by
  refine h.of rfl ?_
  intro k w hw
  show guardC p.2 cu k w = p.2 k w
  unfold guardC
  split
  · rfl
  · split
    · rfl
    · rw [u2_nw (by omega), u2_nw (by omega)]
theorem okP.hour {p : HC} (h : okP p) (cu nu : Int32) : okP (p.1, hourC p.2 cu nu) := by
  refine h.of rfl ?_
  intro k w hw
  show hourC p.2 cu nu k w = p.2 k w
  unfold hourC
  split
  · rfl
  · split
    · rfl
    · split
      · rfl
      · split
        · rw [u2_nw (by omega), u2_nw (by omega), u2_nw (by omega)]
        · rw [u2_nw (by omega)]
theorem okP.turn {p : HC} (h : okP p) (cu : Int32) : okP (p.1, turnC p.2 cu) := by
  refine h.of rfl ?_
  intro k w hw
  show turnC p.2 cu k w = p.2 k w
  unfold turnC
  split
  · rfl
  · split
    · rfl
    · exact u2_nw (by omega)
theorem okP.setc {p : HC} (h : okP p) (cu wh va : Int32) : okP (p.1, setC p.2 cu wh va) := by
  show okP (p.1, setC p.2 cu wh va)
  unfold setC
  split
  · exact h
  · rename_i hc
    split
    · exact h
    · rename_i hv
      obtain ⟨k, hk, rfl⟩ := isCup_pos hc
      obtain ⟨w, hw, rfl⟩ := isVal_pos hv
      rw [nn_nI (by omega), nn_nI (by omega)]
      refine ⟨h.1, fun k2 hk2 => ?_⟩
      show ¬ u2 p.2 k w va k2 0 = 0 ∧ u2 p.2 k w va k2 2 = nI (nn (u2 p.2 k w va k2 2)) ∧ nn (u2 p.2 k w va k2 2) ≤ 8
      by_cases e : k2 = k
      · subst e
        have h3 : w = 0 ∨ w = 1 ∨ w = 2 := by omega
        rcases h3 with rfl | rfl | rfl
        · rw [u2_s, u2_nw (by decide)]
          refine ⟨?_, (h.2 k2 hk).2⟩
          have hv2 : ¬ inF va 1 99 = 0 := hv
          intro q
          rw [q] at hv2
          exact hv2 (by decide)
        · rw [u2_nw (by decide), u2_nw (by decide)]
          exact h.2 k2 hk
        · rw [u2_nw (by decide), u2_s]
          refine ⟨(h.2 k2 hk).1, ?_⟩
          have hv2 : ¬ (if inF va (nI k2 + 1) 8 = 0 then (0 : Int32) else 1) = 0 := hv
          have hv3 : ¬ inF va (nI k2 + 1) 8 = 0 := by
            intro q
            rw [if_pos q] at hv2
            exact hv2 rfl
          have hv4 := inF_ne hv3
          rw [nI_1] at hv4
          have h0 : ¬ va < 0 := fun q => hv4.1 (Int32.lt_trans q (Int32.lt_of_le_of_ne (nI_pos' (by omega)) (fun e => nI_ne0 (n := k2 + 1) (by omega) (by omega) e.symm)))
          obtain ⟨j, hj, rfl⟩ := nI_of h0
          have h8 := hv4.2
          rw [show (8 : Int32) = nI 8 from rfl, nI_ltI (by decide) hj] at h8
          rw [nn_nI hj]
          exact ⟨rfl, by omega⟩
      · rw [u2_nk e, u2_nk e]
        exact h.2 k2 hk2
theorem okP.does {p : HC} (h : okP p) (lt cu nu : Int32) : okP (doesP p lt cu nu) := by
  unfold doesP
  split
  · exact h.fill _ _
  · split
    · exact h.guard _
    · split
      · exact h.hour _ _
      · split
        · exact h.setc _ _ _
        · exact h.ticks _
def nxThing (tx : Nat → Int32) (ln : Nat) (s : PS) : Int32 × PS := fin (sq (rdChr tx ln 59 s) (rdThing tx ln))
def sI (tx : Nat → Int32) (ln : Nat) (s : PS) : Nat → Int32 × PS
  | 0 => rdThing tx ln s
  | i + 1 => nxThing tx ln (sI tx ln s i).2
def lI (tx : Nat → Int32) (ln : Nat) (s : PS) : Nat → Int32
  | 0 => ltF tx ln s.1
  | i + 1 => if (rdChr tx ln 59 (sI tx ln s i).2).1 = 0 then lI tx ln s i else ltF tx ln (rdChr tx ln 59 (sI tx ln s i).2).2.1
theorem sI_ok {tx : Nat → Int32} {ln : Nat} {s : PS} : ∀ i, (∀ j, j ≤ i → ¬ (sI tx ln s j).1 = 0) → i + 1 ≤ (sI tx ln s i).2.1 ∧ (sI tx ln s i).2.1 ≤ ln := by
  intro i
  induction i with
  | zero =>
    intro h
    have h1 := rdThing_ok (h 0 (Nat.le_refl _))
    exact ⟨by show 0 + 1 ≤ (rdThing tx ln s).2.1; omega, h1.2⟩
  | succ i ih =>
    intro h
    have g := ih (fun j hj => h j (by omega))
    have h1 : ¬ (fin (sq (rdChr tx ln 59 (sI tx ln s i).2) (rdThing tx ln))).1 = 0 := h (i + 1) (Nat.le_refl _)
    obtain ⟨h2, e2⟩ := fin_ok h1
    obtain ⟨h3, e3⟩ := sq_ok h2
    rw [e3] at h2
    have g3 := rdChr_ok h3
    have g4 := rdThing_ok h2
    show i + 1 + 1 ≤ (fin (sq (rdChr tx ln 59 (sI tx ln s i).2) (rdThing tx ln))).2.1 ∧ (fin (sq (rdChr tx ln 59 (sI tx ln s i).2) (rdThing tx ln))).2.1 ≤ ln
    rw [e2, e3]
    omega
theorem sI_next {tx : Nat → Int32} {ln : Nat} {s : PS} {i : Nat} (h : ∀ j, j < i → ¬ (sI tx ln s j).1 = 0) (h1 : ¬ (sI tx ln s i).1 = 0) : ∀ j, j ≤ i → ¬ (sI tx ln s j).1 = 0 := by
  intro j hj
  rcases Nat.lt_or_ge j i with q | q
  · exact h j q
  · obtain rfl : i = j := by omega
    exact h1
theorem sI_lt {tx : Nat → Int32} {ln : Nat} {s : PS} {i : Nat} (h : ∀ j, j < i → ¬ (sI tx ln s j).1 = 0) (h1 : ¬ (sI tx ln s i).1 = 0) : ∀ j, j < i + 1 → ¬ (sI tx ln s j).1 = 0 := fun j hj => sI_next h h1 j (by omega)
def rtF (tx : Nat → Int32) (ln : Nat) (s : PS) : Nat → Nat → Int32 × Nat
  | 0, i => (0, i)
  | r + 1, i => if (sI tx ln s i).1 = 0 then (0, i) else if (sI tx ln s i).2.1 = ln then (1, i) else rtF tx ln s r (i + 1)
noncomputable def pI (tx : Nat → Int32) (ln : Nat) (s : PS) (p : HC) : Nat → HC
  | 0 => p
  | i + 1 => doesP (pI tx ln s p i) (lI tx ln s i) (sI tx ln s i).2.2.1 (sI tx ln s i).2.2.2
noncomputable def pT (tx : Nat → Int32) (ln : Nat) (s : PS) (p : HC) (ti : Nat → Int32) : Nat → Nat → Int32
  | 0 => ti
  | i + 1 => doesT (pI tx ln s p i) (pT tx ln s p ti i) (lI tx ln s i) (sI tx ln s i).2.2.1 (sI tx ln s i).2.2.2
noncomputable def rI (tx : Nat → Int32) (ln : Nat) (s : PS) (p : HC) (i : Nat) : Int32 := doesR (pI tx ln s p i) (lI tx ln s i) (sI tx ln s i).2.2.1 (sI tx ln s i).2.2.2
theorem okP.things {p : HC} (h : okP p) {tx : Nat → Int32} {ln : Nat} {s : PS} (i : Nat) : okP (pI tx ln s p i) := by
  induction i with
  | zero => exact h
  | succ i ih => exact ih.does _ _ _
/-- how the second reading ends: 0 no plan, 1 done, 2 stopped; at which thing -/
noncomputable def rdF (tx : Nat → Int32) (ln : Nat) (s : PS) (p : HC) : Nat → Nat → Nat × Nat
  | 0, i => (0, i)
  | r + 1, i => if (sI tx ln s i).1 = 0 then (0, i) else if 0 ≤ rI tx ln s p i then (if (sI tx ln s i).2.1 = ln then (1, i) else rdF tx ln s p r (i + 1)) else if rI tx ln s p i = -5 then (if (sI tx ln s i).2.1 = ln then (1, i) else rdF tx ln s p r (i + 1)) else (2, i)
def k0F (r : Int32 × Nat) : Int32 := if r.1 = 0 then nI r.2 else nI (r.2 + 1)
def d1F (d : Nat × Nat) : Int32 := if d.1 = 0 then 0 else 1
def d2F (d : Nat × Nat) : Int32 := if d.1 = 1 then nI (d.2 + 1) else nI d.2
def d3F (d : Nat × Nat) : Nat := if d.1 = 0 then d.2 else d.2 + 1
noncomputable def d4F (tx : Nat → Int32) (ln : Nat) (s : PS) (p : HC) (d : Nat × Nat) : Int32 := if d.1 = 2 then rI tx ln s p d.2 else 0
theorem rtX_x : ∃ g : (Nat → Int32) → Nat → PS → Int32 × Nat, ∀ tx ln s, g tx ln s = rtF tx ln s 61 0 := ⟨_, fun _ _ _ => rfl⟩
noncomputable def rtX : (Nat → Int32) → Nat → PS → Int32 × Nat := Classical.choose rtX_x
theorem rtX_d (tx : Nat → Int32) (ln : Nat) (s : PS) : rtX tx ln s = rtF tx ln s 61 0 := Classical.choose_spec rtX_x tx ln s
theorem rdX_x : ∃ g : (Nat → Int32) → Nat → PS → HC → Nat × Nat, ∀ tx ln s p, g tx ln s p = rdF tx ln s p 61 0 := ⟨_, fun _ _ _ _ => rfl⟩
noncomputable def rdX : (Nat → Int32) → Nat → PS → HC → Nat × Nat := Classical.choose rdX_x
theorem rdX_d (tx : Nat → Int32) (ln : Nat) (s : PS) (p : HC) : rdX tx ln s p = rdF tx ln s p 61 0 := Classical.choose_spec rdX_x tx ln s p
theorem i10 : ¬ (1 : Int32) = 0 := by decide
theorem n01 : ¬ (0 : Nat) = 1 := by decide
theorem n02 : ¬ (0 : Nat) = 2 := by decide
theorem n10 : ¬ (1 : Nat) = 0 := by decide
theorem n12 : ¬ (1 : Nat) = 2 := by decide
theorem n20 : ¬ (2 : Nat) = 0 := by decide
theorem n21 : ¬ (2 : Nat) = 1 := by decide
