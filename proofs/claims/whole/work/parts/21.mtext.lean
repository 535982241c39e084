/-! ===== the plan's text as the reference reads it: a state of reading is the place, the cup and the number ===== -/
abbrev PS : Type := Nat × Int32 × Int32
def fS (f : Nat → Int32) (s : PS) (lt dn er : Int32) : Nat → Int32 := upd (upd (upd (upd (upd (upd f 11 (nI s.1)) 12 lt) 13 s.2.1) 14 s.2.2) 15 dn) 16 er
def nxF (tx : Nat → Int32) (ln pl : Nat) (lo hi : Int32) : Int32 := if ln ≤ pl then 0 else if inF (tx pl) lo hi = 0 then 0 else 1
theorem nxF_n (tx : Nat → Int32) (ln pl : Nat) (lo hi : Int32) : narrow .boolean (.int (nxF tx ln pl lo hi)) = .int (nxF tx ln pl lo hi) := by
  unfold nxF; split
  · rfl
  · split <;> rfl
theorem nx_lt {tx : Nat → Int32} {ln pl : Nat} {lo hi : Int32} (h : ¬ nxF tx ln pl lo hi = 0) : pl < ln := by
  unfold nxF at h
  split at h
  · exact absurd rfl h
  · omega
def stp (b : Int32) (pl : Nat) : Nat := if b = 0 then pl else pl + 1
def rdChr (tx : Nat → Int32) (ln : Nat) (code : Int32) (s : PS) : Int32 × PS := (nxF tx ln s.1 code code, (stp (nxF tx ln s.1 code code) s.1, s.2.1, s.2.2))
def rdCup (tx : Nat → Int32) (ln : Nat) (s : PS) : Int32 × PS := (nxF tx ln s.1 48 55, (stp (nxF tx ln s.1 48 55) s.1, (if nxF tx ln s.1 48 55 = 0 then 0 else tx s.1 - 48), s.2.2))
def rnL (tx : Nat → Int32) (ln : Nat) (most : Int32) : Nat → Int32 → Nat → Int32 × Nat
  | 0, n, q => (n, q)
  | r + 1, n, q => if n ≤ 0 then (n, q) else if nxF tx ln q 48 57 = 0 then (n, q) else if most < 10 * n + tx q - 48 then (n, q) else rnL tx ln most r (10 * n + tx q - 48) (q + 1)
def rdNum (tx : Nat → Int32) (ln : Nat) (least most : Int32) (s : PS) : Int32 × PS := if nxF tx ln s.1 (48 + least) 57 = 0 then (0, s) else (1, ((rnL tx ln most (60 - s.1) (tx s.1 - 48) (s.1 + 1)).2, s.2.1, (rnL tx ln most (60 - s.1) (tx s.1 - 48) (s.1 + 1)).1))
def sq (r : Int32 × PS) (g : PS → Int32 × PS) : Int32 × PS := if r.1 = 0 then (0, r.2) else g r.2
def fin (r : Int32 × PS) : Int32 × PS := if r.1 = 0 then (0, r.2) else (1, r.2)
def rdBody (tx : Nat → Int32) (ln : Nat) (lt : Int32) (s : PS) : Int32 × PS :=
  if lt = 46 then rdNum tx ln 1 99 s
  else if lt = 102 then sq (rdCup tx ln s) (fun s => sq (rdChr tx ln 43 s) (fun s => fin (rdNum tx ln 1 99 s)))
  else if lt = 103 then rdCup tx ln s
  else if lt = 104 then sq (rdCup tx ln s) (fun s => sq (rdChr tx ln 64 s) (fun s => fin (rdNum tx ln 0 239 s)))
  else if lt = 115 then sq (rdCup tx ln s) (fun s => sq (rdChr tx ln 61 s) (fun s => fin (rdNum tx ln 1 99 s)))
  else (0, (s.1 - 1, s.2.1, s.2.2))
def ltF (tx : Nat → Int32) (ln pl : Nat) : Int32 := if ln ≤ pl then 0 else tx pl
def rdThing (tx : Nat → Int32) (ln : Nat) (s : PS) : Int32 × PS := rdBody tx ln (ltF tx ln s.1) (s.1 + 1, s.2.1, s.2.2)
theorem nb0 : narrow .boolean (.int 0) = .int 0 := rfl
theorem nb1 : narrow .boolean (.int 1) = .int 1 := rfl
theorem rdNum_n (tx : Nat → Int32) (ln : Nat) (least most : Int32) (s : PS) : narrow .boolean (.int (rdNum tx ln least most s).1) = .int (rdNum tx ln least most s).1 := by
  unfold rdNum; split
  · exact nb0
  · exact nb1
theorem fin_n (r : Int32 × PS) : narrow .boolean (.int (fin r).1) = .int (fin r).1 := by
  unfold fin; split
  · exact nb0
  · exact nb1
theorem sq_n {r : Int32 × PS} {g : PS → Int32 × PS} (h : ∀ s, narrow .boolean (.int (g s).1) = .int (g s).1) : narrow .boolean (.int (sq r g).1) = .int (sq r g).1 := by
  unfold sq; split
  · exact nb0
  · exact h _
theorem rdThing_n (tx : Nat → Int32) (ln : Nat) (s : PS) : narrow .boolean (.int (rdThing tx ln s).1) = .int (rdThing tx ln s).1 := by
  unfold rdThing rdBody
  split
  · exact rdNum_n _ _ _ _ _
  · split
    · exact sq_n fun _ => sq_n fun _ => fin_n _
    · split
      · exact nxF_n _ _ _ _ _
      · split
        · exact sq_n fun _ => sq_n fun _ => fin_n _
        · split
          · exact sq_n fun _ => sq_n fun _ => fin_n _
          · exact nb0
/-! places: never far behind the text, and on success within it -/
theorem stp_le {tx : Nat → Int32} {ln pl : Nat} {lo hi : Int32} : stp (nxF tx ln pl lo hi) pl ≤ max pl ln := by
  unfold stp
  split
  · exact Nat.le_max_left _ _
  · rename_i h; have := nx_lt h; omega
theorem rnL_le {tx : Nat → Int32} {ln : Nat} {most : Int32} : ∀ (r : Nat) (n : Int32) (q : Nat), (rnL tx ln most r n q).2 ≤ max q ln ∧ q ≤ (rnL tx ln most r n q).2 := by
  intro r
  induction r with
  | zero => intro n q; exact ⟨Nat.le_max_left _ _, Nat.le_refl _⟩
  | succ r ih =>
    intro n q
    unfold rnL
    split
    · exact ⟨Nat.le_max_left _ _, Nat.le_refl _⟩
    · split
      · exact ⟨Nat.le_max_left _ _, Nat.le_refl _⟩
      · rename_i h
        have := nx_lt h
        split
        · exact ⟨Nat.le_max_left _ _, Nat.le_refl _⟩
        · have := ih (10 * n + tx q - 48) (q + 1)
          omega
theorem rdChr_le {tx : Nat → Int32} {ln : Nat} {code : Int32} {s : PS} : (rdChr tx ln code s).2.1 ≤ max s.1 ln := stp_le
theorem rdCup_le {tx : Nat → Int32} {ln : Nat} {s : PS} : (rdCup tx ln s).2.1 ≤ max s.1 ln := stp_le
theorem rdNum_le {tx : Nat → Int32} {ln : Nat} {least most : Int32} {s : PS} : (rdNum tx ln least most s).2.1 ≤ max s.1 ln := by
  unfold rdNum
  split
  · exact Nat.le_max_left _ _
  · rename_i h
    have h1 := nx_lt h
    have h2 := (rnL_le (tx := tx) (ln := ln) (most := most) (60 - s.1) (tx s.1 - 48) (s.1 + 1)).1
    show (rnL tx ln most (60 - s.1) (tx s.1 - 48) (s.1 + 1)).2 ≤ _
    omega
theorem rdChr_ok {tx : Nat → Int32} {ln : Nat} {code : Int32} {s : PS} (h : ¬ (rdChr tx ln code s).1 = 0) : (rdChr tx ln code s).2.1 = s.1 + 1 ∧ s.1 + 1 ≤ ln := by
  have h1 : ¬ nxF tx ln s.1 code code = 0 := h
  have h2 := nx_lt h1
  exact ⟨by show stp _ _ = _; unfold stp; rw [if_neg h1], h2⟩
theorem rdCup_ok {tx : Nat → Int32} {ln : Nat} {s : PS} (h : ¬ (rdCup tx ln s).1 = 0) : (rdCup tx ln s).2.1 = s.1 + 1 ∧ s.1 + 1 ≤ ln := by
  have h1 : ¬ nxF tx ln s.1 48 55 = 0 := h
  have h2 := nx_lt h1
  exact ⟨by show stp _ _ = _; unfold stp; rw [if_neg h1], h2⟩
theorem rdNum_ok {tx : Nat → Int32} {ln : Nat} {least most : Int32} {s : PS} (h : ¬ (rdNum tx ln least most s).1 = 0) : s.1 + 1 ≤ (rdNum tx ln least most s).2.1 ∧ (rdNum tx ln least most s).2.1 ≤ ln := by
  unfold rdNum at h ⊢
  split at h
  · exact absurd rfl h
  · rename_i h1
    have h2 := nx_lt h1
    rw [if_neg h1]
    have h3 := rnL_le (tx := tx) (ln := ln) (most := most) (60 - s.1) (tx s.1 - 48) (s.1 + 1)
    show s.1 + 1 ≤ (rnL tx ln most (60 - s.1) (tx s.1 - 48) (s.1 + 1)).2 ∧ (rnL tx ln most (60 - s.1) (tx s.1 - 48) (s.1 + 1)).2 ≤ ln
    omega
theorem fin_ok {r : Int32 × PS} (h : ¬ (fin r).1 = 0) : ¬ r.1 = 0 ∧ (fin r).2 = r.2 := by
  unfold fin at h ⊢
  split at h
  · exact absurd rfl h
  · rename_i h1; exact ⟨h1, by rw [if_neg h1]⟩
theorem sq_ok {r : Int32 × PS} {g : PS → Int32 × PS} (h : ¬ (sq r g).1 = 0) : ¬ r.1 = 0 ∧ sq r g = g r.2 := by
  unfold sq at h ⊢
  split at h
  · exact absurd rfl h
  · rename_i h1; exact ⟨h1, by rw [if_neg h1]⟩
theorem three_ok {tx : Nat → Int32} {ln : Nat} {code least most : Int32} {s : PS} (h : ¬ (sq (rdCup tx ln s) (fun s => sq (rdChr tx ln code s) (fun s => fin (rdNum tx ln least most s)))).1 = 0) :
    s.1 ≤ (sq (rdCup tx ln s) (fun s => sq (rdChr tx ln code s) (fun s => fin (rdNum tx ln least most s)))).2.1 ∧ (sq (rdCup tx ln s) (fun s => sq (rdChr tx ln code s) (fun s => fin (rdNum tx ln least most s)))).2.1 ≤ ln := by
  obtain ⟨h1, e1⟩ := sq_ok h
  rw [e1] at h ⊢
  obtain ⟨h2, e2⟩ := sq_ok h
  rw [e2] at h ⊢
  obtain ⟨h3, e3⟩ := fin_ok h
  rw [e3]
  have g1 := rdCup_ok h1
  have g2 := rdChr_ok h2
  have g3 := rdNum_ok h3
  omega
theorem rdThing_ok {tx : Nat → Int32} {ln : Nat} {s : PS} (h : ¬ (rdThing tx ln s).1 = 0) : s.1 + 1 ≤ (rdThing tx ln s).2.1 ∧ (rdThing tx ln s).2.1 ≤ ln := by
  unfold rdThing rdBody at h ⊢
  split at h
  · rename_i e; rw [if_pos e]; have := rdNum_ok h; simp only at this; omega
  · rename_i e; rw [if_neg e]
    split at h
    · rename_i e; rw [if_pos e]; exact three_ok h
    · rename_i e; rw [if_neg e]
      split at h
      · rename_i e; rw [if_pos e]; have := rdCup_ok h; simp only at this; omega
      · rename_i e; rw [if_neg e]
        split at h
        · rename_i e; rw [if_pos e]; exact three_ok h
        · rename_i e; rw [if_neg e]
          split at h
          · rename_i e; rw [if_pos e]; exact three_ok h
          · exact absurd rfl h
