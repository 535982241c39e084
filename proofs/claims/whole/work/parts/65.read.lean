/-! ===== reading: the class's readers are the reference's ===== -/
theorem inF_01' {x lo hi : Int32} (h : ¬ inF x lo hi = 0) : inF x lo hi = 1 := (inF_01 x lo hi).resolve_left h
theorem dig_of {x : Int32} (h : ¬ inF x 48 57 = 0) : ∃ d, d ≤ 9 ∧ x = nI (48 + d) := by
  have h1 := inF_ne h
  have h0 : ¬ x < 0 := fun q => h1.1 (Int32.lt_trans q (by decide))
  obtain ⟨j, hj, rfl⟩ := nI_of h0
  have a := h1.1
  have b := h1.2
  rw [show (48 : Int32) = nI 48 from rfl, nI_ltI hj (by decide)] at a
  rw [show (57 : Int32) = nI 57 from rfl, nI_ltI (by decide) hj] at b
  exact ⟨j - 48, by omega, by congr 1; omega⟩
theorem d10_cases {d : Nat} (h : d ≤ 9) : d = 0 ∨ d = 1 ∨ d = 2 ∨ d = 3 ∨ d = 4 ∨ d = 5 ∨ d = 6 ∨ d = 7 ∨ d = 8 ∨ d = 9 := by omega
theorem inF_self {x c : Int32} : inF x c c = 0 ↔ ¬ x = c := by
  unfold inF
  by_cases a : x < c
  · rw [if_pos a]; exact ⟨fun _ e => Int32.lt_irrefl (a := c) (e ▸ a), fun _ => rfl⟩
  · rw [if_neg a]
    by_cases b : c < x
    · rw [if_pos b]; exact ⟨fun _ e => Int32.lt_irrefl (a := c) (by rw [e] at b; exact b), fun _ => rfl⟩
    · rw [if_neg b]
      have e : x = c := Int32.le_antisymm (Int32.not_lt.mp b) (Int32.not_lt.mp a)
      exact ⟨fun z => absurd z (by decide), fun z => absurd e z⟩
theorem chr_eq {tx : Nat → Int32} {ln : Nat} {code : Int32} (hc : ¬ code = -1) {s : PQ} {s' : PS} (e : s.1 = s'.1) : (qChr tx ln code s).1 = (rdChr tx ln code s').1 ∧ (qChr tx ln code s).2.1 = (rdChr tx ln code s').2.1 ∧ (qChr tx ln code s).2.2 = s.2 ∧ (rdChr tx ln code s').2.2 = s'.2 := by
  have k : lkF tx ln s'.1 = code ↔ ¬ nxF tx ln s'.1 code code = 0 := by
    unfold lkF nxF
    by_cases a : ln ≤ s'.1
    · rw [if_pos a, if_pos a]; exact ⟨fun z => absurd z.symm hc, fun z => absurd rfl z⟩
    · rw [if_neg a, if_neg a]
      by_cases b : inF (tx s'.1) code code = 0
      · rw [if_pos b]; exact ⟨fun z => absurd z (inF_self.mp b), fun z => absurd rfl z⟩
      · rw [if_neg b]
        refine ⟨fun _ => by decide, fun _ => ?_⟩
        by_cases z : tx s'.1 = code
        · exact z
        · exact absurd (inF_self.mpr z) b
  unfold qChr rdChr stp
  rw [e]
  by_cases a : lkF tx ln s'.1 = code
  · have b := k.mp a
    have c : nxF tx ln s'.1 code code = 1 := by
      unfold nxF at b ⊢
      split
      · rename_i z; rw [if_pos z] at b; exact absurd rfl b
      · rename_i z; rw [if_neg z] at b
        split
        · rename_i y; rw [if_pos y] at b; exact absurd rfl b
        · rfl
    rw [if_pos a, c, if_neg (by decide)]
    exact ⟨rfl, rfl, rfl, rfl⟩
  · have b : nxF tx ln s'.1 code code = 0 := by
      by_cases z : nxF tx ln s'.1 code code = 0
      · exact z
      · exact absurd (k.mpr z) a
    rw [if_neg a, b, if_pos rfl]
    exact ⟨rfl, e, rfl, rfl⟩
theorem ld_out {tx : Nat → Int32} {ln pl : Nat} (h : ln ≤ pl) : ldF tx ln pl = -1 := by
  unfold ldF lkF
  rw [if_pos h, if_pos (show inF (-1) 48 57 = 0 by decide)]
theorem ld_in {tx : Nat → Int32} {ln pl : Nat} (h : ¬ ln ≤ pl) : ldF tx ln pl = if inF (tx pl) 48 57 = 0 then -1 else tx pl - 48 := by
  unfold ldF lkF
  rw [if_neg h]
theorem nx_in {tx : Nat → Int32} {ln pl : Nat} {lo hi : Int32} (h : ¬ ln ≤ pl) : nxF tx ln pl lo hi = if inF (tx pl) lo hi = 0 then 0 else 1 := by
  unfold nxF; rw [if_neg h]
theorem nx_out {tx : Nat → Int32} {ln pl : Nat} {lo hi : Int32} (h : ln ≤ pl) : nxF tx ln pl lo hi = 0 := by
  unfold nxF; rw [if_pos h]
theorem sub48 (d : Nat) : nI (48 + d) - 48 = nI d := by
  rw [show (48 : Int32) = nI 48 from rfl, nI_subI (by omega)]
  congr 1; omega
/-- a narrower span of digits -/
theorem in_narrow {x lo : Int32} (hl : 48 ≤ lo) {hi : Int32} (hh : hi ≤ 57) (h : inF x 48 57 = 0) : inF x lo hi = 0 := by
  unfold inF at h ⊢
  by_cases a : x < 48
  · rw [if_pos (Int32.lt_of_lt_of_le a hl)]
  · rw [if_neg a] at h
    by_cases b : 57 < x
    · by_cases c : x < lo
      · rw [if_pos c]
      · rw [if_neg c, if_pos (Int32.lt_of_le_of_lt hh b)]
    · rw [if_neg b] at h; exact absurd h (by decide)
theorem cup_rd {tx : Nat → Int32} {ln i : Nat} {s : PQ} {s' : PS} (e : s.1 = s'.1) : (qCup tx ln i s).1 = (rdCup tx ln s').1 ∧ (qCup tx ln i s).2.1 = (rdCup tx ln s').2.1 ∧ (rdCup tx ln s').2.2.2 = s'.2.2 ∧ (¬ (rdCup tx ln s').1 = 0 → (qCup tx ln i s).2.2.2.1 i = (rdCup tx ln s').2.2.1) ∧ (qCup tx ln i s).2.2.1 = s.2.1 ∧ (∀ j, j ≠ i → (qCup tx ln i s).2.2.2.1 j = s.2.2.1 j) ∧ (qCup tx ln i s).2.2.2.2 = s.2.2.2 := by
  have fail : inF (ldF tx ln s'.1) 0 7 = 0 → nxF tx ln s'.1 48 55 = 0 → _ := fun a b => by
    show (qCup tx ln i s).1 = (rdCup tx ln s').1 ∧ (qCup tx ln i s).2.1 = (rdCup tx ln s').2.1 ∧ (rdCup tx ln s').2.2.2 = s'.2.2 ∧ (¬ (rdCup tx ln s').1 = 0 → (qCup tx ln i s).2.2.2.1 i = (rdCup tx ln s').2.2.1) ∧ (qCup tx ln i s).2.2.1 = s.2.1 ∧ (∀ j, j ≠ i → (qCup tx ln i s).2.2.2.1 j = s.2.2.1 j) ∧ (qCup tx ln i s).2.2.2.2 = s.2.2.2
    unfold qCup rdCup stp
    rw [e, if_pos a, b, if_pos rfl]
    exact ⟨rfl, e, rfl, fun z => absurd rfl z, rfl, fun _ _ => rfl, rfl⟩
  by_cases a : ln ≤ s'.1
  · exact fail (by rw [ld_out a]; decide) (nx_out a)
  · by_cases b : inF (tx s'.1) 48 57 = 0
    · refine fail (by rw [ld_in a, if_pos b]; decide) ?_
      rw [nx_in a, if_pos (in_narrow (by decide) (by decide) b)]
    · obtain ⟨d, hd, ex⟩ := dig_of b
      have el : ldF tx ln s'.1 = nI d := by rw [ld_in a, if_neg b, ex, sub48]
      by_cases c : d ≤ 7
      · have h1 : ¬ inF (ldF tx ln s'.1) 0 7 = 0 := by
          rw [el]
          rcases d10_cases hd with rfl | rfl | rfl | rfl | rfl | rfl | rfl | rfl | rfl | rfl <;> first | decide | omega
        have h2 : nxF tx ln s'.1 48 55 = 1 := by
          rw [nx_in a, ex]
          rcases d10_cases hd with rfl | rfl | rfl | rfl | rfl | rfl | rfl | rfl | rfl | rfl <;> first | decide | omega
        unfold qCup rdCup stp
        rw [e, if_neg h1, h2, if_neg (by decide), if_neg (by decide)]
        refine ⟨rfl, rfl, rfl, fun _ => ?_, rfl, fun j hj => pk_un hj, rfl⟩
        show upd s.2.2.1 i (ldF tx ln s'.1) i = tx s'.1 - 48
        rw [pk_us, el, ex, sub48]
      · refine fail ?_ ?_
        · rw [el]
          rcases d10_cases hd with rfl | rfl | rfl | rfl | rfl | rfl | rfl | rfl | rfl | rfl <;> first | decide | omega
        · rw [nx_in a, ex]
          rcases d10_cases hd with rfl | rfl | rfl | rfl | rfl | rfl | rfl | rfl | rfl | rfl <;> first | decide | omega
theorem rn_eq {tx : Nat → Int32} {ln M : Nat} (hln : ln ≤ 60) (hM : M < 1000) : ∀ m, m ≤ 2 → ∀ r q v, 60 ≤ q + r → v < 1000 → (v = 0 ∨ 10 ^ (2 - m) ≤ v) → rnL tx ln (nI M) r (nI v) q = qL tx ln (nI M) m (nI v) q := by
  intro m
  induction m with
  | zero =>
    intro _ r q v hq hv hc
    rw [qL]
    cases r with
    | zero => rfl
    | succ r =>
      rw [rnL]
      by_cases a : nI v ≤ 0
      · rw [if_pos a]
      · rw [if_neg a]
        by_cases b : nxF tx ln q 48 57 = 0
        · rw [if_pos b]
        · rw [if_neg b]
          have hn : ¬ ln ≤ q := fun z => b (nx_out z)
          have c : ¬ inF (tx q) 48 57 = 0 := fun z => b (by rw [nx_in hn, if_pos z])
          obtain ⟨d, hd, ex⟩ := dig_of c
          have hv0 : v ≠ 0 := fun z => a (by rw [z]; decide)
          have hv1 : 100 ≤ v := hc.resolve_left hv0
          rw [ex, show (10 : Int32) = nI 10 from rfl, pk_mul, nI_add, show (48 : Int32) = nI 48 from rfl, nI_subI (by omega), if_pos (nI_lt (by omega) (by omega))]
  | succ m ih =>
    intro hm r q v hq hv hc
    rw [qL]
    cases r with
    | zero =>
      rw [rnL]
      by_cases a : nI v = 0
      · rw [if_pos a]
      · rw [if_neg a, if_pos (by rw [ld_out (by omega)]; decide)]
    | succ r =>
      rw [rnL]
      by_cases a : v = 0
      · subst a
        rw [if_pos (show nI 0 ≤ 0 by decide), if_pos (show nI 0 = 0 from rfl)]
      · rw [if_neg (nI_nle (by omega) (by omega)), if_neg (nI_ne0 (by omega) (by omega))]
        by_cases b : ln ≤ q
        · rw [if_pos (nx_out b), if_pos (by rw [ld_out b]; decide)]
        · by_cases c : inF (tx q) 48 57 = 0
          · rw [if_pos (by rw [nx_in b, if_pos c]), if_pos (by rw [ld_in b, if_pos c]; decide)]
          · obtain ⟨d, hd, ex⟩ := dig_of c
            have el : ldF tx ln q = nI d := by rw [ld_in b, if_neg c, ex, sub48]
            have hs : 10 * nI v + tx q - 48 = nI (10 * v + d) := by
              rw [ex, show (10 : Int32) = nI 10 from rfl, pk_mul, nI_add, show (48 : Int32) = nI 48 from rfl, nI_subI (by omega)]
              congr 1; omega
            have hs2 : 10 * nI v + ldF tx ln q = nI (10 * v + d) := by
              rw [el, show (10 : Int32) = nI 10 from rfl, pk_mul, nI_add]
            have hx0 : ¬ nxF tx ln q 48 57 = 0 := by rw [nx_in b, if_neg c]; decide
            have hl0 : ¬ ldF tx ln q < 0 := by rw [el]; exact nI_pos (by omega)
            rw [if_neg hx0, if_neg hl0, hs, hs2]
            by_cases g : 10 * v + d ≤ M
            · rw [if_neg (nI_nlt g (by omega)), if_pos (nI_le g (by omega))]
              refine ih (by omega) r (q + 1) (10 * v + d) (by omega) (by omega) (Or.inr ?_)
              have hc1 := hc.resolve_left a
              have e10 : 10 ^ (2 - m) = 10 * 10 ^ (2 - (m + 1)) := by
                rw [show 2 - m = (2 - (m + 1)) + 1 by omega, Nat.pow_succ, Nat.mul_comm]
              rw [e10]; omega
            · rw [if_pos (nI_lt (by omega) (by omega)), if_neg (nI_ge (by omega) (by omega))]
theorem num_rd {tx : Nat → Int32} {ln i l M : Nat} (hln : ln ≤ 60) (hl : l ≤ 1) (hM : M < 1000) {s : PQ} {s' : PS} (e : s.1 = s'.1) : (qNum tx ln i (nI l) (nI M) s).1 = (rdNum tx ln (nI l) (nI M) s').1 ∧ (qNum tx ln i (nI l) (nI M) s).2.1 = (rdNum tx ln (nI l) (nI M) s').2.1 ∧ (rdNum tx ln (nI l) (nI M) s').2.2.1 = s'.2.1 ∧ (¬ (rdNum tx ln (nI l) (nI M) s').1 = 0 → (qNum tx ln i (nI l) (nI M) s).2.2.2.2 i = (rdNum tx ln (nI l) (nI M) s').2.2.2) ∧ (qNum tx ln i (nI l) (nI M) s).2.2.1 = s.2.1 ∧ (qNum tx ln i (nI l) (nI M) s).2.2.2.1 = s.2.2.1 ∧ (∀ j, j ≠ i → (qNum tx ln i (nI l) (nI M) s).2.2.2.2 j = s.2.2.2 j) := by
  have hl2 : l = 0 ∨ l = 1 := by omega
  have fail : ¬ nI l ≤ ldF tx ln s'.1 → nxF tx ln s'.1 (48 + nI l) 57 = 0 → _ := fun a b => by
    show (qNum tx ln i (nI l) (nI M) s).1 = (rdNum tx ln (nI l) (nI M) s').1 ∧ (qNum tx ln i (nI l) (nI M) s).2.1 = (rdNum tx ln (nI l) (nI M) s').2.1 ∧ (rdNum tx ln (nI l) (nI M) s').2.2.1 = s'.2.1 ∧ (¬ (rdNum tx ln (nI l) (nI M) s').1 = 0 → (qNum tx ln i (nI l) (nI M) s).2.2.2.2 i = (rdNum tx ln (nI l) (nI M) s').2.2.2) ∧ (qNum tx ln i (nI l) (nI M) s).2.2.1 = s.2.1 ∧ (qNum tx ln i (nI l) (nI M) s).2.2.2.1 = s.2.2.1 ∧ (∀ j, j ≠ i → (qNum tx ln i (nI l) (nI M) s).2.2.2.2 j = s.2.2.2 j)
    unfold qNum rdNum
    rw [e, if_neg a, if_pos b]
    exact ⟨rfl, e, rfl, fun z => absurd rfl z, rfl, rfl, fun _ _ => rfl⟩
  by_cases a : ln ≤ s'.1
  · refine fail ?_ (nx_out a)
    rw [ld_out a]
    rcases hl2 with rfl | rfl <;> decide
  · by_cases b : inF (tx s'.1) 48 57 = 0
    · refine fail ?_ ?_
      · rw [ld_in a, if_pos b]
        rcases hl2 with rfl | rfl <;> decide
      · rw [nx_in a, if_pos (in_narrow (by rcases hl2 with rfl | rfl <;> decide) (by decide) b)]
    · obtain ⟨d, hd, ex⟩ := dig_of b
      have el : ldF tx ln s'.1 = nI d := by rw [ld_in a, if_neg b, ex, sub48]
      by_cases c : l ≤ d
      · have h1 : nI l ≤ ldF tx ln s'.1 := by rw [el]; exact nI_le c (by omega)
        have h2 : ¬ nxF tx ln s'.1 (48 + nI l) 57 = 0 := by
          rw [nx_in a, ex]
          rcases hl2 with rfl | rfl <;> rcases d10_cases hd with rfl | rfl | rfl | rfl | rfl | rfl | rfl | rfl | rfl | rfl <;> first | decide | omega
        have hr := rn_eq (tx := tx) hln hM 2 (by decide) (60 - s'.1) (s'.1 + 1) d (by omega) (by omega) (by omega)
        unfold qNum rdNum
        rw [e, if_pos h1, if_neg h2, el, ex, sub48, hr]
        exact ⟨rfl, rfl, rfl, fun _ => pk_us, rfl, rfl, fun j hj => pk_un hj⟩
      · refine fail ?_ ?_
        · rw [el]; exact nI_ge (by omega) (by omega)
        · rw [nx_in a, ex]
          rcases hl2 with rfl | rfl <;> rcases d10_cases hd with rfl | rfl | rfl | rfl | rfl | rfl | rfl | rfl | rfl | rfl <;> first | decide | omega
