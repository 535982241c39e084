/-! ===== the class's looking ahead is the reference's ===== -/
theorem tkN0 (p : HC) (n : Nat) : (tkN p n).1 0 = p.1 0 + nI n := by
  induction n with
  | zero => exact (Int32.add_zero _).symm
  | succ n ih => rw [tkN_s, tick0, ih, Int32.add_assoc, nI_1]
theorem tkN7 (p : HC) (n : Nat) : (tkN p n).1 7 = p.1 7 := by
  induction n with
  | zero => rfl
  | succ n ih => rw [tkN_s, tickP_j _ _ (by decide), ih]
theorem same8 {p : HC} {k : Nat} (hk : k < 8) : ∀ i, (∀ j, j < i → tg p k j = 0) → (tkN p i).2 k 8 = p.2 k 8 := by
  intro i
  induction i with
  | zero => intro _; rfl
  | succ i ih => intro h; rw [tkN8 p hk, ih (fun j hj => h j (by omega)), h i (by omega), Int32.add_zero]
theorem ku_eq {p : HC} (h : CI p) (ht : TI 99999 p) {k : Nat} (hk : k < 8) : ∀ r i, i + r ≤ 500 → (∀ j, j < i → tg p k j = 0) → kuF p k r i = utF p k r i ∧ kuN p k r i = utN p k r i := by
  obtain ⟨t, ht0, htM, htk⟩ := id ht
  obtain ⟨u, hu, hu8⟩ := htk k hk
  intro r
  induction r with
  | zero => intro i _ _; exact ⟨rfl, rfl⟩
  | succ r ih =>
    intro i hi hz
    have hs := same8 hk i hz
    have e : (kN p (i + 1)).2 k 8 ≤ p.2 k 8 ↔ tg p k i = 0 := by
      rw [kN_eq h, tkN_s, hu8]
      exact tips_le (ht.ticks i) (by omega) hk (hs.trans hu8) (by omega)
    by_cases q : tg p k i = 0
    · have hz1 : ∀ j, j < i + 1 → tg p k j = 0 := fun j hj => by
        rcases Nat.lt_or_ge j i with z | z
        · exact hz j z
        · obtain rfl : j = i := by omega
          exact q
      have g := ih (i + 1) (by omega) hz1
      exact ⟨by rw [kuF, utF, if_pos (e.mpr q), if_pos q]; exact g.1, by rw [kuN, utN, if_pos (e.mpr q), if_pos q]; exact g.2⟩
    · exact ⟨by rw [kuF, utF, if_neg (fun z => q (e.mp z)), if_neg q], by rw [kuN, utN, if_neg (fun z => q (e.mp z)), if_neg q]⟩
theorem ut_cases (p : HC) (k : Nat) : ∀ r i, (utF p k r i = -5 ∧ ∀ j, i ≤ j → j < i + r → tg p k j = 0) ∨ ∃ j, i < j ∧ j ≤ i + r ∧ utF p k r i = nI j ∧ utN p k r i = j ∧ ¬ tg p k (j - 1) = 0 := by
  intro r
  induction r with
  | zero => intro i; exact Or.inl ⟨rfl, fun j h1 h2 => absurd h2 (by omega)⟩
  | succ r ih =>
    intro i
    by_cases q : tg p k i = 0
    · rcases ih (i + 1) with g | ⟨j, g1, g2, g3, g4, g5⟩
      · refine Or.inl ⟨by rw [utF, if_pos q]; exact g.1, fun j h1 h2 => ?_⟩
        by_cases e : j = i
        · subst e; exact q
        · exact g.2 j (by omega) (by omega)
      · exact Or.inr ⟨j, by omega, by omega, by rw [utF, if_pos q]; exact g3, by rw [utN, if_pos q]; exact g4, g5⟩
    · exact Or.inr ⟨i + 1, by omega, by omega, by rw [utF, if_neg q], by rw [utN, if_neg q], q⟩
theorem nI_n5 {j : Nat} (hj : j < 2 ^ 31) : ¬ nI j = -5 := fun e => by
  have h := nI_pos hj
  rw [e] at h
  exact h (by decide)
theorem ti_eq {p : HC} (h : CI p) (ht : TI 99999 p) (cup : Int32) : ktiR p cup = tipsInF p cup := by
  unfold ktiR tipsInF
  by_cases hc : inF cup 0 7 = 0
  · rw [if_pos hc, if_pos hc]
  · rw [if_neg hc, if_neg hc]
    obtain ⟨k, hk, rfl⟩ := isCup_pos hc
    rw [nn_nI (by omega), kuX_d]
    exact (ku_eq h ht hk 500 0 (by omega) (fun j hj => absurd hj (by omega))).1
theorem ho_eq {p : HC} (h : CI p) (ht : TI 99999 p) (cup : Int32) : khoR p cup = tipsAtF p cup := by
  unfold khoR
  rw [ti_eq h ht]
  unfold tipsInF tipsAtF ktiN
  by_cases hc : inF cup 0 7 = 0
  · simp only [if_pos hc]
    rw [if_neg (by decide)]
  · rw [if_neg hc, if_neg hc, if_neg hc]
    obtain ⟨k, hk, rfl⟩ := isCup_pos hc
    rw [nn_nI (by omega), kuY_d, (ku_eq h ht hk 500 0 (by omega) (fun j hj => absurd hj (by omega))).2]
    unfold hotF
    rcases ut_cases p k 500 0 with ⟨g, -⟩ | ⟨j, g1, g2, g3, g4, -⟩
    · rw [g, if_neg (by decide), if_pos rfl]
    · rw [g3, g4, if_pos (nI_pos' (by omega)), if_neg (nI_n5 (by omega)), kN_eq h]
      unfold hoR hrF
      rw [tkN7, if_neg (Int32.not_le.mpr h.1), tkN0]
theorem st_eq {p : HC} (h : CI p) (ht : TI 99999 p) : ∀ r, r ≤ 8 → kst2 (kN5 p) p r (8 - r) = stF p r := by
  intro r
  induction r with
  | zero => intro _; rfl
  | succ r ih =>
    intro hr
    have e8 : 8 - (r + 1) = 7 - r := by omega
    have e9 : 7 - r + 1 = 8 - r := by omega
    rw [kst2, stF, e8, e9, ih (by omega)]
    have hk : 7 - r < 8 := by omega
    generalize 7 - r = k at hk
    have e : (kN5 p).2 k 8 = p.2 k 8 ↔ utF p k 500 0 = -5 := by
      rw [kN5_d, kN_eq h]
      obtain ⟨t, ht0, htM, htk⟩ := id ht
      obtain ⟨u, hu, hu8⟩ := htk k hk
      -- tips never fall
      have mono : ∀ n, n ≤ 500 → ∃ v, v ≤ n ∧ (tkN p n).2 k 8 = nI (u + v) ∧ ((∃ j, j < n ∧ ¬ tg p k j = 0) → 0 < v) := by
        intro n
        induction n with
        | zero => intro _; exact ⟨0, Nat.le_refl _, hu8, fun ⟨j, hj, _⟩ => absurd hj (by omega)⟩
        | succ n ihn =>
          intro hn
          obtain ⟨v, hv, e1, hp⟩ := ihn (by omega)
          rcases tg_01 p k n with q | q
          · refine ⟨v, by omega, by rw [tkN8 p hk, q, e1, Int32.add_zero], fun ⟨j, hj, hj2⟩ => ?_⟩
            by_cases z : j = n
            · subst z; exact absurd q hj2
            · exact hp ⟨j, by omega, hj2⟩
          · exact ⟨v + 1, by omega, by rw [tkN8 p hk, q, e1, nI_1, Nat.add_assoc], fun _ => by omega⟩
      obtain ⟨v, hv, e1, hp⟩ := mono 500 (Nat.le_refl _)
      rcases ut_cases p k 500 0 with ⟨g, gz⟩ | ⟨j, g1, g2, g3, g4, g5⟩
      · rw [g]
        exact ⟨fun _ => rfl, fun _ => same8 hk 500 (fun j hj => gz j (by omega) (by omega))⟩
      · rw [g3, e1, hu8]
        have hv0 := hp ⟨j - 1, by omega, g5⟩
        exact ⟨fun z => absurd ((nI_eq (by omega) (by omega)).mp z) (by omega), fun z => absurd z (nI_n5 (by omega))⟩
    by_cases q : utF p k 500 0 = -5
    · rw [if_pos (e.mpr q), if_pos q]
    · rw [if_neg (fun z => q (e.mp z)), if_neg q]
theorem starve_eq {p : HC} (h : CI p) (ht : TI 99999 p) : kst3 (kN5 p) p = stF p 8 := by
  rw [kst3_d]
  exact st_eq h ht 8 (Nat.le_refl _)
theorem re_eq {p : HC} (h : CI p) (ht : TI 99999 p) (cup : Int32) : kreR p cup = reasonR p cup := by
  unfold kreR reasonR rsG
  by_cases hc : inF cup 0 7 = 0
  · rw [if_pos hc, if_pos hc]
  · rw [if_neg hc, if_neg hc]
    obtain ⟨k, hk, rfl⟩ := isCup_pos hc
    rw [nn_nI (by omega), kTick_eq h]
    have hh := h.2 k hk
    obtain ⟨t, ht0, htM, htk⟩ := id ht
    obtain ⟨u, hu, hu8⟩ := htk k hk
    have e : (tickP p).2 k 8 ≤ p.2 k 8 ↔ tg p k 0 = 0 := by
      have g := tips_le ht (by decide) hk hu8 (by omega)
      rw [← hu8] at g
      exact g
    have ut1 : utF p k 1 0 = if tg p k 0 = 0 then -5 else 1 := rfl
    rw [ut1]
    have hr : hoR p.1 (p.1 0) = hrF p.1 (p.1 0) := by unfold hoR; rw [if_neg (Int32.not_le.mpr h.1)]
    rw [hr]
    -- what tips is open, or is guarded in its hour
    have hop : ¬ tg p k 0 = 0 → (p.2 k 6 = 1 → hrF p.1 (p.1 0) = p.2 k 4) ∧ (¬ p.2 k 6 = 1 → p.2 k 5 = 1) := by
      intro q
      have q2 : ¬ opF (it1 (hourP p) (springP p) k).2 k (hourP p) = 0 := fun z => q (by
        show tpF _ _ _ = 0
        unfold tpF
        split
        · rfl
        · exact if_pos z)
      have hw : ∀ w, w < 8 → w ≠ 3 → w ≠ 7 → (it1 (hourP p) (springP p) k).2 k w = p.2 k w := fun w h1 h2 h3 => (it1_w _ _ _ _ _ h1 h2 h3).trans (springP_w _ _ _ h2)
      unfold opF at q2
      rw [hw 6 (by decide) (by decide) (by decide), hw 4 (by decide) (by decide) (by decide), hw 5 (by decide) (by decide) (by decide)] at q2
      refine ⟨fun z => ?_, fun z => ?_⟩
      · rw [if_pos z] at q2
        by_cases y : hourP p = p.2 k 4
        · exact y
        · rw [if_neg y] at q2; exact absurd rfl q2
      · rw [if_neg z] at q2
        by_cases y : p.2 k 5 = 1
        · exact y
        · rw [if_neg y] at q2; exact absurd rfl q2
    have m5 : ¬ (-5 : Int32) = 1 := by decide
    have o1 : (1 : Int32) = 1 := rfl
    by_cases q : tg p k 0 = 0
    · have e' := e.mpr q
      rcases hh.2.2.2.1 with g6 | g6
      · have n1 : ¬ p.2 k 6 = 1 := by rw [g6]; decide
        simp only [if_pos e', if_pos q, if_pos g6, if_neg n1, if_neg m5]
      · have n0 : ¬ p.2 k 6 = 0 := by rw [g6]; decide
        by_cases y : p.2 k 4 = hrF p.1 (p.1 0)
        · simp only [if_pos e', if_pos q, if_neg n0, if_pos g6, if_pos y, if_pos y.symm, if_neg m5]
        · simp only [if_pos e', if_pos q, if_neg n0, if_pos g6, if_neg y, if_neg (show ¬ hrF p.1 (p.1 0) = p.2 k 4 from fun z => y z.symm)]
    · have ho := hop q
      have e' : ¬ (tickP p).2 k 8 ≤ p.2 k 8 := fun z => q (e.mp z)
      rcases hh.2.2.2.1 with g6 | g6
      · have n1 : ¬ p.2 k 6 = 1 := by rw [g6]; decide
        have n5 : ¬ p.2 k 5 = 0 := by rw [ho.2 n1]; decide
        simp only [if_neg e', if_neg q, if_pos g6, if_neg n1, if_neg n5, if_true]
      · have n0 : ¬ p.2 k 6 = 0 := by rw [g6]; decide
        simp only [if_neg e', if_neg q, if_neg n0, if_pos g6, if_pos (ho.1 g6), if_true]
