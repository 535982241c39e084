/-! ===== what holds of a state stays through every act ===== -/
theorem CI.bb {p : HC} (h : CI p) : bbP p := fun k hk => ⟨(h.2 k hk).2.2.1, (h.2 k hk).2.2.2.1⟩
theorem CI.kn {p : HC} (h : CI p) (n : Nat) : CI (kN p n) := by rw [kN_eq h]; exact h.ticks n
theorem CI.fill {p : HC} (h : CI p) (cu nu : Int32) : CI (fillH p.1 p.2 cu nu, fillC p.2 cu nu) := by
  refine h.of ?_ ?_
  · show fillH p.1 p.2 cu nu 7 = p.1 7
    unfold fillH
    split
    · rfl
    · split
      · rfl
      · split
        · exact pk_un (by decide)
        · rfl
  · intro k w hw
    show fillC p.2 cu nu k w = p.2 k w
    unfold fillC
    split
    · rfl
    · split
      · rfl
      · split
        · exact u2_nw (by omega)
        · rfl
theorem b01_m {x : Int32} (h : b01 x) : b01 (1 - x) := by
  rcases h with rfl | rfl
  · exact Or.inr rfl
  · exact Or.inl rfl
/-- one cup's lock and guard change -/
theorem CI.lock {p : HC} (h : CI p) {c' : Nat → Nat → Int32} (k0 : Nat) (hne : ∀ k w, k ≠ k0 ∨ (w = 0 ∨ w = 2) → c' k w = p.2 k w) (h5 : b01 (c' k0 5)) (h6 : b01 (c' k0 6)) (hg : c' k0 6 = 1 → c' k0 5 = 0) : CI (p.1, c') := by
  refine ⟨h.1, fun k hk => ?_⟩
  show 0 < c' k 0 ∧ (c' k 2 = nI (nn (c' k 2)) ∧ nn (c' k 2) ≤ 8) ∧ b01 (c' k 5) ∧ b01 (c' k 6) ∧ (c' k 6 = 1 → c' k 5 = 0)
  have hh := h.2 k hk
  rw [hne k 0 (Or.inr (Or.inl rfl)), hne k 2 (Or.inr (Or.inr rfl))]
  by_cases e : k = k0
  · subst e; exact ⟨hh.1, hh.2.1, h5, h6, hg⟩
  · rw [hne k 5 (Or.inl e), hne k 6 (Or.inl e)]; exact hh
theorem CI.guard {p : HC} (h : CI p) (cu : Int32) : CI (p.1, guardC p.2 cu) := by
  unfold guardC
  split
  · exact h
  · rename_i hc
    obtain ⟨k, hk, rfl⟩ := isCup_pos hc
    rw [nn_nI (by omega)]
    split
    · exact h
    · refine h.lock k ?_ ?_ ?_ ?_
      · intro k2 w hw
        rcases hw with hw | hw
        · rw [u2_nk hw, u2_nk hw]
        · rw [u2_nw (by omega), u2_nw (by omega)]
      · rw [u2_nw (by decide), u2_s]; exact (h.2 k hk).2.2.2.1
      · rw [u2_s]; exact b01_m (h.2 k hk).2.2.2.1
      · rw [u2_s, u2_nw (by decide), u2_s]
        intro e
        rcases (h.2 k hk).2.2.2.1 with q | q
        · exact q
        · rw [q] at e; exact absurd e (by decide)
theorem CI.turn {p : HC} (h : CI p) (cu : Int32) : CI (p.1, turnC p.2 cu) := by
  unfold turnC
  split
  · exact h
  · rename_i hc
    obtain ⟨k, hk, rfl⟩ := isCup_pos hc
    rw [nn_nI (by omega)]
    split
    · exact h
    · rename_i h6
      refine h.lock k ?_ ?_ ?_ ?_
      · intro k2 w hw
        rcases hw with hw | hw
        · rw [u2_nk hw]
        · rw [u2_nw (by omega)]
      · rw [u2_s]; exact b01_m (h.2 k hk).2.2.1
      · rw [u2_nw (by decide)]; exact (h.2 k hk).2.2.2.1
      · rw [u2_nw (by decide)]; intro e; exact absurd e h6
theorem CI.hour {p : HC} (h : CI p) (cu hour : Int32) : CI (p.1, hourC p.2 cu hour) := by
  unfold hourC
  split
  · exact h
  · rename_i hc
    obtain ⟨k, hk, rfl⟩ := isCup_pos hc
    rw [nn_nI (by omega)]
    split
    · exact h
    · split
      · exact h
      · split
        · refine h.lock k ?_ ?_ ?_ ?_
          · intro k2 w hw
            rcases hw with hw | hw
            · rw [u2_nk hw, u2_nk hw, u2_nk hw]
            · rw [u2_nw (by omega), u2_nw (by omega), u2_nw (by omega)]
          · rw [u2_s]; exact Or.inr rfl
          · rw [u2_nw (by decide), u2_s]; exact Or.inl rfl
          · rw [u2_nw (by decide), u2_s]; intro e; exact absurd e (by decide)
        · refine h.lock k ?_ ?_ ?_ ?_
          · intro k2 w hw
            rcases hw with hw | hw
            · rw [u2_nk hw]
            · rw [u2_nw (by omega)]
          · rw [u2_nw (by decide)]; exact (h.2 k hk).2.2.1
          · rw [u2_nw (by decide)]; exact (h.2 k hk).2.2.2.1
          · rw [u2_nw (by decide), u2_nw (by decide)]; exact (h.2 k hk).2.2.2.2
theorem pos_of {x : Int32} (h : ¬ x < 1) : 0 < x := by
  have h1 : (1 : Int32) ≤ x := Int32.not_lt.mp h
  exact Int32.lt_of_lt_of_le (by decide) h1
theorem CI.setc {p : HC} (h : CI p) (cu wh va : Int32) : CI (p.1, setC p.2 cu wh va) := by
  have ho := (h.ok.setc cu wh va).2
  refine ⟨h.1, fun k hk => ?_⟩
  show 0 < setC p.2 cu wh va k 0 ∧ (setC p.2 cu wh va k 2 = nI (nn (setC p.2 cu wh va k 2)) ∧ nn (setC p.2 cu wh va k 2) ≤ 8) ∧ b01 (setC p.2 cu wh va k 5) ∧ b01 (setC p.2 cu wh va k 6) ∧ (setC p.2 cu wh va k 6 = 1 → setC p.2 cu wh va k 5 = 0)
  have h2 := (ho k hk).2
  have hx : ∀ w, w = 5 ∨ w = 6 → setC p.2 cu wh va k w = p.2 k w := by
    intro w hw
    unfold setC
    split
    · rfl
    · split
      · rfl
      · rename_i hv
        obtain ⟨v, hv3, rfl⟩ := isVal_pos hv
        rw [nn_nI (n := v) (by omega)]
        exact u2_nw (by omega)
  refine ⟨?_, h2, ?_⟩
  · unfold setC
    split
    · exact (h.2 k hk).1
    · rename_i hc
      split
      · exact (h.2 k hk).1
      · rename_i hv
        obtain ⟨k1, hk1, rfl⟩ := isCup_pos hc
        obtain ⟨v, hv3, rfl⟩ := isVal_pos hv
        rw [nn_nI (by omega), nn_nI (by omega)]
        by_cases e : k = k1
        · subst e
          by_cases e0 : v = 0
          · subst e0
            rw [u2_s]
            have hv2 : ¬ inF va 1 99 = 0 := hv
            exact pos_of (inF_ne hv2).1
          · rw [u2_nw (fun q => e0 q.symm)]; exact (h.2 k hk).1
        · rw [u2_nk e]; exact (h.2 k hk).1
  · rw [hx 5 (Or.inl rfl), hx 6 (Or.inr rfl)]; exact (h.2 k hk).2.2
theorem CI.put {p : HC} (h : CI p) (wh va : Int32) : CI (putH p.1 wh va, p.2) := by
  refine ⟨?_, h.2⟩
  show 0 < putH p.1 wh va 7
  unfold putH
  by_cases hw : inF wh 0 2 = 0
  · rw [if_pos hw]; exact h.1
  · rw [if_neg hw]
    by_cases hv : inF va (if wh = 2 then 1 else 0) (if wh = 2 then 240 else 99) = 0
    · rw [if_pos hv]; exact h.1
    · rw [if_neg hv]
      obtain ⟨w, hw2, rfl⟩ := i32_nI (n := 2) (Or.inl rfl) rfl (by decide) (inF_ne hw)
      rw [nn_nI (by omega)]
      by_cases e : w = 2
      · subst e
        rw [show upd p.1 (5 + 2) va 7 = va from pk_us]
        have hv2 : ¬ inF va 1 240 = 0 := hv
        exact pos_of (inF_ne hv2).1
      · rw [pk_un (by omega)]; exact h.1
theorem CI.does {p : HC} (h : CI p) (kd wh nu : Int32) : CI (kDoP p kd wh nu) := by
  unfold kDoP
  split
  · exact h.fill _ _
  · split
    · exact h.guard _
    · split
      · exact h.hour _ _
      · split
        · exact h.setc _ _ _
        · exact h.kn _
theorem CI.things {p : HC} (h : CI p) {T : PQ} (i : Nat) : CI (kI T p i) := by
  induction i with
  | zero => exact h
  | succ i ih => exact ih.does _ _ _
theorem CI.bz {p : HC} (h : CI p) (k : Nat) : CI (bz p k) := by
  refine ⟨h.1, fun j hj => ?_⟩
  show 0 < u2 p.2 k 0 100 j 0 ∧ (u2 p.2 k 0 100 j 2 = nI (nn (u2 p.2 k 0 100 j 2)) ∧ nn (u2 p.2 k 0 100 j 2) ≤ 8) ∧ b01 (u2 p.2 k 0 100 j 5) ∧ b01 (u2 p.2 k 0 100 j 6) ∧ (u2 p.2 k 0 100 j 6 = 1 → u2 p.2 k 0 100 j 5 = 0)
  rw [u2_nw (show (2 : Nat) ≠ 0 by decide), u2_nw (show (5 : Nat) ≠ 0 by decide), u2_nw (show (6 : Nat) ≠ 0 by decide)]
  refine ⟨?_, (h.2 j hj).2⟩
  by_cases e : j = k
  · subst e; rw [u2_s]; decide
  · rw [u2_nk e]; exact (h.2 j hj).1
/-- all 500 ticks -/
theorem kN5_x : ∃ g : HC → HC, ∀ p, g p = kN p 500 := ⟨_, fun _ => rfl⟩
noncomputable def kN5 : HC → HC := Classical.choose kN5_x
theorem kN5_d (p : HC) : kN5 p = kN p 500 := Classical.choose_spec kN5_x p
def kst2 (a b : HC) : Nat → Nat → Int32
  | 0, _ => -5
  | r + 1, i => if a.2 i 8 = b.2 i 8 then nI i else kst2 a b r (i + 1)
theorem kst2_x : ∃ g : HC → HC → Int32, ∀ a b, g a b = kst2 a b 8 0 := ⟨_, fun _ _ => rfl⟩
noncomputable def kst3 : HC → HC → Int32 := Classical.choose kst2_x
theorem kst3_d (a b : HC) : kst3 a b = kst2 a b 8 0 := Classical.choose_spec kst2_x a b
noncomputable def kifR (p : HC) (ticks what : Int32) : Int32 := if inF ticks 1 500 = 0 then -2 else if inF what 0 3 = 0 then -2 else kifX p ticks what
noncomputable def kifP (p : HC) (ticks what : Int32) (x : HC) : HC := if inF ticks 1 500 = 0 then x else if inF what 0 3 = 0 then x else kN p (nn ticks)
noncomputable def kreP (p : HC) (cup : Int32) (x : HC) : HC := if inF cup 0 7 = 0 then x else kTick p
theorem khX_x : ∃ g : (Nat → Nat → Int32) → Int32, ∀ c, g c = (khF c 8).1 := ⟨_, fun _ => rfl⟩
noncomputable def khX : (Nat → Nat → Int32) → Int32 := Classical.choose khX_x
theorem khX_d (c : Nat → Nat → Int32) : khX c = (khF c 8).1 := Classical.choose_spec khX_x c
theorem zN5_x : ∃ g : HC → (Nat → Int32) → Nat → Int32, ∀ p z, g p z = zTk p z 500 := ⟨_, fun _ _ => rfl⟩
noncomputable def zN5 : HC → (Nat → Int32) → Nat → Int32 := Classical.choose zN5_x
theorem zN5_d (p : HC) (z : Nat → Int32) : zN5 p z = zTk p z 500 := Classical.choose_spec zN5_x p z
noncomputable def kifZ (p : HC) (ticks what : Int32) (z : Nat → Int32) : Nat → Int32 := if inF ticks 1 500 = 0 then z else if inF what 0 3 = 0 then z else zTk p z (nn ticks)
noncomputable def kreZ (p : HC) (cup : Int32) (z : Nat → Int32) : Nat → Int32 := if inF cup 0 7 = 0 then z else rqX p z
