/-! ===== the class's tick is the reference's ===== -/
def OV (hour : Int32) (c : Nat → Nat → Int32) : Nat → Nat → Int32 := fun k w => if w = 5 ∧ k < 8 ∧ ¬ c k 6 = 0 ∧ c k 4 = hour then 1 else c k w
theorem OV_w {hour : Int32} {c : Nat → Nat → Int32} {k w : Nat} (h : w ≠ 5) : OV hour c k w = c k w := by simp [OV, h]
theorem opn_eq (c : Nat → Nat → Int32) (hour : Int32) (n k w : Nat) : opn c hour n k w = if w = 5 ∧ k < n ∧ ¬ c k 6 = 0 ∧ c k 4 = hour then 1 else c k w := by
  induction n with
  | zero => simp [opn]
  | succ n ih =>
    have h6 : opn c hour n n 6 = c n 6 := opn_w c hour n n 6 (by decide)
    have h4 : opn c hour n n 4 = c n 4 := opn_w c hour n n 4 (by decide)
    rw [opn, h6, h4]
    by_cases e6 : c n 6 = 0
    · rw [if_pos e6, ih]
      by_cases ek : k = n
      · subst ek; simp [e6]
      · have h1 : (k < n + 1) ↔ k < n := by omega
        simp only [h1]
    · rw [if_neg e6]
      by_cases e4 : c n 4 = hour
      · rw [if_pos e4]
        by_cases ek : k = n
        · subst ek
          by_cases ew : w = 5
          · subst ew; rw [u2_s]; simp [e6, e4]
          · rw [u2_nw ew, ih]; simp [ew]
        · rw [u2_nk ek, ih]
          have h1 : (k < n + 1) ↔ k < n := by omega
          simp only [h1]
      · rw [if_neg e4, ih]
        by_cases ek : k = n
        · subst ek; simp [e4]
        · have h1 : (k < n + 1) ↔ k < n := by omega
          simp only [h1]
theorem opX_eq (c : Nat → Nat → Int32) (hour : Int32) : opX c hour = OV hour c := by
  funext k w
  rw [opX_d, opn_eq]
  rfl
theorem shn_eq (c : Nat → Nat → Int32) (n k w : Nat) : shn c n k w = if w = 5 ∧ k < n ∧ ¬ c k 6 = 0 then 0 else c k w := by
  induction n with
  | zero => simp [shn]
  | succ n ih =>
    have h6 : shn c n n 6 = c n 6 := shn_w c n n 6 (by decide)
    rw [shn, h6]
    by_cases e6 : c n 6 = 0
    · rw [if_pos e6, ih]
      by_cases ek : k = n
      · subst ek; simp [e6]
      · have h1 : (k < n + 1) ↔ k < n := by omega
        simp only [h1]
    · rw [if_neg e6]
      by_cases ek : k = n
      · subst ek
        by_cases ew : w = 5
        · subst ew; rw [u2_s]; simp [e6]
        · rw [u2_nw ew, ih]; simp [ew]
      · rw [u2_nk ek, ih]
        have h1 : (k < n + 1) ↔ k < n := by omega
        simp only [h1]
theorem OV_u2 {hour : Int32} {c : Nat → Nat → Int32} {k w : Nat} {x : Int32} (h4 : w ≠ 4) (h5 : w ≠ 5) (h6 : w ≠ 6) : OV hour (u2 c k w x) = u2 (OV hour c) k w x := by
  funext k2 w2
  by_cases e : k2 = k ∧ w2 = w
  · obtain ⟨rfl, rfl⟩ := e
    rw [u2_s, OV_w h5, u2_s]
  · rw [u2_n e]
    unfold OV
    rw [u2_nw (Ne.symm h6), u2_nw (Ne.symm h4), u2_n e]
theorem u2_cc {c : Nat → Nat → Int32} {k k2 w v : Nat} {x y : Int32} (h : w ≠ v) : u2 (u2 c k w x) k2 v y = u2 (u2 c k2 v y) k w x := by
  funext a b
  by_cases h1 : a = k ∧ b = w
  · obtain ⟨rfl, rfl⟩ := h1
    rw [u2_nw h, u2_s, u2_s]
  · by_cases h2 : a = k2 ∧ b = v
    · obtain ⟨rfl, rfl⟩ := h2
      rw [u2_s, u2_nw (Ne.symm h), u2_s]
    · rw [u2_n h2, u2_n h1, u2_n h1, u2_n h2]
theorem whenF_c (hour its : Int32) : whenF hour its = 9 ∨ whenF hour its = 11 ∨ whenF hour its = 10 := by unfold whenF; split <;> (try split) <;> simp
theorem tipC_u3 {c : Nat → Nat → Int32} {k t : Nat} {hour x : Int32} : tipC (u2 c t 3 x) k hour = u2 (tipC c k hour) t 3 x := by
  have hw := whenF_c hour (c k 4)
  unfold tipC
  rw [u2_nw (show (4 : Nat) ≠ 3 by decide), u2_nw (show (8 : Nat) ≠ 3 by decide)]
  split
  · exact u2_cc (by decide)
  · have e : u2 (u2 c t 3 x) k 8 (c k 8 + 1) = u2 (u2 c k 8 (c k 8 + 1)) t 3 x := u2_cc (by decide)
    rw [e, u2_nw (show whenF hour (c k 4) ≠ 3 by omega)]
    exact u2_cc (by omega)
theorem tip_pour {c : Nat → Nat → Int32} {k t : Nat} {hour x : Int32} : tipC (pourC c t x) k hour = pourC (tipC c k hour) t x := by
  have h3 : tipC c k hour t 3 = c t 3 := tipC_w (by decide)
  unfold pourC
  split
  · rfl
  · rw [h3]; exact tipC_u3
theorem OV_tipC {hour hr : Int32} {c : Nat → Nat → Int32} {k : Nat} : OV hour (tipC c k hr) = tipC (OV hour c) k hr := by
  have hw := whenF_c hr (c k 4)
  unfold tipC
  rw [OV_w (show (4 : Nat) ≠ 5 by decide), OV_w (show (8 : Nat) ≠ 5 by decide)]
  split
  · exact OV_u2 (by decide) (by decide) (by decide)
  · rw [OV_u2 (by omega) (by omega) (by omega), OV_u2 (by decide) (by decide) (by decide)]
    by_cases e8 : whenF hr (c k 4) = 8
    · omega
    · rw [u2_nw e8, u2_nw e8, OV_w (by omega)]
theorem OV_pourC {hour x : Int32} {c : Nat → Nat → Int32} {t : Nat} : OV hour (pourC c t x) = pourC (OV hour c) t x := by
  unfold pourC
  split
  · rfl
  · rw [OV_u2 (by decide) (by decide) (by decide), OV_w (by decide)]
theorem jet_eq {c : Nat → Nat → Int32} {k : Nat} (h0 : 0 < c k 0) : jetR (c k) = jetF c k := by
  have h1 : ¬ c k 0 ≤ 0 := fun q => Int32.lt_irrefl (Int32.lt_of_lt_of_le h0 q)
  unfold jetR highR jetF
  rw [if_neg h1]
  by_cases h2 : 10 * c k 3 / c k 0 ≤ 30
  · rw [if_pos h2]
    by_cases h3 : 30 ≤ 10 * c k 3 / c k 0
    · rw [if_pos h3]; exact (Int32.le_antisymm h2 h3).symm
    · rw [if_neg h3]
  · rw [if_neg h2]
    have h3 : 30 ≤ 10 * c k 3 / c k 0 := Int32.le_of_lt (Int32.not_le.mp h2)
    rw [if_pos h3]
theorem tipR_eq {c : Nat → Nat → Int32} {k : Nat} {hour : Int32} (h0 : 0 < c k 0) : va_up c k (tipR (c k) hour) = tipC (u2 (u2 c k 7 (jetF c k)) k 3 0) k hour := by
  have hj := jet_eq h0
  have e0 : va_up c k (tip0 (c k)) = u2 (u2 (u2 c k 7 (jetF c k)) k 3 0) k 8 (c k 8 + 1) := by
    unfold tip0
    rw [hj]
    funext a b
    by_cases h1 : a = k
    · subst h1
      rw [up_s]
      by_cases h8 : b = 8
      · subst h8; rw [pk_us, u2_s]
      · rw [pk_un h8, u2_nw h8]
        by_cases h3 : b = 3
        · subst h3; rw [pk_us, u2_s]
        · rw [pk_un h3, u2_nw h3]
          by_cases h7 : b = 7
          · subst h7; rw [pk_us, u2_s]
          · rw [pk_un h7, u2_nw h7]
    · rw [up_n h1, u2_nk h1, u2_nk h1, u2_nk h1]
  have e1 : ∀ (w : Nat) (x : Int32), va_up c k (upd (tip0 (c k)) w x) = u2 (va_up c k (tip0 (c k))) k w x := by
    intro w x
    have h := up_u2 (c := va_up c k (tip0 (c k))) (k := k) (w := w) (x := x)
    rw [up_s] at h
    rw [← h]
    funext a
    by_cases h1 : a = k
    · subst h1; rw [up_s, up_s]
    · rw [up_n h1, up_n h1, up_n h1]
  unfold tipR tipC whenF
  rw [u2_nw (show (4 : Nat) ≠ 3 by decide), u2_nw (show (4 : Nat) ≠ 7 by decide), u2_nw (show (8 : Nat) ≠ 3 by decide), u2_nw (show (8 : Nat) ≠ 7 by decide)]
  split
  · exact e0
  · split
    · rw [e1, e0, u2_nw (show (9 : Nat) ≠ 8 by decide), u2_nw (show (9 : Nat) ≠ 3 by decide), u2_nw (show (9 : Nat) ≠ 7 by decide)]
    · split
      · rw [e1, e0, u2_nw (show (11 : Nat) ≠ 8 by decide), u2_nw (show (11 : Nat) ≠ 3 by decide), u2_nw (show (11 : Nat) ≠ 7 by decide)]
      · rw [e1, e0, u2_nw (show (10 : Nat) ≠ 8 by decide), u2_nw (show (10 : Nat) ≠ 3 by decide), u2_nw (show (10 : Nat) ≠ 7 by decide)]
/-- what holds between ticks -/
def CI (p : HC) : Prop := 0 < p.1 7 ∧ ∀ k, k < 8 → 0 < p.2 k 0 ∧ (p.2 k 2 = nI (nn (p.2 k 2)) ∧ nn (p.2 k 2) ≤ 8) ∧ b01 (p.2 k 5) ∧ b01 (p.2 k 6) ∧ (p.2 k 6 = 1 → p.2 k 5 = 0)
theorem CI.of {p q : HC} (h : CI p) (h7 : q.1 7 = p.1 7) (hc : ∀ k w, w = 0 ∨ w = 2 ∨ w = 5 ∨ w = 6 → q.2 k w = p.2 k w) : CI q :=
  ⟨by rw [h7]; exact h.1, fun k hk => by
    rw [hc k 0 (Or.inl rfl), hc k 2 (Or.inr (Or.inl rfl)), hc k 5 (Or.inr (Or.inr (Or.inl rfl))), hc k 6 (Or.inr (Or.inr (Or.inr rfl)))]
    exact h.2 k hk⟩
theorem CI.ok {p : HC} (h : CI p) : okP p :=
  ⟨fun q => Int32.lt_irrefl (a := 0) (by have := h.1; rw [q] at this; exact this), fun k hk => ⟨fun q => Int32.lt_irrefl (a := 0) (by have := (h.2 k hk).1; rw [q] at this; exact this), (h.2 k hk).2.1⟩⟩
theorem CI.nx {p : HC} (h : CI p) : nxP p := fun k hk => (h.2 k hk).2.1
theorem CI.tick {p : HC} (h : CI p) : CI (tickP p) := by
  refine h.of (tickP_j _ _ (by decide)) ?_
  intro k w hw
  exact tickP_w _ _ _ (by omega) (by omega) (by omega)
theorem CI.ticks {p : HC} (h : CI p) (n : Nat) : CI (tkN p n) := by
  induction n with
  | zero => exact h
  | succ n ih => exact ih.tick
theorem full_OV {hour : Int32} {c : Nat → Nat → Int32} {k : Nat} : fullR (OV hour c k) = fullF c k := by
  unfold fullR fullF
  rw [OV_w (by decide), OV_w (by decide)]
theorem op_OV {hour : Int32} {c : Nat → Nat → Int32} {k : Nat} (hk : k < 8) (h5 : b01 (c k 5)) (h6 : b01 (c k 6)) (hg : c k 6 = 1 → c k 5 = 0) : OV hour c k 5 = 0 ↔ opF c k hour = 0 := by
  unfold OV opF
  rcases h6 with e6 | e6
  · rw [e6]
    rcases h5 with e5 | e5 <;> simp [e5]
  · have e5 := hg e6
    rw [e6, e5]
    by_cases e4 : c k 4 = hour
    · simp [hk, e4]
    · have e4' : ¬ hour = c k 4 := fun q => e4 q.symm
      simp [e4, e4']
theorem ksT_eq {hour : Int32} {c : Nat → Nat → Int32} {k : Nat} (hk : k < 8) (h0 : 0 < c k 0) (h5 : b01 (c k 5)) (h6 : b01 (c k 6)) (hg : c k 6 = 1 → c k 5 = 0) : ksT (OV hour c) k = tpF c k hour := by
  have h := op_OV (hour := hour) hk h5 h6 hg
  have o0 : OV hour c k 0 = c k 0 := OV_w (by decide)
  have o3 : OV hour c k 3 = c k 3 := OV_w (by decide)
  unfold ksT tpF rqR fullF
  rw [o0, o3]
  by_cases e : OV hour c k 5 = 0
  · rw [if_pos e, if_pos (h.mp e), if_neg (show ¬ c k 0 ≤ 0 from fun q => Int32.lt_irrefl (Int32.lt_of_lt_of_le h0 q))]
    split <;> rfl
  · rw [if_neg e, if_neg (fun q => e (h.mpr q))]
    by_cases f : c k 3 < c k 0
    · rw [if_pos f, if_pos rfl, if_neg (fun q => Int32.lt_irrefl (Int32.lt_of_lt_of_le f q))]
    · rw [if_neg f, if_neg i10, if_pos (Int32.not_lt.mp f)]
theorem sub_sub9 (x y : Int32) : x - (x - y) = y := by
  have h : y + (x - y) = x := by rw [Int32.add_comm]; exact Int32.sub_add_cancel x y
  generalize x - y = z at h
  rw [← h]
  exact Int32.add_sub_cancel y z
theorem ks_eq {hour : Int32} {h : Nat → Int32} {c : Nat → Nat → Int32} {k : Nat} (hk : k < 8) (h0 : 0 < c k 0) (h5 : b01 (c k 5)) (h6 : b01 (c k 6)) (hg : c k 6 = 1 → c k 5 = 0) : ksH h (OV hour c) k = tokH h c k hour ∧ ksC (OV hour c) k hour = OV hour (tokC c k hour) := by
  have hT := ksT_eq (hour := hour) hk h0 h5 h6 hg
  have o3 : OV hour c k 3 = c k 3 := OV_w (by decide)
  have o2 : OV hour c k 2 = c k 2 := OV_w (by decide)
  have o0 : OV hour c k 0 = c k 0 := OV_w (by decide)
  have oo : overR (OV hour c k) = if c k 3 ≤ 9999 then 0 else c k 3 - 9999 := by unfold overR; rw [o3]
  unfold ksH ksC tokH tokC
  rw [hT]
  by_cases ht : tpF c k hour = 0
  · rw [if_pos ht, if_pos ht, if_pos ht, if_pos ht, oo, o3]
    by_cases h9 : c k 3 ≤ 9999
    · rw [if_pos h9, if_pos h9, if_pos h9]
      constructor
      · rw [Int32.add_zero]; exact upd_same
      · rw [Int32.sub_zero, OV_u2 (by decide) (by decide) (by decide)]
        have e : u2 (OV hour c) k 7 0 k 3 = c k 3 := by rw [u2_nw (by decide)]; exact o3
        rw [← e]
        exact u2_same
    · rw [if_neg h9, if_neg h9, if_neg h9]
      refine ⟨rfl, ?_⟩
      rw [sub_sub9, OV_u2 (by decide) (by decide) (by decide), OV_u2 (by decide) (by decide) (by decide)]
  · rw [if_neg ht, if_neg ht, if_neg ht, if_neg ht, o3, o2]
    refine ⟨rfl, ?_⟩
    have hj : jetF (OV hour c) k = jetF c k := by unfold jetF; rw [o3, o0]
    rw [tipR_eq (by rw [o0]; exact h0), tip_pour, OV_pourC, OV_tipC, OV_u2 (by decide) (by decide) (by decide), OV_u2 (by decide) (by decide) (by decide), hj]
theorem hour_eq {p : HC} (h : CI p) : khour p = hourP p := by
  have h1 : ¬ p.1 7 ≤ 0 := fun q => Int32.lt_irrefl (Int32.lt_of_lt_of_le h.1 q)
  unfold khour hoR
  rw [if_neg h1]
  rfl
theorem bk_eq (h : Nat → Int32) : bkF h = backF h := by
  unfold bkF backF
  by_cases e : h 1 ≤ h 6
  · rw [if_pos e, if_neg (fun q => Int32.lt_irrefl (Int32.lt_of_lt_of_le q e))]
  · rw [if_neg e, if_pos (Int32.not_le.mp e)]
theorem kst_eq {p : HC} (h : CI p) : kst p = ((springP p).1, OV (hourP p) (springP p).2) := by
  unfold kst springP
  rw [hour_eq h, opX_eq]
  unfold kspH kspC springH
  rw [bk_eq, OV_u2 (by decide) (by decide) (by decide), OV_w (by decide), Int32.add_comm (p.1 5) (backF p.1)]
theorem kit1_eq {p : HC} (h : CI p) : ∀ n, n ≤ 8 → kit1 (hourP p) (kst p) n = ((it1 (hourP p) (springP p) n).1, OV (hourP p) (it1 (hourP p) (springP p) n).2) := by
  intro n
  induction n with
  | zero => intro _; rw [kit1_0, kst_eq h, it1_0]
  | succ n ih =>
    intro hn
    rw [kit1_s, ih (by omega), it1_s]
    have hw : ∀ w, w < 8 → w ≠ 3 → w ≠ 7 → (it1 (hourP p) (springP p) n).2 n w = p.2 n w := fun w h1 h2 h3 => (it1_w _ _ _ _ _ h1 h2 h3).trans (springP_w _ _ _ h2)
    have g := h.2 n (by omega)
    have q := ks_eq (hour := hourP p) (h := (it1 (hourP p) (springP p) n).1) (c := (it1 (hourP p) (springP p) n).2) (k := n) (by omega)
      (by rw [hw 0 (by decide) (by decide) (by decide)]; exact g.1) (by rw [hw 5 (by decide) (by decide) (by decide)]; exact g.2.2.1) (by rw [hw 6 (by decide) (by decide) (by decide)]; exact g.2.2.2.1)
      (by rw [hw 6 (by decide) (by decide) (by decide), hw 5 (by decide) (by decide) (by decide)]; exact g.2.2.2.2)
    exact Prod.ext q.1 q.2
theorem dr_eq {hour : Int32} {c : Nat → Nat → Int32} {k : Nat} : dripR (OV hour c k) = drF c k := by
  unfold dripR drF
  rw [OV_w (by decide), OV_w (by decide)]
  by_cases e : c k 3 ≤ c k 1
  · rw [if_pos e, if_neg (fun q => Int32.lt_irrefl (Int32.lt_of_lt_of_le q e))]
  · rw [if_neg e, if_pos (Int32.not_le.mp e)]
theorem kit2_eq {hour : Int32} {p : HC} : ∀ n, kit2 (p.1, OV hour p.2) n = ((it2 p n).1, OV hour (it2 p n).2) := by
  intro n
  induction n with
  | zero => rfl
  | succ n ih =>
    rw [kit2_s, ih, it2_s]
    show (upd (it2 p n).1 2 ((it2 p n).1 2 + dripR (OV hour (it2 p n).2 n)), u2 (OV hour (it2 p n).2) n 3 (OV hour (it2 p n).2 n 3 - dripR (OV hour (it2 p n).2 n))) = _
    rw [dr_eq, OV_w (by decide), OV_u2 (by decide) (by decide) (by decide)]
theorem tick2_w (p : HC) (k2 w : Nat) (hw : w < 8) (h3 : w ≠ 3) (h7 : w ≠ 7) : (tick2 p).2 k2 w = p.2 k2 w := by
  rw [tick2_d, tick1_d]
  exact (it2_w _ _ _ _ h3).trans ((it1_w _ _ _ _ _ hw h3 h7).trans (springP_w _ _ _ h3))
theorem sh_eq {hour : Int32} {c : Nat → Nat → Int32} (hg : ∀ k, k < 8 → ¬ c k 6 = 0 → c k 5 = 0) : shX (OV hour c) = c := by
  funext k w
  rw [shX_d, shn_eq, OV_w (show (6 : Nat) ≠ 5 by decide)]
  by_cases h5 : w = 5
  · subst h5
    by_cases hk : k < 8
    · by_cases h6 : c k 6 = 0
      · simp [h6, OV]
      · rw [if_pos ⟨rfl, hk, h6⟩]
        exact (hg k hk h6).symm
    · simp [hk, OV]
  · simp [h5, OV]
theorem ktick1_eq {p : HC} (h : CI p) : ktick1 p = ((tick1 p).1, OV (hourP p) (tick1 p).2) := by
  rw [ktick1_d, hour_eq h, kit1_eq h 8 (Nat.le_refl _), tick1_d]
theorem kTick_eq {p : HC} (h : CI p) : kTick p = tickP p := by
  have e2 : ktick2 p = ((tick2 p).1, OV (hourP p) (tick2 p).2) := by
    rw [ktick2_d, ktick1_eq h, kit2_eq, tick2_d]
  unfold kTick tickP
  rw [e2]
  refine Prod.ext rfl ?_
  refine sh_eq ?_
  intro k hk h6
  rw [tick2_w _ _ _ (by decide) (by decide) (by decide)] at h6 ⊢
  have g := h.2 k hk
  exact g.2.2.2.2 (g.2.2.2.1.resolve_left h6)
/-- how many cups tip in a tick -/
noncomputable def nT (hour : Int32) (p : HC) : Nat → Int32
  | 0 => 0
  | n + 1 => nT hour p n + tpF (it1 hour p n).2 n hour
theorem ktT_eq {p : HC} (h : CI p) : ∀ n, n ≤ 8 → ktT (hourP p) (kst p) n = nT (hourP p) (springP p) n := by
  intro n
  induction n with
  | zero => intro _; rfl
  | succ n ih =>
    intro hn
    rw [ktT_s, ih (by omega), kit1_eq h n (by omega), nT]
    have hw : ∀ w, w < 8 → w ≠ 3 → w ≠ 7 → (it1 (hourP p) (springP p) n).2 n w = p.2 n w := fun w h1 h2 h3 => (it1_w _ _ _ _ _ h1 h2 h3).trans (springP_w _ _ _ h2)
    have g := h.2 n (by omega)
    rw [ksT_eq (by omega) (by rw [hw 0 (by decide) (by decide) (by decide)]; exact g.1) (by rw [hw 5 (by decide) (by decide) (by decide)]; exact g.2.2.1) (by rw [hw 6 (by decide) (by decide) (by decide)]; exact g.2.2.2.1)
      (by rw [hw 6 (by decide) (by decide) (by decide), hw 5 (by decide) (by decide) (by decide)]; exact g.2.2.2.2)]
theorem ktips_eq {p : HC} (h : CI p) : ktips p = nT (hourP p) (springP p) 8 := by
  rw [ktips_d, hour_eq h]
  exact ktT_eq h 8 (Nat.le_refl _)
theorem kN_eq {p : HC} (h : CI p) : ∀ n, kN p n = tkN p n := by
  intro n
  induction n with
  | zero => rfl
  | succ n ih => rw [kN, ih, tkN_s, kTick_eq (h.ticks n)]
