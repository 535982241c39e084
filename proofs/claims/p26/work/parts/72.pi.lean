/-! ===== all that the law asks of a state, and that every act and tick keeps it ===== -/
theorem nI_inj9 {a b : Nat} (ha : a < 2 ^ 31) (hb : b < 2 ^ 31) (e : nI a = nI b) : a = b := by
  have h1 := (nI_leI ha hb).mp (by rw [e]; exact Int32.le_refl _)
  have h2 := (nI_leI hb ha).mp (by rw [e]; exact Int32.le_refl _)
  omega
/-- a cup's row -/
def XK (c : Nat → Int32) (k : Nat) : Prop := (∃ s : Nat, 1 ≤ s ∧ s ≤ 99 ∧ c 0 = nI s) ∧ k < nn (c 2) ∧ (∃ v : Nat, v ≤ 9999 ∧ c 3 = nI v) ∧ ((c 4 = -1 ∧ c 6 = 0) ∨ ∃ h : Nat, h ≤ 239 ∧ c 4 = nI h) ∧ ∃ u a b d : Nat, a + b + d ≤ u ∧ u ≤ 99999 ∧ c 8 = nI u ∧ c 9 = nI a ∧ c 10 = nI b ∧ c 11 = nI d
theorem XK.of {c c' : Nat → Int32} {k : Nat} (h : XK c k) (e : ∀ w, w = 0 ∨ w = 2 ∨ w = 3 ∨ w = 4 ∨ w = 6 ∨ w = 8 ∨ w = 9 ∨ w = 10 ∨ w = 11 → c' w = c w) : XK c' k := by
  unfold XK
  rw [e 0 (by decide), e 2 (by decide), e 3 (by decide), e 4 (by decide), e 6 (by decide), e 8 (by decide), e 9 (by decide), e 10 (by decide), e 11 (by decide)]
  exact h
def XI (p : HC) : Prop := (∃ d : Nat, 1 ≤ d ∧ d ≤ 240 ∧ p.1 7 = nI d) ∧ (∀ k, k < 8 → XK (p.2 k) k) ∧ AC p
def PI (F : Nat) (p : HC) : Prop := SI F p ∧ XI p
theorem PI.mono {F F' : Nat} {p : HC} (h : PI F p) (hF : F ≤ F') : PI F' p := ⟨h.1.mono hF, h.2⟩
theorem PI.nxO {F : Nat} {p : HC} (h : PI F p) : nxO p := fun k hk => (h.2.2.1 k hk).2.1
/-- the time, for which the tips' bound stands -/
theorem PI.t {F : Nat} {p : HC} (h : PI F p) : ∃ t : Nat, p.1 0 = nI t ∧ t ≤ 99999 := by
  obtain ⟨-, -, t, h1, h2, -⟩ := h.1
  exact ⟨t, h1, h2⟩
theorem PI.tick {F : Nat} {p : HC} (h : PI F p) (hF : F < 2 ^ 26) {t : Nat} (ht : p.1 0 = nI t) (ht2 : t + 1 ≤ 99999) : PI F (tickP p) := by
  have hO := h.nxO
  obtain ⟨hs, ⟨d, hd1, hd2, ed⟩, hk, ha⟩ := h
  have hs1 : SI F (tickP p) := hs.ticks hF ht (by omega) 1 (by omega)
  obtain ⟨hc, h5, t', ht', htM, htk, hw⟩ := id hs
  obtain rfl : t' = t := nI_inj9 (by omega) (by omega) (ht'.symm.trans ht)
  refine ⟨hs1, ⟨d, hd1, hd2, by rw [tickP_j _ _ (by decide)]; exact ed⟩, fun k hk8 => ?_, ha.tick (fun k hk => (hc.2 k hk).2.1.2)⟩
  obtain ⟨⟨s, s1, s2, es⟩, hn, ⟨v, hv, ev⟩, h4, u, a, b, c, habc, hu, e8, e9, e10, e11⟩ := hk k hk8
  have w1 := (hw.spring (by omega)).its (by omega) (fun k hk => by rw [springP_w _ _ _ (by decide), springP_w _ _ _ (by decide)]; exact ⟨(hc.2 k hk).1, (hc.2 k hk).2.1⟩) (hourP p) k (by omega)
  obtain ⟨B, wv, -, wv3, wT, -⟩ := w1
  have wk := sum8_le (w := wv) hk8
  obtain ⟨lv, hlv, elv⟩ : ∃ v : Nat, v ≤ 9 ∧ p.2 k 1 = nI v := by
    obtain ⟨_, _, -, -, -, -, -, -, g⟩ := hw
    exact g k hk8
  obtain ⟨q1, q2⟩ := tick3 hO hk8
  have ex : ∃ y : Nat, y ≤ 9999 ∧ (tick1 p).2 k 3 = nI y := by
    rw [q2]
    split
    · rw [wv3 k hk8]
      by_cases z : wv k ≤ 9999
      · rw [if_pos (show nI (wv k) ≤ 9999 from nI_le (b := 9999) z (by decide))]; exact ⟨_, z, rfl⟩
      · rw [if_neg (show ¬ nI (wv k) ≤ 9999 from fun z2 => z ((nI_leI (b := 9999) (by omega) (by decide)).mp z2))]; exact ⟨9999, Nat.le_refl _, rfl⟩
    · exact ⟨0, by omega, rfl⟩
  obtain ⟨y, hy, ey⟩ := ex
  have el : (tick1 p).2 k 1 = nI lv := by rw [tick1_d, it1_w _ _ _ _ _ (by decide) (by decide) (by decide), springP_w _ _ _ (by decide)]; exact elv
  have e3 : ∃ v : Nat, v ≤ 9999 ∧ (tickP p).2 k 3 = nI v := by
    rw [q1]
    unfold drF
    rw [ey, el]
    by_cases z : y ≤ lv
    · rw [if_pos (nI_le z (by omega)), nI_subI (Nat.le_refl _)]; exact ⟨_, by omega, rfl⟩
    · rw [if_neg (fun z2 => z ((nI_leI (by omega) (by omega)).mp z2)), nI_subI (by omega)]; exact ⟨_, by omega, rfl⟩
  have k0 : (tickP p).2 k 0 = p.2 k 0 := tickP_w _ _ _ (by decide) (by decide) (by decide)
  have k2 : (tickP p).2 k 2 = p.2 k 2 := tickP_w _ _ _ (by decide) (by decide) (by decide)
  have k4 : (tickP p).2 k 4 = p.2 k 4 := tickP_w _ _ _ (by decide) (by decide) (by decide)
  have k6 : (tickP p).2 k 6 = p.2 k 6 := tickP_w _ _ _ (by decide) (by decide) (by decide)
  refine ⟨⟨s, s1, s2, k0.trans es⟩, by rw [k2]; exact hn, e3, by rw [k4, k6]; exact h4, ?_⟩
  obtain ⟨u0, hu0, e0⟩ := htk k hk8
  obtain rfl : u0 = u := nI_inj9 (by omega) (by omega) (e0.symm.trans e8)
  rw [tick8 p hk8, tick9 p hk8 (Or.inl rfl), tick9 p hk8 (Or.inr (Or.inl rfl)), tick9 p hk8 (Or.inr (Or.inr rfl)), e8, e9, e10, e11]
  rcases tg_01 p k 0 with q | q
  · rw [q]
    unfold d9F
    rw [if_pos rfl, if_pos rfl, if_pos rfl]
    exact ⟨u0, a, b, c, habc, by omega, Int32.add_zero _, Int32.add_zero _, Int32.add_zero _, Int32.add_zero _⟩
  · rw [q]
    unfold d9F
    rw [if_neg i10, if_neg i10, if_neg i10]
    by_cases z : p.2 k 4 = -1
    · rw [if_pos z, if_pos z, if_pos z]
      exact ⟨u0 + 1, a, b, c, by omega, by omega, nI_1 _, Int32.add_zero _, Int32.add_zero _, Int32.add_zero _⟩
    · rw [if_neg z, if_neg z, if_neg z]
      rcases whenF_c (hourP p) (p.2 k 4) with w | w | w
      · rw [w, if_pos rfl, if_neg (by decide), if_neg (by decide)]
        exact ⟨u0 + 1, a + 1, b, c, by omega, by omega, nI_1 _, nI_1 _, Int32.add_zero _, Int32.add_zero _⟩
      · rw [w, if_neg (by decide), if_neg (by decide), if_pos rfl]
        exact ⟨u0 + 1, a, b, c + 1, by omega, by omega, nI_1 _, Int32.add_zero _, Int32.add_zero _, nI_1 _⟩
      · rw [w, if_neg (by decide), if_pos rfl, if_neg (by decide)]
        exact ⟨u0 + 1, a, b + 1, c, by omega, by omega, nI_1 _, Int32.add_zero _, nI_1 _, Int32.add_zero _⟩
theorem PI.ticks {F : Nat} {p : HC} (h : PI F p) (hF : F < 2 ^ 26) {t : Nat} (ht : p.1 0 = nI t) : ∀ n, t + n ≤ 99999 → PI F (tkN p n) := by
  intro n
  induction n with
  | zero => intro _; exact h
  | succ n ih =>
    intro hn
    rw [tkN_s]
    exact (ih (by omega)).tick hF (t := t + n) (by rw [tkN0, ht, nI_add]) (by omega)
theorem AC.of {p q : HC} (h : AC p) (h1 : ∀ j, j = 1 ∨ j = 2 ∨ j = 3 ∨ j = 4 → q.1 j = p.1 j) (h2 : sumF q.2 3 8 = sumF p.2 3 8) : AC q := by
  unfold AC at h ⊢
  rw [h1 1 (by decide), h1 2 (by decide), h1 3 (by decide), h1 4 (by decide), h2]
  exact h
/-- one cup changes -/
theorem XI.cup {p : HC} (h : XI p) {k : Nat} {c' : Nat → Nat → Int32} (hk : k < 8) (ho : ∀ j, j ≠ k → ∀ w, c' j w = p.2 j w) (hx : XK (c' k) k) (h3 : sumF c' 3 8 = sumF p.2 3 8) : XI (p.1, c') := by
  refine ⟨h.1, fun j hj => ?_, h.2.2.of (fun _ _ => rfl) h3⟩
  by_cases e : j = k
  · subst e; exact hx
  · exact (h.2.1 j hj).of (fun w _ => ho j e w)
theorem PI.turn {F : Nat} {p : HC} (h : PI F p) {k : Nat} (hk : k < 8) : PI F (p.1, turnC p.2 (nI k)) := by
  refine ⟨h.1.turn _, ?_⟩
  unfold turnC
  rw [if_neg (isC8 hk), nn_nI (by omega)]
  split
  · exact h.2
  · exact h.2.cup hk (fun j hj w => u2_nk hj) ((h.2.2.1 k hk).of (fun w hw => u2_nw (by omega))) (sumF_oth (by decide) 8)
theorem PI.guard {F : Nat} {p : HC} (h : PI F p) {k : Nat} (hk : k < 8) : PI F (p.1, guardC p.2 (nI k)) := by
  refine ⟨h.1.guard _, ?_⟩
  unfold guardC
  rw [if_neg (isC8 hk), nn_nI (by omega)]
  split
  · exact h.2
  · rename_i h4
    obtain ⟨a, b, c, d, e⟩ := h.2.2.1 k hk
    refine h.2.cup hk (fun j hj w => by rw [u2_nk hj, u2_nk hj]) ?_ (by rw [sumF_oth (by decide) 8, sumF_oth (by decide) 8])
    unfold XK
    have g : ∀ w, w ≠ 5 → w ≠ 6 → u2 (u2 p.2 k 5 (p.2 k 6)) k 6 (1 - p.2 k 6) k w = p.2 k w := fun w a b => by rw [u2_nw b, u2_nw a]
    rw [g 0 (by decide) (by decide), g 2 (by decide) (by decide), g 3 (by decide) (by decide), g 4 (by decide) (by decide), g 8 (by decide) (by decide), g 9 (by decide) (by decide), g 10 (by decide) (by decide), g 11 (by decide) (by decide)]
    refine ⟨a, b, c, ?_, e⟩
    rcases d with d | d
    · exact absurd d.1 h4
    · exact Or.inr d
theorem PI.hour {F : Nat} {p : HC} (h : PI F p) {k : Nat} (hk : k < 8) (hour : Int32) : PI F (p.1, hourC p.2 (nI k) hour) := by
  refine ⟨h.1.hour _ _, ?_⟩
  unfold hourC
  rw [if_neg (isC8 hk), nn_nI (by omega)]
  split
  · exact h.2
  · rename_i hr
    split
    · exact h.2
    · obtain ⟨a, b, c, d, e⟩ := h.2.2.1 k hk
      split
      · rename_i z
        refine h.2.cup hk (fun j hj w => by rw [u2_nk hj, u2_nk hj, u2_nk hj]) ?_ (by rw [sumF_oth (by decide) 8, sumF_oth (by decide) 8, sumF_oth (by decide) 8])
        unfold XK
        have g : ∀ w, w ≠ 4 → w ≠ 5 → w ≠ 6 → u2 (u2 (u2 p.2 k 4 hour) k 6 0) k 5 1 k w = p.2 k w := fun w a b c => by rw [u2_nw b, u2_nw c, u2_nw a]
        rw [g 0 (by decide) (by decide) (by decide), g 2 (by decide) (by decide) (by decide), g 3 (by decide) (by decide) (by decide), g 8 (by decide) (by decide) (by decide), g 9 (by decide) (by decide) (by decide), g 10 (by decide) (by decide) (by decide), g 11 (by decide) (by decide) (by decide)]
        refine ⟨a, b, c, Or.inl ⟨?_, ?_⟩, e⟩
        · rw [u2_nw (by decide), u2_nw (by decide), u2_s]; exact z
        · rw [u2_nw (by decide), u2_s]
      · rename_i z
        refine h.2.cup hk (fun j hj w => u2_nk hj) ?_ (sumF_oth (by decide) 8)
        unfold XK
        have g : ∀ w, w ≠ 4 → u2 p.2 k 4 hour k w = p.2 k w := fun w a => u2_nw a
        rw [g 0 (by decide), g 2 (by decide), g 3 (by decide), g 6 (by decide), g 8 (by decide), g 9 (by decide), g 10 (by decide), g 11 (by decide), u2_s]
        refine ⟨a, b, c, Or.inr ?_, e⟩
        obtain ⟨r1, r2⟩ := inF_ne hr
        have h0 : ¬ hour < 0 := fun q => by
          have e1 : hour.toInt < (0 : Int32).toInt := Int32.lt_iff_toInt_lt.mp q
          have e0 : (0 : Int32).toInt = 0 := by decide
          have e2 : ¬ hour.toInt < (-1 : Int32).toInt := fun z9 => r1 (Int32.lt_iff_toInt_lt.mpr z9)
          have e3 : (-1 : Int32).toInt = -1 := by decide
          have e4 : hour.toInt = -1 := by omega
          exact z (Int32.toInt_inj.mp (e4.trans e3.symm))
        obtain ⟨x, hx, ex⟩ := nI_of h0
        refine ⟨x, ?_, ex⟩
        have e5 : ¬ (239 : Int32).toInt < hour.toInt := fun z9 => r2 (Int32.lt_iff_toInt_lt.mpr z9)
        rw [ex, nI_toInt hx, show (239 : Int32).toInt = 239 by decide] at e5
        omega
theorem PI.fill {F : Nat} {p : HC} (h : PI F p) {k : Nat} (hk : k < 8) (wa : Int32) : PI (F + 99) (fillH p.1 p.2 (nI k) wa, fillC p.2 (nI k) wa) := by
  refine ⟨h.1.fill _ _, ?_⟩
  unfold fillH fillC
  rw [if_neg (isC8 hk), nn_nI (by omega), if_neg (isC8 hk)]
  by_cases h2 : inF wa 1 99 = 0
  · rw [if_pos h2, if_pos h2]; exact h.2
  · rw [if_neg h2, if_neg h2]
    by_cases h3 : p.2 k 3 + wa ≤ 9999
    · rw [if_pos h3, if_pos h3]
      obtain ⟨x, hx, rfl⟩ := i32_nI (n := 99) (Or.inr rfl) rfl (by decide) (inF_ne h2)
      obtain ⟨a, b, ⟨v, hv, ev⟩, d, e⟩ := h.2.2.1 k hk
      have e7 : upd p.1 4 (p.1 4 + nI x) 7 = p.1 7 := pk_un (by decide)
      refine ⟨by show ∃ d : Nat, 1 ≤ d ∧ d ≤ 240 ∧ upd p.1 4 (p.1 4 + nI x) 7 = nI d; rw [e7]; exact h.2.1, fun j hj => ?_, ?_⟩
      · by_cases e9 : j = k
        · subst e9
          unfold XK
          have g : ∀ w, w ≠ 3 → u2 p.2 j 3 (p.2 j 3 + nI x) j w = p.2 j w := fun w a => u2_nw a
          show (∃ s : Nat, 1 ≤ s ∧ s ≤ 99 ∧ u2 p.2 j 3 (p.2 j 3 + nI x) j 0 = nI s) ∧ j < nn (u2 p.2 j 3 (p.2 j 3 + nI x) j 2) ∧ (∃ v : Nat, v ≤ 9999 ∧ u2 p.2 j 3 (p.2 j 3 + nI x) j 3 = nI v) ∧ ((u2 p.2 j 3 (p.2 j 3 + nI x) j 4 = -1 ∧ u2 p.2 j 3 (p.2 j 3 + nI x) j 6 = 0) ∨ ∃ h : Nat, h ≤ 239 ∧ u2 p.2 j 3 (p.2 j 3 + nI x) j 4 = nI h) ∧ ∃ u a b d : Nat, a + b + d ≤ u ∧ u ≤ 99999 ∧ u2 p.2 j 3 (p.2 j 3 + nI x) j 8 = nI u ∧ u2 p.2 j 3 (p.2 j 3 + nI x) j 9 = nI a ∧ u2 p.2 j 3 (p.2 j 3 + nI x) j 10 = nI b ∧ u2 p.2 j 3 (p.2 j 3 + nI x) j 11 = nI d
          rw [g 0 (by decide), g 2 (by decide), g 4 (by decide), g 6 (by decide), g 8 (by decide), g 9 (by decide), g 10 (by decide), g 11 (by decide), u2_s]
          rw [ev, nI_add] at h3 ⊢
          have h9 := (nI_leI (b := 9999) (by omega) (by decide)).mp h3
          exact ⟨a, b, ⟨v + x, h9, rfl⟩, d, e⟩
        · exact (h.2.2.1 j hj).of (fun w _ => u2_nk e9)
      · have ha := h.2.2.2
        unfold AC at ha ⊢
        show upd p.1 4 (p.1 4 + nI x) 3 + upd p.1 4 (p.1 4 + nI x) 4 = sumF (u2 p.2 k 3 (p.2 k 3 + nI x)) 3 8 + upd p.1 4 (p.1 4 + nI x) 1 + upd p.1 4 (p.1 4 + nI x) 2
        rw [pk_us, pk_un (by decide), pk_un (by decide), pk_un (by decide)]
        have g := sumF_in (c := p.2) (k := k) (w := 3) (x := p.2 k 3 + nI x) 8 hk
        generalize sumF (u2 p.2 k 3 (p.2 k 3 + nI x)) 3 8 = a2 at g ⊢
        generalize sumF p.2 3 8 = b2 at g ha
        grind
    · rw [if_neg h3, if_neg h3]; exact h.2
theorem PI.put {F : Nat} {p : HC} (h : PI F p) (wh va : Int32) : PI F (putH p.1 wh va, p.2) := by
  refine ⟨h.1.put _ _, ?_⟩
  unfold putH
  by_cases h1 : inF wh 0 2 = 0
  · rw [if_pos h1]; exact h.2
  · rw [if_neg h1]
    by_cases h2 : inF va (if wh = 2 then 1 else 0) (if wh = 2 then 240 else 99) = 0
    · rw [if_pos h2]; exact h.2
    · rw [if_neg h2]
      obtain ⟨w, hw, rfl⟩ := i32_nI (n := 2) (Or.inl rfl) rfl (by decide) (inF_ne h1)
      rw [nn_nI (by omega)]
      refine ⟨?_, h.2.2.1, h.2.2.2.of (fun j hj => pk_un (by omega)) rfl⟩
      show ∃ d : Nat, 1 ≤ d ∧ d ≤ 240 ∧ upd p.1 (5 + w) va 7 = nI d
      by_cases e : w = 2
      · subst e
        rw [show 5 + 2 = 7 from rfl, pk_us]
        have h2' : ¬ inF va 1 240 = 0 := h2
        obtain ⟨x, hx, rfl⟩ := i32_nI (n := 240) (Or.inr rfl) rfl (by decide) (inF_ne h2')
        refine ⟨x, ?_, hx, rfl⟩
        have q := (inF_ne h2').1
        rw [show (1 : Int32) = nI 1 from rfl, nI_ltI (by omega) (by decide)] at q
        omega
      · rw [pk_un (by omega)]; exact h.2.1
theorem PI.setc {F : Nat} {p : HC} (h : PI F p) {k w : Nat} (hk : k < 8) (hw : w < 3) (va : Int32) : PI F (p.1, setC p.2 (nI k) (nI w) va) := by
  refine ⟨h.1.setc _ _ _, ?_⟩
  unfold setC
  rw [if_neg (isC8 hk), nn_nI (by omega), nn_nI (by omega)]
  by_cases hv : isValF (nI k) (nI w) va = 0
  · rw [if_pos hv]; exact h.2
  · rw [if_neg hv]
    obtain ⟨a, b, c, d, e⟩ := h.2.2.1 k hk
    refine h.2.cup hk (fun j hj w => u2_nk hj) ?_ (sumF_oth (by omega) 8)
    unfold XK
    have g : ∀ v, v ≠ w → u2 p.2 k w va k v = p.2 k v := fun v z => u2_nw z
    rw [g 3 (by omega), g 4 (by omega), g 6 (by omega), g 8 (by omega), g 9 (by omega), g 10 (by omega), g 11 (by omega)]
    rcases (show w = 0 ∨ w = 1 ∨ w = 2 by omega) with rfl | rfl | rfl
    · rw [g 2 (by decide), u2_s]
      have hv2 : ¬ inF va 1 99 = 0 := hv
      obtain ⟨x, hx, rfl⟩ := i32_nI (n := 99) (Or.inr rfl) rfl (by decide) (inF_ne hv2)
      have q := (inF_ne hv2).1
      rw [show (1 : Int32) = nI 1 from rfl, nI_ltI (by omega) (by decide)] at q
      exact ⟨⟨x, by omega, hx, rfl⟩, b, c, d, e⟩
    · rw [g 0 (by decide), g 2 (by decide)]
      exact ⟨a, b, c, d, e⟩
    · rw [g 0 (by decide), u2_s]
      have hv2 : ¬ (if inF va (nI k + 1) 8 = 0 then (0 : Int32) else 1) = 0 := hv
      have hv3 : ¬ inF va (nI k + 1) 8 = 0 := by
        intro q
        rw [if_pos q] at hv2
        exact hv2 rfl
      have hv4 := inF_ne hv3
      rw [nI_1] at hv4
      have h0 : ¬ va < 0 := fun q => hv4.1 (Int32.lt_of_lt_of_le q (nI_pos' (by omega)))
      obtain ⟨j, hj, rfl⟩ := nI_of h0
      have q := hv4.1
      rw [nI_ltI hj (by omega)] at q
      rw [nn_nI hj]
      exact ⟨a, by omega, c, d, e⟩
theorem PI.new : PI 0 hc0 := by
  refine ⟨SI.new, ⟨24, by decide, by decide, rfl⟩, fun k hk => ⟨⟨10, by decide, by decide, rfl⟩, ?_, ⟨0, by decide, rfl⟩, Or.inl ⟨rfl, rfl⟩, 0, 0, 0, 0, by decide, by decide, rfl, rfl, rfl, rfl⟩, rfl⟩
  show k < nn (nI (k + 1))
  rw [nn_nI (by omega)]
  omega
