/-! ===== water and jets: no number turns over ===== -/
def sum8 (w : Nat → Nat) : Nat := w 0 + w 1 + w 2 + w 3 + w 4 + w 5 + w 6 + w 7
theorem sum8_up {w : Nat → Nat} {n x : Nat} (hn : n < 8) : sum8 (va_up w n x) + w n = sum8 w + x := by
  rcases k8_cases hn with rfl | rfl | rfl | rfl | rfl | rfl | rfl | rfl <;> (simp [sum8, va_up]; omega)
theorem sum8_le {w : Nat → Nat} {n : Nat} (hn : n < 8) : w n ≤ sum8 w := by
  rcases k8_cases hn with rfl | rfl | rfl | rfl | rfl | rfl | rfl | rfl <;> (simp only [sum8]; omega)
def WI (T : Nat) (p : HC) : Prop := ∃ (b : Nat) (w : Nat → Nat), p.1 1 = nI b ∧ (∀ k, k < 8 → p.2 k 3 = nI (w k)) ∧ b + sum8 w ≤ T ∧ (∀ k, k < 8 → ∃ j : Nat, j ≤ 30 ∧ p.2 k 7 = nI j) ∧ (∃ s : Nat, s ≤ 99 ∧ p.1 5 = nI s) ∧ (∃ s : Nat, s ≤ 99 ∧ p.1 6 = nI s) ∧ ∀ k, k < 8 → ∃ v : Nat, v ≤ 9 ∧ p.2 k 1 = nI v
theorem WI.mono {T T' : Nat} {p : HC} (h : WI T p) (hT : T ≤ T') : WI T' p := by
  obtain ⟨b, w, h1, h2, h3, h4⟩ := h
  exact ⟨b, w, h1, h2, Nat.le_trans h3 hT, h4⟩
theorem WI.of {T : Nat} {p q : HC} (h : WI T p) (hh : ∀ j, j = 1 ∨ j = 5 ∨ j = 6 → q.1 j = p.1 j) (hc : ∀ k w, w = 1 ∨ w = 3 ∨ w = 7 → q.2 k w = p.2 k w) : WI T q := by
  obtain ⟨b, w, h1, h2, h3, h4, h5, h6, h7⟩ := h
  refine ⟨b, w, by rw [hh 1 (by omega)]; exact h1, fun k hk => by rw [hc k 3 (by omega)]; exact h2 k hk, h3, fun k hk => by rw [hc k 7 (by omega)]; exact h4 k hk, by rw [hh 5 (by omega)]; exact h5, by rw [hh 6 (by omega)]; exact h6, fun k hk => by rw [hc k 1 (by omega)]; exact h7 k hk⟩
theorem jet_ok {c : Nat → Nat → Int32} {n v d : Nat} (h3 : c n 3 = nI v) (hv : v < 2 ^ 27) (h0 : c n 0 = nI d) (hd0 : 0 < d) (hd : d < 2 ^ 31) : ∃ j : Nat, j ≤ 30 ∧ jetF c n = nI j := by
  unfold jetF
  rw [h3, h0, show (10 : Int32) = nI 10 from rfl, pk_mul, nI_div (by omega) hd hd0]
  have hl : 10 * v / d < 2 ^ 31 := Nat.lt_of_le_of_lt (Nat.div_le_self _ _) (by omega)
  by_cases e : 10 * v / d ≤ 30
  · rw [if_pos (show nI (10 * v / d) ≤ 30 from nI_le (b := 30) e (by decide))]
    exact ⟨_, e, rfl⟩
  · rw [if_neg (show ¬ nI (10 * v / d) ≤ 30 from fun z => e ((nI_leI (b := 30) hl (by decide)).mp z))]
    exact ⟨30, Nat.le_refl _, rfl⟩
theorem WI.tok {T : Nat} {p : HC} (h : WI T p) (hT : T < 2 ^ 27) {n : Nat} (hn : n < 8) (h0 : 0 < p.2 n 0) (hx : p.2 n 2 = nI (nn (p.2 n 2)) ∧ nn (p.2 n 2) ≤ 8) (hour : Int32) : WI T (tokH p.1 p.2 n hour, tokC p.2 n hour) := by
  obtain ⟨b, w, h1, h2, h3, h4, h5, h6, h7⟩ := h
  obtain ⟨d, hd0, hd, e0⟩ := pos_nI h0
  have hwn := sum8_le (w := w) hn
  have s5 : tokH p.1 p.2 n hour 5 = p.1 5 := tokH_j (by decide)
  have s6 : tokH p.1 p.2 n hour 6 = p.1 6 := tokH_j (by decide)
  have s1 : ∀ k, tokC p.2 n hour k 1 = p.2 k 1 := fun k => tokC_w (h := p.1) (by decide) (by decide) (by decide)
  have tail : (∃ s : Nat, s ≤ 99 ∧ tokH p.1 p.2 n hour 5 = nI s) ∧ (∃ s : Nat, s ≤ 99 ∧ tokH p.1 p.2 n hour 6 = nI s) ∧ ∀ k, k < 8 → ∃ v : Nat, v ≤ 9 ∧ tokC p.2 n hour k 1 = nI v := ⟨by rw [s5]; exact h5, by rw [s6]; exact h6, fun k hk => by rw [s1]; exact h7 k hk⟩
  by_cases t0 : tpF p.2 n hour = 0
  · by_cases k9 : p.2 n 3 ≤ 9999
    · refine ⟨b, w, ?_, fun k hk => ?_, h3, fun k hk => ?_, tail⟩
      · show tokH p.1 p.2 n hour 1 = nI b
        unfold tokH; rw [if_pos t0, if_pos k9]; exact h1
      · show tokC p.2 n hour k 3 = nI (w k)
        unfold tokC; rw [if_pos t0, if_pos k9, u2_nw (by decide)]; exact h2 k hk
      · show ∃ j : Nat, j ≤ 30 ∧ tokC p.2 n hour k 7 = nI j
        unfold tokC; rw [if_pos t0, if_pos k9]
        by_cases e : k = n
        · subst e; exact ⟨0, by omega, by rw [u2_s]; rfl⟩
        · rw [u2_nk e]; exact h4 k hk
    · have hw9 : 9999 < w n := by
        rw [h2 n hn, show (9999 : Int32) = nI 9999 from rfl, nI_leI (by omega) (by decide)] at k9
        omega
      refine ⟨b + (w n - 9999), va_up w n 9999, ?_, fun k hk => ?_, ?_, fun k hk => ?_, tail⟩
      · show tokH p.1 p.2 n hour 1 = _
        unfold tokH; rw [if_pos t0, if_neg k9, pk_us, h1, h2 n hn, show (9999 : Int32) = nI 9999 from rfl, nI_subI (by omega), nI_add]
      · show tokC p.2 n hour k 3 = _
        unfold tokC; rw [if_pos t0, if_neg k9]
        by_cases e : k = n
        · subst e; rw [u2_s, vup_s]; rfl
        · rw [u2_nk e, u2_nk e, vup_n e]; exact h2 k hk
      · have := sum8_up (w := w) (x := 9999) hn
        omega
      · show ∃ j : Nat, j ≤ 30 ∧ tokC p.2 n hour k 7 = nI j
        unfold tokC; rw [if_pos t0, if_neg k9, u2_nw (by decide)]
        by_cases e : k = n
        · subst e; exact ⟨0, by omega, by rw [u2_s]; rfl⟩
        · rw [u2_nk e]; exact h4 k hk
  · have jj := jet_ok (c := p.2) (h2 n hn) (by omega) e0 hd0 hd
    have jets : ∀ k, k < 8 → ∃ j : Nat, j ≤ 30 ∧ tokC p.2 n hour k 7 = nI j := by
      intro k hk
      unfold tokC; rw [if_neg t0, tipC_w (by decide), pourC_w (by decide), u2_nw (by decide)]
      by_cases e : k = n
      · subst e; rw [u2_s]; exact jj
      · rw [u2_nk e]; exact h4 k hk
    have c3 : ∀ k, tokC p.2 n hour k 3 = pourC (u2 (u2 p.2 n 7 (jetF p.2 n)) n 3 0) (nn (p.2 n 2)) (p.2 n 3) k 3 := fun k => by
      unfold tokC; rw [if_neg t0, tipC_w (by decide)]
    have z3 : ∀ k, k < 8 → u2 (u2 p.2 n 7 (jetF p.2 n)) n 3 0 k 3 = nI (va_up w n 0 k) := by
      intro k hk
      by_cases e : k = n
      · subst e; rw [u2_s, vup_s]; rfl
      · rw [u2_nk e, u2_nk e, vup_n e]; exact h2 k hk
    have su := sum8_up (w := w) (x := 0) hn
    by_cases e8 : nn (p.2 n 2) = 8
    · refine ⟨b + w n, va_up w n 0, ?_, fun k hk => ?_, by omega, jets, tail⟩
      · show tokH p.1 p.2 n hour 1 = _
        unfold tokH pourH; rw [if_neg t0, if_pos e8, pk_us, h1, h2 n hn, nI_add]
      · show tokC p.2 n hour k 3 = _
        rw [c3, pourC, if_pos e8]; exact z3 k hk
    · have ht : nn (p.2 n 2) < 8 := by omega
      refine ⟨b, va_up (va_up w n 0) (nn (p.2 n 2)) (va_up w n 0 (nn (p.2 n 2)) + w n), ?_, fun k hk => ?_, ?_, jets, tail⟩
      · show tokH p.1 p.2 n hour 1 = _
        unfold tokH pourH; rw [if_neg t0, if_neg e8]; exact h1
      · show tokC p.2 n hour k 3 = _
        rw [c3, pourC, if_neg e8]
        by_cases e : k = nn (p.2 n 2)
        · rw [← e, u2_s, vup_s, z3 k hk, h2 n hn, nI_add]
        · rw [u2_nk e, vup_n e]; exact z3 k hk
      · have s2 := sum8_up (w := va_up w n 0) (x := va_up w n 0 (nn (p.2 n 2)) + w n) ht
        omega
theorem WI.its {T : Nat} {p : HC} (h : WI T p) (hT : T < 2 ^ 27) (h0 : ∀ k, k < 8 → 0 < p.2 k 0 ∧ p.2 k 2 = nI (nn (p.2 k 2)) ∧ nn (p.2 k 2) ≤ 8) (hour : Int32) : ∀ n, n ≤ 8 → WI T (it1 hour p n) := by
  intro n
  induction n with
  | zero => intro _; exact h
  | succ n ih =>
    intro hn
    have g := h0 n (by omega)
    have e : ∀ w, w < 8 → w ≠ 3 → w ≠ 7 → (it1 hour p n).2 n w = p.2 n w := fun w h1 h2 h3 => it1_w _ _ _ _ _ h1 h2 h3
    refine (ih (by omega)).tok hT (by omega) ?_ ?_ hour
    · rw [e 0 (by decide) (by decide) (by decide)]; exact g.1
    · rw [e 2 (by decide) (by decide) (by decide)]; exact g.2
theorem WI.spring {T : Nat} {p : HC} (h : WI T p) (hT : T < 2 ^ 27) : WI (T + 99) (springP p) := by
  obtain ⟨b, w, h1, h2, h3, h4, ⟨s, hs, h5⟩, ⟨r, hr, h6⟩, h7⟩ := h
  have hb : ∃ x, x ≤ b ∧ backF p.1 = nI x := by
    unfold backF
    split
    · exact ⟨b, Nat.le_refl _, h1⟩
    · rename_i e
      rw [h1, h6, nI_leI (by omega) (by omega)] at e
      exact ⟨r, by omega, h6⟩
  obtain ⟨x, hx, ex⟩ := hb
  have su := sum8_up (w := w) (n := 0) (x := w 0 + (x + s)) (by decide)
  refine ⟨b - x, va_up w 0 (w 0 + (x + s)), ?_, fun k hk => ?_, by omega, fun k hk => ?_, ⟨s, hs, ?_⟩, ⟨r, hr, ?_⟩, fun k hk => ?_⟩
  · show upd (upd p.1 1 (p.1 1 - backF p.1)) 3 (p.1 3 + p.1 5) 1 = _
    rw [pk_un (by decide), pk_us, h1, ex, nI_subI hx]
  · show u2 p.2 0 3 (p.2 0 3 + (backF p.1 + p.1 5)) k 3 = _
    by_cases e : k = 0
    · subst e; rw [u2_s, vup_s, h2 0 (by decide), ex, h5, nI_add, nI_add]
    · rw [u2_nk e, vup_n e]; exact h2 k hk
  · rw [springP_w _ _ _ (by decide)]; exact h4 k hk
  · rw [springP_j _ _ (by decide) (by decide)]; exact h5
  · rw [springP_j _ _ (by decide) (by decide)]; exact h6
  · rw [springP_w _ _ _ (by decide)]; exact h7 k hk
theorem WI.dr {T : Nat} {p : HC} (h : WI T p) (hT : T < 2 ^ 27) : ∀ n, n ≤ 8 → WI T (it2 p n) := by
  intro n
  induction n with
  | zero => intro _; exact h
  | succ n ih =>
    intro hn
    obtain ⟨b, w, h1, h2, h3, h4, h5, h6, h7⟩ := ih (by omega)
    obtain ⟨v, hv, e1⟩ := h7 n (by omega)
    have hd : ∃ x, x ≤ w n ∧ drF (it2 p n).2 n = nI x := by
      unfold drF
      have hw := sum8_le (w := w) (n := n) (by omega)
      split
      · exact ⟨w n, Nat.le_refl _, h2 n (by omega)⟩
      · rename_i e
        rw [h2 n (by omega), e1, nI_leI (by omega) (by omega)] at e
        exact ⟨v, by omega, e1⟩
    obtain ⟨x, hx, ex⟩ := hd
    have su := sum8_up (w := w) (n := n) (x := w n - x) (by omega)
    rw [it2_s]
    refine ⟨b, va_up w n (w n - x), ?_, fun k hk => ?_, by omega, fun k hk => ?_, ?_, ?_, fun k hk => ?_⟩
    · show upd (it2 p n).1 2 ((it2 p n).1 2 + drF (it2 p n).2 n) 1 = _
      rw [pk_un (by decide)]; exact h1
    · show u2 (it2 p n).2 n 3 ((it2 p n).2 n 3 - drF (it2 p n).2 n) k 3 = _
      by_cases e : k = n
      · subst e; rw [u2_s, vup_s, ex, h2 k hk, nI_subI hx]
      · rw [u2_nk e, vup_n e]; exact h2 k hk
    · show ∃ j : Nat, j ≤ 30 ∧ u2 (it2 p n).2 n 3 ((it2 p n).2 n 3 - drF (it2 p n).2 n) k 7 = nI j
      rw [u2_nw (by decide)]; exact h4 k hk
    · show ∃ s : Nat, s ≤ 99 ∧ upd (it2 p n).1 2 ((it2 p n).1 2 + drF (it2 p n).2 n) 5 = nI s
      rw [pk_un (by decide)]; exact h5
    · show ∃ s : Nat, s ≤ 99 ∧ upd (it2 p n).1 2 ((it2 p n).1 2 + drF (it2 p n).2 n) 6 = nI s
      rw [pk_un (by decide)]; exact h6
    · show ∃ s : Nat, s ≤ 9 ∧ u2 (it2 p n).2 n 3 ((it2 p n).2 n 3 - drF (it2 p n).2 n) k 1 = nI s
      rw [u2_nw (by decide)]; exact h7 k hk
theorem WI.tick {T : Nat} {p : HC} (h : WI T p) (hc : CI p) (hT : T + 99 < 2 ^ 27) : WI (T + 99) (tickP p) := by
  have a := h.spring (by omega)
  have b := a.its hT (fun k hk => by
    rw [springP_w _ _ _ (by decide), springP_w _ _ _ (by decide)]
    exact ⟨(hc.2 k hk).1, (hc.2 k hk).2.1⟩) (hourP p) 8 (Nat.le_refl _)
  rw [← tick1_d] at b
  have d := b.dr hT 8 (Nat.le_refl _)
  rw [← tick2_d] at d
  exact d.of (fun j hj => by rw [tickP_1]; exact pk_un (by omega)) (fun k w _ => rfl)
theorem WI.ticks {T : Nat} {p : HC} (h : WI T p) (hc : CI p) : ∀ n, T + 99 * n < 2 ^ 27 → WI (T + 99 * n) (tkN p n) := by
  intro n
  induction n with
  | zero => intro _; exact h
  | succ n ih =>
    intro hT
    have g := (ih (by omega)).tick (hc.ticks n) (by omega)
    rw [tkN_s]
    exact g.mono (by omega)
/-! what holds of each state that is kept: F is what may have been filled -/
def SI (F : Nat) (p : HC) : Prop := CI p ∧ (∀ k, k < 8 → ¬ p.2 k 4 = -5) ∧ ∃ t : Nat, p.1 0 = nI t ∧ t ≤ 99999 ∧ (∀ k, k < 8 → ∃ u : Nat, u ≤ t ∧ p.2 k 8 = nI u) ∧ WI (99 * t + F) p
theorem SI.mono {F F' : Nat} {p : HC} (h : SI F p) (hF : F ≤ F') : SI F' p := by
  obtain ⟨a, b, t, c, d, e, w⟩ := h
  exact ⟨a, b, t, c, d, e, w.mono (by omega)⟩
theorem SI.ti {F : Nat} {p : HC} (h : SI F p) : TI 99999 p := by
  obtain ⟨a, b, t, c, d, e, w⟩ := h
  exact ⟨t, c, d, e⟩
theorem SI.jets {F : Nat} {p : HC} (h : SI F p) : ∀ k, k < 8 → 0 ≤ p.2 k 7 := by
  obtain ⟨a, b, t, c, d, e, w⟩ := h
  obtain ⟨_, _, _, _, _, h4, _⟩ := w
  intro k hk
  obtain ⟨j, hj, ej⟩ := h4 k hk
  rw [ej]
  exact nI_pos' (by omega)
theorem tkN_w (p : HC) (n k w : Nat) (hw : w < 8) (h3 : w ≠ 3) (h7 : w ≠ 7) : (tkN p n).2 k w = p.2 k w := by
  induction n with
  | zero => rfl
  | succ n ih => rw [tkN_s, tickP_w _ _ _ hw h3 h7, ih]
theorem SI.ticks {F : Nat} {p : HC} (h : SI F p) (hF : F < 2 ^ 26) {t : Nat} (ht : p.1 0 = nI t) (ht2 : t ≤ 99999) (n : Nat) (hn : t + n ≤ 99999) : SI F (tkN p n) := by
  obtain ⟨a, b, t', c, d, e, w⟩ := h
  have et : t' = t := (nI_eq (by omega) (by omega)).mp (c.symm.trans ht)
  subst et
  refine ⟨a.ticks n, fun k hk => by rw [tkN_w _ _ _ _ (by decide) (by decide) (by decide)]; exact b k hk, t' + n, by rw [tkN0, c, nI_add], hn, ?_, (w.ticks a n (by omega)).mono (by omega)⟩
  have g : TI t' p := ⟨t', c, Nat.le_refl _, e⟩
  obtain ⟨t2, c2, d2, e2⟩ := g.ticks n
  intro k hk
  obtain ⟨u, hu, eu⟩ := e2 k hk
  exact ⟨u, by omega, eu⟩
theorem SI.pass {F : Nat} {p : HC} (h : SI F p) (hF : F < 2 ^ 26) (x : Int32) : SI F (tkN p (passN p x)) := by
  obtain ⟨a, b, t, c, d, e, w⟩ := id h
  unfold passN
  by_cases hx : inF x 1 99 = 0
  · rw [if_pos hx]; exact h
  · rw [if_neg hx]
    obtain ⟨n, hn, rfl⟩ := i32_nI (n := 99) (Or.inr rfl) rfl (by decide) (inF_ne hx)
    by_cases hs : p.1 0 + nI n ≤ 99999
    · rw [if_pos hs, nn_nI (by omega)]
      rw [c, nI_add, show (99999 : Int32) = nI 99999 from rfl, nI_leI (by omega) (by decide)] at hs
      exact h.ticks hF c d n hs
    · rw [if_neg hs]; exact h
/-- an act on cups: what it leaves as it was -/
theorem SI.of {F : Nat} {p q : HC} (h : SI F p) (hc : CI q) (h4 : ∀ k, k < 8 → ¬ q.2 k 4 = -5) (hh : ∀ j, j = 0 ∨ j = 1 ∨ j = 5 ∨ j = 6 → q.1 j = p.1 j) (hk : ∀ k w, w = 1 ∨ w = 3 ∨ w = 7 ∨ w = 8 → q.2 k w = p.2 k w) : SI F q := by
  obtain ⟨a, b, t, c, d, e, w⟩ := h
  refine ⟨hc, h4, t, by rw [hh 0 (by omega)]; exact c, d, fun k hk8 => by rw [hk k 8 (by omega)]; exact e k hk8, w.of (fun j hj => hh j (by omega)) (fun k w hw => hk k w (by omega))⟩
theorem SI.turn {F : Nat} {p : HC} (h : SI F p) (cu : Int32) : SI F (p.1, turnC p.2 cu) := by
  have e : ∀ k w, w ≠ 5 → turnC p.2 cu k w = p.2 k w := by
    intro k w hw
    unfold turnC
    split
    · rfl
    · split
      · rfl
      · exact u2_nw hw
  exact h.of (h.1.turn cu) (fun k hk => by show ¬ turnC p.2 cu k 4 = -5; rw [e k 4 (by decide)]; exact h.2.1 k hk) (fun _ _ => rfl) (fun k w hw => e k w (by omega))
theorem SI.guard {F : Nat} {p : HC} (h : SI F p) (cu : Int32) : SI F (p.1, guardC p.2 cu) := by
  have e : ∀ k w, w ≠ 5 → w ≠ 6 → guardC p.2 cu k w = p.2 k w := by
    intro k w h5 h6
    unfold guardC
    split
    · rfl
    · split
      · rfl
      · rw [u2_nw h6, u2_nw h5]
  exact h.of (h.1.guard cu) (fun k hk => by show ¬ guardC p.2 cu k 4 = -5; rw [e k 4 (by decide) (by decide)]; exact h.2.1 k hk) (fun _ _ => rfl) (fun k w hw => e k w (by omega) (by omega))
theorem SI.hour {F : Nat} {p : HC} (h : SI F p) (cu hour : Int32) : SI F (p.1, hourC p.2 cu hour) := by
  have e : ∀ k w, w ≠ 4 → w ≠ 5 → w ≠ 6 → hourC p.2 cu hour k w = p.2 k w := by
    intro k w h4 h5 h6
    unfold hourC
    split
    · rfl
    · split
      · rfl
      · split
        · rfl
        · split
          · rw [u2_nw h5, u2_nw h6, u2_nw h4]
          · rw [u2_nw h4]
  refine h.of (h.1.hour cu hour) (fun k hk => ?_) (fun _ _ => rfl) (fun k w hw => e k w (by omega) (by omega) (by omega))
  show ¬ hourC p.2 cu hour k 4 = -5
  unfold hourC
  split
  · exact h.2.1 k hk
  · split
    · exact h.2.1 k hk
    · rename_i hr
      have h5 : ¬ hour = -5 := fun z => by rw [z] at hr; exact hr (by decide)
      split
      · exact h.2.1 k hk
      · split
        · rw [u2_nw (by decide), u2_nw (by decide)]
          by_cases z : k = nn cu
          · subst z; rw [u2_s]; exact h5
          · rw [u2_nk z]; exact h.2.1 k hk
        · by_cases z : k = nn cu
          · subst z; rw [u2_s]; exact h5
          · rw [u2_nk z]; exact h.2.1 k hk
theorem SI.fill {F : Nat} {p : HC} (h : SI F p) (cu wa : Int32) : SI (F + 99) (fillH p.1 p.2 cu wa, fillC p.2 cu wa) := by
  obtain ⟨a, b, t, c, d, e, w⟩ := id h
  have hc := a.fill cu wa
  by_cases h1 : inF cu 0 7 = 0
  · rw [show fillH p.1 p.2 cu wa = p.1 by unfold fillH; rw [if_pos h1], show fillC p.2 cu wa = p.2 by unfold fillC; rw [if_pos h1]]; exact h.mono (by omega)
  · by_cases h2 : inF wa 1 99 = 0
    · rw [show fillH p.1 p.2 cu wa = p.1 by unfold fillH; rw [if_neg h1, if_pos h2], show fillC p.2 cu wa = p.2 by unfold fillC; rw [if_neg h1, if_pos h2]]; exact h.mono (by omega)
    · by_cases h3 : p.2 (nn cu) 3 + wa ≤ 9999
      · rw [show fillH p.1 p.2 cu wa = upd p.1 4 (p.1 4 + wa) by unfold fillH; rw [if_neg h1, if_neg h2, if_pos h3], show fillC p.2 cu wa = u2 p.2 (nn cu) 3 (p.2 (nn cu) 3 + wa) by unfold fillC; rw [if_neg h1, if_neg h2, if_pos h3]] at hc ⊢
        obtain ⟨k, hk, rfl⟩ := isCup_pos h1
        rw [nn_nI (by omega)] at hc ⊢
        obtain ⟨v, hv, rfl⟩ := i32_nI (n := 99) (Or.inr rfl) rfl (by decide) (inF_ne h2)
        obtain ⟨b0, w0, g1, g2, g3, g4, g5, g6, g7⟩ := w
        have su := sum8_up (w := w0) (n := k) (x := w0 k + v) hk
        refine ⟨hc, fun k2 hk2 => ?_, t, ?_, d, fun k2 hk2 => ?_, b0, va_up w0 k (w0 k + v), ?_, fun k2 hk2 => ?_, by omega, fun k2 hk2 => ?_, ?_, ?_, fun k2 hk2 => ?_⟩
        · show ¬ u2 p.2 k 3 (p.2 k 3 + nI v) k2 4 = -5
          rw [u2_nw (by decide)]; exact b k2 hk2
        · show upd p.1 4 (p.1 4 + nI v) 0 = _
          rw [pk_un (by decide)]; exact c
        · show ∃ u : Nat, u ≤ t ∧ u2 p.2 k 3 (p.2 k 3 + nI v) k2 8 = nI u
          rw [u2_nw (by decide)]; exact e k2 hk2
        · show upd p.1 4 (p.1 4 + nI v) 1 = _
          rw [pk_un (by decide)]; exact g1
        · show u2 p.2 k 3 (p.2 k 3 + nI v) k2 3 = _
          by_cases z : k2 = k
          · subst z; rw [u2_s, vup_s, g2 k2 hk2, nI_add]
          · rw [u2_nk z, vup_n z]; exact g2 k2 hk2
        · show ∃ j : Nat, j ≤ 30 ∧ u2 p.2 k 3 (p.2 k 3 + nI v) k2 7 = nI j
          rw [u2_nw (by decide)]; exact g4 k2 hk2
        · show ∃ s : Nat, s ≤ 99 ∧ upd p.1 4 (p.1 4 + nI v) 5 = nI s
          rw [pk_un (by decide)]; exact g5
        · show ∃ s : Nat, s ≤ 99 ∧ upd p.1 4 (p.1 4 + nI v) 6 = nI s
          rw [pk_un (by decide)]; exact g6
        · show ∃ s : Nat, s ≤ 9 ∧ u2 p.2 k 3 (p.2 k 3 + nI v) k2 1 = nI s
          rw [u2_nw (by decide)]; exact g7 k2 hk2
      · rw [show fillH p.1 p.2 cu wa = p.1 by unfold fillH; rw [if_neg h1, if_neg h2, if_neg h3], show fillC p.2 cu wa = p.2 by unfold fillC; rw [if_neg h1, if_neg h2, if_neg h3]]; exact h.mono (by omega)
theorem SI.setc {F : Nat} {p : HC} (h : SI F p) (cu wh va : Int32) : SI F (p.1, setC p.2 cu wh va) := by
  obtain ⟨a, b, t, c, d, e, w⟩ := id h
  have hc := a.setc cu wh va
  have hx : ∀ k w, 2 < w → setC p.2 cu wh va k w = p.2 k w := by
    intro k w hw
    unfold setC
    split
    · rfl
    · split
      · rfl
      · rename_i hv
        obtain ⟨v, hv3, rfl⟩ := isVal_pos hv
        rw [nn_nI (n := v) (by omega)]
        exact u2_nw (by omega)
  obtain ⟨b0, w0, g1, g2, g3, g4, g5, g6, g7⟩ := w
  refine ⟨hc, fun k hk => ?_, t, c, d, fun k hk => ?_, b0, w0, g1, fun k hk => ?_, g3, fun k hk => ?_, g5, g6, fun k hk => ?_⟩
  · show ¬ setC p.2 cu wh va k 4 = -5
    rw [hx k 4 (by decide)]; exact b k hk
  · show ∃ u : Nat, u ≤ t ∧ setC p.2 cu wh va k 8 = nI u
    rw [hx k 8 (by decide)]; exact e k hk
  · show setC p.2 cu wh va k 3 = _
    rw [hx k 3 (by decide)]; exact g2 k hk
  · show ∃ j : Nat, j ≤ 30 ∧ setC p.2 cu wh va k 7 = nI j
    rw [hx k 7 (by decide)]; exact g4 k hk
  · show ∃ v : Nat, v ≤ 9 ∧ setC p.2 cu wh va k 1 = nI v
    unfold setC
    split
    · exact g7 k hk
    · rename_i h1
      split
      · exact g7 k hk
      · rename_i h2
        obtain ⟨v, hv3, rfl⟩ := isVal_pos h2
        obtain ⟨k1, hk1, rfl⟩ := isCup_pos h1
        rw [nn_nI (n := v) (by omega), nn_nI (n := k1) (by omega)]
        by_cases z : k = k1
        · subst z
          by_cases y : v = 1
          · subst y
            rw [u2_s]
            have h3 : ¬ inF va 0 9 = 0 := h2
            obtain ⟨n, hn, rfl⟩ := i32_nI (n := 9) (Or.inl rfl) rfl (by decide) (inF_ne h3)
            exact ⟨n, hn, rfl⟩
          · rw [u2_nw (fun q => y q.symm)]; exact g7 k hk
        · rw [u2_nk z]; exact g7 k hk
theorem SI.put {F : Nat} {p : HC} (h : SI F p) (wh va : Int32) : SI F (putH p.1 wh va, p.2) := by
  obtain ⟨a, b, t, c, d, e, w⟩ := id h
  have hc := a.put wh va
  by_cases h1 : inF wh 0 2 = 0
  · rw [show putH p.1 wh va = p.1 by unfold putH; rw [if_pos h1]]; exact h
  · by_cases h2 : inF va (if wh = 2 then 1 else 0) (if wh = 2 then 240 else 99) = 0
    · rw [show putH p.1 wh va = p.1 by unfold putH; rw [if_neg h1, if_pos h2]]; exact h
    · rw [show putH p.1 wh va = upd p.1 (5 + nn wh) va by unfold putH; rw [if_neg h1, if_neg h2]] at hc ⊢
      obtain ⟨n, hn, rfl⟩ := i32_nI (n := 2) (Or.inl rfl) rfl (by decide) (inF_ne h1)
      rw [nn_nI (by omega)] at hc ⊢
      obtain ⟨b0, w0, g1, g2, g3, g4, g5, g6, g7⟩ := w
      have vv : n ≤ 1 → ∃ s : Nat, s ≤ 99 ∧ va = nI s := by
        intro hn1
        have h3 : ¬ inF va 0 99 = 0 := by
          rcases (show n = 0 ∨ n = 1 by omega) with rfl | rfl <;> exact h2
        obtain ⟨s, hs, e1⟩ := i32_nI (n := 99) (Or.inl rfl) rfl (by decide) (inF_ne h3)
        exact ⟨s, hs, e1⟩
      refine ⟨hc, b, t, ?_, d, e, b0, w0, ?_, g2, g3, g4, ?_, ?_, g7⟩
      · show upd p.1 (5 + n) va 0 = _
        rw [pk_un (by omega)]; exact c
      · show upd p.1 (5 + n) va 1 = _
        rw [pk_un (by omega)]; exact g1
      · show ∃ s : Nat, s ≤ 99 ∧ upd p.1 (5 + n) va 5 = nI s
        by_cases z : n = 0
        · subst z; rw [show upd p.1 (5 + 0) va 5 = va from pk_us]; exact vv (by omega)
        · rw [pk_un (by omega)]; exact g5
      · show ∃ s : Nat, s ≤ 99 ∧ upd p.1 (5 + n) va 6 = nI s
        by_cases z : n = 1
        · subst z; rw [show upd p.1 (5 + 1) va 6 = va from pk_us]; exact vv (by omega)
        · rw [pk_un (by omega)]; exact g6
theorem SI.does {F : Nat} {p : HC} (h : SI F p) (hF : F < 2 ^ 26) (kd wh nu : Int32) : SI (F + 99) (kDoP p kd wh nu) := by
  unfold kDoP
  split
  · exact h.fill _ _
  · split
    · exact (h.guard _).mono (by omega)
    · split
      · exact (h.hour _ _).mono (by omega)
      · split
        · exact (h.setc _ _ _).mono (by omega)
        · rw [kN_eq h.1]; exact (h.pass hF _).mono (by omega)
theorem SI.things {F : Nat} {p : HC} (h : SI F p) {T : PQ} (i : Nat) (hF : F + 99 * i < 2 ^ 26) : SI (F + 99 * i) (kI T p i) := by
  induction i with
  | zero => exact h
  | succ i ih => exact ((ih (by omega)).does (by omega) _ _ _).mono (by omega)
theorem SI.new : SI 0 hc0 := by
  refine ⟨⟨by decide, fun k hk => ?_⟩, fun k hk => by show ¬ (-1 : Int32) = -5; decide, 0, rfl, by omega, fun k hk => ⟨0, by omega, rfl⟩, 0, fun _ => 0, rfl, fun _ _ => rfl, by decide, fun k hk => ⟨0, by omega, rfl⟩, ⟨3, by omega, rfl⟩, ⟨0, by omega, rfl⟩, fun k hk => ⟨0, by omega, rfl⟩⟩
  show 0 < (10 : Int32) ∧ (nI (k + 1) = nI (nn (nI (k + 1))) ∧ nn (nI (k + 1)) ≤ 8) ∧ b01 1 ∧ b01 0 ∧ ((0 : Int32) = 1 → (1 : Int32) = 0)
  rw [nn_nI (by omega)]
  exact ⟨by decide, ⟨rfl, by omega⟩, Or.inr rfl, Or.inl rfl, fun e => absurd e (by decide)⟩
