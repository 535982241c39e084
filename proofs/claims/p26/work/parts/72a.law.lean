/-! ===== what the law asks of the answers ===== -/
/-- a cup's row, as isCup asks -/
def cupI (c : Nat → Int32) (k : Nat) : Prop := (1 ≤ c 0 ∧ c 0 ≤ 99) ∧ (0 ≤ c 1 ∧ c 1 ≤ 9) ∧ (nI k < c 2 ∧ c 2 ≤ 8) ∧ (0 ≤ c 3 ∧ c 3 ≤ 9999) ∧ (0 ≤ c 7 ∧ c 7 ≤ 30) ∧ (c 6 = 0 ∨ (0 ≤ hr5 (c 4) ∧ c 5 = 0)) ∧ (-5 ≤ hr5 (c 4) ∧ hr5 (c 4) < 240) ∧ c 9 + c 10 + c 11 ≤ c 8
theorem hr5_n {h : Nat} (hh : h ≤ 239) : hr5 (nI h) = nI h := by
  unfold hr5
  rw [if_neg]
  intro e
  have q := nI_pos' (show h < 2 ^ 31 by omega)
  rw [e] at q
  exact absurd q (by decide)
theorem nI_0le {h : Nat} (hh : h < 2 ^ 31) : 0 ≤ nI h := nI_pos' hh
theorem PI.row {F : Nat} {p : HC} (h : PI F p) {k : Nat} (hk : k < 8) : cupI (p.2 k) k := by
  obtain ⟨⟨s, s1, s2, es⟩, hn, ⟨v, hv, ev⟩, h4, u, a, b, d, habd, hu, e8, e9, e10, e11⟩ := h.2.2.1 k hk
  obtain ⟨hc, h5, t, ht, htM, htk, B, wv, g1, g3, gT, g7, -, -, gl⟩ := h.1
  obtain ⟨j, hj, ej⟩ := g7 k hk
  obtain ⟨lv, hlv, el⟩ := gl k hk
  obtain ⟨c0, ⟨c2, c28⟩, c5, c6, c65⟩ := hc.2 k hk
  refine ⟨?_, ?_, ?_, ?_, ?_, ?_, ?_, ?_⟩
  · rw [es]; exact ⟨nI_le (a := 1) s1 (by omega), nI_le (b := 99) s2 (by decide)⟩
  · rw [el]; exact ⟨nI_0le (by omega), nI_le (b := 9) hlv (by decide)⟩
  · rw [c2]; exact ⟨(nI_ltI (by omega) (by omega)).mpr hn, nI_le (b := 8) c28 (by decide)⟩
  · rw [ev]; exact ⟨nI_0le (by omega), nI_le (b := 9999) hv (by decide)⟩
  · rw [ej]; exact ⟨nI_0le (by omega), nI_le (b := 30) hj (by decide)⟩
  · rcases c6 with z | z
    · exact Or.inl z
    · refine Or.inr ⟨?_, c65 z⟩
      rcases h4 with ⟨-, q⟩ | ⟨x, hx, ex⟩
      · rw [q] at z; exact absurd z (by decide)
      · rw [ex, hr5_n hx]; exact nI_0le (by omega)
  · rcases h4 with ⟨q, -⟩ | ⟨x, hx, ex⟩
    · rw [q]; exact ⟨by decide, by decide⟩
    · rw [ex, hr5_n hx]
      exact ⟨Int32.le_trans (show (-5 : Int32) ≤ 0 by decide) (nI_0le (by omega)), (nI_ltI (b := 240) (by omega) (by decide)).mpr (by omega)⟩
  · rw [e8, e9, e10, e11, nI_add, nI_add]; exact nI_le habd (by omega)
/-- the highest jet: the first of the highest -/
theorem hg_inv (c : Nat → Nat → Int32) : ∀ n, (∀ k, k ≤ n → c k 7 ≤ c (hgF c n) 7) ∧ ∀ k, k < hgF c n → c k 7 < c (hgF c n) 7 := by
  intro n
  induction n with
  | zero => exact ⟨fun k hk => by obtain rfl : k = 0 := by omega
                                  exact Int32.le_refl _, fun k hk => absurd hk (Nat.not_lt_zero _)⟩
  | succ n ih =>
    rw [hgF]
    by_cases e : c (n + 1) 7 ≤ c (hgF c n) 7
    · rw [if_pos e]
      refine ⟨fun k hk => ?_, ih.2⟩
      by_cases z : k = n + 1
      · subst z; exact e
      · exact ih.1 k (by omega)
    · rw [if_neg e]
      have e' := Int32.not_le.mp e
      refine ⟨fun k hk => ?_, fun k hk => Int32.lt_of_le_of_lt (ih.1 k (by omega)) e'⟩
      by_cases z : k = n + 1
      · subst z; exact Int32.le_refl _
      · exact Int32.le_of_lt (Int32.lt_of_le_of_lt (ih.1 k (by omega)) e')
theorem hiB {F : Nat} {p : HC} (h : PI F p) : (khX p.2 = -5 ∧ ∀ k, k < 8 → p.2 k 7 ≤ 0) ∨ ∃ b, b < 8 ∧ khX p.2 = nI b ∧ ∀ k, k < 8 → (p.2 k 7 ≤ p.2 b 7) ∧ (k < b → ¬ p.2 k 7 = p.2 b 7) := by
  have h0 : ∀ k, k < 8 → 0 ≤ p.2 k 7 := fun k hk => (h.row hk).2.2.2.2.1.1
  have g := (kh_inv p.2 h0 7 (by decide)).2
  rw [← khX_d] at g
  obtain ⟨i1, i2⟩ := hg_inv p.2 7
  have h8 : hgF p.2 7 < 8 := by have := hgF_le p.2 7; omega
  by_cases e : p.2 (hgF p.2 7) 7 = 0
  · rw [if_pos e] at g
    exact Or.inl ⟨g, fun k hk => by have := i1 k (by omega); rw [e] at this; exact this⟩
  · rw [if_neg e] at g
    exact Or.inr ⟨_, h8, g, fun k hk => ⟨i1 k (by omega), fun z q => by have := i2 k z; rw [q] at this; exact Int32.lt_irrefl this⟩⟩
def ffF (c : Nat → Nat → Int32) : Nat → Int32
  | 0 => 0
  | n + 1 => ffF c n + fullF c n
theorem tff_eq (c : Nat → Nat → Int32) : ∀ n, tfF c n = ffF c n := by
  intro n
  induction n with
  | zero => rfl
  | succ n ih =>
    show tfF c n + numF (fullR (c n)) = ffF c n + fullF c n
    rw [ih]
    congr 1
    unfold numF fullR fullF
    split
    · rfl
    · rfl
theorem PI.times {F : Nat} {p : HC} (h : PI F p) : ∃ t d : Nat, p.1 0 = nI t ∧ t ≤ 99999 ∧ p.1 7 = nI d ∧ 1 ≤ d ∧ d ≤ 240 ∧ hourP p = nI (t % d) := by
  obtain ⟨t, ht, ht2⟩ := h.t
  obtain ⟨d, d1, d2, ed⟩ := h.2.1
  refine ⟨t, d, ht, ht2, ed, d1, d2, ?_⟩
  unfold hourP
  rw [ht]
  exact hr_nI ed (by omega) (by omega) (by omega)
theorem PI.hour_lt {F : Nat} {p : HC} (h : PI F p) : ¬ p.1 7 ≤ hourP p := by
  obtain ⟨t, d, -, -, ed, d1, d2, eh⟩ := h.times
  rw [ed, eh]
  have q := Nat.mod_lt t (show 0 < d by omega)
  exact nI_ge q (by omega)
theorem PI.hour_0 {F : Nat} {p : HC} (h : PI F p) : 0 ≤ hourP p := by
  obtain ⟨t, d, -, -, ed, d1, d2, eh⟩ := h.times
  rw [eh]
  exact nI_0le (Nat.lt_trans (Nat.mod_lt t (show 0 < d by omega)) (by omega))
/-- of an int, what is left by a number -/
def lowF (v n : Int32) : Int32 := (v &&& 2147483647) - (v &&& 2147483647) / n * n
/-! tips that are told -/
theorem ti_k {F : Nat} {p : HC} (h : PI F p) {k : Nat} (hk : k < 8) : ktiR p (nI k) = utF p k 500 0 := by
  rw [ti_eq h.1.1 h.1.ti]
  unfold tipsInF
  rw [if_neg (isC8 hk), nn_nI (by omega)]
theorem ho_k {F : Nat} {p : HC} (h : PI F p) {k : Nat} (hk : k < 8) : khoR p (nI k) = hotF p k := by
  rw [ho_eq h.1.1 h.1.ti]
  unfold tipsAtF
  rw [if_neg (isC8 hk), nn_nI (by omega)]
theorem ut_pos {p : HC} {k : Nat} (h : ¬ utF p k 500 0 = -5) : ¬ utF p k 500 0 ≤ 0 := by
  rcases ut_cases p k 500 0 with ⟨g, -⟩ | ⟨j, g1, g2, g3, -⟩
  · exact absurd g h
  · rw [g3]; exact nI_ge (a := 0) (b := j) (by omega) (by omega)
theorem sv_inv (p : HC) : ∀ m, m ≤ 8 → (stF p m = -5 ∧ ∀ k, 8 - m ≤ k → k < 8 → ¬ utF p k 500 0 = -5) ∨ ∃ c, 8 - m ≤ c ∧ c < 8 ∧ stF p m = nI c ∧ utF p c 500 0 = -5 ∧ ∀ k, 8 - m ≤ k → k < c → ¬ utF p k 500 0 = -5 := by
  intro m
  induction m with
  | zero => intro _; exact Or.inl ⟨rfl, fun k h1 h2 => absurd h2 (by omega)⟩
  | succ m ih =>
    intro hm
    by_cases e : utF p (7 - m) 500 0 = -5
    · exact Or.inr ⟨7 - m, by omega, by omega, by rw [stF, if_pos e], e, fun k h1 h2 => absurd h2 (by omega)⟩
    · rcases ih (by omega) with ⟨a, b⟩ | ⟨c, c1, c2, c3, c4, c5⟩
      · refine Or.inl ⟨by rw [stF, if_neg e]; exact a, fun k h1 h2 => ?_⟩
        by_cases z : k = 7 - m
        · subst z; exact e
        · exact b k (by omega) h2
      · refine Or.inr ⟨c, by omega, c2, by rw [stF, if_neg e]; exact c3, c4, fun k h1 h2 => ?_⟩
        by_cases z : k = 7 - m
        · subst z; exact e
        · exact c5 k (by omega) h2
theorem sv_cases (p : HC) : (stF p 8 = -5 ∧ ∀ k, k < 8 → ¬ utF p k 500 0 = -5) ∨ ∃ c, c < 8 ∧ stF p 8 = nI c ∧ utF p c 500 0 = -5 ∧ ∀ k, k < c → ¬ utF p k 500 0 = -5 := by
  rcases sv_inv p 8 (Nat.le_refl _) with ⟨a, b⟩ | ⟨c, c1, c2, c3, c4, c5⟩
  · exact Or.inl ⟨a, fun k hk => b k (by omega) hk⟩
  · exact Or.inr ⟨c, c2, c3, c4, fun k hk => c5 k (by omega) hk⟩
