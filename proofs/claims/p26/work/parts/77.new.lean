/-! ===== a new fountain: no jet, and each cup tips in the fourth tick ===== -/
theorem hi_new : khX hc0.2 = -5 := by
  have g := (kh_inv hc0.2 (fun k _ => Int32.le_refl 0) 7 (by decide)).2
  rw [← khX_d] at g
  rw [g, if_pos (show hc0.2 (hgF hc0.2 7) 7 = 0 from rfl)]
theorem quiet {P : HC} {hour : Int32} (h : ∀ k, k < 8 → P.2 k 3 < P.2 k 0 ∧ P.2 k 3 ≤ 9999) : ∀ n, n ≤ 8 → (∀ k, (it1 hour P n).2 k 3 = P.2 k 3) ∧ (it1 hour P n).1 1 = P.1 1 := by
  intro n
  induction n with
  | zero => intro _; exact ⟨fun _ => rfl, rfl⟩
  | succ n ih =>
    intro hn
    obtain ⟨i1, i2⟩ := ih (by omega)
    obtain ⟨a, b⟩ := h n (by omega)
    have t : tpF (it1 hour P n).2 n hour = 0 := by
      unfold tpF fullF
      rw [i1, it1_w _ _ _ _ _ (by decide) (by decide) (by decide), if_pos a, if_pos rfl]
    rw [it1_s]
    constructor
    · intro k
      show tokC (it1 hour P n).2 n hour k 3 = _
      unfold tokC
      rw [if_pos t, i1 n, if_pos b, u2_nw (by decide)]
      exact i1 k
    · show tokH (it1 hour P n).1 (it1 hour P n).2 n hour 1 = _
      unfold tokH
      rw [if_pos t, i1 n, if_pos b]
      exact i2
def QN (p : HC) (i : Nat) : Prop := p.1 1 = 0 ∧ p.1 5 = 3 ∧ p.1 6 = 0 ∧ ∀ k, k < 8 → p.2 k 0 = 10 ∧ p.2 k 1 = 0 ∧ p.2 k 2 = nI (k + 1) ∧ p.2 k 5 = 1 ∧ p.2 k 6 = 0 ∧ p.2 k 3 = if k = 0 then nI (3 * i) else 0
theorem QN.new : QN hc0 0 := by
  refine ⟨rfl, rfl, rfl, fun k hk => ⟨rfl, rfl, rfl, rfl, rfl, ?_⟩⟩
  show (0 : Int32) = if k = 0 then nI (3 * 0) else 0
  split <;> rfl
theorem QN.spring {p : HC} {i : Nat} (h : QN p i) : (springP p).1 1 = 0 ∧ ∀ k, k < 8 → (springP p).2 k 3 = if k = 0 then nI (3 * (i + 1)) else 0 := by
  obtain ⟨h1, h5, h6, hk⟩ := h
  have hb : backF p.1 = 0 := by
    unfold backF
    rw [h1, h6]
    rfl
  constructor
  · show upd (upd p.1 1 (p.1 1 - backF p.1)) 3 (p.1 3 + p.1 5) 1 = 0
    rw [pk_un (by decide), pk_us, hb, h1]
    rfl
  · intro k hk8
    obtain ⟨-, -, -, -, -, e3⟩ := hk k hk8
    obtain ⟨-, -, -, -, -, e0⟩ := hk 0 (by decide)
    show u2 p.2 0 3 (p.2 0 3 + (backF p.1 + p.1 5)) k 3 = _
    by_cases z : k = 0
    · subst z
      rw [u2_s, if_pos rfl, e0, if_pos rfl, hb, h5, show (0 + 3 : Int32) = nI 3 from rfl, nI_add]
      congr 1
    · rw [u2_nk z, if_neg z, e3, if_neg z]
theorem QN.tick {p : HC} {i : Nat} (h : QN p i) (hi : i < 3) : QN (tickP p) (i + 1) := by
  obtain ⟨s1, s3⟩ := h.spring
  have hq : ∀ k, k < 8 → (springP p).2 k 3 < (springP p).2 k 0 ∧ (springP p).2 k 3 ≤ 9999 := by
    intro k hk
    rw [s3 k hk, springP_w _ _ _ (by decide), (h.2.2.2 k hk).1]
    split
    · exact ⟨(nI_ltI (b := 10) (by omega) (by decide)).mpr (by omega), nI_le (b := 9999) (by omega) (by decide)⟩
    · exact ⟨by decide, by decide⟩
  obtain ⟨q1, q2⟩ := quiet (hour := hourP p) hq 8 (Nat.le_refl _)
  have e1 : (tickP p).1 1 = 0 := by
    rw [tickP_1, pk_un (by decide), tick2_d, it2_j _ _ _ (by decide), tick1_d, q2, s1]
  refine ⟨e1, by rw [tickP_j _ _ (by decide)]; exact h.2.1, by rw [tickP_j _ _ (by decide)]; exact h.2.2.1, fun k hk => ?_⟩
  obtain ⟨a, b, c, d, e, f⟩ := h.2.2.2 k hk
  refine ⟨by rw [tickP_w _ _ _ (by decide) (by decide) (by decide)]; exact a, by rw [tickP_w _ _ _ (by decide) (by decide) (by decide)]; exact b, by rw [tickP_w _ _ _ (by decide) (by decide) (by decide)]; exact c, by rw [tickP_w _ _ _ (by decide) (by decide) (by decide)]; exact d, by rw [tickP_w _ _ _ (by decide) (by decide) (by decide)]; exact e, ?_⟩
  show (tick2 p).2 k 3 = _
  have l1 : (tick1 p).2 k 1 = 0 := by rw [tick1_d, it1_w _ _ _ _ _ (by decide) (by decide) (by decide), springP_w _ _ _ (by decide)]; exact b
  have l3 : (tick1 p).2 k 3 = if k = 0 then nI (3 * (i + 1)) else 0 := by rw [tick1_d, q1 k, s3 k hk]
  rw [tick2_d, it2_3, if_pos hk]
  unfold drF
  rw [l1, l3]
  by_cases z : k = 0
  · rw [if_pos z]
    rw [if_neg (show ¬ nI (3 * (i + 1)) ≤ 0 from nI_ge (a := 0) (by omega) (by omega))]
    exact Int32.sub_zero _
  · rw [if_neg z]
    rfl
/-- the fourth tick: twelve goes down from cup to cup -/
theorem QN.fall {p : HC} (h : QN p 3) : ∀ n, n ≤ 8 → (n < 8 → (it1 (hourP p) (springP p) n).2 n 3 = nI 12) ∧ ∀ k, n < k → k < 8 → (it1 (hourP p) (springP p) n).2 k 3 = 0 := by
  obtain ⟨s1, s3⟩ := h.spring
  intro n
  induction n with
  | zero =>
    intro _
    exact ⟨fun _ => by rw [it1_0, s3 0 (by decide)]; rfl, fun k h1 h2 => by rw [it1_0, s3 k h2, if_neg (by omega)]⟩
  | succ n ih =>
    intro hn
    obtain ⟨i1, i2⟩ := ih (by omega)
    have w12 := i1 (by omega)
    obtain ⟨a, b, c, d, e, f⟩ := h.2.2.2 n (by omega)
    have hw : ∀ w, w < 8 → w ≠ 3 → w ≠ 7 → (it1 (hourP p) (springP p) n).2 n w = p.2 n w := fun w h1 h2 h3 => (it1_w _ _ _ _ _ h1 h2 h3).trans (springP_w _ _ _ h2)
    have t : ¬ tpF (it1 (hourP p) (springP p) n).2 n (hourP p) = 0 := by
      unfold tpF fullF opF
      rw [w12, hw 0 (by decide) (by decide) (by decide), hw 6 (by decide) (by decide) (by decide), hw 5 (by decide) (by decide) (by decide), a, d, e]
      simp
      decide
    have hn2 : nn ((it1 (hourP p) (springP p) n).2 n 2) = n + 1 := by rw [hw 2 (by decide) (by decide) (by decide), c, nn_nI (by omega)]
    have key : ∀ k, n < k → k < 8 → (it1 (hourP p) (springP p) (n + 1)).2 k 3 = if k = n + 1 then nI 12 else 0 := by
      intro k h1 h2
      rw [it1_s]
      show tokC (it1 (hourP p) (springP p) n).2 n (hourP p) k 3 = _
      unfold tokC
      rw [if_neg t, tipC_w (by decide), hn2]
      unfold pourC
      rw [if_neg (show ¬ n + 1 = 8 by omega)]
      by_cases z : k = n + 1
      · subst z
        rw [u2_s, if_pos rfl, u2_nk (by omega), u2_nk (by omega), i2 _ h1 h2, w12]
        exact Int32.zero_add _
      · rw [u2_nk z, if_neg z, u2_nk (by omega), u2_nk (by omega)]
        exact i2 k h1 h2
    exact ⟨fun h8 => by rw [key (n + 1) (by omega) h8, if_pos rfl], fun k h1 h2 => by rw [key k (by omega) h2, if_neg (by omega)]⟩
theorem QN.tips {p : HC} (h : QN p 3) {k : Nat} (hk : k < 8) : ¬ tg p k 0 = 0 := by
  obtain ⟨a, b, c, d, e, f⟩ := h.2.2.2 k hk
  have w12 := (h.fall k (by omega)).1 hk
  have hw : ∀ w, w < 8 → w ≠ 3 → w ≠ 7 → (it1 (hourP p) (springP p) k).2 k w = p.2 k w := fun w h1 h2 h3 => (it1_w _ _ _ _ _ h1 h2 h3).trans (springP_w _ _ _ h2)
  show ¬ tpF (it1 (hourP p) (springP p) k).2 k (hourP p) = 0
  unfold tpF fullF opF
  rw [w12, hw 0 (by decide) (by decide) (by decide), hw 6 (by decide) (by decide) (by decide), hw 5 (by decide) (by decide) (by decide), a, d, e]
  simp
  decide
theorem st_new : kst3 (kN5 hc0) hc0 = -5 := by
  rw [starve_eq SI.new.1 SI.new.ti]
  have q3 : QN (tkN hc0 3) 3 := ((QN.new.tick (by decide)).tick (by decide)).tick (by decide)
  rcases sv_cases hc0 with ⟨a, -⟩ | ⟨c, hc, -, e, -⟩
  · exact a
  · exfalso
    rcases ut_cases hc0 c 500 0 with ⟨-, g⟩ | ⟨j, g1, g2, g3, -⟩
    · exact q3.tips hc (g 3 (by decide) (by decide))
    · rw [g3] at e; exact nI_n5 (by omega) e
