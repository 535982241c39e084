/-! ===== tips: a tick adds one to a cup's tips where it tips ===== -/
theorem tip8 {c : Nat → Nat → Int32} {k k2 : Nat} {hour : Int32} : tipC c k hour k2 8 = if k2 = k then c k 8 + 1 else c k2 8 := by
  have hw := whenF_c hour (c k 4)
  have h8 : whenF hour (c k 4) ≠ 8 := by omega
  unfold tipC
  by_cases e : k2 = k
  · subst e
    rw [if_pos rfl]
    split
    · exact u2_s
    · rw [u2_nw (fun q => h8 q.symm)]; exact u2_s
  · rw [if_neg e]
    split
    · exact u2_nk e
    · rw [u2_nk e, u2_nk e]
theorem tok8 {c : Nat → Nat → Int32} {n k : Nat} {hour : Int32} : tokC c n hour k 8 = if k = n then c n 8 + tpF c n hour else c k 8 := by
  unfold tokC
  by_cases ht : tpF c n hour = 0
  · rw [if_pos ht, ht, Int32.add_zero]
    split
    · rw [u2_nw (by decide)]
      by_cases e : k = n
      · subst e; rw [if_pos rfl]
      · rw [if_neg e]
    · rw [u2_nw (by decide), u2_nw (by decide)]
      by_cases e : k = n
      · subst e; rw [if_pos rfl]
      · rw [if_neg e]
  · rw [if_neg ht, tip8]
    have h1 : tpF c n hour = 1 := by
      unfold tpF at ht ⊢
      split
      · rename_i q; rw [if_pos q] at ht; exact absurd rfl ht
      · rename_i q; rw [if_neg q] at ht
        split
        · rename_i q2; rw [if_pos q2] at ht; exact absurd rfl ht
        · rfl
    have hx : ∀ k2, pourC (u2 (u2 c n 7 (jetF c n)) n 3 0) (nn (c n 2)) (c n 3) k2 8 = c k2 8 := fun k2 => by rw [pourC_w (by decide), u2_nw (by decide), u2_nw (by decide)]
    rw [hx, hx, h1]
theorem it1_8 (hour : Int32) (p : HC) (n k : Nat) : (it1 hour p n).2 k 8 = if k < n then p.2 k 8 + tpF (it1 hour p k).2 k hour else p.2 k 8 := by
  induction n with
  | zero => rw [if_neg (by omega)]; rfl
  | succ n ih =>
    rw [it1_s]
    show tokC (it1 hour p n).2 n hour k 8 = _
    rw [tok8]
    by_cases e : k = n
    · subst e
      rw [if_pos rfl, if_pos (by omega), ih, if_neg (by omega)]
    · rw [if_neg e, ih]
      by_cases h : k < n
      · rw [if_pos h, if_pos (by omega)]
      · rw [if_neg h, if_neg (by omega)]
theorem tick8 (p : HC) {k : Nat} (hk : k < 8) : (tickP p).2 k 8 = p.2 k 8 + tg p k 0 := by
  show (tick2 p).2 k 8 = _
  rw [tick2_d, it2_w _ _ _ _ (by decide), tick1_d, it1_8, if_pos hk, springP_w _ _ _ (by decide)]
  rfl
theorem tg_s (p : HC) (k i : Nat) : tg p k (i) = tg (tkN p i) k 0 := rfl
theorem tg_01 (p : HC) (k i : Nat) : tg p k i = 0 ∨ tg p k i = 1 := by
  unfold tg tpF
  split
  · exact Or.inl rfl
  · split
    · exact Or.inl rfl
    · exact Or.inr rfl
theorem tkN8 (p : HC) {k : Nat} (hk : k < 8) (i : Nat) : (tkN p (i + 1)).2 k 8 = (tkN p i).2 k 8 + tg p k i := by
  rw [tkN_s, tick8 _ hk]
  rfl
theorem nT_sum (p : HC) : ∀ n, n ≤ 8 → sumF (tickP p).2 8 n = sumF p.2 8 n + nT (hourP p) (springP p) n := by
  intro n
  induction n with
  | zero => intro _; rfl
  | succ n ih =>
    intro hn
    show sumF (tickP p).2 8 n + (tickP p).2 n 8 = (sumF p.2 8 n + p.2 n 8) + (nT (hourP p) (springP p) n + tpF (it1 (hourP p) (springP p) n).2 n (hourP p))
    rw [ih (by omega), tick8 p (by omega)]
    show (sumF p.2 8 n + nT (hourP p) (springP p) n) + (p.2 n 8 + tpF (it1 (hourP p) (springP p) n).2 n (hourP p)) = _
    rw [Int32.add_assoc, Int32.add_assoc, ← Int32.add_assoc (nT (hourP p) (springP p) n), Int32.add_comm (nT (hourP p) (springP p) n), Int32.add_assoc (p.2 n 8)]
theorem kS_sum {p : HC} (h : CI p) : ∀ n, sumF (tkN p n).2 8 8 = sumF p.2 8 8 + kS p n := by
  intro n
  induction n with
  | zero => exact (Int32.add_zero _).symm
  | succ n ih =>
    rw [tkN_s, nT_sum _ 8 (Nat.le_refl _), ih]
    show _ = sumF p.2 8 8 + (kS p n + ktips (kN p n))
    rw [kN_eq h, ktips_eq (h.ticks n), Int32.add_assoc]
theorem add_sub9 (x y : Int32) : x + y - x = y := by
  rw [Int32.add_comm, Int32.add_sub_cancel]
theorem pass_eq {p : HC} (h : CI p) (t : Int32) : kpassR p t = passR p t := by
  unfold kpassR passR
  split
  · rfl
  · split
    · rw [kS_sum h, add_sub9]
    · rfl
/-! what is known of ticks and tips: no number turns over -/
def TI (M : Nat) (p : HC) : Prop := ∃ t : Nat, p.1 0 = nI t ∧ t ≤ M ∧ ∀ k, k < 8 → ∃ u : Nat, u ≤ t ∧ p.2 k 8 = nI u
theorem tick0 (p : HC) : (tickP p).1 0 = p.1 0 + 1 := by
  rw [tickP_1, pk_us, tick2_d, it2_j _ _ _ (by decide), tick1_d, it1_j _ _ _ _ (by decide), springP_j _ _ (by decide) (by decide)]
theorem TI.tick {M : Nat} {p : HC} (h : TI M p) : TI (M + 1) (tickP p) := by
  obtain ⟨t, ht, hM, hk⟩ := h
  refine ⟨t + 1, by rw [tick0, ht, nI_1], by omega, fun k hk8 => ?_⟩
  obtain ⟨u, hu, e⟩ := hk k hk8
  rcases tg_01 p k 0 with q | q
  · exact ⟨u, by omega, by rw [tick8 p hk8, q, e, Int32.add_zero]⟩
  · exact ⟨u + 1, by omega, by rw [tick8 p hk8, q, e, nI_1]⟩
theorem TI.ticks {M : Nat} {p : HC} (h : TI M p) (n : Nat) : TI (M + n) (tkN p n) := by
  induction n with
  | zero => exact h
  | succ n ih => exact ih.tick
/-- tips grow exactly where the cup tips -/
theorem tips_le {M : Nat} {p : HC} (h : TI M p) (hM : M < 2 ^ 30) {k : Nat} (hk : k < 8) {u : Nat} (hu : p.2 k 8 = nI u) (hu2 : u ≤ M) : (tickP p).2 k 8 ≤ nI u ↔ tg p k 0 = 0 := by
  rw [tick8 p hk, hu]
  rcases tg_01 p k 0 with q | q
  · rw [q, Int32.add_zero]; exact ⟨fun _ => rfl, fun _ => Int32.le_refl _⟩
  · rw [q, nI_1, nI_leI (by omega) (by omega)]
    exact ⟨fun z => by omega, fun z => absurd z (by decide)⟩
