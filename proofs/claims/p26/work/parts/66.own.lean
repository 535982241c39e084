/-! ===== what a tick does to each cup: jets, tallies, water ===== -/
theorem whenF_l (hour its : Int32) : 9 ≤ whenF hour its := by rcases whenF_c hour its with h | h | h <;> omega
theorem tok7 {c : Nat → Nat → Int32} {n k : Nat} {hour : Int32} : tokC c n hour k 7 = if k = n then (if tpF c n hour = 0 then 0 else jetF c n) else c k 7 := by
  unfold tokC
  by_cases t : tpF c n hour = 0
  · rw [if_pos t, if_pos t]
    split
    · by_cases e : k = n
      · subst e; rw [if_pos rfl, u2_s]
      · rw [if_neg e, u2_nk e]
    · rw [u2_nw (by decide)]
      by_cases e : k = n
      · subst e; rw [if_pos rfl, u2_s]
      · rw [if_neg e, u2_nk e]
  · rw [if_neg t, if_neg t, tipC_w (by decide), pourC_w (by decide), u2_nw (by decide)]
    by_cases e : k = n
    · subst e; rw [if_pos rfl, u2_s]
    · rw [if_neg e, u2_nk e]
theorem tok9 {c : Nat → Nat → Int32} {n k w : Nat} {hour : Int32} (hw : w = 9 ∨ w = 10 ∨ w = 11) : tokC c n hour k w = if k = n then (if tpF c n hour = 0 then c n w else if c n 4 = -1 then c n w else if w = whenF hour (c n 4) then c n w + 1 else c n w) else c k w := by
  have h3 : w ≠ 3 := by omega
  have h7 : w ≠ 7 := by omega
  have h8 : w ≠ 8 := by omega
  unfold tokC
  by_cases t : tpF c n hour = 0
  · rw [if_pos t, if_pos t]
    have e0 : (if c n 3 ≤ 9999 then u2 c n 7 0 else u2 (u2 c n 7 0) n 3 9999) k w = c k w := by
      split
      · exact u2_nw h7
      · rw [u2_nw h3, u2_nw h7]
    rw [e0]
    by_cases e : k = n
    · subst e; rw [if_pos rfl]
    · rw [if_neg e]
  · rw [if_neg t, if_neg t]
    have q : ∀ j v, v ≠ 3 → v ≠ 7 → pourC (u2 (u2 c n 7 (jetF c n)) n 3 0) (nn (c n 2)) (c n 3) j v = c j v := fun j v a b => by rw [pourC_w a, u2_nw a, u2_nw b]
    unfold tipC
    rw [q n 4 (by decide) (by decide), q n 8 (by decide) (by decide)]
    by_cases h4 : c n 4 = -1
    · rw [if_pos h4, if_pos h4, u2_nw h8, q k w h3 h7]
      by_cases e : k = n
      · subst e; rw [if_pos rfl]
      · rw [if_neg e]
    · rw [if_neg h4, if_neg h4]
      have g9 : whenF hour (c n 4) ≠ 8 := by have := whenF_l hour (c n 4); omega
      have g3 : whenF hour (c n 4) ≠ 3 := by have := whenF_l hour (c n 4); omega
      have g7 : whenF hour (c n 4) ≠ 7 := by have := whenF_l hour (c n 4); omega
      rw [u2_nw g9, q n _ g3 g7]
      by_cases e : k = n
      · subst e
        rw [if_pos rfl]
        by_cases z : w = whenF hour (c k 4)
        · rw [if_pos z, ← z, u2_s]
        · rw [if_neg z, u2_nw z, u2_nw h8, q k w h3 h7]
      · rw [if_neg e, u2_nk e, u2_nk e, q k w h3 h7]
theorem it1_7 (hour : Int32) (p : HC) (n k : Nat) : (it1 hour p n).2 k 7 = if k < n then (if tpF (it1 hour p k).2 k hour = 0 then 0 else jetF (it1 hour p k).2 k) else p.2 k 7 := by
  induction n with
  | zero => rw [if_neg (Nat.not_lt_zero _)]; rfl
  | succ n ih =>
    rw [it1_s]
    show tokC (it1 hour p n).2 n hour k 7 = _
    rw [tok7]
    by_cases e : k = n
    · subst e; rw [if_pos rfl, if_pos (Nat.lt_succ_self _)]
    · rw [if_neg e, ih]
      by_cases h : k < n
      · rw [if_pos h, if_pos (show k < n + 1 by omega)]
      · rw [if_neg h, if_neg (show ¬ k < n + 1 by omega)]
/-- one more on time, early or late -/
def d9F (hour its : Int32) (t : Int32) (w : Nat) : Int32 := if t = 0 then 0 else if its = -1 then 0 else if w = whenF hour its then 1 else 0
theorem it1_9 (hour : Int32) (p : HC) (n k : Nat) {w : Nat} (hw : w = 9 ∨ w = 10 ∨ w = 11) : (it1 hour p n).2 k w = if k < n then p.2 k w + d9F hour (p.2 k 4) (tpF (it1 hour p k).2 k hour) w else p.2 k w := by
  induction n with
  | zero => rw [if_neg (Nat.not_lt_zero _)]; rfl
  | succ n ih =>
    rw [it1_s]
    show tokC (it1 hour p n).2 n hour k w = _
    rw [tok9 hw]
    by_cases e : k = n
    · subst e
      rw [if_pos rfl, if_pos (Nat.lt_succ_self _), ih, if_neg (Nat.lt_irrefl _), it1_w _ _ _ _ _ (by decide) (by decide) (by decide)]
      unfold d9F
      split
      · exact (Int32.add_zero _).symm
      · split
        · exact (Int32.add_zero _).symm
        · split
          · rfl
          · exact (Int32.add_zero _).symm
    · rw [if_neg e, ih]
      by_cases h : k < n
      · rw [if_pos h, if_pos (show k < n + 1 by omega)]
      · rw [if_neg h, if_neg (show ¬ k < n + 1 by omega)]
theorem tick7 (p : HC) {k : Nat} (hk : k < 8) : (tickP p).2 k 7 = if tg p k 0 = 0 then 0 else jetF (it1 (hourP p) (springP p) k).2 k := by
  show (tick2 p).2 k 7 = _
  rw [tick2_d, it2_w _ _ _ _ (by decide), tick1_d, it1_7, if_pos hk]
  rfl
theorem tick9 (p : HC) {k : Nat} (hk : k < 8) {w : Nat} (hw : w = 9 ∨ w = 10 ∨ w = 11) : (tickP p).2 k w = p.2 k w + d9F (hourP p) (p.2 k 4) (tg p k 0) w := by
  show (tick2 p).2 k w = _
  rw [tick2_d, it2_w _ _ _ _ (by omega), tick1_d, it1_9 _ _ _ _ hw, if_pos hk, springP_w _ _ _ (by omega), springP_w _ _ _ (by decide)]
  rfl
/-- water at a cup's own turn, and at earlier cups' -/
theorem tok3 {c : Nat → Nat → Int32} {n k : Nat} {hour : Int32} (hk : k ≤ n) (ht : n < nn (c n 2)) : tokC c n hour k 3 = if k = n then (if tpF c n hour = 0 then (if c n 3 ≤ 9999 then c n 3 else 9999) else 0) else c k 3 := by
  unfold tokC
  by_cases t : tpF c n hour = 0
  · rw [if_pos t, if_pos t]
    by_cases h9 : c n 3 ≤ 9999
    · rw [if_pos h9, if_pos h9, u2_nw (by decide)]
      by_cases e : k = n
      · subst e; rw [if_pos rfl]
      · rw [if_neg e]
    · rw [if_neg h9, if_neg h9]
      by_cases e : k = n
      · subst e; rw [if_pos rfl, u2_s]
      · rw [if_neg e, u2_nk e, u2_nk e]
  · rw [if_neg t, if_neg t, tipC_w (by decide)]
    have e0 : pourC (u2 (u2 c n 7 (jetF c n)) n 3 0) (nn (c n 2)) (c n 3) k 3 = u2 (u2 c n 7 (jetF c n)) n 3 0 k 3 := by
      unfold pourC
      split
      · rfl
      · exact u2_nk (by omega)
    rw [e0]
    by_cases e : k = n
    · subst e; rw [if_pos rfl, u2_s]
    · rw [if_neg e, u2_nk e, u2_nk e]
/-- water goes on to a cup behind -/
def nxO (p : HC) : Prop := ∀ k, k < 8 → k < nn (p.2 k 2)
theorem it1_3 {hour : Int32} {p : HC} (hn : nxO p) : ∀ n k, n ≤ 8 → k < n → (it1 hour p n).2 k 3 = if tpF (it1 hour p k).2 k hour = 0 then (if (it1 hour p k).2 k 3 ≤ 9999 then (it1 hour p k).2 k 3 else 9999) else 0 := by
  intro n
  induction n with
  | zero => intro k _ h; exact absurd h (Nat.not_lt_zero _)
  | succ n ih =>
    intro k h8 hk
    rw [it1_s]
    show tokC (it1 hour p n).2 n hour k 3 = _
    rw [tok3 (by omega) (by rw [it1_w _ _ _ _ _ (by decide) (by decide) (by decide)]; exact hn n (by omega))]
    by_cases e : k = n
    · subst e; rw [if_pos rfl]
    · rw [if_neg e]; exact ih k (by omega) (by omega)
theorem it2_3 {p : HC} : ∀ n k, (it2 p n).2 k 3 = if k < n then p.2 k 3 - drF p.2 k else p.2 k 3 := by
  intro n
  induction n with
  | zero => intro k; rw [if_neg (Nat.not_lt_zero _)]; rfl
  | succ n ih =>
    intro k
    rw [it2_s]
    show u2 (it2 p n).2 n 3 ((it2 p n).2 n 3 - drF (it2 p n).2 n) k 3 = _
    by_cases e : k = n
    · subst e
      have ed : drF (it2 p k).2 k = drF p.2 k := by
        unfold drF
        rw [ih, if_neg (Nat.lt_irrefl _), it2_w _ _ _ _ (by decide)]
      rw [u2_s, if_pos (Nat.lt_succ_self _), ed, ih, if_neg (Nat.lt_irrefl _)]
    · rw [u2_nk e, ih]
      by_cases h : k < n
      · rw [if_pos h, if_pos (show k < n + 1 by omega)]
      · rw [if_neg h, if_neg (show ¬ k < n + 1 by omega)]
theorem nxO.spring {p : HC} (h : nxO p) : nxO (springP p) := fun k hk => by rw [springP_w _ _ _ (by decide)]; exact h k hk
theorem tick3 {p : HC} (hn : nxO p) {k : Nat} (hk : k < 8) : (tickP p).2 k 3 = (tick1 p).2 k 3 - drF (tick1 p).2 k ∧ (tick1 p).2 k 3 = if tg p k 0 = 0 then (if (it1 (hourP p) (springP p) k).2 k 3 ≤ 9999 then (it1 (hourP p) (springP p) k).2 k 3 else 9999) else 0 := by
  constructor
  · show (tick2 p).2 k 3 = _
    rw [tick2_d, it2_3, if_pos hk]
  · rw [tick1_d, it1_3 hn.spring 8 k (Nat.le_refl _) hk]
    rfl
