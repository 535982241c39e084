/-! ===== the accounts of water ===== -/
theorem sumF_out {c : Nat → Nat → Int32} {k w : Nat} {x : Int32} : ∀ n, n ≤ k → sumF (u2 c k w x) w n = sumF c w n := by
  intro n
  induction n with
  | zero => intro _; rfl
  | succ n ih =>
    intro h
    show sumF (u2 c k w x) w n + u2 c k w x n w = sumF c w n + c n w
    rw [ih (by omega), u2_nk (by omega)]
theorem sumF_in {c : Nat → Nat → Int32} {k w : Nat} {x : Int32} : ∀ n, k < n → sumF (u2 c k w x) w n + c k w = sumF c w n + x := by
  intro n
  induction n with
  | zero => intro h; exact absurd h (Nat.not_lt_zero _)
  | succ n ih =>
    intro h
    show sumF (u2 c k w x) w n + u2 c k w x n w + c k w = sumF c w n + c n w + x
    by_cases e : k = n
    · subst e
      rw [sumF_out k (Nat.le_refl _), u2_s, Int32.add_assoc, Int32.add_comm x, ← Int32.add_assoc]
    · have g := ih (by omega)
      rw [u2_nk (by omega)]
      generalize sumF (u2 c k w x) w n = a at g ⊢
      generalize sumF c w n = b at g ⊢
      grind
theorem sumF_oth {c : Nat → Nat → Int32} {k v w : Nat} {x : Int32} (h : w ≠ v) : ∀ n, sumF (u2 c k v x) w n = sumF c w n := by
  intro n
  induction n with
  | zero => rfl
  | succ n ih =>
    show sumF (u2 c k v x) w n + u2 c k v x n w = sumF c w n + c n w
    rw [ih, u2_nw h]
def AC (p : HC) : Prop := p.1 3 + p.1 4 = sumF p.2 3 8 + p.1 1 + p.1 2
theorem sumF_tip {c : Nat → Nat → Int32} {k : Nat} {hour : Int32} : ∀ n, sumF (tipC c k hour) 3 n = sumF c 3 n := by
  have hw := whenF_l hour (c k 4)
  intro n
  unfold tipC
  split
  · exact sumF_oth (by decide) n
  · rw [sumF_oth (by omega) n, sumF_oth (by decide) n]
theorem AC.tok {p : HC} (h : AC p) {n : Nat} (hn : n < 8) (hx : nn (p.2 n 2) ≤ 8) (hour : Int32) : AC (tokH p.1 p.2 n hour, tokC p.2 n hour) := by
  unfold AC at h ⊢
  have e3 : tokH p.1 p.2 n hour 3 = p.1 3 := tokH_j (by decide)
  have e4 : tokH p.1 p.2 n hour 4 = p.1 4 := tokH_j (by decide)
  have e2 : tokH p.1 p.2 n hour 2 = p.1 2 := tokH_j (by decide)
  show tokH p.1 p.2 n hour 3 + tokH p.1 p.2 n hour 4 = sumF (tokC p.2 n hour) 3 8 + tokH p.1 p.2 n hour 1 + tokH p.1 p.2 n hour 2
  rw [e3, e4, e2, h]
  unfold tokH tokC
  by_cases t : tpF p.2 n hour = 0
  · rw [if_pos t, if_pos t]
    by_cases h9 : p.2 n 3 ≤ 9999
    · rw [if_pos h9, if_pos h9, sumF_oth (by decide)]
    · rw [if_neg h9, if_neg h9, pk_us]
      have g := sumF_in (c := u2 p.2 n 7 0) (k := n) (w := 3) (x := 9999) 8 hn
      rw [u2_nw (by decide), sumF_oth (show (3 : Nat) ≠ 7 by decide)] at g
      generalize sumF (u2 (u2 p.2 n 7 0) n 3 9999) 3 8 = a at g ⊢
      generalize sumF p.2 3 8 = b at g ⊢
      grind
  · rw [if_neg t, if_neg t, sumF_tip]
    have g := sumF_in (c := u2 p.2 n 7 (jetF p.2 n)) (k := n) (w := 3) (x := 0) 8 hn
    rw [u2_nw (by decide), sumF_oth (show (3 : Nat) ≠ 7 by decide)] at g
    unfold pourH pourC
    by_cases t8 : nn (p.2 n 2) = 8
    · rw [if_pos t8, if_pos t8, pk_us]
      generalize sumF (u2 (u2 p.2 n 7 (jetF p.2 n)) n 3 0) 3 8 = a at g ⊢
      generalize sumF p.2 3 8 = b at g ⊢
      grind
    · rw [if_neg t8, if_neg t8]
      have g2 := sumF_in (c := u2 (u2 p.2 n 7 (jetF p.2 n)) n 3 0) (k := nn (p.2 n 2)) (w := 3) (x := u2 (u2 p.2 n 7 (jetF p.2 n)) n 3 0 (nn (p.2 n 2)) 3 + p.2 n 3) 8 (by omega)
      generalize sumF (u2 (u2 (u2 p.2 n 7 (jetF p.2 n)) n 3 0) (nn (p.2 n 2)) 3 (u2 (u2 p.2 n 7 (jetF p.2 n)) n 3 0 (nn (p.2 n 2)) 3 + p.2 n 3)) 3 8 = a2 at g2 ⊢
      generalize u2 (u2 p.2 n 7 (jetF p.2 n)) n 3 0 (nn (p.2 n 2)) 3 = y at g2
      generalize sumF (u2 (u2 p.2 n 7 (jetF p.2 n)) n 3 0) 3 8 = a at g g2
      generalize sumF p.2 3 8 = b at g ⊢
      grind
theorem AC.its {p : HC} (h : AC p) (hx : ∀ k, k < 8 → nn (p.2 k 2) ≤ 8) (hour : Int32) : ∀ n, n ≤ 8 → AC (it1 hour p n) := by
  intro n
  induction n with
  | zero => intro _; exact h
  | succ n ih =>
    intro hn
    exact (ih (by omega)).tok (by omega) (by rw [it1_w _ _ _ _ _ (by decide) (by decide) (by decide)]; exact hx n (by omega)) hour
theorem AC.spring {p : HC} (h : AC p) : AC (springP p) := by
  unfold AC at h ⊢
  show springH p.1 3 + springH p.1 4 = sumF (u2 p.2 0 3 (p.2 0 3 + (backF p.1 + p.1 5))) 3 8 + springH p.1 1 + springH p.1 2
  have g := sumF_in (c := p.2) (k := 0) (w := 3) (x := p.2 0 3 + (backF p.1 + p.1 5)) 8 (by decide)
  unfold springH
  rw [pk_us, pk_un (show (4 : Nat) ≠ 3 by decide), pk_un (show (4 : Nat) ≠ 1 by decide), pk_un (show (1 : Nat) ≠ 3 by decide), pk_us, pk_un (show (2 : Nat) ≠ 3 by decide), pk_un (show (2 : Nat) ≠ 1 by decide)]
  generalize sumF (u2 p.2 0 3 (p.2 0 3 + (backF p.1 + p.1 5))) 3 8 = a at g ⊢
  generalize sumF p.2 3 8 = b at g h
  generalize backF p.1 = c at g ⊢
  grind
theorem AC.dr {p : HC} (h : AC p) : ∀ n, n ≤ 8 → AC (it2 p n) := by
  intro n
  induction n with
  | zero => intro _; exact h
  | succ n ih =>
    intro hn
    have q := ih (by omega)
    rw [it2_s]
    unfold AC at q ⊢
    show upd (it2 p n).1 2 ((it2 p n).1 2 + drF (it2 p n).2 n) 3 + upd (it2 p n).1 2 ((it2 p n).1 2 + drF (it2 p n).2 n) 4 = sumF (u2 (it2 p n).2 n 3 ((it2 p n).2 n 3 - drF (it2 p n).2 n)) 3 8 + upd (it2 p n).1 2 ((it2 p n).1 2 + drF (it2 p n).2 n) 1 + upd (it2 p n).1 2 ((it2 p n).1 2 + drF (it2 p n).2 n) 2
    rw [pk_un (show (3 : Nat) ≠ 2 by decide), pk_un (show (4 : Nat) ≠ 2 by decide), pk_un (show (1 : Nat) ≠ 2 by decide), pk_us]
    have g := sumF_in (c := (it2 p n).2) (k := n) (w := 3) (x := (it2 p n).2 n 3 - drF (it2 p n).2 n) 8 (by omega)
    generalize sumF (u2 (it2 p n).2 n 3 ((it2 p n).2 n 3 - drF (it2 p n).2 n)) 3 8 = a at g ⊢
    generalize sumF (it2 p n).2 3 8 = b at g q
    generalize drF (it2 p n).2 n = d at g ⊢
    grind
theorem AC.tick {p : HC} (h : AC p) (hx : ∀ k, k < 8 → nn (p.2 k 2) ≤ 8) : AC (tickP p) := by
  have q : AC (tick2 p) := by
    rw [tick2_d, tick1_d]
    exact (h.spring.its (fun k hk => by rw [springP_w _ _ _ (by decide)]; exact hx k hk) _ 8 (Nat.le_refl _)).dr 8 (Nat.le_refl _)
  unfold AC at q ⊢
  rw [tickP_1, tickP_2, pk_un (by decide), pk_un (by decide), pk_un (by decide), pk_un (by decide)]
  exact q
