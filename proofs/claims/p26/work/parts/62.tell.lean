/-! ===== what is told ===== -/
theorem cup_eq (c : Nat → Nat → Int32) (cup what : Int32) : kcupR c cup what = cupR c cup what := by
  unfold kcupR cupR tellR
  rfl
theorem ts_eq (c : Nat → Nat → Int32) {w : Nat} (hw : w < 12) (h4 : w ≠ 4) : ∀ n, tsF c (nI w) n = sumF c w n := by
  intro n
  induction n with
  | zero => rfl
  | succ n ih =>
    rw [tsF, sumF, ih]
    congr 1
    unfold tellR
    have h1 : ¬ inF (nI w) 0 11 = 0 := by
      rcases w12_cases hw with rfl | rfl | rfl | rfl | rfl | rfl | rfl | rfl | rfl | rfl | rfl | rfl <;> decide
    have h2 : ¬ nI w = 4 := by
      rcases w12_cases hw with rfl | rfl | rfl | rfl | rfl | rfl | rfl | rfl | rfl | rfl | rfl | rfl <;> first | (exact absurd rfl h4) | decide
    rw [if_neg h1, if_neg h2, nn_nI (by omega)]
theorem if_eq {p : HC} (h : CI p) (ticks what : Int32) : kifR p ticks what = ifF p ticks what := by
  unfold kifR ifF
  split
  · rfl
  · split
    · rfl
    · rename_i hw
      obtain ⟨w, hw3, rfl⟩ := i32_nI (n := 3) (Or.inl rfl) rfl (by decide) (inF_ne hw)
      unfold kifX
      rw [kN_eq h]
      have h4 : w = 0 ∨ w = 1 ∨ w = 2 ∨ w = 3 := by omega
      have hi : ifw (nI w) < 12 := ifw_lt hw3
      have hj : ifw (nI w) ≠ 4 := by
        rcases h4 with rfl | rfl | rfl | rfl <;> decide
      have e : (if nI w = 3 then (8 : Int32) else 9 + nI w) = nI (ifw (nI w)) := by
        rcases h4 with rfl | rfl | rfl | rfl <;> decide
      rw [e, ts_eq _ hi hj, ts_eq _ hi hj]
theorem tf_eq (c : Nat → Nat → Int32) : ∀ n, tfF c n = fuF c n := by
  intro n
  induction n with
  | zero => rfl
  | succ n ih =>
    rw [tfF, fuF, ih]
    rfl
theorem ho7 {p : HC} (h : CI p) (t : Int32) : hoR p.1 t = hrF p.1 t := by unfold hoR; rw [if_neg (Int32.not_le.mpr h.1)]
theorem cnt_eq {p : HC} (h : CI p) (kp ln : Nat) (x : Int32) : kcntR p kp ln x = countR p kp ln x := by
  have a3 := ts_eq p.2 (w := 3) (by decide) (by decide) 8
  have a8 := ts_eq p.2 (w := 8) (by decide) (by decide) 8
  have a9 := ts_eq p.2 (w := 9) (by decide) (by decide) 8
  have af := tf_eq p.2 8
  have ah := ho7 h (p.1 0)
  generalize hx3 : sumF p.2 3 8 = x3 at a3
  generalize hx8 : sumF p.2 8 8 = x8 at a8
  generalize hx9 : sumF p.2 9 8 = x9 at a9
  generalize hxf : fuF p.2 8 = xf at af
  unfold countR
  rw [hx3, hx8, hx9, hxf]
  rcases sw15 x with hs | rfl | rfl | rfl | rfl | rfl | rfl | rfl | rfl | rfl | rfl | rfl | rfl | rfl | rfl | rfl
  · rw [if_pos hs]
    have n13 : ¬ x = 13 := fun e => by rw [e] at hs; exact absurd hs (by decide)
    have n14 : ¬ x = 14 := fun e => by rw [e] at hs; exact absurd hs (by decide)
    have n12 : inF x 0 12 = 0 := by
      unfold inF at hs ⊢
      by_cases a : x < 0
      · rw [if_pos a]
      · rw [if_neg a] at hs ⊢
        by_cases b : 14 < x
        · rw [if_pos (Int32.lt_trans (by decide) b)]
        · rw [if_neg b] at hs; exact absurd hs (by decide)
    unfold kcntR stellR
    rw [if_neg n13, if_neg n14, if_pos n12]
  · rfl
  · exact ah
  · exact a3
  · rfl
  · rfl
  · rfl
  · rfl
  · exact a8
  · exact a9
  · exact af
  · rfl
  · rfl
  · rfl
  · rfl
  · rfl
theorem kh_inv (c : Nat → Nat → Int32) (h0 : ∀ k, k < 8 → 0 ≤ c k 7) : ∀ n, n < 8 → (khF c (n + 1)).2 = c (hgF c n) 7 ∧ (khF c (n + 1)).1 = (if c (hgF c n) 7 = 0 then -5 else nI (hgF c n)) := by
  intro n
  induction n with
  | zero =>
    intro _
    show (if c 0 7 ≤ 0 then ((-5 : Int32), (0 : Int32)) else (nI 0, c 0 7)).2 = c 0 7 ∧ (if c 0 7 ≤ 0 then ((-5 : Int32), (0 : Int32)) else (nI 0, c 0 7)).1 = (if c 0 7 = 0 then -5 else nI 0)
    by_cases e : c 0 7 ≤ 0
    · have e0 : c 0 7 = 0 := Int32.le_antisymm e (h0 0 (by decide))
      rw [if_pos e, if_pos e0, e0]
      exact ⟨rfl, rfl⟩
    · have e0 : ¬ c 0 7 = 0 := fun z => e (by rw [z]; exact Int32.le_refl 0)
      rw [if_neg e, if_neg e0]
      exact ⟨rfl, rfl⟩
  | succ n ih =>
    intro hn
    obtain ⟨i1, i2⟩ := ih (by omega)
    show (if c (n + 1) 7 ≤ (khF c (n + 1)).2 then khF c (n + 1) else (nI (n + 1), c (n + 1) 7)).2 = _ ∧ (if c (n + 1) 7 ≤ (khF c (n + 1)).2 then khF c (n + 1) else (nI (n + 1), c (n + 1) 7)).1 = _
    rw [i1, hgF]
    by_cases e : c (n + 1) 7 ≤ c (hgF c n) 7
    · rw [if_pos e, if_pos e]; exact ⟨i1, i2⟩
    · rw [if_neg e, if_neg e]
      have e0 : ¬ c (n + 1) 7 = 0 := fun z => e (by rw [z]; exact h0 _ (by have := hgF_le c n; omega))
      rw [if_neg e0]
      exact ⟨rfl, rfl⟩
theorem hi_eq (c : Nat → Nat → Int32) (h0 : ∀ k, k < 8 → 0 ≤ c k 7) : khX c = hiR c := by
  rw [khX_d]
  exact (kh_inv c h0 7 (by decide)).2
