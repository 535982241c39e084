/-! ===== the best size: a larger cup tips no earlier ===== -/
theorem nI_div {a b : Nat} (ha : a < 2 ^ 31) (hb : b < 2 ^ 31) (h0 : 0 < b) : nI a / nI b = nI (a / b) := by
  have hn : nI b ≠ -1 := fun e => by
    have h := nI_pos hb
    rw [e] at h
    exact h (by decide)
  refine Int32.toInt_inj.mp ?_
  rw [Int32.toInt_div_of_ne_right _ _ hn, nI_toInt ha, nI_toInt hb, nI_toInt (Nat.lt_of_le_of_lt (Nat.div_le_self a b) ha)]
  exact (Int.ofNat_tdiv a b).symm
theorem nI_subI {a b : Nat} (h : b ≤ a) : nI a - nI b = nI (a - b) := by
  have e : nI a = nI (a - b) + nI b := by rw [nI_add]; congr 1; omega
  rw [e, Int32.add_sub_cancel]
theorem hr_nI {h : Nat → Int32} {d a : Nat} (hd : h 7 = nI d) (hd0 : 0 < d) (hd2 : d < 2 ^ 31) (ha : a < 2 ^ 31) : hrF h (nI a) = nI (a % d) := by
  unfold hrF
  rw [hd, nI_div ha hd2 hd0, pk_mul, nI_subI (Nat.div_mul_le_self a d)]
  congr 1
  have := Nat.div_add_mod a d
  have e : a / d * d = d * (a / d) := Nat.mul_comm _ _
  omega
theorem pos_nI {x : Int32} (h : 0 < x) : ∃ d : Nat, 0 < d ∧ d < 2 ^ 31 ∧ x = nI d := by
  have h0 : ¬ x < 0 := fun q => Int32.lt_irrefl (Int32.lt_trans h q)
  obtain ⟨d, hd, rfl⟩ := nI_of h0
  refine ⟨d, ?_, hd, rfl⟩
  rcases Nat.eq_zero_or_pos d with e | e
  · subst e; exact absurd h (by decide)
  · exact e
theorem hot_5 {p : HC} (h : CI p) (ht : TI 99999 p) {k : Nat} : hotF p k = -5 ↔ utF p k 500 0 = -5 := by
  unfold hotF
  obtain ⟨t, ht0, htM, -⟩ := ht
  obtain ⟨d, hd0, hd, e7⟩ := pos_nI h.1
  rcases ut_cases p k 500 0 with ⟨g, -⟩ | ⟨j, g1, g2, g3, -⟩
  · rw [if_pos g]; exact ⟨fun _ => g, fun _ => rfl⟩
  · rw [g3, if_neg (nI_n5 (by omega))]
    obtain ⟨j0, rfl⟩ : ∃ j0, j = j0 + 1 := ⟨j - 1, by omega⟩
    rw [ht0, nI_add, ← Nat.add_assoc, nI_pred, hr_nI e7 hd0 hd (by omega)]
    exact ⟨fun z => absurd z (nI_n5 (Nat.lt_of_le_of_lt (Nat.mod_le _ _) (by omega))), fun z => absurd z (nI_n5 (by omega))⟩
/-- another size -/
def RZ (k : Nat) (x : Int32) (p : HC) : HC := (p.1, u2 p.2 k 0 x)
theorem tipC_u0 {c : Nat → Nat → Int32} {k t : Nat} {hour x : Int32} : tipC (u2 c t 0 x) k hour = u2 (tipC c k hour) t 0 x := by
  have hw := whenF_c hour (c k 4)
  unfold tipC
  rw [u2_nw (show (4 : Nat) ≠ 0 by decide), u2_nw (show (8 : Nat) ≠ 0 by decide)]
  split
  · exact u2_cc (by decide)
  · have e : u2 (u2 c t 0 x) k 8 (c k 8 + 1) = u2 (u2 c k 8 (c k 8 + 1)) t 0 x := u2_cc (by decide)
    rw [e, u2_nw (show whenF hour (c k 4) ≠ 0 by omega)]
    exact u2_cc (by omega)
theorem pourC_u0 {c : Nat → Nat → Int32} {k t : Nat} {x y : Int32} : pourC (u2 c k 0 x) t y = u2 (pourC c t y) k 0 x := by
  unfold pourC
  split
  · rfl
  · rw [u2_nw (show (3 : Nat) ≠ 0 by decide)]; exact u2_cc (by decide)
theorem op_u0 {c : Nat → Nat → Int32} {k n : Nat} {x hour : Int32} : opF (u2 c k 0 x) n hour = opF c n hour := by
  unfold opF
  rw [u2_nw (show (6 : Nat) ≠ 0 by decide), u2_nw (show (5 : Nat) ≠ 0 by decide), u2_nw (show (4 : Nat) ≠ 0 by decide)]
theorem tp_u0 {c : Nat → Nat → Int32} {k n : Nat} {x hour : Int32} (h : n ≠ k) : tpF (u2 c k 0 x) n hour = tpF c n hour := by
  unfold tpF fullF
  rw [op_u0, u2_nw (show (3 : Nat) ≠ 0 by decide), u2_nk h]
theorem tp_k0 {c : Nat → Nat → Int32} {k : Nat} {x hour : Int32} (hx : c k 0 ≤ x) (h : tpF c k hour = 0) : tpF (u2 c k 0 x) k hour = 0 := by
  unfold tpF fullF at h ⊢
  rw [op_u0, u2_nw (show (3 : Nat) ≠ 0 by decide), u2_s]
  by_cases a : c k 3 < x
  · rw [if_pos a, if_pos rfl]
  · rw [if_neg a, if_neg i10]
    have b : ¬ c k 3 < c k 0 := fun z => a (Int32.lt_of_lt_of_le z hx)
    rw [if_neg b, if_neg i10] at h
    exact h
theorem tok_u0 {h : Nat → Int32} {c : Nat → Nat → Int32} {k n : Nat} {x hour : Int32} (hx : c k 0 ≤ x) (hk : n = k → tpF c k hour = 0) : tokH h (u2 c k 0 x) n hour = tokH h c n hour ∧ tokC (u2 c k 0 x) n hour = u2 (tokC c n hour) k 0 x := by
  have e3 : ∀ m, u2 c k 0 x m 3 = c m 3 := fun m => u2_nw (by decide)
  have e2 : ∀ m, u2 c k 0 x m 2 = c m 2 := fun m => u2_nw (by decide)
  have keep : (if c n 3 ≤ 9999 then u2 (u2 c k 0 x) n 7 0 else u2 (u2 (u2 c k 0 x) n 7 0) n 3 9999) = u2 (if c n 3 ≤ 9999 then u2 c n 7 0 else u2 (u2 c n 7 0) n 3 9999) k 0 x := by
    have a : u2 (u2 c k 0 x) n 7 0 = u2 (u2 c n 7 0) k 0 x := u2_cc (by decide)
    split
    · exact a
    · rw [a]; exact u2_cc (by decide)
  by_cases e : n = k
  · subst e
    have t0 := hk rfl
    have t1 := tp_k0 hx t0
    unfold tokH tokC
    rw [if_pos t0, if_pos t0, if_pos t1, if_pos t1, e3]
    exact ⟨rfl, keep⟩
  · have tt : tpF (u2 c k 0 x) n hour = tpF c n hour := tp_u0 e
    unfold tokH tokC
    rw [tt, e3, e2]
    by_cases t0 : tpF c n hour = 0
    · rw [if_pos t0, if_pos t0, if_pos t0]
      exact ⟨rfl, keep⟩
    · rw [if_neg t0, if_neg t0, if_neg t0]
      refine ⟨rfl, ?_⟩
      have ej : jetF (u2 c k 0 x) n = jetF c n := by
        unfold jetF
        rw [e3, u2_nk e]
      have a : u2 (u2 (u2 c k 0 x) n 7 (jetF c n)) n 3 0 = u2 (u2 (u2 c n 7 (jetF c n)) n 3 0) k 0 x := by
        rw [show u2 (u2 c k 0 x) n 7 (jetF c n) = u2 (u2 c n 7 (jetF c n)) k 0 x from u2_cc (by decide)]
        exact u2_cc (by decide)
      rw [ej, a, pourC_u0, tipC_u0]
theorem it1_u0 {hour : Int32} {p : HC} {k : Nat} {x : Int32} (hx : p.2 k 0 ≤ x) (hk : tpF (it1 hour p k).2 k hour = 0) : ∀ n, it1 hour (RZ k x p) n = RZ k x (it1 hour p n) := by
  intro n
  induction n with
  | zero => rfl
  | succ n ih =>
    rw [it1_s, it1_s, ih]
    have g := tok_u0 (h := (it1 hour p n).1) (c := (it1 hour p n).2) (k := k) (n := n) (x := x) (hour := hour) (by rw [it1_w _ _ _ _ _ (by decide) (by decide) (by decide)]; exact hx) (fun e => by subst e; exact hk)
    show (tokH (it1 hour p n).1 (u2 (it1 hour p n).2 k 0 x) n hour, tokC (u2 (it1 hour p n).2 k 0 x) n hour) = _
    rw [g.1, g.2]
    rfl
theorem it2_u0 {p : HC} {k : Nat} {x : Int32} : ∀ n, it2 (RZ k x p) n = RZ k x (it2 p n) := by
  intro n
  induction n with
  | zero => rfl
  | succ n ih =>
    rw [it2_s, it2_s, ih]
    have e3 : u2 (it2 p n).2 k 0 x n 3 = (it2 p n).2 n 3 := u2_nw (by decide)
    have ed : drF (u2 (it2 p n).2 k 0 x) n = drF (it2 p n).2 n := by
      unfold drF
      rw [e3, u2_nw (show (1 : Nat) ≠ 0 by decide)]
    show (upd (it2 p n).1 2 ((it2 p n).1 2 + drF (u2 (it2 p n).2 k 0 x) n), u2 (u2 (it2 p n).2 k 0 x) n 3 (u2 (it2 p n).2 k 0 x n 3 - drF (u2 (it2 p n).2 k 0 x) n)) = _
    rw [ed, e3]
    unfold RZ
    rw [u2_cc (show (0 : Nat) ≠ 3 by decide)]
theorem spr_u0 {p : HC} {k : Nat} {x : Int32} : springP (RZ k x p) = RZ k x (springP p) := by
  unfold springP RZ
  simp only
  rw [u2_nw (show (3 : Nat) ≠ 0 by decide), u2_cc (show (0 : Nat) ≠ 3 by decide)]
theorem tick_u0 {p : HC} {k : Nat} {x : Int32} (hx : p.2 k 0 ≤ x) (h0 : tg p k 0 = 0) : tickP (RZ k x p) = RZ k x (tickP p) ∧ tg (RZ k x p) k 0 = 0 := by
  have hk : tpF (it1 (hourP p) (springP p) k).2 k (hourP p) = 0 := h0
  have hs : (springP p).2 k 0 ≤ x := by rw [springP_w _ _ _ (by decide)]; exact hx
  have g := it1_u0 hs hk
  constructor
  · have e1 : tick2 (RZ k x p) = RZ k x (tick2 p) := by
      rw [tick2_d, tick1_d, tick2_d, tick1_d, spr_u0, show hourP (RZ k x p) = hourP p from rfl, g 8, it2_u0 8]
    unfold tickP
    rw [e1]
    rfl
  · show tpF (it1 (hourP (RZ k x p)) (springP (RZ k x p)) k).2 k (hourP (RZ k x p)) = 0
    rw [spr_u0, show hourP (RZ k x p) = hourP p from rfl, g]
    exact tp_k0 (by rw [it1_w _ _ _ _ _ (by decide) (by decide) (by decide)]; exact hs) hk
theorem tkN_00 (p : HC) (n k : Nat) : (tkN p n).2 k 0 = p.2 k 0 := by
  induction n with
  | zero => rfl
  | succ n ih => rw [tkN_s, tickP_w _ _ _ (by decide) (by decide) (by decide), ih]
theorem tkN_u0 {p : HC} {k : Nat} {x : Int32} (hx : p.2 k 0 ≤ x) : ∀ n, (∀ i, i < n → tg p k i = 0) → tkN (RZ k x p) n = RZ k x (tkN p n) := by
  intro n
  induction n with
  | zero => intro _; rfl
  | succ n ih =>
    intro h
    rw [tkN_s, tkN_s, ih (fun i hi => h i (by omega))]
    exact (tick_u0 (by rw [tkN_00]; exact hx) (h n (by omega))).1
theorem tkN_04 (p : HC) (n k : Nat) : (tkN p n).2 k 4 = p.2 k 4 := by
  induction n with
  | zero => rfl
  | succ n ih => rw [tkN_s, tickP_w _ _ _ (by decide) (by decide) (by decide), ih]
theorem it1_uk {hour : Int32} {p : HC} {k : Nat} {x : Int32} (hx : p.2 k 0 ≤ x) : ∀ n, n ≤ k → it1 hour (RZ k x p) n = RZ k x (it1 hour p n) := by
  intro n
  induction n with
  | zero => intro _; rfl
  | succ n ih =>
    intro hn
    rw [it1_s, it1_s, ih (by omega)]
    have g := tok_u0 (h := (it1 hour p n).1) (c := (it1 hour p n).2) (k := k) (n := n) (x := x) (hour := hour) (by rw [it1_w _ _ _ _ _ (by decide) (by decide) (by decide)]; exact hx) (fun e => absurd e (by omega))
    show (tokH (it1 hour p n).1 (u2 (it1 hour p n).2 k 0 x) n hour, tokC (u2 (it1 hour p n).2 k 0 x) n hour) = _
    rw [g.1, g.2]
    rfl
/-- the water that a cup could spill in the next tick -/
noncomputable def ryF (p : HC) (k : Nat) : Int32 := if opF (it1 (hourP p) (springP p) k).2 k (hourP p) = 0 then 0 else (it1 (hourP p) (springP p) k).2 k 3
theorem rd_ry {p : HC} (h : CI p) {k : Nat} (hk : k < 8) : rqF p k = ryF p k := by
  unfold rqF ryF rqR
  rw [hour_eq h, kit1_eq h k (by omega)]
  show (if OV (hourP p) (it1 (hourP p) (springP p) k).2 k 5 = 0 then 0 else OV (hourP p) (it1 (hourP p) (springP p) k).2 k 3) = _
  rw [OV_w (show (3 : Nat) ≠ 5 by decide)]
  have hw : ∀ w, w < 8 → w ≠ 3 → w ≠ 7 → (it1 (hourP p) (springP p) k).2 k w = p.2 k w := fun w h1 h2 h3 => (it1_w _ _ _ _ _ h1 h2 h3).trans (springP_w _ _ _ h2)
  have g := h.2 k hk
  have q := op_OV (hour := hourP p) (c := (it1 (hourP p) (springP p) k).2) hk (by rw [hw 5 (by decide) (by decide) (by decide)]; exact g.2.2.1) (by rw [hw 6 (by decide) (by decide) (by decide)]; exact g.2.2.2.1)
    (by rw [hw 6 (by decide) (by decide) (by decide), hw 5 (by decide) (by decide) (by decide)]; exact g.2.2.2.2)
  by_cases e : OV (hourP p) (it1 (hourP p) (springP p) k).2 k 5 = 0
  · rw [if_pos e, if_pos (q.mp e)]
  · rw [if_neg e, if_neg (fun z => e (q.mpr z))]
theorem tg_ry {p : HC} {k : Nat} (h0 : 0 < p.2 k 0) : tg p k 0 = 0 ↔ ryF p k < p.2 k 0 := by
  have e0 : (it1 (hourP p) (springP p) k).2 k 0 = p.2 k 0 := (it1_w _ _ _ _ _ (by decide) (by decide) (by decide)).trans (springP_w _ _ _ (by decide))
  show tpF (it1 (hourP p) (springP p) k).2 k (hourP p) = 0 ↔ _
  unfold tpF fullF ryF
  rw [e0]
  by_cases e : opF (it1 (hourP p) (springP p) k).2 k (hourP p) = 0
  · rw [if_pos e, if_pos e]
    refine ⟨fun _ => h0, fun _ => ?_⟩
    split <;> rfl
  · rw [if_neg e, if_neg e]
    by_cases f : (it1 (hourP p) (springP p) k).2 k 3 < p.2 k 0
    · rw [if_pos f, if_pos rfl]
      exact ⟨fun _ => f, fun _ => rfl⟩
    · rw [if_neg f, if_neg i10]
      exact ⟨fun z => absurd z i10, fun z => absurd z f⟩
theorem ry_u0 {p : HC} {k : Nat} {x : Int32} (hx : p.2 k 0 ≤ x) : ryF (RZ k x p) k = ryF p k := by
  have hs : (springP p).2 k 0 ≤ x := by rw [springP_w _ _ _ (by decide)]; exact hx
  unfold ryF
  rw [spr_u0, show hourP (RZ k x p) = hourP p from rfl, it1_uk hs k (Nat.le_refl _)]
  show (if opF (u2 (it1 (hourP p) (springP p) k).2 k 0 x) k (hourP p) = 0 then 0 else u2 (it1 (hourP p) (springP p) k).2 k 0 x k 3) = _
  rw [op_u0, u2_nw (by decide)]
theorem sz_bz {p : HC} {k s : Nat} (h1 : 1 ≤ s) : RZ k 100 (szP p k s) = bz p k ∧ (szP p k s).2 k 0 = nI s := by
  obtain ⟨s, rfl⟩ : ∃ j, s = j + 1 := ⟨s - 1, by omega⟩
  rw [szP_s]
  refine ⟨?_, u2_s⟩
  show (p.1, u2 (u2 p.2 k 0 (nI (s + 1))) k 0 100) = _
  rw [u2_u2]
  rfl
section BST
variable {p : HC} {k s : Nat}
theorem sz_go (h1 : 1 ≤ s) (h9 : s ≤ 99) : ∀ n, (∀ i, i < n → ryF (tkN (bz p k) i) k < nI s) → (∀ i, i < n → tg (szP p k s) k i = 0) ∧ tkN (bz p k) n = RZ k 100 (tkN (szP p k s) n) := by
  obtain ⟨eB, e0⟩ := sz_bz (p := p) (k := k) h1
  have hx : ∀ n, (tkN (szP p k s) n).2 k 0 ≤ 100 := fun n => by rw [tkN_00, e0]; exact nI_le (b := 100) (by omega) (by decide)
  have hp : 0 < nI s := by rw [show (0 : Int32) = nI 0 from rfl, nI_ltI (by decide) (by omega)]; omega
  intro n
  induction n with
  | zero => intro _; exact ⟨fun i hi => absurd hi (Nat.not_lt_zero _), eB.symm⟩
  | succ n ih =>
    intro h
    obtain ⟨hz, e⟩ := ih (fun i hi => h i (by omega))
    have hn : tg (szP p k s) k n = 0 := by
      have g := tg_ry (p := tkN (szP p k s) n) (k := k) (by rw [tkN_00, e0]; exact hp)
      refine g.mpr ?_
      rw [← ry_u0 (hx n), ← e, tkN_00, e0]
      exact h n (by omega)
    have hz1 : ∀ i, i < n + 1 → tg (szP p k s) k i = 0 := fun i hi => by
      rcases Nat.lt_or_ge i n with z | z
      · exact hz i z
      · obtain rfl : i = n := by omega
        exact hn
    refine ⟨hz1, ?_⟩
    have g := tkN_u0 (p := szP p k s) (k := k) (x := 100) (hx 0) (n + 1) hz1
    rw [eB] at g
    exact g
theorem ut_at {q : HC} {j : Nat} (hj : j < 500) (hz : ∀ i, i < j → tg q k i = 0) (h : ¬ tg q k j = 0) : utF q k 500 0 = nI (j + 1) := by
  rw [(ut_skip j 500 (by omega) hz).1, show 500 - j = (499 - j) + 1 by omega, utF, if_neg h]
theorem hot_at (h1 : 1 ≤ s) (h9 : s ≤ 99) {j : Nat} (hj : j < 500) (hz : ∀ i, i < j → ryF (tkN (bz p k) i) k < nI s) (h : nI s ≤ ryF (tkN (bz p k) j) k) : hotF (szP p k s) k = hourP (tkN (bz p k) j) := by
  obtain ⟨eB, e0⟩ := sz_bz (p := p) (k := k) h1
  obtain ⟨z, e⟩ := sz_go h1 h9 j hz
  have hx : (tkN (szP p k s) j).2 k 0 ≤ 100 := by rw [tkN_00, e0]; exact nI_le (b := 100) (by omega) (by decide)
  have hp : 0 < nI s := by rw [show (0 : Int32) = nI 0 from rfl, nI_ltI (by decide) (by omega)]; omega
  have g := tg_ry (p := tkN (szP p k s) j) (k := k) (by rw [tkN_00, e0]; exact hp)
  have hn : ¬ tg (szP p k s) k j = 0 := fun q => by
    have f := g.mp q
    rw [← ry_u0 hx, ← e, tkN_00, e0] at f
    exact Int32.lt_irrefl (Int32.lt_of_lt_of_le f h)
  have u := ut_at hj z hn
  unfold hotF
  rw [u, if_neg (nI_n5 (by omega)), szP_1, ← nI_1, ← Int32.add_assoc, Int32.add_sub_cancel]
  show _ = hrF (tkN (bz p k) j).1 ((tkN (bz p k) j).1 0)
  unfold hrF
  rw [tkN7, tkN0]
  rfl
theorem hot_no (h1 : 1 ≤ s) (h9 : s ≤ 99) (hz : ∀ i, i < 500 → ryF (tkN (bz p k) i) k < nI s) : hotF (szP p k s) k = -5 := by
  obtain ⟨z, -⟩ := sz_go h1 h9 500 hz
  unfold hotF
  rcases ut_cases (szP p k s) k 500 0 with ⟨g, -⟩ | ⟨j, g1, g2, g3, g4, g5⟩
  · rw [if_pos g]
  · exact absurd (z (j - 1) (by omega)) g5
/-- the most that the cup could spill so far -/
theorem kg_s (h : CI p) (hk : k < 8) (i : Nat) : kgF (bz p k) k (i + 1) = mxF (kgF (bz p k) k i) (ryF (tkN (bz p k) i) k) := by
  show mxF (kgF (bz p k) k i) (rqF (kN (bz p k) i) k) = _
  rw [kN_eq (h.bz k), rd_ry ((h.bz k).ticks i) hk]
theorem mx_l {a b : Int32} : a ≤ mxF a b := by
  unfold mxF
  split
  · rename_i q; exact Int32.le_of_lt q
  · exact Int32.le_refl _
theorem mx_r {a b : Int32} : b ≤ mxF a b := by
  unfold mxF
  split
  · exact Int32.le_refl _
  · rename_i q; exact Int32.not_lt.mp q
theorem kg_0 (h : CI p) (hk : k < 8) (i : Nat) : 0 ≤ kgF (bz p k) k i := by
  induction i with
  | zero => exact Int32.le_refl _
  | succ i ih => rw [kg_s h hk]; exact Int32.le_trans ih mx_l
theorem kg_le (h : CI p) (hk : k < 8) : ∀ i j, j < i → ryF (tkN (bz p k) j) k ≤ kgF (bz p k) k i := by
  intro i
  induction i with
  | zero => intro j hj; exact absurd hj (Nat.not_lt_zero _)
  | succ i ih =>
    intro j hj
    rw [kg_s h hk]
    rcases Nat.lt_or_ge j i with z | z
    · exact Int32.le_trans (ih j z) mx_l
    · obtain rfl : j = i := by omega
      exact mx_r
theorem bs_none {p : HC} {k : Nat} : ∀ r i, (∀ j, i ≤ j → j < i + r → ¬ hotF (szP p k (j + 1)) k = p.2 k 4) → bsF p k r i = -5 := by
  intro r
  induction r with
  | zero => intro i _; rfl
  | succ r ih =>
    intro i h
    rw [bsF, if_neg (h i (by omega) (by omega))]
    exact ih (i + 1) (fun j h1 h2 => h j (by omega) (by omega))
theorem kv_eq (h : CI p) (hk : k < 8) (h5 : ¬ p.2 k 4 = -5) : ∀ r i, i + r = 500 → (∀ s, 1 ≤ s → s ≤ 99 → nI s ≤ kgF (bz p k) k i → ¬ hotF (szP p k s) k = p.2 k 4) → kvF (bz p k) k r i = bsF p k 99 0 := by
  intro r
  induction r with
  | zero =>
    intro i hi hI
    obtain rfl : i = 500 := by omega
    refine (bs_none 99 0 (fun j _ hj => ?_)).symm
    by_cases q : nI (j + 1) ≤ kgF (bz p k) k 500
    · exact hI (j + 1) (by omega) (by omega) q
    · rw [hot_no (by omega) (by omega) (fun i hi => Int32.lt_of_le_of_lt (kg_le h hk 500 i hi) (Int32.not_le.mp q))]
      exact fun z => h5 z.symm
  | succ r ih =>
    intro i hi hI
    have y : rqF (kN (bz p k) i) k = ryF (tkN (bz p k) i) k := by rw [kN_eq (h.bz k), rd_ry ((h.bz k).ticks i) hk]
    have hr : hoR (kN (bz p k) i).1 ((kN (bz p k) i).1 0) = hourP (tkN (bz p k) i) := by
      rw [kN_eq (h.bz k)]
      exact hour_eq ((h.bz k).ticks i)
    have h4 : (kN (bz p k) i).2 k 4 = p.2 k 4 := by
      rw [kN_eq (h.bz k), tkN_04]
      show u2 p.2 k 0 100 k 4 = _
      exact u2_nw (by decide)
    rw [kvF, hr, h4, y]
    by_cases c1 : 99 ≤ kgF (bz p k) k i
    · rw [if_pos c1]
      refine (bs_none 99 0 (fun j _ hj => hI (j + 1) (by omega) (by omega) ?_)).symm
      exact Int32.le_trans (nI_le (b := 99) (by omega) (by decide)) c1
    · rw [if_neg c1]
      have hlt : ∀ s, kgF (bz p k) k i < nI s → ∀ j, j < i → ryF (tkN (bz p k) j) k < nI s := fun s q j hj => Int32.lt_of_le_of_lt (kg_le h hk i j hj) q
      by_cases c2 : hourP (tkN (bz p k) i) = p.2 k 4
      · rw [if_pos c2]
        by_cases c3 : ryF (tkN (bz p k) i) k ≤ kgF (bz p k) k i
        · rw [if_pos c3]
          refine ih (i + 1) (by omega) (fun s s1 s2 q => hI s s1 s2 ?_)
          rw [kg_s h hk] at q
          unfold mxF at q
          rw [if_neg (Int32.not_lt.mpr c3)] at q
          exact q
        · rw [if_neg c3]
          obtain ⟨m, hm, em⟩ := nI_of (Int32.not_lt.mpr (kg_0 h hk i))
          have h99 : m < 99 := by
            rw [em] at c1
            rcases Nat.lt_or_ge m 99 with z | z
            · exact z
            · exact absurd (nI_le (a := 99) z hm) c1
          have hgo : hotF (szP p k (m + 1)) k = p.2 k 4 := by
            rw [hot_at (j := i) (by omega) (by omega) (by omega) (hlt (m + 1) (by rw [em]; exact (nI_ltI hm (by omega)).mpr (by omega))) ?_, c2]
            have c3' := Int32.not_le.mp c3
            obtain ⟨w, hw, ew⟩ := nI_of (x := ryF (tkN (bz p k) i) k) (Int32.not_lt.mpr (Int32.le_trans (kg_0 h hk i) (Int32.le_of_lt c3')))
            rw [em, ew, nI_ltI hm hw] at c3'
            rw [ew]
            exact nI_le (by omega) hw
          have hno : ∀ j, j < m → ¬ hotF (szP p k (j + 1)) k = p.2 k 4 := fun j hj => hI (j + 1) (by omega) (by omega) (by rw [em]; exact nI_le (by omega) hm)
          rw [(bs_skip m 99 (by omega) hno).1, show 99 - m = (98 - m) + 1 by omega, bsF, if_pos hgo, em, nI_1]
      · rw [if_neg c2]
        refine ih (i + 1) (by omega) (fun s s1 s2 q => ?_)
        by_cases c4 : nI s ≤ kgF (bz p k) k i
        · exact hI s s1 s2 c4
        · have c4' := Int32.not_le.mp c4
          rw [kg_s h hk] at q
          unfold mxF at q
          by_cases c5 : kgF (bz p k) k i < ryF (tkN (bz p k) i) k
          · rw [if_pos c5] at q
            rw [hot_at s1 s2 (j := i) (by omega) (hlt s c4') q]
            exact c2
          · rw [if_neg c5] at q
            exact absurd q c4
end BST
theorem be_eq {p : HC} (h : CI p) (h5 : ∀ k, k < 8 → ¬ p.2 k 4 = -5) (cup : Int32) : kbeR p cup = bestF p cup := by
  unfold kbeR bestF
  by_cases hc : inF cup 0 7 = 0
  · rw [if_pos hc, if_pos hc]
  · rw [if_neg hc, if_neg hc]
    obtain ⟨k, hk, rfl⟩ := isCup_pos hc
    rw [nn_nI (by omega)]
    split
    · rfl
    · rw [kvX_d]
      refine kv_eq h hk (h5 k hk) 500 0 (by omega) (fun s s1 s2 q => ?_)
      exfalso
      have q' : nI s ≤ nI 0 := q
      rw [nI_leI (by omega) (by decide)] at q'
      omega
