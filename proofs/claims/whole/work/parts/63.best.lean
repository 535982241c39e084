/-! ===== the best size: a larger cup tips no earlier ===== -/
theorem nI_div {a b : Nat} (ha : a < 2 ^ 31) (hb : b < 2 ^ 31) (h0 : 0 < b) : nI a / nI b = nI (a / b) := by
  have hn : nI b ≠ -1 := fun e => by
    have h := nI_pos hb
    rw [e] at h
    exact h (by decide)
  refine Int32.toInt_inj.mp ?_
  rw [Int32.toInt_div_of_ne_right _ _ hn, nI_toInt ha, nI_toInt hb, nI_toInt (Nat.lt_of_le_of_lt (Nat.div_le_self a b) ha)]
  exact (Int.ofNat_tdiv a b).symm
theorem nI_subI {a b : Nat} (h : b ≤ a) : nI a - nI b = nI (a - b) := by
  have e : nI a = nI (a - b) + nI b := by rw [nI_add]; congr 1; omega
  rw [e, Int32.add_sub_cancel]
theorem hr_nI {h : Nat → Int32} {d a : Nat} (hd : h 7 = nI d) (hd0 : 0 < d) (hd2 : d < 2 ^ 31) (ha : a < 2 ^ 31) : hrF h (nI a) = nI (a % d) := by
  unfold hrF
  rw [hd, nI_div ha hd2 hd0, pk_mul, nI_subI (Nat.div_mul_le_self a d)]
  congr 1
  have := Nat.div_add_mod a d
  have e : a / d * d = d * (a / d) := Nat.mul_comm _ _
  omega
theorem pos_nI {x : Int32} (h : 0 < x) : ∃ d : Nat, 0 < d ∧ d < 2 ^ 31 ∧ x = nI d := by
  have h0 : ¬ x < 0 := fun q => Int32.lt_irrefl (Int32.lt_trans h q)
  obtain ⟨d, hd, rfl⟩ := nI_of h0
  refine ⟨d, ?_, hd, rfl⟩
  rcases Nat.eq_zero_or_pos d with e | e
  · subst e; exact absurd h (by decide)
  · exact e
theorem hot_5 {p : HC} (h : CI p) (ht : TI 99999 p) {k : Nat} : hotF p k = -5 ↔ utF p k 500 0 = -5 := by
  unfold hotF
  obtain ⟨t, ht0, htM, -⟩ := ht
  obtain ⟨d, hd0, hd, e7⟩ := pos_nI h.1
  rcases ut_cases p k 500 0 with ⟨g, -⟩ | ⟨j, g1, g2, g3, -⟩
  · rw [if_pos g]; exact ⟨fun _ => g, fun _ => rfl⟩
  · rw [g3, if_neg (nI_n5 (by omega))]
    obtain ⟨j0, rfl⟩ : ∃ j0, j = j0 + 1 := ⟨j - 1, by omega⟩
    rw [ht0, nI_add, ← Nat.add_assoc, nI_pred, hr_nI e7 hd0 hd (by omega)]
    exact ⟨fun z => absurd z (nI_n5 (Nat.lt_of_le_of_lt (Nat.mod_le _ _) (by omega))), fun z => absurd z (nI_n5 (by omega))⟩
/-- another size -/
def RZ (k : Nat) (x : Int32) (p : HC) : HC := (p.1, u2 p.2 k 0 x)
theorem tipC_u0 {c : Nat → Nat → Int32} {k t : Nat} {hour x : Int32} : tipC (u2 c t 0 x) k hour = u2 (tipC c k hour) t 0 x := by
  have hw := whenF_c hour (c k 4)
  unfold tipC
  rw [u2_nw (show (4 : Nat) ≠ 0 by decide), u2_nw (show (8 : Nat) ≠ 0 by decide)]
  split
  · exact u2_cc (by decide)
  · have e : u2 (u2 c t 0 x) k 8 (c k 8 + 1) = u2 (u2 c k 8 (c k 8 + 1)) t 0 x := u2_cc (by decide)
    rw [e, u2_nw (show whenF hour (c k 4) ≠ 0 by omega)]
    exact u2_cc (by omega)
theorem pourC_u0 {c : Nat → Nat → Int32} {k t : Nat} {x y : Int32} : pourC (u2 c k 0 x) t y = u2 (pourC c t y) k 0 x := by
  unfold pourC
  split
  · rfl
  · rw [u2_nw (show (3 : Nat) ≠ 0 by decide)]; exact u2_cc (by decide)
theorem op_u0 {c : Nat → Nat → Int32} {k n : Nat} {x hour : Int32} : opF (u2 c k 0 x) n hour = opF c n hour := by
  unfold opF
  rw [u2_nw (show (6 : Nat) ≠ 0 by decide), u2_nw (show (5 : Nat) ≠ 0 by decide), u2_nw (show (4 : Nat) ≠ 0 by decide)]
theorem tp_u0 {c : Nat → Nat → Int32} {k n : Nat} {x hour : Int32} (h : n ≠ k) : tpF (u2 c k 0 x) n hour = tpF c n hour := by
  unfold tpF fullF
  rw [op_u0, u2_nw (show (3 : Nat) ≠ 0 by decide), u2_nk h]
theorem tp_k0 {c : Nat → Nat → Int32} {k : Nat} {x hour : Int32} (hx : c k 0 ≤ x) (h : tpF c k hour = 0) : tpF (u2 c k 0 x) k hour = 0 := by
  unfold tpF fullF at h ⊢
  rw [op_u0, u2_nw (show (3 : Nat) ≠ 0 by decide), u2_s]
  by_cases a : c k 3 < x
  · rw [if_pos a, if_pos rfl]
  · rw [if_neg a, if_neg i10]
    have b : ¬ c k 3 < c k 0 := fun z => a (Int32.lt_of_lt_of_le z hx)
    rw [if_neg b, if_neg i10] at h
    exact h
theorem tok_u0 {h : Nat → Int32} {c : Nat → Nat → Int32} {k n : Nat} {x hour : Int32} (hx : c k 0 ≤ x) (hk : n = k → tpF c k hour = 0) : tokH h (u2 c k 0 x) n hour = tokH h c n hour ∧ tokC (u2 c k 0 x) n hour = u2 (tokC c n hour) k 0 x := by
  have e3 : ∀ m, u2 c k 0 x m 3 = c m 3 := fun m => u2_nw (by decide)
  have e2 : ∀ m, u2 c k 0 x m 2 = c m 2 := fun m => u2_nw (by decide)
  have keep : (if c n 3 ≤ 9999 then u2 (u2 c k 0 x) n 7 0 else u2 (u2 (u2 c k 0 x) n 7 0) n 3 9999) = u2 (if c n 3 ≤ 9999 then u2 c n 7 0 else u2 (u2 c n 7 0) n 3 9999) k 0 x := by
    have a : u2 (u2 c k 0 x) n 7 0 = u2 (u2 c n 7 0) k 0 x := u2_cc (by decide)
    split
    · exact a
    · rw [a]; exact u2_cc (by decide)
  by_cases e : n = k
  · subst e
    have t0 := hk rfl
    have t1 := tp_k0 hx t0
    unfold tokH tokC
    rw [if_pos t0, if_pos t0, if_pos t1, if_pos t1, e3]
    exact ⟨rfl, keep⟩
  · have tt : tpF (u2 c k 0 x) n hour = tpF c n hour := tp_u0 e
    unfold tokH tokC
    rw [tt, e3, e2]
    by_cases t0 : tpF c n hour = 0
    · rw [if_pos t0, if_pos t0, if_pos t0]
      exact ⟨rfl, keep⟩
    · rw [if_neg t0, if_neg t0, if_neg t0]
      refine ⟨rfl, ?_⟩
      have ej : jetF (u2 c k 0 x) n = jetF c n := by
        unfold jetF
        rw [e3, u2_nk e]
      have a : u2 (u2 (u2 c k 0 x) n 7 (jetF c n)) n 3 0 = u2 (u2 (u2 c n 7 (jetF c n)) n 3 0) k 0 x := by
        rw [show u2 (u2 c k 0 x) n 7 (jetF c n) = u2 (u2 c n 7 (jetF c n)) k 0 x from u2_cc (by decide)]
        exact u2_cc (by decide)
      rw [ej, a, pourC_u0, tipC_u0]
theorem it1_u0 {hour : Int32} {p : HC} {k : Nat} {x : Int32} (hx : p.2 k 0 ≤ x) (hk : tpF (it1 hour p k).2 k hour = 0) : ∀ n, it1 hour (RZ k x p) n = RZ k x (it1 hour p n) := by
  intro n
  induction n with
  | zero => rfl
  | succ n ih =>
    rw [it1_s, it1_s, ih]
    have g := tok_u0 (h := (it1 hour p n).1) (c := (it1 hour p n).2) (k := k) (n := n) (x := x) (hour := hour) (by rw [it1_w _ _ _ _ _ (by decide) (by decide) (by decide)]; exact hx) (fun e => by subst e; exact hk)
    show (tokH (it1 hour p n).1 (u2 (it1 hour p n).2 k 0 x) n hour, tokC (u2 (it1 hour p n).2 k 0 x) n hour) = _
    rw [g.1, g.2]
    rfl
theorem it2_u0 {p : HC} {k : Nat} {x : Int32} : ∀ n, it2 (RZ k x p) n = RZ k x (it2 p n) := by
  intro n
  induction n with
  | zero => rfl
  | succ n ih =>
    rw [it2_s, it2_s, ih]
    have e3 : u2 (it2 p n).2 k 0 x n 3 = (it2 p n).2 n 3 := u2_nw (by decide)
    have ed : drF (u2 (it2 p n).2 k 0 x) n = drF (it2 p n).2 n := by
      unfold drF
      rw [e3, u2_nw (show (1 : Nat) ≠ 0 by decide)]
    show (upd (it2 p n).1 2 ((it2 p n).1 2 + drF (u2 (it2 p n).2 k 0 x) n), u2 (u2 (it2 p n).2 k 0 x) n 3 (u2 (it2 p n).2 k 0 x n 3 - drF (u2 (it2 p n).2 k 0 x) n)) = _
    rw [ed, e3]
    unfold RZ
    rw [u2_cc (show (0 : Nat) ≠ 3 by decide)]
theorem spr_u0 {p : HC} {k : Nat} {x : Int32} : springP (RZ k x p) = RZ k x (springP p) := by
  unfold springP RZ
  simp only
  rw [u2_nw (show (3 : Nat) ≠ 0 by decide), u2_cc (show (0 : Nat) ≠ 3 by decide)]
theorem tick_u0 {p : HC} {k : Nat} {x : Int32} (hx : p.2 k 0 ≤ x) (h0 : tg p k 0 = 0) : tickP (RZ k x p) = RZ k x (tickP p) ∧ tg (RZ k x p) k 0 = 0 := by
  have hk : tpF (it1 (hourP p) (springP p) k).2 k (hourP p) = 0 := h0
  have hs : (springP p).2 k 0 ≤ x := by rw [springP_w _ _ _ (by decide)]; exact hx
  have g := it1_u0 hs hk
  constructor
  · have e1 : tick2 (RZ k x p) = RZ k x (tick2 p) := by
      rw [tick2_d, tick1_d, tick2_d, tick1_d, spr_u0, show hourP (RZ k x p) = hourP p from rfl, g 8, it2_u0 8]
    unfold tickP
    rw [e1]
    rfl
  · show tpF (it1 (hourP (RZ k x p)) (springP (RZ k x p)) k).2 k (hourP (RZ k x p)) = 0
    rw [spr_u0, show hourP (RZ k x p) = hourP p from rfl, g]
    exact tp_k0 (by rw [it1_w _ _ _ _ _ (by decide) (by decide) (by decide)]; exact hs) hk
theorem tkN_00 (p : HC) (n k : Nat) : (tkN p n).2 k 0 = p.2 k 0 := by
  induction n with
  | zero => rfl
  | succ n ih => rw [tkN_s, tickP_w _ _ _ (by decide) (by decide) (by decide), ih]
theorem tkN_u0 {p : HC} {k : Nat} {x : Int32} (hx : p.2 k 0 ≤ x) : ∀ n, (∀ i, i < n → tg p k i = 0) → tkN (RZ k x p) n = RZ k x (tkN p n) := by
  intro n
  induction n with
  | zero => intro _; rfl
  | succ n ih =>
    intro h
    rw [tkN_s, tkN_s, ih (fun i hi => h i (by omega))]
    exact (tick_u0 (by rw [tkN_00]; exact hx) (h n (by omega))).1
theorem ut_u0 {p : HC} {k : Nat} {x : Int32} (hx : p.2 k 0 ≤ x) (h : utF p k 500 0 = -5) : utF (RZ k x p) k 500 0 = -5 := by
  have hz : ∀ j, j < 500 → tg p k j = 0 := by
    rcases ut_cases p k 500 0 with ⟨-, g⟩ | ⟨j, g1, g2, g3, -⟩
    · exact fun j hj => g j (by omega) (by omega)
    · rw [g3] at h; exact absurd h (nI_n5 (by omega))
  have hz2 : ∀ j, j < 500 → tg (RZ k x p) k j = 0 := by
    intro j hj
    have e := tkN_u0 hx j (fun i hi => hz i (by omega))
    have g := tick_u0 (p := tkN p j) (k := k) (x := x) (by rw [tkN_00]; exact hx) (hz j hj)
    rw [← e] at g
    exact g.2
  rcases ut_cases (RZ k x p) k 500 0 with ⟨g, -⟩ | ⟨j, g1, g2, g3, g4, g5⟩
  · exact g
  · exact absurd (hz2 (j - 1) (by omega)) g5
theorem kz_sz {p : HC} {k i : Nat} (hk : k < 8) (hi : 1 ≤ i) (hi2 : i ≤ 99) : kzP p (nI k) i = szP p k i := by
  obtain ⟨i, rfl⟩ : ∃ j, i = j + 1 := ⟨i - 1, by omega⟩
  rw [szP_s]
  unfold kzP setC
  have h1 : ¬ inF (nI k) 0 7 = 0 := by
    rcases k8_cases hk with rfl | rfl | rfl | rfl | rfl | rfl | rfl | rfl <;> decide
  have h2 : ¬ isValF (nI k) 0 (nI (i + 1)) = 0 := by
    show ¬ inF (nI (i + 1)) 1 99 = 0
    unfold inF
    rw [if_neg (show ¬ nI (i + 1) < 1 from nI_nlt (b := 1) (by omega) (by omega)), if_neg (show ¬ (99 : Int32) < nI (i + 1) from nI_nlt (a := 99) (by omega) (by decide))]
    decide
  rw [if_neg h1, if_neg h2, nn_nI (by omega)]
  rfl
theorem TI.sz {M : Nat} {p : HC} (h : TI M p) (k i : Nat) : TI M (szP p k i) := by
  obtain ⟨t, ht, hM, hk⟩ := h
  refine ⟨t, by rw [szP_1]; exact ht, hM, fun k2 hk2 => ?_⟩
  obtain ⟨u, hu, e⟩ := hk k2 hk2
  exact ⟨u, hu, by rw [szP_4 _ _ _ _ _ (by decide)]; exact e⟩
theorem bs_none {p : HC} {k : Nat} : ∀ r i, (∀ j, i ≤ j → j < i + r → ¬ hotF (szP p k (j + 1)) k = p.2 k 4) → bsF p k r i = -5 := by
  intro r
  induction r with
  | zero => intro i _; rfl
  | succ r ih =>
    intro i h
    rw [bsF, if_neg (h i (by omega) (by omega))]
    exact ih (i + 1) (fun j h1 h2 => h j (by omega) (by omega))
theorem kb_eq {p : HC} (h : CI p) (ht : TI 99999 p) {k : Nat} (hk : k < 8) (h5 : ¬ p.2 k 4 = -5) : ∀ r i, i + r = 99 → kbF p (nI k) r (i + 1) = bsF p k r i := by
  have hot : ∀ i, 1 ≤ i → i ≤ 99 → CI (szP p k i) ∧ khoR (kzP p (nI k) i) (nI k) = hotF (szP p k i) k := by
    intro i h1 h2
    have e := kz_sz (p := p) hk h1 h2
    have c1 : CI (szP p k i) := by rw [← e]; exact h.kz _ _
    refine ⟨c1, ?_⟩
    rw [e, ho_eq c1 (ht.sz k i)]
    unfold tipsAtF
    have hc : ¬ inF (nI k) 0 7 = 0 := by
      rcases k8_cases hk with rfl | rfl | rfl | rfl | rfl | rfl | rfl | rfl <;> decide
    rw [if_neg hc, nn_nI (by omega)]
  intro r
  induction r with
  | zero => intro i _; rfl
  | succ r ih =>
    intro i hi
    obtain ⟨c1, e1⟩ := hot (i + 1) (by omega) (by omega)
    rw [kbF, bsF, e1, nn_nI (by omega)]
    by_cases a : hotF (szP p k (i + 1)) k = p.2 k 4
    · rw [if_pos a, if_pos a]
    · rw [if_neg a, if_neg a]
      by_cases b : hotF (szP p k (i + 1)) k = -5
      · rw [if_pos b]
        refine (bs_none r (i + 1) (fun j h1 h2 => ?_)).symm
        obtain ⟨c2, -⟩ := hot (j + 1) (by omega) (by omega)
        have u1 := (hot_5 c1 (ht.sz k (i + 1))).mp b
        have hx : (szP p k (i + 1)).2 k 0 ≤ nI (j + 1) := by
          rw [szP_s]
          show u2 p.2 k 0 (nI (i + 1)) k 0 ≤ _
          rw [u2_s]
          exact nI_le (by omega) (by omega)
        have u2' := ut_u0 hx u1
        have e2 : RZ k (nI (j + 1)) (szP p k (i + 1)) = szP p k (j + 1) := by
          rw [szP_s, szP_s]
          show (p.1, u2 (u2 p.2 k 0 (nI (i + 1))) k 0 (nI (j + 1))) = _
          rw [u2_u2]
        rw [e2] at u2'
        rw [(hot_5 c2 (ht.sz k (j + 1))).mpr u2']
        exact fun z => h5 z.symm
      · rw [if_neg b]
        exact ih (i + 1) (by omega)
theorem be_eq {p : HC} (h : CI p) (ht : TI 99999 p) (h5 : ∀ k, k < 8 → ¬ p.2 k 4 = -5) (cup : Int32) : kbeR p cup = bestF p cup := by
  unfold kbeR bestF
  by_cases hc : inF cup 0 7 = 0
  · rw [if_pos hc, if_pos hc]
  · rw [if_neg hc, if_neg hc]
    obtain ⟨k, hk, rfl⟩ := isCup_pos hc
    rw [nn_nI (by omega)]
    split
    · rfl
    · rw [kbX_d]
      exact kb_eq h ht hk (h5 k hk) 99 0 (by omega)
