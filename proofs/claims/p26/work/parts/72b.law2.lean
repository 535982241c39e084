/-! ===== pure: passing, waiting, the best size, a tick ===== -/
theorem pos9 {n : Nat} (h1 : 1 ≤ n) (h2 : n ≤ 99) : ¬ inF (nI n) 1 99 = 0 := by
  unfold inF
  rw [if_neg (show ¬ nI n < 1 from nI_nlt (b := 1) h1 (by omega)), if_neg (show ¬ (99 : Int32) < nI n from nI_nlt (a := 99) h2 (by decide))]
  decide
theorem pass_n {F : Nat} {p : HC} (h : PI F p) {t n : Nat} (ht : p.1 0 = nI t) (hn : t + n ≤ 99999) (h1 : 1 ≤ n) (h2 : n ≤ 99) : kN p (passN p (nI n)) = tkN p n ∧ kpassR p (nI n) = kS p n := by
  have c : p.1 0 + nI n ≤ 99999 := by rw [ht, nI_add]; exact nI_le (b := 99999) hn (by decide)
  unfold passN kpassR
  rw [if_neg (pos9 h1 h2), if_neg (pos9 h1 h2), if_pos c, if_pos c, nn_nI (by omega), kN_eq h.1.1]
  exact ⟨rfl, rfl⟩
/-- how many cups tip: a small number -/
theorem nT_nat (hour : Int32) (p : HC) : ∀ n, ∃ m : Nat, m ≤ n ∧ nT hour p n = nI m := by
  intro n
  induction n with
  | zero => exact ⟨0, Nat.le_refl _, rfl⟩
  | succ n ih =>
    obtain ⟨m, hm, e⟩ := ih
    have g : tpF (it1 hour p n).2 n hour = 0 ∨ tpF (it1 hour p n).2 n hour = 1 := by
      unfold tpF
      split
      · exact Or.inl rfl
      · split
        · exact Or.inl rfl
        · exact Or.inr rfl
    rcases g with q | q
    · exact ⟨m, by omega, by rw [nT, e, q, Int32.add_zero]⟩
    · exact ⟨m + 1, by omega, by rw [nT, e, q, nI_1]⟩
theorem kS_nat {p : HC} (h : CI p) : ∀ n, ∃ m : Nat, m ≤ 8 * n ∧ kS p n = nI m := by
  intro n
  induction n with
  | zero => exact ⟨0, Nat.le_refl _, rfl⟩
  | succ n ih =>
    obtain ⟨m, hm, e⟩ := ih
    obtain ⟨x, hx, ex⟩ := nT_nat (hourP (tkN p n)) (springP (tkN p n)) 8
    refine ⟨m + x, by omega, ?_⟩
    show kS p n + ktips (kN p n) = _
    rw [e, kN_eq h, ktips_eq (h.ticks n), ex, nI_add]
theorem kS_1 {p : HC} (h : CI p) : kS p 1 = nT (hourP p) (springP p) 8 := by
  show (0 : Int32) + ktips (kN p 0) = _
  rw [Int32.zero_add]
  exact ktips_eq h
/-- some cup tips -/
theorem nT_pos {hour : Int32} {p : HC} {k : Nat} (hq : ¬ tpF (it1 hour p k).2 k hour = 0) : ∀ n, k < n → n ≤ 8 → ∃ m : Nat, 1 ≤ m ∧ m ≤ n ∧ nT hour p n = nI m := by
  intro n
  induction n with
  | zero => intro h; exact absurd h (Nat.not_lt_zero _)
  | succ n ih =>
    intro hk h8
    have g : tpF (it1 hour p n).2 n hour = 0 ∨ tpF (it1 hour p n).2 n hour = 1 := by
      unfold tpF
      split
      · exact Or.inl rfl
      · split
        · exact Or.inl rfl
        · exact Or.inr rfl
    by_cases e : k = n
    · subst e
      obtain ⟨m, hm, em⟩ := nT_nat hour p k
      exact ⟨m + 1, by omega, by omega, by rw [nT, em, g.resolve_left hq, nI_1]⟩
    · obtain ⟨m, h1, h2, em⟩ := ih (by omega) (by omega)
      rcases g with q | q
      · exact ⟨m, h1, by omega, by rw [nT, em, q, Int32.add_zero]⟩
      · exact ⟨m + 1, by omega, by omega, by rw [nT, em, q, nI_1]⟩
/-- the first tip of a cup -/
theorem tg_fst (p : HC) (k : Nat) : ∀ n, (∀ i, i < n → tg p k i = 0) ∨ ∃ j, j < n ∧ (∀ i, i < j → tg p k i = 0) ∧ ¬ tg p k j = 0 := by
  intro n
  induction n with
  | zero => exact Or.inl (fun i hi => absurd hi (Nat.not_lt_zero _))
  | succ n ih =>
    rcases ih with a | ⟨j, j1, j2, j3⟩
    · by_cases e : tg p k n = 0
      · refine Or.inl (fun i hi => ?_)
        rcases Nat.lt_or_ge i n with z | z
        · exact a i z
        · obtain rfl : i = n := by omega
          exact e
      · exact Or.inr ⟨n, by omega, a, e⟩
    · exact Or.inr ⟨j, by omega, j2, j3⟩
theorem ut_first (p : HC) (k : Nat) : (utF p k 500 0 = -5 ∧ hotF p k = -5) ∨ ∃ j, j < 500 ∧ utF p k 500 0 = nI (j + 1) ∧ (∀ i, i < j → tg p k i = 0) ∧ ¬ tg p k j = 0 := by
  rcases tg_fst p k 500 with a | ⟨j, j1, j2, j3⟩
  · refine Or.inl ?_
    rcases ut_cases p k 500 0 with ⟨g, -⟩ | ⟨j, g1, g2, g3, g4, g5⟩
    · refine ⟨g, ?_⟩
      unfold hotF
      rw [if_pos g]
    · exact absurd (a (j - 1) (by omega)) g5
  · exact Or.inr ⟨j, j1, ut_at j1 j2 j3, j2, j3⟩
/-- the hour that is told -/
theorem hot_hr {p : HC} {k j : Nat} (h : utF p k 500 0 = nI (j + 1)) (hj : j < 500) : hotF p k = hourP (tkN p j) ∧ hotF p k = hrF p.1 (p.1 0 + nI (j + 1) - 1) := by
  have e : hotF p k = hrF p.1 (p.1 0 + nI (j + 1) - 1) := by
    unfold hotF
    rw [h, if_neg (nI_n5 (by omega))]
  refine ⟨?_, e⟩
  rw [e, ← nI_1, ← Int32.add_assoc, Int32.add_sub_cancel]
  unfold hourP hrF
  rw [tkN7, tkN0]
theorem tg_one {p : HC} {k i : Nat} (h : ¬ tg p k i = 0) : tg p k i = 1 := (tg_01 p k i).resolve_left h
theorem ut_one {q : HC} {k : Nat} (h : ¬ tg q k 0 = 0) : utF q k 500 0 = 1 := ut_at (by decide) (fun i hi => absurd hi (Nat.not_lt_zero _)) h
theorem ut_none {q : HC} {k : Nat} (h : tg q k 0 = 0) : ¬ utF q k 500 0 = 1 := by
  rcases ut_first q k with ⟨g, -⟩ | ⟨j, j1, j2, j3, j4⟩
  · rw [g]; decide
  · rw [j2]
    intro e
    have : j + 1 = 1 := nI_inj9 (b := 1) (by omega) (by decide) e
    obtain rfl : j = 0 := by omega
    exact j4 h
/-- waiting in steps of 99 -/
def mW (j i : Nat) : Nat := min (99 * i) j
theorem mW_s {j i : Nat} (h : 99 * i < j) : 1 ≤ mW j (i + 1) - mW j i ∧ mW j (i + 1) - mW j i ≤ 99 ∧ mW j i + (mW j (i + 1) - mW j i) = mW j (i + 1) ∧ mW j i < j ∧ mW j (i + 1) ≤ j ∧ (j - mW j i ≤ 99 → mW j (i + 1) - mW j i = j - mW j i) ∧ (¬ j - mW j i ≤ 99 → mW j (i + 1) - mW j i = 99) := by
  unfold mW
  omega
theorem low_nat (v : Int32) {n : Nat} (h1 : 1 ≤ n) (h2 : n < 2 ^ 31) : ∃ j : Nat, j < n ∧ lowF v (nI n) = nI j := by
  have h0 : ¬ (v &&& 2147483647) < 0 := by
    intro q
    have e : ((v &&& 2147483647) : Int32).toBitVec = v.toBitVec &&& 2147483647#32 := rfl
    have q2 := Int32.lt_iff_toInt_lt.mp q
    rw [show ((v &&& 2147483647) : Int32).toInt = ((v &&& 2147483647) : Int32).toBitVec.toInt from rfl, e, show (0 : Int32).toInt = 0 by decide, BitVec.toInt_eq_toNat_cond, BitVec.toNat_and] at q2
    have q3 : v.toBitVec.toNat &&& (2147483647#32).toNat ≤ 2147483647 := Nat.and_le_right
    split at q2 <;> omega
  obtain ⟨a, ha, ea⟩ := nI_of h0
  refine ⟨a % n, Nat.mod_lt _ (by omega), ?_⟩
  unfold lowF
  rw [ea, nI_div ha h2 (by omega), pk_mul, nI_subI (Nat.div_mul_le_self a n)]
  congr 1
  have := Nat.div_add_mod a n
  have e : a / n * n = n * (a / n) := Nat.mul_comm _ _
  omega
/-! the best size -/
theorem bs_cases (p : HC) (k : Nat) : ∀ r i, (bsF p k r i = -5 ∧ ∀ j, i ≤ j → j < i + r → ¬ hotF (szP p k (j + 1)) k = p.2 k 4) ∨ ∃ b, i ≤ b ∧ b < i + r ∧ bsF p k r i = nI (b + 1) ∧ hotF (szP p k (b + 1)) k = p.2 k 4 ∧ ∀ j, i ≤ j → j < b → ¬ hotF (szP p k (j + 1)) k = p.2 k 4 := by
  intro r
  induction r with
  | zero => intro i; exact Or.inl ⟨rfl, fun j h1 h2 => absurd h2 (by omega)⟩
  | succ r ih =>
    intro i
    by_cases e : hotF (szP p k (i + 1)) k = p.2 k 4
    · exact Or.inr ⟨i, by omega, by omega, by rw [bsF, if_pos e], e, fun j h1 h2 => absurd h2 (by omega)⟩
    · rcases ih (i + 1) with ⟨a, b⟩ | ⟨b, b1, b2, b3, b4, b5⟩
      · refine Or.inl ⟨by rw [bsF, if_neg e]; exact a, fun j h1 h2 => ?_⟩
        by_cases z : j = i
        · subst z; exact e
        · exact b j (by omega) (by omega)
      · refine Or.inr ⟨b, by omega, by omega, by rw [bsF, if_neg e]; exact b3, b4, fun j h1 h2 => ?_⟩
        by_cases z : j = i
        · subst z; exact e
        · exact b5 j (by omega) h2
theorem sz_setc {p : HC} {k i : Nat} (hk : k < 8) (hi : i < 99) : ((szP p k i).1, setC (szP p k i).2 (nI k) 0 (nI (i + 1))) = szP p k (i + 1) := by
  unfold setC
  have hv : ¬ isValF (nI k) 0 (nI (i + 1)) = 0 := by
    show ¬ inF (nI (i + 1)) 1 99 = 0
    exact pos9 (by omega) (by omega)
  rw [if_neg (isC8 hk), if_neg hv, nn_nI (by omega)]
  show ((szP p k i).1, u2 (szP p k i).2 k 0 (nI (i + 1))) = _
  rw [szP_1, szP_u, szP_s]
theorem PI.sz {F : Nat} {p : HC} (h : PI F p) {k : Nat} (hk : k < 8) : ∀ i, i ≤ 99 → PI F (szP p k i) := by
  intro i
  induction i with
  | zero => intro _; exact h
  | succ i ih =>
    intro hi
    rw [← sz_setc hk (by omega)]
    exact (ih (by omega)).setc hk (w := 0) (by decide) _
theorem hr5_eq {F : Nat} {p : HC} (h : PI F p) {k : Nat} (hk : k < 8) (h0 : 0 ≤ hr5 (p.2 k 4)) : hr5 (p.2 k 4) = p.2 k 4 ∧ ¬ p.2 k 4 = -1 := by
  unfold hr5 at h0 ⊢
  by_cases e : p.2 k 4 = -1
  · rw [if_pos e] at h0; exact absurd h0 (by decide)
  · rw [if_neg e]; exact ⟨rfl, e⟩
theorem hr5_neg {x : Int32} (h : ¬ 0 ≤ hr5 x) (h2 : x = -1 ∨ ∃ y : Nat, y ≤ 239 ∧ x = nI y) : x = -1 := by
  rcases h2 with q | ⟨y, hy, q⟩
  · exact q
  · rw [q, hr5_n hy] at h
    exact absurd (nI_0le (by omega)) h
theorem PI.hr {F : Nat} {p : HC} (h : PI F p) {k : Nat} (hk : k < 8) : p.2 k 4 = -1 ∨ ∃ y : Nat, y ≤ 239 ∧ p.2 k 4 = nI y := by
  obtain ⟨-, -, -, h4, -⟩ := h.2.2.1 k hk
  rcases h4 with q | q
  · exact Or.inl q.1
  · exact Or.inr q
theorem PI.best {F : Nat} {p : HC} (h : PI F p) {k : Nat} (hk : k < 8) : kbeR p (nI k) = if p.2 k 4 = -1 then -4 else bsF p k 99 0 := by
  rw [be_eq h.1.1 h.1.2.1]
  unfold bestF
  rw [if_neg (isC8 hk), nn_nI (by omega)]
/-! a tick, as the law tells it -/
/-- reasons -/
theorem tgz {F : Nat} {p : HC} (h : PI F p) {k : Nat} (hk : k < 8) : (kTick p).2 k 8 ≤ p.2 k 8 ↔ tg p k 0 = 0 := by
  obtain ⟨hc, -, t, -, htM, htk, -⟩ := h.1
  obtain ⟨u, hu, e8⟩ := htk k hk
  rw [kTick_eq hc, e8]
  exact tips_le h.1.ti (by decide) hk e8 (by omega)
theorem tg_open {p : HC} {k : Nat} (h : opF (it1 (hourP p) (springP p) k).2 k (hourP p) = 0) : tg p k 0 = 0 := by
  show tpF (it1 (hourP p) (springP p) k).2 k (hourP p) = 0
  unfold tpF
  rw [if_pos h]
  split <;> rfl
theorem op_at {p : HC} {k : Nat} : opF (it1 (hourP p) (springP p) k).2 k (hourP p) = opF p.2 k (hourP p) := by
  unfold opF
  have hw : ∀ w, w < 8 → w ≠ 3 → w ≠ 7 → (it1 (hourP p) (springP p) k).2 k w = p.2 k w := fun w h1 h2 h3 => (it1_w _ _ _ _ _ h1 h2 h3).trans (springP_w _ _ _ h2)
  rw [hw 6 (by decide) (by decide) (by decide), hw 5 (by decide) (by decide) (by decide), hw 4 (by decide) (by decide) (by decide)]
/-- guarded, and not its hour -/
def heldF (p : HC) (k : Nat) : Int32 := if p.2 k 6 = 1 then (if hr5 (p.2 k 4) = hourP p then 0 else 1) else 0
def shutF (p : HC) (k : Nat) : Int32 := if p.2 k 6 = 0 then (if p.2 k 5 = 0 then 1 else 0) else 0
theorem PI.why {F : Nat} {p : HC} (h : PI F p) {k : Nat} (hk : k < 8) : (if kreR p (nI k) = 1 then (1 : Int32) else 0) = heldF p k ∧ (if kreR p (nI k) = 2 then (1 : Int32) else 0) = shutF p k ∧ (kreR p (nI k) = 0 ↔ ¬ tg p k 0 = 0) := by
  obtain ⟨c0, c2, c5, c6, c65⟩ := h.1.1.2 k hk
  have e : kreR p (nI k) = if tg p k 0 = 0 then (if p.2 k 6 = 0 then (if p.2 k 5 = 0 then 2 else 3) else if p.2 k 4 = hourP p then 3 else 1) else 0 := by
    unfold kreR
    rw [if_neg (isC8 hk), nn_nI (by omega)]
    have hh : hoR p.1 (p.1 0) = hourP p := hour_eq h.1.1
    rw [hh]
    by_cases z : tg p k 0 = 0
    · rw [if_pos z, if_pos ((tgz h hk).mpr z)]
    · rw [if_neg z, if_neg (fun q => z ((tgz h hk).mp q))]
  have h5 : ∀ g : p.2 k 6 = 1, hr5 (p.2 k 4) = p.2 k 4 := by
    intro g
    obtain ⟨-, -, -, h4, -⟩ := h.2.2.1 k hk
    rcases h4 with ⟨-, q⟩ | ⟨y, hy, q⟩
    · rw [g] at q; exact absurd q (by decide)
    · rw [q]; exact hr5_n hy
  rw [e]
  unfold heldF shutF
  rcases c6 with g | g
  · rw [g, if_neg (show ¬ (0 : Int32) = 1 by decide), if_pos rfl, if_pos rfl]
    rcases c5 with o | o
    · rw [o, if_pos rfl, if_pos rfl]
      have z : tg p k 0 = 0 := tg_open (by rw [op_at]; unfold opF; rw [g, o]; simp)
      rw [if_pos z]
      exact ⟨by decide, by decide, fun q => absurd q (by decide), fun q => absurd z q⟩
    · rw [o, if_neg i10, if_neg i10]
      by_cases z : tg p k 0 = 0
      · rw [if_pos z]
        exact ⟨by decide, by decide, fun q => absurd q (by decide), fun q => absurd z q⟩
      · rw [if_neg z]
        exact ⟨by decide, by decide, fun _ => z, fun _ => rfl⟩
  · rw [g, if_pos rfl, if_neg i10, if_neg i10, h5 g]
    by_cases w : p.2 k 4 = hourP p
    · rw [if_pos w, if_pos w]
      by_cases z : tg p k 0 = 0
      · rw [if_pos z]
        exact ⟨by decide, by decide, fun q => absurd q (by decide), fun q => absurd z q⟩
      · rw [if_neg z]
        exact ⟨by decide, by decide, fun _ => z, fun _ => rfl⟩
    · rw [if_neg w, if_neg w]
      have z : tg p k 0 = 0 := tg_open (by rw [op_at]; unfold opF; rw [g, if_pos rfl, if_neg (fun q => w q.symm)])
      rw [if_pos z]
      exact ⟨by decide, by decide, fun q => absurd q (by decide), fun q => absurd z q⟩
theorem PI.tips1 {F : Nat} {p : HC} (h : PI F p) {k : Nat} (hk : k < 8) : ktiR p (nI k) = 1 ↔ ¬ tg p k 0 = 0 := by
  rw [ti_k h hk]
  exact ⟨fun e z => ut_none z e, fun z => ut_one z⟩
theorem PI.stage {F : Nat} {p : HC} (h : PI F p) (hF : F < 2 ^ 26) {k : Nat} (hk : k < 8) : ∃ v : Nat, v < 2 ^ 27 ∧ (it1 (hourP p) (springP p) k).2 k 3 = nI v := by
  obtain ⟨hc, -, t, -, htM, -, hw⟩ := h.1
  have w1 := (hw.spring (by omega)).its (by omega) (fun k hk => by rw [springP_w _ _ _ (by decide), springP_w _ _ _ (by decide)]; exact ⟨(hc.2 k hk).1, (hc.2 k hk).2.1⟩) (hourP p) k (by omega)
  obtain ⟨B, wv, -, wv3, wT, -⟩ := w1
  have wk := sum8_le (w := wv) hk
  exact ⟨wv k, by omega, wv3 k hk⟩
theorem tg_full {p : HC} {k : Nat} (h : ¬ tg p k 0 = 0) : ¬ (it1 (hourP p) (springP p) k).2 k 3 < p.2 k 0 ∧ ¬ opF p.2 k (hourP p) = 0 := by
  have h2 : ¬ tpF (it1 (hourP p) (springP p) k).2 k (hourP p) = 0 := h
  unfold tpF fullF at h2
  rw [op_at] at h2
  have e0 : (it1 (hourP p) (springP p) k).2 k 0 = p.2 k 0 := (it1_w _ _ _ _ _ (by decide) (by decide) (by decide)).trans (springP_w _ _ _ (by decide))
  rw [e0] at h2
  refine ⟨fun q => ?_, fun q => ?_⟩
  · rw [if_pos q, if_pos rfl] at h2; exact h2 rfl
  · rw [if_pos q] at h2
    split at h2 <;> exact h2 rfl
theorem PI.jet {F : Nat} {p : HC} (h : PI F p) (hF : F < 2 ^ 26) {k : Nat} (hk : k < 8) : (tg p k 0 = 0 → (tickP p).2 k 7 = 0) ∧ (¬ tg p k 0 = 0 → ¬ (tickP p).2 k 7 < 10) := by
  rw [tick7 p hk]
  refine ⟨fun z => by rw [if_pos z], fun z => ?_⟩
  rw [if_neg z]
  obtain ⟨⟨s, s1, s2, es⟩, -⟩ := h.2.2.1 k hk
  obtain ⟨v, hv, ev⟩ := h.stage hF hk
  have e0 : (it1 (hourP p) (springP p) k).2 k 0 = nI s := ((it1_w _ _ _ _ _ (by decide) (by decide) (by decide)).trans (springP_w _ _ _ (by decide))).trans es
  have hf := (tg_full z).1
  rw [ev, es, nI_ltI (by omega) (by omega)] at hf
  unfold jetF
  rw [ev, e0, show (10 : Int32) = nI 10 from rfl, pk_mul, nI_div (by omega) (by omega) (by omega)]
  have hl : 10 * v / s < 2 ^ 31 := Nat.lt_of_le_of_lt (Nat.div_le_self _ _) (by omega)
  have hg : 10 ≤ 10 * v / s := by
    rw [Nat.le_div_iff_mul_le (by omega)]
    omega
  split
  · exact nI_nlt hg hl
  · decide
theorem PI.dry {F : Nat} {p : HC} (h : PI F p) {k : Nat} (hk : k < 8) (z : ¬ tg p k 0 = 0) : (tickP p).2 k 3 = 0 := by
  obtain ⟨a, b⟩ := tick3 h.nxO hk
  rw [if_neg z] at b
  rw [a]
  unfold drF
  rw [b]
  have hl : 0 ≤ p.2 k 1 := (h.row hk).2.1.1
  have e1 : (tick1 p).2 k 1 = p.2 k 1 := by rw [tick1_d, it1_w _ _ _ _ _ (by decide) (by decide) (by decide), springP_w _ _ _ (by decide)]
  rw [e1, if_pos hl]
  rfl
noncomputable def e9F (p : HC) (k : Nat) : Int32 := if tg p k 0 = 1 then (if hr5 (p.2 k 4) = hourP p then 1 else 0) else 0
noncomputable def e10F (p : HC) (k : Nat) : Int32 := if tg p k 0 = 1 then (if hr5 (p.2 k 4) ≤ hourP p then 0 else 1) else 0
noncomputable def e11F (p : HC) (k : Nat) : Int32 := if tg p k 0 = 1 then (if hr5 (p.2 k 4) < 0 then 0 else if hourP p ≤ hr5 (p.2 k 4) then 0 else 1) else 0
theorem PI.tally {F : Nat} {p : HC} (h : PI F p) {k : Nat} (hk : k < 8) : (tickP p).2 k 9 - p.2 k 9 = e9F p k ∧ (tickP p).2 k 10 - p.2 k 10 = e10F p k ∧ (tickP p).2 k 11 - p.2 k 11 = e11F p k := by
  rw [tick9 p hk (Or.inl rfl), tick9 p hk (Or.inr (Or.inl rfl)), tick9 p hk (Or.inr (Or.inr rfl)), add_sub9, add_sub9, add_sub9]
  unfold d9F e9F e10F e11F
  have h0 := h.hour_0
  rcases tg_01 p k 0 with q | q
  · rw [q, if_pos rfl, if_pos rfl, if_pos rfl]
    refine ⟨?_, ?_, ?_⟩ <;> rw [if_neg (show ¬ (0 : Int32) = 1 by decide)]
  · rw [q, if_neg i10, if_neg i10, if_neg i10, if_pos rfl, if_pos rfl, if_pos rfl]
    rcases h.hr hk with z | ⟨y, hy, z⟩
    · rw [z, if_pos rfl, if_pos rfl, if_pos rfl]
      have e5 : hr5 (-1) = -5 := by decide
      rw [e5, if_neg (show ¬ (-5 : Int32) = hourP p from fun e => by rw [← e] at h0; exact absurd h0 (by decide)), if_pos (show (-5 : Int32) ≤ hourP p from Int32.le_trans (by decide) h0), if_pos (show (-5 : Int32) < 0 by decide)]
      exact ⟨rfl, rfl, rfl⟩
    · rw [z, hr5_n hy]
      have hn : ¬ nI y = -1 := fun e => by have q2 := nI_0le (show y < 2 ^ 31 by omega); rw [e] at q2; exact absurd q2 (by decide)
      have hm : ¬ nI y < 0 := Int32.not_lt.mpr (nI_0le (by omega))
      rw [if_neg hn, if_neg hn, if_neg hn, if_neg hm]
      by_cases e : hourP p = nI y
      · have w : whenF (hourP p) (nI y) = 9 := by unfold whenF; rw [if_pos e]
        rw [w]
        refine ⟨?_, ?_, ?_⟩
        · rw [if_pos rfl, if_pos e.symm]
        · rw [if_neg (by decide), if_pos (by rw [e]; exact Int32.le_refl _)]
        · rw [if_neg (by decide), if_pos (by rw [e]; exact Int32.le_refl _)]
      · by_cases g : nI y ≤ hourP p
        · have w : whenF (hourP p) (nI y) = 11 := by unfold whenF; rw [if_neg e, if_pos g]
          rw [w]
          refine ⟨?_, ?_, ?_⟩
          · rw [if_neg (by decide), if_neg (fun g2 => e g2.symm)]
          · rw [if_neg (by decide), if_pos g]
          · rw [if_pos rfl, if_neg (fun g2 => e (Int32.le_antisymm g2 g))]
        · have w : whenF (hourP p) (nI y) = 10 := by unfold whenF; rw [if_neg e, if_neg g]
          rw [w]
          refine ⟨?_, ?_, ?_⟩
          · rw [if_neg (by decide), if_neg (fun g2 => e g2.symm)]
          · rw [if_pos rfl, if_neg g]
          · rw [if_neg (by decide), if_pos (Int32.le_of_lt (Int32.not_le.mp g))]
theorem PI.guarded {F : Nat} {p : HC} (h : PI F p) {k : Nat} (hk : k < 8) (g : p.2 k 6 = 1) (z : ¬ tg p k 0 = 0) : hr5 (p.2 k 4) = hourP p := by
  have ho := (tg_full z).2
  unfold opF at ho
  rw [if_pos g] at ho
  have e : hourP p = p.2 k 4 := by
    by_cases e : hourP p = p.2 k 4
    · exact e
    · rw [if_neg e] at ho; exact absurd rfl ho
  rcases h.hr hk with q | ⟨y, hy, q⟩
  · obtain ⟨-, -, -, h4, -⟩ := h.2.2.1 k hk
    rcases h4 with ⟨-, q2⟩ | ⟨y, hy, q2⟩
    · rw [g] at q2; exact absurd q2 (by decide)
    · rw [q] at q2
      have q3 := nI_0le (show y < 2 ^ 31 by omega)
      rw [← q2] at q3
      exact absurd q3 (by decide)
  · rw [e, q]; exact hr5_n hy
theorem PI.tipped {F : Nat} {p : HC} (_ : PI F p) {k : Nat} (hk : k < 8) : (tickP p).2 k 8 - p.2 k 8 = tg p k 0 := by
  rw [tick8 p hk, add_sub9]
theorem tkN_add (p : HC) (a : Nat) : ∀ b, tkN (tkN p a) b = tkN p (a + b) := by
  intro b
  induction b with
  | zero => rfl
  | succ b ih => rw [tkN_s, ih]; rfl
