set_option maxHeartbeats 8000000 in
set_option maxRecDepth 100000 in
theorem whole_start {p : Program} {e : Env} {s : State} {m : MethodId} {below : List Frame} {meth : Method} {c : Code} (l : Launch) (hflags : l.flags = flags0) {b L : Nat} {xs : Nat → Int32} (hL : L ≤ 2048) (C0 : lw_At p s m meth c b L xs) : W p l e room_1 s m #[Value.ref b] below meth c s.heap [] 0 0 (lw_Z below #[Value.ref b] s) (entryFrame m ([Value.ref b] : List Value).toArray 4) := by
  obtain ⟨hx, hb, hr, hml, hown, hts9, hX, hbl, hlocks, hgv⟩ := id C0
  have hts : ∀ w ∈ wsL_law, w.before #[Value.ref b] s = true := fun w h => hts9 w (wsL_law_in w h)
  obtain ⟨c0, i0, hKn0⟩ := u_known (C := RX0) (T := TX0) (N := 13) (n := 13) hts (fun w h => wl_wsX00 w h) (hts _ wq_2_18)
  obtain ⟨c1, i1, hKn1⟩ := u_known (C := RX1) (T := TX1) (N := 7) (n := 7) hts (fun w h => wl_wsX10 w h) (hts _ wq_1_21)
  obtain ⟨c2, i2, hKn2⟩ := u_known (C := RX2) (T := TX2) (N := 9) (n := 9) hts (fun w h => wl_wsX20 w h) (hts _ wq_1_13)
  obtain ⟨c3, i3, hKn3⟩ := u_known (C := RX3) (T := TX3) (N := 10) (n := 10) hts (fun w h => wl_wsX30 w h) (hts _ wq_1_1)
  obtain ⟨c4, i4, hKn4⟩ := u_known (C := RX4) (T := TX4) (N := 17) (n := 17) hts (fun w h => wl_wsX40 w h) (hts _ wq_1_4)
  obtain ⟨G, hG⟩ : ∃ G : va_G, ∀ (k : Nat) (q : vw_C), vwCl[k]? = some q → u_Kn s q.1 q.2.1 q.2.2 (G.1 k) (G.2 k) := by
    refine ⟨(fun k => [c0, c1, c2, c3, c4].getD k c0, fun k => [i0, i1, i2, i3, i4].getD k i0), ?_⟩
    intro k q hq
    match k, hq with
    | 0, hq => cases hq; exact hKn0
    | 1, hq => cases hq; exact hKn1
    | 2, hq => cases hq; exact hKn2
    | 3, hq => cases hq; exact hKn3
    | 4, hq => cases hq; exact hKn4
    | k + 5, hq => simp [vwCl] at hq
  obtain ⟨a0, k0, m0, f0, g0, h0⟩ := Cond.arrayClass_spec (hts _ wq_3_16)
  obtain ⟨a1, k1, m1, f1, g1, h1⟩ := Cond.arrayClass_spec (hts _ wq_3_19)
  obtain ⟨a2, k2, m2, f2, g2, h2⟩ := Cond.arrayClass_spec (hts _ wq_4_11)
  have hAO3 : va_AO RX0 s := va_AO.of (hts9 (.arrayOver (.object RX0)) (by decide +kernel))
  obtain ⟨m3, a3, k3, j3, _, g3, h3, f3⟩ := Cond.arrayOver_spec hAO3
  have hAO4 : va_AO RX2 s := va_AO.of (hts9 (.arrayOver (.object RX2)) (by decide +kernel))
  obtain ⟨m4, a4, k4, j4, _, g4, h4, f4⟩ := Cond.arrayOver_spec hAO4
  obtain ⟨ca, hca⟩ : ∃ ca : Nat → ClassId, ∀ (k : Nat) (q : ClassId × FieldType), (zy ca)[k]? = some q → ArrOfT s q.1 q.2 ∧ va_RA s q.1 q.2 := by
    refine ⟨fun k => [a0, a1, a2, a3, a4].getD k a0, ?_⟩
    intro k q hq
    match k, hq with
    | 0, hq => cases hq; exact ⟨fun n z => ⟨fun k h => (by cases h), k0, g0, m0, h0⟩, f0⟩
    | 1, hq => cases hq; exact ⟨fun n z => ⟨fun k h => (by cases h), k1, g1, m1, h1⟩, f1⟩
    | 2, hq => cases hq; exact ⟨fun n z => ⟨fun k h => (by cases h), k2, g2, m2, h2⟩, f2⟩
    | 3, hq => cases hq; exact ⟨fun n z => ⟨fun k h => (by cases h), k3, g3, m3, h3⟩, k3, m3, g3, h3, j3, f3⟩
    | 4, hq => cases hq; exact ⟨fun n z => ⟨fun k h => (by cases h), k4, g4, m4, h4⟩, k4, m4, g4, h4, j4, f4⟩
    | k + 5, hq => simp [zy] at hq
  have hzN : zN s := ⟨va_Nw.of rfl (hts9 (.methodLinkNest RX0 58 yX3_asNumber "CupFountain") (by decide +kernel)), va_Nw.of rfl (hts9 (.methodLinkNest RX1 58 yX3_isWithin "CupFountain") (by decide +kernel)), va_Nw.of rfl (hts9 (.methodLinkNest RX2 70 yX3_isWithin "CupFountain") (by decide +kernel)), va_Nw.of rfl (hts9 (.methodLinkNest RX2 80 yX3_asNumber "CupFountain") (by decide +kernel)), va_Nw.of rfl (hts9 (.methodLinkNest RX3 31 yX1_init "CupFountain") (by decide +kernel))⟩
  have hAO : zAO s := ⟨hAO3, hAO4⟩
  have hz : zw G ca (fun q : Nat => s.heap.size ≤ q) s.heap s [] s.heap [] := ⟨⟨⟨hG, hca⟩, hzN⟩, fun k q h => by simp at h, ⟨fun i j p q h => by simp at h, fun k q h => by simp at h⟩, va_S.rf, fun _ h => h⟩
  have hl := lv_entry ([.ref b]) (n := 4) (Nat.le_of_ble_eq_true rfl)
  rw [lg_entry_eq]
  generalize (lg_sl ([.ref b]) ++ List.replicate (4 - (lg_sl ([.ref b])).length) Slot.unset).toArray = ls at hl ⊢
  have hl : lv_has ls 4 [(0, .ref b)] := hl
  refine z_new (pc := 0) (ci := 3) (fs := [.null, .null, .null, .null, .null, .null, .int 0, .int 0, .int 0, .int 0]) (C := RX3) (T := TX3) (N := 10) (own := RL) hx hb hts (fun w h => wl_wsX30 w h) tyX3 tyX3_ok hown (hts _ wq_1_0) (hts _ wq_1_1) (hts _ wq_1_2) hz rfl (fun j hj => by rcases (show j = 0 ∨ j = 1 ∨ j = 2 ∨ j = 3 ∨ j = 4 ∨ j = 5 ∨ j = 6 ∨ j = 7 ∨ j = 8 ∨ j = 9 by omega) with rfl | rfl | rfl | rfl | rfl | rfl | rfl | rfl | rfl | rfl <;> rfl) (Nat.le_of_ble_eq_true rfl) (Nat.le_of_ble_eq_true rfl) dL_law_0 (fun o H hz => ?_)
  refine lv_dup (pc := 3) hx hb dL_law_3 rfl ?_
  refine z_runI (pc := 4) (As := []) (rest := [.ref o]) ⟨hx, hb, hml, hown, hts⟩ (k_X3_init l G ca o) (cwI 0 hts (zgood0 (fun _ h => h) wq_1_8) rfl rfl rfl (hts _ wq_1_2) (hts _ wq_1_6) (hts _ wq_1_7) rfl hdI_X3_init ⟨Nat.le_of_ble_eq_true rfl, Nat.le_of_ble_eq_true rfl⟩) (wc := [(o, .inr (3, [.null, .null, .null, .null, .null, .null, .int 0, .int 0, .int 0, .int 0]))]) hz hAO ([]) List.perm_append_comm rfl hl.1 (Nat.le_of_ble_eq_true rfl) dL_law_4 ⟨Nat.le_of_ble_eq_true rfl, Nat.le_of_ble_eq_true rfl⟩ (fun w1 hw1 H locs hz2 => ?_)
  obtain ⟨pa, sa, q, rfl⟩ := hw1
  clear hz
  have hz := hz2.as (List.append_nil _)
  clear hz2
  refine lv_astore_n (lv' := [(1, .ref o), (0, .ref b)]) (pc := 7) hx hb dL_law_7 rfl hl (by decide) rfl (fun ls hl => ?_)
  refine z_new (pc := 8) (ci := 4) (fs := [.null, .null, .int 0, .null, .int 0, .null, .null, .int 0, .int 0, .int 0, .null, .int 0, .int 0, .int 0, .int 0, .int 0, .int 0]) (C := RX4) (T := TX4) (N := 17) (own := RL) hx hb hts (fun w h => wl_wsX40 w h) tyX4 tyX4_ok hown (hts _ wq_1_3) (hts _ wq_1_4) (hts _ wq_1_5) hz rfl (fun j hj => by rcases (show j = 0 ∨ j = 1 ∨ j = 2 ∨ j = 3 ∨ j = 4 ∨ j = 5 ∨ j = 6 ∨ j = 7 ∨ j = 8 ∨ j = 9 ∨ j = 10 ∨ j = 11 ∨ j = 12 ∨ j = 13 ∨ j = 14 ∨ j = 15 ∨ j = 16 by omega) with rfl | rfl | rfl | rfl | rfl | rfl | rfl | rfl | rfl | rfl | rfl | rfl | rfl | rfl | rfl | rfl | rfl <;> rfl) (Nat.le_of_ble_eq_true rfl) (Nat.le_of_ble_eq_true rfl) dL_law_8 (fun mo H hz => ?_)
  refine lv_dup (pc := 11) hx hb dL_law_11 rfl ?_
  refine z_runI (pc := 12) (As := []) (rest := [.ref mo]) ⟨hx, hb, hml, hown, hts⟩ (k_X4_init l G ca mo) (cwI 0 hts (zgood0 (fun _ h => h) wq_4_3) rfl rfl rfl (hts _ wq_1_5) (hts _ wq_4_1) (hts _ wq_4_2) rfl hdI_X4_init ⟨Nat.le_of_ble_eq_true rfl, Nat.le_of_ble_eq_true rfl⟩) (wc := [(mo, .inr (4, [.null, .null, .int 0, .null, .int 0, .null, .null, .int 0, .int 0, .int 0, .null, .int 0, .int 0, .int 0, .int 0, .int 0, .int 0]))]) hz hAO (wF ca o pa f03 sa (fun _ => hc0) (fun _ _ => 0) q (fun _ => 0) (fun _ => 0) (fun _ => 0) (fun _ => 0) (fun _ => 0)) List.perm_append_comm rfl hl.1 (Nat.le_of_ble_eq_true rfl) dL_law_12 ⟨Nat.le_of_ble_eq_true rfl, Nat.le_of_ble_eq_true rfl⟩ (fun w1 hw1 H locs hz2 => ?_)
  obtain ⟨am, ham, rfl⟩ := hw1
  clear hz
  have hz := hz2.perm List.perm_append_comm
  clear hz2
  refine lv_astore_n (lv' := [(2, .ref mo), (1, .ref o), (0, .ref b)]) (pc := 15) hx hb dL_law_15 rfl hl (by decide) rfl (fun ls hl => ?_)
  refine lv_iconst (pc := 16) (v := 0) hx hb dL_law_16 (by decide) ?_
  refine lv_istore_n (lv' := [(3, .int 0), (2, .ref mo), (1, .ref o), (0, .ref b)]) (pc := 17) hx hb dL_law_17 rfl hl (by decide) rfl (fun ls hl => ?_)
  refine W.widen (k := 600000) (n := 7302250) (Nat.le_of_ble_eq_true rfl) (Nat.le_of_ble_eq_true rfl) ?_
  have hJ : JI ca (6000 * 0) o mo (wF ca o pa f03 sa (fun _ => hc0) (fun _ _ => 0) q (fun _ => 0) (fun _ => 0) (fun _ => 0) (fun _ => 0) (fun _ => 0)) (mm ca am f04 hc0.1 hc0.2 (fun _ => 0) (fun _ => 0) (fun _ => 0) (fun _ => 0) (fun _ => 0)) :=
    ⟨pa, f03, sa, fun _ => hc0, fun _ _ => 0, q, fun _ => 0, fun _ => 0, fun _ => 0, fun _ => 0, fun _ => 0, am, f04, fun _ => 0, fun _ => 0, fun _ => 0, fun _ => 0, 0, 0, rfl, ham, rfl, SI.new, ⟨by omega, rfl, rfl, fun i hi => absurd hi (by omega)⟩, Or.inl ⟨rfl, rfl⟩, ⟨by omega, rfl, rfl⟩, Or.inl ⟨rfl, rfl⟩⟩
  exact law_loop hL C0 o mo (L + 1) 0 (Nat.zero_le L) (by omega) _ _ hJ _ _ hz ls hl
