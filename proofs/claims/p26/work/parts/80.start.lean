set_option maxHeartbeats 8000000 in
set_option maxRecDepth 100000 in
theorem whole_start {pg : Program} {ev : Env} {s0 : State} {mt : MethodId} {below : List Frame} {meth : Method} {cd : Code} (l : Launch) (hflags : l.flags = flags0) {b L : Nat} {xs : Nat → Int32} (hL : L ≤ 260) (C0 : lw_At pg s0 mt meth cd b L xs) : W pg l ev room_1 s0 mt #[Value.ref b] below meth cd s0.heap [] 0 0 (lw_Z below #[Value.ref b] s0) (entryFrame mt ([Value.ref b] : List Value).toArray 3) := by
  obtain ⟨hx, hb, hr, hml, hown, hts9, hX, hbl, hlocks, hgv⟩ := id C0
  have hts : ∀ w ∈ wsL_law, w.before #[Value.ref b] s0 = true := fun w h => hts9 w (wsL_law_in w h)
  obtain ⟨c0, i0, hKn0⟩ := u_known (C := RX0) (T := TX0) (N := 13) (n := 13) hts (fun w h => wl_wsX00 w h) (hts _ wq_4_3)
  obtain ⟨c1, i1, hKn1⟩ := u_known (C := RX1) (T := TX1) (N := 7) (n := 7) hts (fun w h => wl_wsX10 w h) (hts _ wq_2_6)
  obtain ⟨c2, i2, hKn2⟩ := u_known (C := RX2) (T := TX2) (N := 9) (n := 9) hts (fun w h => wl_wsX20 w h) (hts _ wq_1_10)
  obtain ⟨c3, i3, hKn3⟩ := u_known (C := RX3) (T := TX3) (N := 10) (n := 10) hts (fun w h => wl_wsX30 w h) (hts _ wq_1_1)
  obtain ⟨G, hG⟩ : ∃ G : va_G, ∀ (k : Nat) (q : vw_C), vwCl[k]? = some q → u_Kn s0 q.1 q.2.1 q.2.2 (G.1 k) (G.2 k) := by
    refine ⟨(fun k => [c0, c1, c2, c3].getD k c0, fun k => [i0, i1, i2, i3].getD k i0), ?_⟩
    intro k q hq
    match k, hq with
    | 0, hq => cases hq; exact hKn0
    | 1, hq => cases hq; exact hKn1
    | 2, hq => cases hq; exact hKn2
    | 3, hq => cases hq; exact hKn3
    | k + 4, hq => simp [vwCl] at hq
  obtain ⟨a0, k0, m0, f0, g0, h0⟩ := Cond.arrayClass_spec (hts _ wq_6_1)
  obtain ⟨a1, k1, m1, f1, g1, h1⟩ := Cond.arrayClass_spec (hts _ wq_6_4)
  have hAO3 : va_AO RX0 s0 := va_AO.of (hts9 (.arrayOver (.object RX0)) (by decide +kernel))
  obtain ⟨m3, a3, k3, j3, _, g3, h3, f3⟩ := Cond.arrayOver_spec hAO3
  have hAO4 : va_AO RX2 s0 := va_AO.of (hts9 (.arrayOver (.object RX2)) (by decide +kernel))
  obtain ⟨m4, a4, k4, j4, _, g4, h4, f4⟩ := Cond.arrayOver_spec hAO4
  obtain ⟨ca, hca⟩ : ∃ ca : Nat → ClassId, ∀ (k : Nat) (q : ClassId × FieldType), (zy ca)[k]? = some q → ArrOfT s0 q.1 q.2 ∧ va_RA s0 q.1 q.2 := by
    refine ⟨fun k => [a0, a1, a1, a3, a4].getD k a0, ?_⟩
    intro k q hq
    match k, hq with
    | 0, hq => cases hq; exact ⟨fun n z => ⟨fun k h => (by cases h), k0, g0, m0, h0⟩, f0⟩
    | 1, hq => cases hq; exact ⟨fun n z => ⟨fun k h => (by cases h), k1, g1, m1, h1⟩, f1⟩
    | 2, hq => cases hq; exact ⟨fun n z => ⟨fun k h => (by cases h), k1, g1, m1, h1⟩, f1⟩
    | 3, hq => cases hq; exact ⟨fun n z => ⟨fun k h => (by cases h), k3, g3, m3, h3⟩, k3, m3, g3, h3, j3, f3⟩
    | 4, hq => cases hq; exact ⟨fun n z => ⟨fun k h => (by cases h), k4, g4, m4, h4⟩, k4, m4, g4, h4, j4, f4⟩
    | k + 5, hq => simp [zy] at hq
  have hzN : zN s0 := ⟨va_Nw.of rfl (hts9 (.methodLinkNest RX0 58 yX3_asNumber "CupFountain") (by decide +kernel)), va_Nw.of rfl (hts9 (.methodLinkNest RX0 58 yX3_asNumber "CupFountain") (by decide +kernel)), va_Nw.of rfl (hts9 (.methodLinkNest RX2 70 yX3_isWithin "CupFountain") (by decide +kernel)), va_Nw.of rfl (hts9 (.methodLinkNest RX2 80 yX3_asNumber "CupFountain") (by decide +kernel)), va_Nw.of rfl (hts9 (.methodLinkNest RX3 31 yX1_init "CupFountain") (by decide +kernel))⟩
  have hAO : zAO s0 := ⟨hAO3, hAO4⟩
  obtain ⟨A, hAd⟩ : ∃ A : Nat → Prop, A = fun q : Nat => s0.heap.size ≤ q := ⟨_, rfl⟩
  have hbA : ¬ A b := by rw [hAd]; exact Nat.not_le.mpr hbl
  have hA0 : ∀ q : Nat, A q → s0.heap.size ≤ q := fun q h => by rw [hAd] at h; exact h
  have hz : zw G ca A s0.heap s0 [] s0.heap [] := ⟨⟨⟨hG, hca⟩, hzN⟩, fun k q h => by simp at h, ⟨fun i j p q h => by simp at h, fun k q h => by simp at h⟩, va_S.rf, fun q h => by rw [hAd]; exact h⟩
  have hl := lv_entry ([.ref b]) (n := 3) (Nat.le_of_ble_eq_true rfl)
  rw [lg_entry_eq]
  generalize (lg_sl ([.ref b]) ++ List.replicate (3 - (lg_sl ([.ref b])).length) Slot.unset).toArray = ls at hl ⊢
  have hl : lv_has ls 3 [(0, .ref b)] := hl
  refine z_new (pc := 0) (ci := 3) (fs := [.null, .null, .null, .null, .null, .null, .int 0, .int 0, .int 0, .int 0]) (C := RX3) (T := TX3) (N := 10) (own := RL) hx hb hts (fun w h => wl_wsX30 w h) tyX3 tyX3_ok hown (hts _ wq_1_0) (hts _ wq_1_1) (hts _ wq_1_2) hz rfl (fun j hj => by rcases (show j = 0 ∨ j = 1 ∨ j = 2 ∨ j = 3 ∨ j = 4 ∨ j = 5 ∨ j = 6 ∨ j = 7 ∨ j = 8 ∨ j = 9 by omega) with rfl | rfl | rfl | rfl | rfl | rfl | rfl | rfl | rfl | rfl <;> rfl) (Nat.le_of_ble_eq_true rfl) (Nat.le_of_ble_eq_true rfl) dL_law_0 (fun o H hz => ?_)
  refine lv_dup (pc := 3) hx hb dL_law_3 rfl ?_
  refine z_runI (pc := 4) (As := []) (rest := [.ref o]) ⟨hx, hb, hml, hown, hts⟩ (k_X3_init l G ca o) (cwI 0 hts (zgood0 (fun _ h => h) wq_1_5) rfl rfl rfl (hts _ wq_1_2) (hts _ wq_1_3) (hts _ wq_1_4) rfl hdI_X3_init ⟨Nat.le_of_ble_eq_true rfl, Nat.le_of_ble_eq_true rfl⟩) (wc := [(o, .inr (3, [.null, .null, .null, .null, .null, .null, .int 0, .int 0, .int 0, .int 0]))]) hz hAO ([]) List.perm_append_comm rfl hl.1 (Nat.le_of_ble_eq_true rfl) dL_law_4 ⟨Nat.le_of_ble_eq_true rfl, Nat.le_of_ble_eq_true rfl⟩ (fun w1 hw1 H locs hz2 => ?_)
  obtain ⟨pa, sa, q, rfl⟩ := hw1
  clear hz
  have hz := hz2.as (List.append_nil _)
  clear hz2
  refine lv_astore_n (lv' := [(1, .ref o), (0, .ref b)]) (pc := 7) hx hb dL_law_7 rfl hl (by decide) rfl (fun ls hl => ?_)
  refine W.widen (k := 1000) (n := 100000) (Nat.le_of_ble_eq_true rfl) (Nat.le_of_ble_eq_true rfl) ?_
  have hF : FW ca o hc0 none (wF ca o pa f03 sa (fun _ => hc0) (fun _ _ => 0) q (fun _ => 0) (fun _ => 0) (fun _ => 0) (fun _ => 0) (fun _ => 0)) := ⟨pa, f03, sa, fun _ => hc0, fun _ _ => 0, q, fun _ => 0, fun _ => 0, fun _ => 0, fun _ => 0, fun _ => 0, 0, 0, rfl, rfl, ⟨by decide, rfl⟩, rfl, fun s hs => by cases hs⟩
  generalize wF ca o pa f03 sa (fun _ => hc0) (fun _ _ => 0) q (fun _ => 0) (fun _ => 0) (fun _ => 0) (fun _ => 0) (fun _ => 0) = w at hz hF
  obtain ⟨fs0, tl0, ew⟩ := hF.h1
  refine lv_aload_n (pc := 8) hx hb dL_law_8 rfl (lv_at hl 0 rfl) ?_
  refine z_runS (pc := 9) (As := [.ref o]) (rest := []) (ws1 := w) ⟨hx, hb, hml, hown, hts⟩ (k_L_holds l G ca o w hc0 none hF (PI.new)) (cwS 1 hts (zgoodS (fun _ h => h) wq_6_10 wq_6_11 wq_7_0 wq_29_0) rfl rfl rfl hdV_L_holds ⟨Nat.le_of_ble_eq_true rfl, Nat.le_of_ble_eq_true rfl⟩) hz [] zp_all zp_all' rfl hl.1 (Nat.le_of_ble_eq_true rfl) (st1 := [.int 1]) rfl dL_law_9 ⟨(show _ ≤ 600000 by omega), (show _ ≤ 7302250 by omega)⟩ (fun H locs hz => ?_)
  refine lv_if_eq (pc := 12) (tgt := 33) hx hb dL_law_12 (by decide) (fun c9 => absurd c9 i10) (fun c_12 => ?_)
  refine lv_aload_n (pc := 15) hx hb dL_law_15 rfl (lv_at hl 0 rfl) ?_
  refine z_runV (pc := 16) (As := []) (rest := []) (ws1 := w) ⟨hx, hb, hml, hown, hts⟩ (f_highest (l := l) (G := G) hF PI.new.1.1) (cwV 0 hts (zgoodV (fun _ h => h) wq_7_1 wq_7_2 wq_7_3 wq_1_2 wq_7_4) rfl rfl rfl hdV_X3_highest ⟨Nat.le_of_ble_eq_true rfl, Nat.le_of_ble_eq_true rfl⟩) hz [] zp_all zp_all' ew rfl rfl hl.1 (Nat.le_of_ble_eq_true rfl) (st1 := [.int (khX hc0.2)]) rfl dL_law_16 ⟨(show _ ≤ 600000 by omega), (show _ ≤ 7302250 by omega)⟩ (fun H locs hz => ?_)
  refine z_top (y := -5) hi_new ?_
  refine lv_bipush (v := -5) (pc := 19) hx hb dL_law_19 (by decide) ?_
  refine lv_icmp_ne (pc := 21) (tgt := 33) hx hb dL_law_21 (by decide) (fun c9 => absurd rfl c9) (fun c_21 => ?_)
  refine lv_aload_n (pc := 24) hx hb dL_law_24 rfl (lv_at hl 0 rfl) ?_
  obtain ⟨w1, z1, hF1⟩ := f_starving (l := l) (G := G) hF PI.new.1.1 
  obtain ⟨fsw1, tlw1, ew1⟩ := hF1.h1
  refine z_runV (pc := 25) (As := []) (rest := []) (ws1 := w1) ⟨hx, hb, hml, hown, hts⟩ (z1) (cwV 0 hts (zgoodV (fun _ h => h) wq_11_5 wq_11_6 wq_11_7 wq_1_2 wq_11_8) rfl rfl rfl hdV_X3_starving ⟨Nat.le_of_ble_eq_true rfl, Nat.le_of_ble_eq_true rfl⟩) hz [] zp_all zp_all' ew rfl rfl hl.1 (Nat.le_of_ble_eq_true rfl) (st1 := [.int (kst3 (kN5 hc0) hc0)]) rfl dL_law_25 ⟨(show _ ≤ 600000 by omega), (show _ ≤ 7302250 by omega)⟩ (fun H locs hz => ?_)
  refine z_top (y := -5) st_new ?_
  refine lv_bipush (v := -5) (pc := 28) hx hb dL_law_28 (by decide) ?_
  refine lv_icmp_eq (pc := 30) (tgt := 35) hx hb dL_law_30 (by decide) (fun c_30 => ?_) (fun c9 => absurd rfl c9)
  refine lv_iconst (v := 0) (pc := 35) hx hb dL_law_35 (by decide) ?_
  refine lv_istore_n (lv' := [(2, .int 0), (1, .ref o), (0, .ref b)]) (pc := 36) hx hb dL_law_36 rfl hl (by decide) rfl (fun ls hl => ?_)
  have loop1 : ∀ cnt e : Nat, e + cnt = 48 → ∀ (w : va_W) (p : HC) (t0 : Nat) , FW ca o p none w → PI (99 * e) p → p.1 0 = nI t0 → t0 ≤ 99 * e → ∀ (H : Heap) (locs : List Loc) (ls : Array Slot), zw G ca A s0.heap s0 w H locs → lv_has ls 3 [(2, .int (nI e)), (1, .ref o), (0, .ref b)] → W pg l ev room_1 s0 mt #[Value.ref b] below meth cd H locs (1000 + 4 * e) (100000 + 80 * e) (lw_Z below #[Value.ref b] s0) (F0 mt 37 ls []) := by
    intro cnt
    induction cnt with
    | zero =>
      intro e hk9 w p t0 hF hP ht0 ht9 H locs ls hz hl
      obtain rfl : 48 = e := by omega
      obtain ⟨fs0, tl0, ew⟩ := hF.h1
      have hPt := hP.tick (by omega) ht0 (by omega)
      have htt : (tickP p).1 0 = nI (t0 + 1) := by rw [tick0, ht0, nI_1]
      refine lv_iload_n (pc := 37) hx hb dL_law_37 rfl (lv_at hl 0 rfl) ?_
      refine lv_bipush (v := 48) (pc := 38) hx hb dL_law_38 (by decide) ?_
      refine lv_icmp_ge (pc := 40) (tgt := 81) hx hb dL_law_40 (by decide) (fun c_40 => ?_) (fun c9 => absurd (by decide) c9)
      refine lv_aload_n (pc := 81) hx hb dL_law_81 rfl (lv_at hl 1 rfl) ?_
      refine z_runSW (pc := 82) (As := [.ref o]) (rest := []) ⟨hx, hb, hml, hown, hts⟩ (k_L_starves l G ca o w p none hF hP) (cwS 1 hts (zgoodS (fun _ h => h) wq_24_7 wq_24_8 wq_7_0 wq_41_0) rfl rfl rfl hdV_L_starves ⟨Nat.le_of_ble_eq_true rfl, Nat.le_of_ble_eq_true rfl⟩) hz [] zp_all rfl hl.1 (Nat.le_of_ble_eq_true rfl) (st1 := [.int 1]) rfl dL_law_82 ⟨(show _ ≤ 600000 by omega), (show _ ≤ 7302250 by omega)⟩ (fun w2 hF2 H locs hz => ?_)
      rw [List.append_nil] at hz
      obtain ⟨fsw2, tlw2, ew2⟩ := hF2.h1
      refine lv_if_eq (pc := 85) (tgt := 117) hx hb dL_law_85 (by decide) (fun c9 => absurd c9 i10) (fun c_85 => ?_)
      refine lv_aload_n (pc := 88) hx hb dL_law_88 rfl (lv_at hl 1 rfl) ?_
      refine z_runSW (pc := 89) (As := [.ref o]) (rest := []) ⟨hx, hb, hml, hown, hts⟩ (k_L_ticks l G ca o w2 p none hF2 hP (by omega) ht0 (by omega)) (cwS 1 hts (zgoodS (fun _ h => h) wq_19_6 wq_19_7 wq_7_0 wq_38_0) rfl rfl rfl hdV_L_ticks ⟨Nat.le_of_ble_eq_true rfl, Nat.le_of_ble_eq_true rfl⟩) hz [] zp_all rfl hl.1 (Nat.le_of_ble_eq_true rfl) (st1 := [.int 1]) rfl dL_law_89 ⟨(show _ ≤ 600000 by omega), (show _ ≤ 7302250 by omega)⟩ (fun w3 hF3 H locs hz => ?_)
      rw [List.append_nil] at hz
      obtain ⟨fsw3, tlw3, ew3⟩ := hF3.h1
      refine lv_if_eq (pc := 92) (tgt := 117) hx hb dL_law_92 (by decide) (fun c9 => absurd c9 i10) (fun c_92 => ?_)
      refine lv_aload_n (pc := 95) hx hb dL_law_95 rfl (lv_at hl 1 rfl) ?_
      refine lv_aload_n (pc := 96) hx hb dL_law_96 rfl (lv_at hl 2 rfl) ?_
      refine lv_bipush (v := 97) (pc := 97) hx hb dL_law_97 (by decide) ?_
      refine z_runSX (pc := 99) (As := [.ref b, .int 97]) (rest := [.ref o]) ⟨hx, hb, hml, hown, hts⟩ (k_L_cell l G ca b L xs hL 97 (by omega)) (cwS 2 hts (zgoodS (fun _ h => h) wq_16_8 wq_16_9 wq_7_0 wq_31_0) rfl rfl rfl hdV_L_cell ⟨Nat.le_of_ble_eq_true rfl, Nat.le_of_ble_eq_true rfl⟩) hz hX hbl hbA rfl hl.1 (Nat.le_of_ble_eq_true rfl) (st1 := [.int (cellF xs L 97), .ref o]) rfl dL_law_99 ⟨(show _ ≤ 600000 by omega), (show _ ≤ 7302250 by omega)⟩ (fun H locs hz => ?_)
      refine lv_bipush (v := 8) (pc := 102) hx hb dL_law_102 (by decide) ?_
      obtain ⟨k, hk, ek⟩ := low_nat (cellF xs L 97) (n := 8) (by decide) (by decide)
      refine z_runS (pc := 104) (As := [.int (cellF xs L 97), .int 8]) (rest := [.ref o]) (ws1 := w3) ⟨hx, hb, hml, hown, hts⟩ (k_L_low l G ca (cellF xs L 97) 8 (by decide)) (cwS 2 hts (zgoodS (fun _ h => h) wq_17_0 wq_17_1 wq_7_0 wq_35_0) rfl rfl rfl hdV_L_low ⟨Nat.le_of_ble_eq_true rfl, Nat.le_of_ble_eq_true rfl⟩) hz w3 zp_no (List.Perm.refl _) rfl hl.1 (Nat.le_of_ble_eq_true rfl) (st1 := [.int (lowF (cellF xs L 97) 8), .ref o]) rfl dL_law_104 ⟨(show _ ≤ 600000 by omega), (show _ ≤ 7302250 by omega)⟩ (fun H locs hz => ?_)
      refine z_top (y := nI k) ek ?_
      refine z_runSW (pc := 107) (As := [.ref o, .int (nI k)]) (rest := []) ⟨hx, hb, hml, hown, hts⟩ (k_L_waits l G ca o w3 (tickP p) none hF3 hPt hk (by omega) htt (by omega)) (cwS 2 hts (zgoodS (fun _ h => h) wq_21_2 wq_21_3 wq_7_0 wq_39_0) rfl rfl rfl hdV_L_waits ⟨Nat.le_of_ble_eq_true rfl, Nat.le_of_ble_eq_true rfl⟩) hz [] zp_all rfl hl.1 (Nat.le_of_ble_eq_true rfl) (st1 := [.int 1]) rfl dL_law_107 ⟨(show _ ≤ 600000 by omega), (show _ ≤ 7302250 by omega)⟩ (fun w4 hF4 H locs hz => ?_)
      rw [List.append_nil] at hz
      obtain ⟨fsw4, tlw4, ew4⟩ := hF4.h1
      refine lv_if_eq (pc := 110) (tgt := 117) hx hb dL_law_110 (by decide) (fun c9 => absurd c9 i10) (fun c_110 => ?_)
      refine lv_iconst (v := 1) (pc := 113) hx hb dL_law_113 (by decide) ?_
      refine lv_goto (tgt := 118) (pc := 114) hx hb dL_law_114 (by decide) ?_
      refine W.widen (k := 600000) (n := 7302250) (by omega) (by omega) ?_
      refine va_forget (fun q hq => hA0 _ (hz.2.2.2.1.2.2 q hq)) ?_
      exact lw_ret hx hb hr hlocks dL_law_118
    | succ cnt ih =>
      intro e hk9 w p t0 hF hP ht0 ht9 H locs ls hz hl
      have hke : e < 48 := by omega
      obtain ⟨fs0, tl0, ew⟩ := hF.h1
      refine lv_iload_n (pc := 37) hx hb dL_law_37 rfl (lv_at hl 0 rfl) ?_
      refine lv_bipush (v := 48) (pc := 38) hx hb dL_law_38 (by decide) ?_
      refine lv_icmp_ge (pc := 40) (tgt := 81) hx hb dL_law_40 (by decide) (fun c9 => absurd c9 (nI_ge hke (by decide))) (fun c_40 => ?_)
      refine lv_aload_n (pc := 43) hx hb dL_law_43 rfl (lv_at hl 1 rfl) ?_
      refine lv_aload_n (pc := 44) hx hb dL_law_44 rfl (lv_at hl 2 rfl) ?_
      refine lv_iconst (v := 2) (pc := 45) hx hb dL_law_45 (by decide) ?_
      refine lv_iload_n (pc := 46) hx hb dL_law_46 rfl (lv_at hl 0 rfl) ?_
      refine lv_imul (pc := 47) hx hb dL_law_47 ?_
      refine z_top (y := nI (2 * e)) (show (2 : Int32) * nI e = nI (2 * e) from pk_mul 2 e) ?_
      refine z_runSX (pc := 48) (As := [.ref b, .int (nI (2 * e))]) (rest := [.ref o]) ⟨hx, hb, hml, hown, hts⟩ (k_L_cell l G ca b L xs hL (2 * e) (by omega)) (cwS 2 hts (zgoodS (fun _ h => h) wq_16_8 wq_16_9 wq_7_0 wq_31_0) rfl rfl rfl hdV_L_cell ⟨Nat.le_of_ble_eq_true rfl, Nat.le_of_ble_eq_true rfl⟩) hz hX hbl hbA rfl hl.1 (Nat.le_of_ble_eq_true rfl) (st1 := [.int (cellF xs L (2 * e)), .ref o]) rfl dL_law_48 ⟨(show _ ≤ 600000 by omega), (show _ ≤ 7302250 by omega)⟩ (fun H locs hz => ?_)
      refine lv_aload_n (pc := 51) hx hb dL_law_51 rfl (lv_at hl 2 rfl) ?_
      refine lv_iconst (v := 2) (pc := 52) hx hb dL_law_52 (by decide) ?_
      refine lv_iload_n (pc := 53) hx hb dL_law_53 rfl (lv_at hl 0 rfl) ?_
      refine lv_imul (pc := 54) hx hb dL_law_54 ?_
      refine lv_iconst (v := 1) (pc := 55) hx hb dL_law_55 (by decide) ?_
      refine lv_iadd (pc := 56) hx hb dL_law_56 ?_
      refine z_top (y := nI (2 * e + 1)) (by rw [show (2 : Int32) * nI e = nI (2 * e) from pk_mul 2 e, nI_1]) ?_
      refine z_runSX (pc := 57) (As := [.ref b, .int (nI (2 * e + 1))]) (rest := [.int (cellF xs L (2 * e)), .ref o]) ⟨hx, hb, hml, hown, hts⟩ (k_L_cell l G ca b L xs hL (2 * e + 1) (by omega)) (cwS 2 hts (zgoodS (fun _ h => h) wq_16_8 wq_16_9 wq_7_0 wq_31_0) rfl rfl rfl hdV_L_cell ⟨Nat.le_of_ble_eq_true rfl, Nat.le_of_ble_eq_true rfl⟩) hz hX hbl hbA rfl hl.1 (Nat.le_of_ble_eq_true rfl) (st1 := [.int (cellF xs L (2 * e + 1)), .int (cellF xs L (2 * e)), .ref o]) rfl dL_law_57 ⟨(show _ ≤ 600000 by omega), (show _ ≤ 7302250 by omega)⟩ (fun H locs hz => ?_)
      refine z_runSW (pc := 60) (As := [.ref o, .int (cellF xs L (2 * e)), .int (cellF xs L (2 * e + 1))]) (rest := []) ⟨hx, hb, hml, hown, hts⟩ (k_L_act l G ca o w p none hF hP (cellF xs L (2 * e)) (cellF xs L (2 * e + 1)) (by omega) ht0 (by omega)) (cwS 3 hts (zgoodS (fun _ h => h) wq_16_10 wq_16_11 wq_7_0 wq_34_0) rfl rfl rfl hdV_L_act ⟨Nat.le_of_ble_eq_true rfl, Nat.le_of_ble_eq_true rfl⟩) hz [] zp_all rfl hl.1 (Nat.le_of_ble_eq_true rfl) (st1 := [.int 1]) rfl dL_law_60 ⟨(show _ ≤ 600000 by omega), (show _ ≤ 7302250 by omega)⟩ (fun w5 hF5 H locs hz => ?_)
      obtain ⟨p1, t1, hP1, ht1, ht91, hF5⟩ := hF5
      rw [List.append_nil] at hz
      obtain ⟨fsw5, tlw5, ew5⟩ := hF5.h1
      refine lv_if_eq (pc := 63) (tgt := 73) hx hb dL_law_63 (by decide) (fun c9 => absurd c9 i10) (fun c_63 => ?_)
      refine lv_aload_n (pc := 66) hx hb dL_law_66 rfl (lv_at hl 1 rfl) ?_
      refine z_runS (pc := 67) (As := [.ref o]) (rest := []) (ws1 := w5) ⟨hx, hb, hml, hown, hts⟩ (k_L_holds l G ca o w5 p1 none hF5 (hP1)) (cwS 1 hts (zgoodS (fun _ h => h) wq_6_10 wq_6_11 wq_7_0 wq_29_0) rfl rfl rfl hdV_L_holds ⟨Nat.le_of_ble_eq_true rfl, Nat.le_of_ble_eq_true rfl⟩) hz [] zp_all zp_all' rfl hl.1 (Nat.le_of_ble_eq_true rfl) (st1 := [.int 1]) rfl dL_law_67 ⟨(show _ ≤ 600000 by omega), (show _ ≤ 7302250 by omega)⟩ (fun H locs hz => ?_)
      refine lv_if_ne (pc := 70) (tgt := 75) hx hb dL_law_70 (by decide) (fun c_70 => ?_) (fun c9 => absurd c9 i10)
      refine lv_iinc (v := nI (e + 1)) (lv' := [(2, .int (nI (e + 1))), (1, .ref o), (0, .ref b)]) (pc := 75) hx hb dL_law_75 hl (k := 0) rfl (nI_add e 1) (by decide) rfl (fun ls hl => ?_)
      refine lv_goto (tgt := 37) (pc := 78) hx hb dL_law_78 (by decide) ?_
      refine W.widen (k := 1000 + 4 * (e + 1)) (n := 100000 + 80 * (e + 1)) (by omega) (by omega) ?_
      exact ih (e + 1) (by omega) w5 p1 t1 hF5 (hP1.mono (by omega)) ht1 (by omega) _ _ _ hz (lv_sub hl [0, 1, 2] rfl)
  exact loop1 48 0 (by omega) w1 hc0 0 hF1 PI.new rfl (by omega) _ _ _ hz (lv_sub hl [0, 1, 2] rfl)
