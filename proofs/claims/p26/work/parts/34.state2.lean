def rm_X2_tickOnce : Room := { frames := 2, cells := 0, slots := 0, locals := 47 }
set_option maxRecDepth 20000 in
theorem hdV_X2_tickOnce : yX2_tickOnce.cls = RX2 ∧ yX2_tickOnce.cls ≠ "java/lang/invoke/MethodHandle" ∧ yX2_tickOnce.cls ≠ "java/lang/invoke/VarHandle" ∧ (parseMethodDescriptor yX2_tickOnce.desc).map (fun d => d.parameters.length) = some 0 := by decide +kernel
set_option maxHeartbeats 4000000 in
set_option maxRecDepth 100000 in
theorem k_X2_tickOnce (l : Launch) (G : va_G) (ca : Nat → ClassId) (a : Nat → Nat) (h : Nat → Int32) (c : Nat → Nat → Int32) (z : Nat → Int32) (hnx : nxP (h, c)) : Zc l G ca yX2_tickOnce (zws yX2_tickOnce cX2_tickOnce 4 (some .int)) rm_X2_tickOnce [.ref (a 0)] (wS ca a h c z) (some (.int (ktips (h, c)))) (wS ca a ((kTick (h, c)).1) ((kTick (h, c)).2) (rqX (h, c) z)) := by
  refine Zc.of (cc := cX2_tickOnce) (maxL := 4) (ret := (some .int)) (by decide) rfl (Nat.le_of_ble_eq_true rfl) ?_
  intro pg ev s0 mt below meth cd A args Q ls hx hb hr hml hown hts hlk hQ hl hz
  have L11 : (Cond.fieldLink RX2 11 "CupFountain$State" "cups" "[LCupFountain$Cup;").before args s0 = true := hts _ (zsub _ wq_3_6)
  have L17 : (Cond.fieldLink RX2 17 "CupFountain$State" "tick" "I").before args s0 = true := hts _ (zsub _ wq_3_7)
  have L33 : (Cond.fieldLink RX2 33 "CupFountain$State" "lost" "I").before args s0 = true := hts _ (zsub _ wq_4_0)
  have hinX2 : ∀ w ∈ wsX20, w ∈ zws yX2_tickOnce cX2_tickOnce 4 (some .int) := fun w h => zsub w (wl_wsX20 w h)
  have hl : lv_has ls 4 [(0, .ref (a 0))] := hl
  refine lv_aload_n (pc := 0) hx hb dX2_tickOnce_0 rfl (lv_at hl 0 rfl) ?_
  refine lv_aload_n (pc := 1) hx hb dX2_tickOnce_1 rfl (lv_at hl 0 rfl) ?_
  refine z_get (own := RX2) (ref := "CupFountain$State") (C := RX2) (T := TX2) (N := 9) (ci := 2) (v := .int (h 0)) (pc := 2) hx hb hts hinX2 hown hz 0 rfl rfl 1 (by decide) L17 rfl rfl dX2_tickOnce_2 ?_
  refine z_runV (pc := 5) (As := [.int (h 0)]) (rest := []) (ws1 := wS ca a h c z) ⟨hx, hb, hml, hown, hts⟩ (k_X2_hourOf l G ca a h c z (h 0)) (cwV 1 hts (zgoodV zsub wq_9_8 wq_9_9 wq_9_10 wq_1_11 wq_9_11) rfl rfl rfl hdV_X2_hourOf ⟨Nat.le_of_ble_eq_true rfl, Nat.le_of_ble_eq_true rfl⟩) hz [] zp_all zp_all' rfl rfl rfl hl.1 (Nat.le_of_ble_eq_true rfl) (st1 := [.int (hoR h (h 0))]) rfl dX2_tickOnce_5 ⟨Nat.zero_le _, Nat.zero_le _⟩ (fun H locs hz => ?_)
  refine z_top (y := (khour (h, c))) rfl ?_
  refine lv_istore_n (lv' := [(1, .int (khour (h, c))), (0, .ref (a 0))]) (pc := 8) hx hb dX2_tickOnce_8 rfl hl (by decide) rfl (fun ls hl => ?_)
  refine lv_aload_n (pc := 9) hx hb dX2_tickOnce_9 rfl (lv_at hl 1 rfl) ?_
  refine lv_iload_n (pc := 10) hx hb dX2_tickOnce_10 rfl (lv_at hl 0 rfl) ?_
  refine z_runV (pc := 11) (As := [.int (khour (h, c))]) (rest := []) (ws1 := wS ca a h (opn c (khour (h, c)) 8) z) ⟨hx, hb, hml, hown, hts⟩ (k_X2_openGuarded l G ca a h c z (khour (h, c))) (cwV 1 hts (zgoodV zsub wq_13_2 wq_13_3 wq_13_4 wq_1_11 wq_13_5) rfl rfl rfl hdV_X2_openGuarded ⟨Nat.le_of_ble_eq_true rfl, Nat.le_of_ble_eq_true rfl⟩) hz [] zp_all zp_all' rfl rfl rfl hl.1 (Nat.le_of_ble_eq_true rfl) (st1 := []) rfl dX2_tickOnce_11 ⟨Nat.zero_le _, Nat.zero_le _⟩ (fun H locs hz => ?_)
  refine lv_aload_n (pc := 14) hx hb dX2_tickOnce_14 rfl (lv_at hl 1 rfl) ?_
  refine z_runV (pc := 15) (As := []) (rest := []) (ws1 := wS ca a (kspH h) (kspC h (opn c (khour (h, c)) 8)) z) ⟨hx, hb, hml, hown, hts⟩ (k_X2_springs l G ca a h (opn c (khour (h, c)) 8) z) (cwV 0 hts (zgoodV zsub wq_13_9 wq_13_10 wq_13_11 wq_1_11 wq_14_0) rfl rfl rfl hdV_X2_springs ⟨Nat.le_of_ble_eq_true rfl, Nat.le_of_ble_eq_true rfl⟩) hz [] zp_all zp_all' rfl rfl rfl hl.1 (Nat.le_of_ble_eq_true rfl) (st1 := []) rfl dX2_tickOnce_15 ⟨Nat.zero_le _, Nat.zero_le _⟩ (fun H locs hz => ?_)
  have hz := hz.as (show _ = wS ca a ((kst (h, c)).1) ((kst (h, c)).2) z from by rw [← opX_d]; rfl)
  refine lv_iconst (v := 0) (pc := 18) hx hb dX2_tickOnce_18 (by decide) ?_
  refine lv_istore_n (lv' := [(2, .int 0), (1, .int (khour (h, c))), (0, .ref (a 0))]) (pc := 19) hx hb dX2_tickOnce_19 rfl hl (by decide) rfl (fun ls hl => ?_)
  refine lv_iconst (v := 0) (pc := 20) hx hb dX2_tickOnce_20 (by decide) ?_
  refine lv_istore_n (lv' := [(3, .int 0), (2, .int 0), (1, .int (khour (h, c))), (0, .ref (a 0))]) (pc := 21) hx hb dX2_tickOnce_21 rfl hl (by decide) rfl (fun ls hl => ?_)
  have loop1 : ∀ cnt k : Nat, k + cnt = 8 → ∀ (H : Heap) (locs : List Loc) (ls : Array Slot), zw G ca A s0.heap s0 (wS ca a ((kit1 (khour (h, c)) (kst (h, c)) k).1) ((kit1 (khour (h, c)) (kst (h, c)) k).2) (rqN (khour (h, c)) (kst (h, c)) z k)) H locs → lv_has ls 4 [(3, .int (nI k)), (2, .int (ktT (khour (h, c)) (kst (h, c)) k)), (1, .int (khour (h, c))), (0, .ref (a 0))] → W pg l ev rm_X2_tickOnce s0 mt args below meth cd H locs 0 0 Q (F0 mt 22 ls []) := by
    intro cnt
    induction cnt with
    | zero =>
      intro k hk9 H locs ls hz hl
      obtain rfl : 8 = k := by omega
      have hz := hz.as (show _ = wS ca a ((ktick1 (h, c)).1) ((ktick1 (h, c)).2) (rqX (h, c) z) from by rw [← ktick1_d, ← rqX_d])
      rw [← ktips_d] at hl
      refine lv_iload_n (pc := 22) hx hb dX2_tickOnce_22 rfl (lv_at hl 0 rfl) ?_
      refine lv_bipush (v := 8) (pc := 23) hx hb dX2_tickOnce_23 (by decide) ?_
      refine lv_icmp_ge (pc := 25) (tgt := 48) hx hb dX2_tickOnce_25 (by decide) (fun c_25 => ?_) (fun c9 => absurd (by decide) c9)
      refine lv_iconst (v := 0) (pc := 48) hx hb dX2_tickOnce_48 (by decide) ?_
      refine lv_istore_n (lv' := [(3, .int 0), (2, .int (ktips (h, c))), (1, .int (khour (h, c))), (0, .ref (a 0))]) (pc := 49) hx hb dX2_tickOnce_49 rfl hl (by decide) rfl (fun ls hl => ?_)
      have loop2 : ∀ cnt k : Nat, k + cnt = 8 → ∀ (H : Heap) (locs : List Loc) (ls : Array Slot), zw G ca A s0.heap s0 (wS ca a ((kit2 (ktick1 (h, c)) k).1) ((kit2 (ktick1 (h, c)) k).2) (rqX (h, c) z)) H locs → lv_has ls 4 [(3, .int (nI k)), (2, .int (ktips (h, c))), (1, .int (khour (h, c))), (0, .ref (a 0))] → W pg l ev rm_X2_tickOnce s0 mt args below meth cd H locs 0 0 Q (F0 mt 50 ls []) := by
        intro cnt
        induction cnt with
        | zero =>
          intro k hk9 H locs ls hz hl
          obtain rfl : 8 = k := by omega
          have hz := hz.as (show _ = wS ca a ((ktick2 (h, c)).1) ((ktick2 (h, c)).2) (rqX (h, c) z) from by rw [← ktick2_d])
          refine lv_iload_n (pc := 50) hx hb dX2_tickOnce_50 rfl (lv_at hl 0 rfl) ?_
          refine lv_bipush (v := 8) (pc := 51) hx hb dX2_tickOnce_51 (by decide) ?_
          refine lv_icmp_ge (pc := 53) (tgt := 80) hx hb dX2_tickOnce_53 (by decide) (fun c_53 => ?_) (fun c9 => absurd (by decide) c9)
          refine lv_aload_n (pc := 80) hx hb dX2_tickOnce_80 rfl (lv_at hl 3 rfl) ?_
          refine z_runV (pc := 81) (As := []) (rest := []) (ws1 := wS ca a ((ktick2 (h, c)).1) (shn ((ktick2 (h, c)).2) 8) (rqX (h, c) z)) ⟨hx, hb, hml, hown, hts⟩ (k_X2_shutGuarded l G ca a ((ktick2 (h, c)).1) ((ktick2 (h, c)).2) (rqX (h, c) z)) (cwV 0 hts (zgoodV zsub wq_16_4 wq_16_5 wq_16_6 wq_1_11 wq_16_7) rfl rfl rfl hdV_X2_shutGuarded ⟨Nat.le_of_ble_eq_true rfl, Nat.le_of_ble_eq_true rfl⟩) hz [] zp_all zp_all' rfl rfl rfl hl.1 (Nat.le_of_ble_eq_true rfl) (st1 := []) rfl dX2_tickOnce_81 ⟨Nat.zero_le _, Nat.zero_le _⟩ (fun H locs hz => ?_)
          have hz := hz.as (show _ = wS ca a ((ktick2 (h, c)).1) (shX (ktick2 (h, c)).2) (rqX (h, c) z) from by rw [← shX_d])
          refine lv_aload_n (pc := 84) hx hb dX2_tickOnce_84 rfl (lv_at hl 3 rfl) ?_
          refine lv_dup (pc := 85) hx hb dX2_tickOnce_85 rfl ?_
          refine z_get (own := RX2) (ref := "CupFountain$State") (C := RX2) (T := TX2) (N := 9) (ci := 2) (v := .int ((ktick2 (h, c)).1 0)) (pc := 86) hx hb hts hinX2 hown hz 0 rfl rfl 1 (by decide) L17 rfl rfl dX2_tickOnce_86 ?_
          refine lv_iconst (v := 1) (pc := 89) hx hb dX2_tickOnce_89 (by decide) ?_
          refine lv_iadd (pc := 90) hx hb dX2_tickOnce_90 ?_
          refine z_put (own := RX2) (ref := "CupFountain$State") (C := RX2) (T := TX2) (N := 9) (ci := 2) (v := .int (((ktick2 (h, c)).1 0) + 1)) (ws1 := wS ca a (upd (ktick2 (h, c)).1 0 (((ktick2 (h, c)).1 0) + 1)) (shX (ktick2 (h, c)).2) (rqX (h, c) z)) (pc := 91) hx hb hts hinX2 tyX2 tyX2_ok nmX2 hown hz 0 rfl rfl 1 (by decide) L17 rfl rfl rfl rfl (Nat.le_of_ble_eq_true rfl) rfl dX2_tickOnce_91 (fun H locs hz => ?_)
          refine lv_iload_n (pc := 94) hx hb dX2_tickOnce_94 rfl (lv_at hl 1 rfl) ?_
          exact z_iret (pc := 95) hx hb hr hlk hQ hz dX2_tickOnce_95 (by rfl) (by rfl)
        | succ cnt ih =>
          intro k hk9 H locs ls hz hl
          have hk : k < 8 := by omega
          refine lv_iload_n (pc := 50) hx hb dX2_tickOnce_50 rfl (lv_at hl 0 rfl) ?_
          refine lv_bipush (v := 8) (pc := 51) hx hb dX2_tickOnce_51 (by decide) ?_
          refine lv_icmp_ge (pc := 53) (tgt := 80) hx hb dX2_tickOnce_53 (by decide) (fun c9 => absurd c9 (nI_ge hk (by decide))) (fun c_53 => ?_)
          refine lv_aload_n (pc := 56) hx hb dX2_tickOnce_56 rfl (lv_at hl 3 rfl) ?_
          refine lv_dup (pc := 57) hx hb dX2_tickOnce_57 rfl ?_
          refine z_get (own := RX2) (ref := "CupFountain$State") (C := RX2) (T := TX2) (N := 9) (ci := 2) (v := .int ((kit2 (ktick1 (h, c)) k).1 2)) (pc := 58) hx hb hts hinX2 hown hz 0 rfl rfl 6 (by decide) L33 rfl rfl dX2_tickOnce_58 ?_
          refine lv_aload_n (pc := 61) hx hb dX2_tickOnce_61 rfl (lv_at hl 3 rfl) ?_
          refine z_get (own := RX2) (ref := "CupFountain$State") (C := RX2) (T := TX2) (N := 9) (ci := 2) (v := .ref (a 1)) (pc := 62) hx hb hts hinX2 hown hz 0 rfl rfl 0 (by decide) L11 rfl rfl dX2_tickOnce_62 ?_
          refine lv_iload_n (pc := 65) hx hb dX2_tickOnce_65 rfl (lv_at hl 0 rfl) ?_
          refine z_aald (pc := 66) hx hb hz 1 3 rfl rfl k rfl hk (by decide) rfl dX2_tickOnce_66 ?_
          refine z_runV (pc := 67) (As := []) (rest := [.int ((kit2 (ktick1 (h, c)) k).1 2), .ref (a 0)]) (ws1 := wS ca a ((kit2 (ktick1 (h, c)) k).1) (va_up ((kit2 (ktick1 (h, c)) k).2) k (upd (((kit2 (ktick1 (h, c)) k).2) k) 3 ((((kit2 (ktick1 (h, c)) k).2) k) 3 - dripR (((kit2 (ktick1 (h, c)) k).2) k)))) (rqX (h, c) z)) ⟨hx, hb, hml, hown, hts⟩ (k_X0_drip l G ca (a (2 + k)) (((kit2 (ktick1 (h, c)) k).2) k) ((rqX (h, c) z) k)) (cwV 0 hts (zgoodV zsub wq_15_11 wq_16_0 wq_16_1 wq_4_4 wq_16_2) rfl rfl rfl hdV_X0_drip ⟨Nat.le_of_ble_eq_true rfl, Nat.le_of_ble_eq_true rfl⟩) hz (wSr ca a ((kit2 (ktick1 (h, c)) k).1) ((kit2 (ktick1 (h, c)) k).2) (rqX (h, c) z) k) (wS_pm (by assumption)) (wS_pm1 (by assumption)) rfl rfl rfl hl.1 (Nat.le_of_ble_eq_true rfl) (st1 := [.int (dripR (((kit2 (ktick1 (h, c)) k).2) k)), .int ((kit2 (ktick1 (h, c)) k).1 2), .ref (a 0)]) rfl dX2_tickOnce_67 ⟨Nat.zero_le _, Nat.zero_le _⟩ (fun H locs hz => ?_)
          refine lv_iadd (pc := 70) hx hb dX2_tickOnce_70 ?_
          refine z_put (own := RX2) (ref := "CupFountain$State") (C := RX2) (T := TX2) (N := 9) (ci := 2) (v := .int (((kit2 (ktick1 (h, c)) k).1 2) + (dripR (((kit2 (ktick1 (h, c)) k).2) k)))) (ws1 := wS ca a (upd (kit2 (ktick1 (h, c)) k).1 2 (((kit2 (ktick1 (h, c)) k).1 2) + (dripR (((kit2 (ktick1 (h, c)) k).2) k)))) (va_up ((kit2 (ktick1 (h, c)) k).2) k (upd (((kit2 (ktick1 (h, c)) k).2) k) 3 ((((kit2 (ktick1 (h, c)) k).2) k) 3 - dripR (((kit2 (ktick1 (h, c)) k).2) k)))) (rqX (h, c) z)) (pc := 71) hx hb hts hinX2 tyX2 tyX2_ok nmX2 hown hz 0 rfl rfl 6 (by decide) L33 rfl rfl rfl rfl (Nat.le_of_ble_eq_true rfl) rfl dX2_tickOnce_71 (fun H locs hz => ?_)
          refine lv_iinc (v := nI (k + 1)) (lv' := [(3, .int (nI (k + 1))), (2, .int (ktips (h, c))), (1, .int (khour (h, c))), (0, .ref (a 0))]) (pc := 74) hx hb dX2_tickOnce_74 hl (k := 0) rfl (nI_add k 1) (by decide) rfl (fun ls hl => ?_)
          refine lv_goto (tgt := 50) (pc := 77) hx hb dX2_tickOnce_77 (by decide) ?_
          exact ih (k + 1) (by omega) _ _ _ (hz.as (by rw [kit2_s, up_u2])) (lv_sub hl [0, 1, 2, 3] rfl)
      exact loop2 8 0 (by omega) _ _ _ (hz.as (by rw [kit2_0])) (lv_sub hl [0, 1, 2, 3] rfl)
    | succ cnt ih =>
      intro k hk9 H locs ls hz hl
      have hk : k < 8 := by omega
      refine lv_iload_n (pc := 22) hx hb dX2_tickOnce_22 rfl (lv_at hl 0 rfl) ?_
      refine lv_bipush (v := 8) (pc := 23) hx hb dX2_tickOnce_23 (by decide) ?_
      refine lv_icmp_ge (pc := 25) (tgt := 48) hx hb dX2_tickOnce_25 (by decide) (fun c9 => absurd c9 (nI_ge hk (by decide))) (fun c_25 => ?_)
      refine lv_iload_n (pc := 28) hx hb dX2_tickOnce_28 rfl (lv_at hl 1 rfl) ?_
      refine lv_aload_n (pc := 29) hx hb dX2_tickOnce_29 rfl (lv_at hl 3 rfl) ?_
      refine lv_aload_n (pc := 30) hx hb dX2_tickOnce_30 rfl (lv_at hl 3 rfl) ?_
      refine z_get (own := RX2) (ref := "CupFountain$State") (C := RX2) (T := TX2) (N := 9) (ci := 2) (v := .ref (a 1)) (pc := 31) hx hb hts hinX2 hown hz 0 rfl rfl 0 (by decide) L11 rfl rfl dX2_tickOnce_31 ?_
      refine lv_iload_n (pc := 34) hx hb dX2_tickOnce_34 rfl (lv_at hl 0 rfl) ?_
      refine z_aald (pc := 35) hx hb hz 1 3 rfl rfl k rfl hk (by decide) rfl dX2_tickOnce_35 ?_
      refine lv_iload_n (pc := 36) hx hb dX2_tickOnce_36 rfl (lv_at hl 2 rfl) ?_
      refine z_runV (pc := 37) (As := [.ref (a (2 + k)), .int (khour (h, c))]) (rest := [.int (ktT (khour (h, c)) (kst (h, c)) k)]) (ws1 := wS ca a (ksH ((kit1 (khour (h, c)) (kst (h, c)) k).1) ((kit1 (khour (h, c)) (kst (h, c)) k).2) k) (ksC ((kit1 (khour (h, c)) (kst (h, c)) k).2) k (khour (h, c))) (upd (rqN (khour (h, c)) (kst (h, c)) z k) k (rqR (((kit1 (khour (h, c)) (kst (h, c)) k).2) k)))) ⟨hx, hb, hml, hown, hts⟩ (k_X2_tipOrKeep l G ca a ((kit1 (khour (h, c)) (kst (h, c)) k).1) ((kit1 (khour (h, c)) (kst (h, c)) k).2) (rqN (khour (h, c)) (kst (h, c)) z k) k (khour (h, c)) (by assumption) (by rw [kit1_w _ _ _ _ _ (by decide) (by decide) (by decide), kst_2]; exact (hnx k hk).1) (by rw [kit1_w _ _ _ _ _ (by decide) (by decide) (by decide), kst_2]; exact (hnx k hk).2)) (cwV 2 hts (zgoodV zsub wq_14_6 wq_14_7 wq_14_8 wq_1_11 wq_14_9) rfl rfl rfl hdV_X2_tipOrKeep ⟨Nat.le_of_ble_eq_true rfl, Nat.le_of_ble_eq_true rfl⟩) hz [] zp_all zp_all' rfl rfl rfl hl.1 (Nat.le_of_ble_eq_true rfl) (st1 := [.int (ksT ((kit1 (khour (h, c)) (kst (h, c)) k).2) k), .int (ktT (khour (h, c)) (kst (h, c)) k)]) rfl dX2_tickOnce_37 ⟨Nat.zero_le _, Nat.zero_le _⟩ (fun H locs hz => ?_)
      refine lv_iadd (pc := 40) hx hb dX2_tickOnce_40 ?_
      refine lv_istore_n (lv' := [(2, .int ((ktT (khour (h, c)) (kst (h, c)) k) + (ksT ((kit1 (khour (h, c)) (kst (h, c)) k).2) k))), (3, .int (nI k)), (1, .int (khour (h, c))), (0, .ref (a 0))]) (pc := 41) hx hb dX2_tickOnce_41 rfl hl (by decide) rfl (fun ls hl => ?_)
      refine lv_iinc (v := nI (k + 1)) (lv' := [(3, .int (nI (k + 1))), (2, .int ((ktT (khour (h, c)) (kst (h, c)) k) + (ksT ((kit1 (khour (h, c)) (kst (h, c)) k).2) k))), (1, .int (khour (h, c))), (0, .ref (a 0))]) (pc := 42) hx hb dX2_tickOnce_42 hl (k := 1) rfl (nI_add k 1) (by decide) rfl (fun ls hl => ?_)
      refine lv_goto (tgt := 22) (pc := 45) hx hb dX2_tickOnce_45 (by decide) ?_
      exact ih (k + 1) (by omega) _ _ _ (hz.as (by rw [kit1_s, rqN_s])) (lv_sub hl [0, 1, 2, 3] rfl)
  exact loop1 8 0 (by omega) _ _ _ (hz.as (by rw [kit1_0, rqN_0])) (lv_sub hl [0, 1, 2, 3] rfl)

def rm_X2_tickOn : Room := { frames := 3, cells := 0, slots := 0, locals := 70 }
set_option maxRecDepth 20000 in
theorem hdV_X2_tickOn : yX2_tickOn.cls = RX2 ∧ yX2_tickOn.cls ≠ "java/lang/invoke/MethodHandle" ∧ yX2_tickOn.cls ≠ "java/lang/invoke/VarHandle" ∧ (parseMethodDescriptor yX2_tickOn.desc).map (fun d => d.parameters.length) = some 1 := by decide +kernel
set_option maxHeartbeats 4000000 in
set_option maxRecDepth 100000 in
theorem k_X2_tickOn (l : Launch) (G : va_G) (ca : Nat → ClassId) (a : Nat → Nat) (h : Nat → Int32) (c : Nat → Nat → Int32) (z : Nat → Int32) (n : Nat) (hn : n < 1000) (hnx : nxP (h, c)) : Zc l G ca yX2_tickOn (zws yX2_tickOn cX2_tickOn 4 (some .int)) rm_X2_tickOn [.ref (a 0), .int (nI n)] (wS ca a h c z) (some (.int (kS (h, c) n))) (wS ca a ((kN (h, c) n).1) ((kN (h, c) n).2) (zTk (h, c) z n)) := by
  refine Zc.of (cc := cX2_tickOn) (maxL := 4) (ret := (some .int)) (by decide) rfl (Nat.le_of_ble_eq_true rfl) ?_
  intro pg ev s0 mt below meth cd A args Q ls hx hb hr hml hown hts hlk hQ hl hz
  have hl : lv_has ls 4 [(0, .ref (a 0)), (1, .int (nI n))] := hl
  refine lv_iconst (v := 0) (pc := 0) hx hb dX2_tickOn_0 (by decide) ?_
  refine lv_istore_n (lv' := [(2, .int 0), (0, .ref (a 0)), (1, .int (nI n))]) (pc := 1) hx hb dX2_tickOn_1 rfl hl (by decide) rfl (fun ls hl => ?_)
  refine lv_iconst (v := 0) (pc := 2) hx hb dX2_tickOn_2 (by decide) ?_
  refine lv_istore_n (lv' := [(3, .int 0), (2, .int 0), (0, .ref (a 0)), (1, .int (nI n))]) (pc := 3) hx hb dX2_tickOn_3 rfl hl (by decide) rfl (fun ls hl => ?_)
  have loop1 : ∀ cnt i : Nat, i + cnt = n → ∀ (H : Heap) (locs : List Loc) (ls : Array Slot), zw G ca A s0.heap s0 (wS ca a ((kN (h, c) i).1) ((kN (h, c) i).2) (zTk (h, c) z i)) H locs → lv_has ls 4 [(3, .int (nI i)), (2, .int (kS (h, c) i)), (0, .ref (a 0)), (1, .int (nI n))] → W pg l ev rm_X2_tickOn s0 mt args below meth cd H locs 0 0 Q (F0 mt 4 ls []) := by
    intro cnt
    induction cnt with
    | zero =>
      intro i hk9 H locs ls hz hl
      obtain rfl : n = i := by omega
      refine lv_iload_n (pc := 4) hx hb dX2_tickOn_4 rfl (lv_at hl 0 rfl) ?_
      refine lv_iload_n (pc := 5) hx hb dX2_tickOn_5 rfl (lv_at hl 3 rfl) ?_
      refine lv_icmp_ge (pc := 6) (tgt := 22) hx hb dX2_tickOn_6 (by decide) (fun c_6 => ?_) (fun c9 => absurd (nI_le (Nat.le_refl _) (by omega)) c9)
      refine lv_iload_n (pc := 22) hx hb dX2_tickOn_22 rfl (lv_at hl 1 rfl) ?_
      exact z_iret (pc := 23) hx hb hr hlk hQ hz dX2_tickOn_23 (by rfl) (by rfl)
    | succ cnt ih =>
      intro i hk9 H locs ls hz hl
      have hk : i < n := by omega
      refine lv_iload_n (pc := 4) hx hb dX2_tickOn_4 rfl (lv_at hl 0 rfl) ?_
      refine lv_iload_n (pc := 5) hx hb dX2_tickOn_5 rfl (lv_at hl 3 rfl) ?_
      refine lv_icmp_ge (pc := 6) (tgt := 22) hx hb dX2_tickOn_6 (by decide) (fun c9 => absurd c9 (nI_ge hk (by omega))) (fun c_6 => ?_)
      refine lv_iload_n (pc := 9) hx hb dX2_tickOn_9 rfl (lv_at hl 1 rfl) ?_
      refine lv_aload_n (pc := 10) hx hb dX2_tickOn_10 rfl (lv_at hl 2 rfl) ?_
      refine z_runV (pc := 11) (As := []) (rest := [.int (kS (h, c) i)]) (ws1 := wS ca a ((kN (h, c) (i + 1)).1) ((kN (h, c) (i + 1)).2) (rqX (kN (h, c) i) (zTk (h, c) z i))) ⟨hx, hb, hml, hown, hts⟩ (k_X2_tickOnce l G ca a ((kN (h, c) i).1) ((kN (h, c) i).2) (zTk (h, c) z i) (hnx.ticks i)) (cwV 0 hts (zgoodV zsub wq_12_10 wq_12_11 wq_13_0 wq_1_11 wq_13_1) rfl rfl rfl hdV_X2_tickOnce ⟨Nat.le_of_ble_eq_true rfl, Nat.le_of_ble_eq_true rfl⟩) hz [] zp_all (by rw [List.append_nil]; exact List.Perm.refl _) rfl rfl rfl hl.1 (Nat.le_of_ble_eq_true rfl) (st1 := [.int (ktips (kN (h, c) i)), .int (kS (h, c) i)]) rfl dX2_tickOn_11 ⟨Nat.zero_le _, Nat.zero_le _⟩ (fun H locs hz => ?_)
      refine lv_iadd (pc := 14) hx hb dX2_tickOn_14 ?_
      refine lv_istore_n (lv' := [(2, .int ((kS (h, c) i) + (ktips (kN (h, c) i)))), (3, .int (nI i)), (0, .ref (a 0)), (1, .int (nI n))]) (pc := 15) hx hb dX2_tickOn_15 rfl hl (by decide) rfl (fun ls hl => ?_)
      refine lv_iinc (v := nI (i + 1)) (lv' := [(3, .int (nI (i + 1))), (2, .int ((kS (h, c) i) + (ktips (kN (h, c) i)))), (0, .ref (a 0)), (1, .int (nI n))]) (pc := 16) hx hb dX2_tickOn_16 hl (k := 1) rfl (nI_add i 1) (by decide) rfl (fun ls hl => ?_)
      refine lv_goto (tgt := 4) (pc := 19) hx hb dX2_tickOn_19 (by decide) ?_
      exact ih (i + 1) (by omega) _ _ _ hz (lv_sub hl [0, 1, 2, 3] rfl)
  exact loop1 n 0 (by omega) _ _ _ (hz.as (by rfl)) (lv_sub hl [0, 1, 2, 3] rfl)

def rm_X2_letPass : Room := { frames := 4, cells := 0, slots := 0, locals := 93 }
set_option maxRecDepth 20000 in
theorem hdV_X2_letPass : yX2_letPass.cls = RX2 ∧ yX2_letPass.cls ≠ "java/lang/invoke/MethodHandle" ∧ yX2_letPass.cls ≠ "java/lang/invoke/VarHandle" ∧ (parseMethodDescriptor yX2_letPass.desc).map (fun d => d.parameters.length) = some 1 := by decide +kernel
set_option maxHeartbeats 4000000 in
set_option maxRecDepth 100000 in
theorem k_X2_letPass (l : Launch) (G : va_G) (ca : Nat → ClassId) (a : Nat → Nat) (h : Nat → Int32) (c : Nat → Nat → Int32) (z : Nat → Int32) (ticks : Int32) (hnx : nxP (h, c)) : Zc l G ca yX2_letPass (zws yX2_letPass cX2_letPass 2 (some .int)) rm_X2_letPass [.ref (a 0), .int ticks] (wS ca a h c z) (some (.int (kpassR (h, c) ticks))) (wS ca a ((kN (h, c) (passN (h, c) ticks)).1) ((kN (h, c) (passN (h, c) ticks)).2) (zTk (h, c) z (passN (h, c) ticks))) := by
  refine Zc.of (cc := cX2_letPass) (maxL := 2) (ret := (some .int)) (by decide) rfl (Nat.le_of_ble_eq_true rfl) ?_
  intro pg ev s0 mt below meth cd A args Q ls hx hb hr hml hown hts hlk hQ hl hz
  have L17 : (Cond.fieldLink RX2 17 "CupFountain$State" "tick" "I").before args s0 = true := hts _ (zsub _ wq_3_7)
  have hinX2 : ∀ w ∈ wsX20, w ∈ zws yX2_letPass cX2_letPass 2 (some .int) := fun w h => zsub w (wl_wsX20 w h)
  have hl : lv_has ls 2 [(0, .ref (a 0)), (1, .int ticks)] := hl
  refine lv_iload_n (pc := 0) hx hb dX2_letPass_0 rfl (lv_at hl 1 rfl) ?_
  refine lv_iconst (v := 1) (pc := 1) hx hb dX2_letPass_1 (by decide) ?_
  refine lv_bipush (v := 99) (pc := 2) hx hb dX2_letPass_2 (by decide) ?_
  refine z_runSN (pc := 4) (As := [.int ticks, .int 1, .int 99]) (rest := []) (ws1 := wS ca a h c z) ⟨hx, hb, hml, hown, hts⟩ (k_X3_isWithin l G ca ticks 1 99) ⟨va_cnB 3 hts (zgood0 zsub wq_17_10) rfl rfl rfl hz.1.2.2.2.1 (hts _ (zsub _ wq_1_2)) hdN_X3_isWithin ⟨Nat.le_of_ble_eq_true rfl, Nat.le_of_ble_eq_true rfl⟩, hts _ (zsub _ wq_17_9), trivial⟩ hz (wS ca a h c z) zp_no (List.Perm.refl _) rfl hl.1 (Nat.le_of_ble_eq_true rfl) (st1 := [.int (inF ticks 1 99)]) rfl dX2_letPass_4 ⟨Nat.zero_le _, Nat.zero_le _⟩ (fun H locs hz => ?_)
  refine lv_if_ne (pc := 7) (tgt := 13) hx hb dX2_letPass_7 (by decide) (fun c_7 => ?_) (fun c_7 => ?_)
  · obtain ⟨n, hn, rfl⟩ := i32_nI (n := 99) (Or.inr rfl) rfl (by decide) (inF_ne c_7)
    have hnk : nn (nI n) = n := nn_nI (by omega)
    refine lv_aload_n (pc := 13) hx hb dX2_letPass_13 rfl (lv_at hl 0 rfl) ?_
    refine z_get (own := RX2) (ref := "CupFountain$State") (C := RX2) (T := TX2) (N := 9) (ci := 2) (v := .int (h 0)) (pc := 14) hx hb hts hinX2 hown hz 0 rfl rfl 1 (by decide) L17 rfl rfl dX2_letPass_14 ?_
    refine lv_iload_n (pc := 17) hx hb dX2_letPass_17 rfl (lv_at hl 1 rfl) ?_
    refine lv_iadd (pc := 18) hx hb dX2_letPass_18 ?_
    refine lv_ldc (own := RX2) (v := 99999) (pc := 19) hx hb hown (hts _ (zsub _ wq_18_8)) dX2_letPass_19 ?_
    refine lv_icmp_le (pc := 21) (tgt := 27) hx hb dX2_letPass_21 (by decide) (fun c_21 => ?_) (fun c_21 => ?_)
    · refine lv_aload_n (pc := 27) hx hb dX2_letPass_27 rfl (lv_at hl 0 rfl) ?_
      refine lv_iload_n (pc := 28) hx hb dX2_letPass_28 rfl (lv_at hl 1 rfl) ?_
      refine z_runV (pc := 29) (As := [.int (nI n)]) (rest := []) (ws1 := wS ca a ((kN (h, c) n).1) ((kN (h, c) n).2) (zTk (h, c) z n)) ⟨hx, hb, hml, hown, hts⟩ (k_X2_tickOn l G ca a h c z n (by omega) hnx) (cwV 1 hts (zgoodV zsub wq_18_9 wq_12_7 wq_12_8 wq_1_11 wq_12_9) rfl rfl rfl hdV_X2_tickOn ⟨Nat.le_of_ble_eq_true rfl, Nat.le_of_ble_eq_true rfl⟩) hz [] zp_all zp_all' rfl rfl rfl hl.1 (Nat.le_of_ble_eq_true rfl) (st1 := [.int (kS (h, c) n)]) rfl dX2_letPass_29 ⟨Nat.zero_le _, Nat.zero_le _⟩ (fun H locs hz => ?_)
      exact z_iret (pc := 32) hx hb hr hlk hQ hz dX2_letPass_32 (by simp only [kpassR, if_neg c_7, if_pos c_21, hnk]) (by simp only [passN, kN, zTk, if_neg c_7, if_pos c_21, hnk])
    · refine lv_bipush (v := -3) (pc := 24) hx hb dX2_letPass_24 (by decide) ?_
      exact z_iret (pc := 26) hx hb hr hlk hQ hz dX2_letPass_26 (by simp only [kpassR, if_neg c_7, if_neg c_21, hnk]) (by simp only [passN, kN, zTk, if_neg c_7, if_neg c_21, hnk])
  · refine lv_bipush (v := -2) (pc := 10) hx hb dX2_letPass_10 (by decide) ?_
    exact z_iret (pc := 12) hx hb hr hlk hQ hz dX2_letPass_12 (by simp only [kpassR, if_pos c_7]) (by simp only [passN, kN, zTk, if_pos c_7])

def rm_X2_sumOf : Room := { frames := 2, cells := 0, slots := 0, locals := 41 }
set_option maxRecDepth 20000 in
theorem hdV_X2_sumOf : yX2_sumOf.cls = RX2 ∧ yX2_sumOf.cls ≠ "java/lang/invoke/MethodHandle" ∧ yX2_sumOf.cls ≠ "java/lang/invoke/VarHandle" ∧ (parseMethodDescriptor yX2_sumOf.desc).map (fun d => d.parameters.length) = some 1 := by decide +kernel
set_option maxHeartbeats 4000000 in
set_option maxRecDepth 100000 in
theorem k_X2_sumOf (l : Launch) (G : va_G) (ca : Nat → ClassId) (a : Nat → Nat) (h : Nat → Int32) (c : Nat → Nat → Int32) (z : Nat → Int32) (x : Int32) (hbb : ∀ k, k < 8 → b01 (c k 5) ∧ b01 (c k 6)) : Zc l G ca yX2_sumOf (zws yX2_sumOf cX2_sumOf 4 (some .int)) rm_X2_sumOf [.ref (a 0), .int x] (wS ca a h c z) (some (.int (tsF c x 8))) (wS ca a h c z) := by
  refine Zc.of (cc := cX2_sumOf) (maxL := 4) (ret := (some .int)) (by decide) rfl (Nat.le_of_ble_eq_true rfl) ?_
  intro pg ev s0 mt below meth cd A args Q ls hx hb hr hml hown hts hlk hQ hl hz
  have L11 : (Cond.fieldLink RX2 11 "CupFountain$State" "cups" "[LCupFountain$Cup;").before args s0 = true := hts _ (zsub _ wq_3_6)
  have hinX2 : ∀ w ∈ wsX20, w ∈ zws yX2_sumOf cX2_sumOf 4 (some .int) := fun w h => zsub w (wl_wsX20 w h)
  have hl : lv_has ls 4 [(0, .ref (a 0)), (1, .int x)] := hl
  refine lv_iconst (v := 0) (pc := 0) hx hb dX2_sumOf_0 (by decide) ?_
  refine lv_istore_n (lv' := [(2, .int 0), (0, .ref (a 0)), (1, .int x)]) (pc := 1) hx hb dX2_sumOf_1 rfl hl (by decide) rfl (fun ls hl => ?_)
  refine lv_iconst (v := 0) (pc := 2) hx hb dX2_sumOf_2 (by decide) ?_
  refine lv_istore_n (lv' := [(3, .int 0), (2, .int 0), (0, .ref (a 0)), (1, .int x)]) (pc := 3) hx hb dX2_sumOf_3 rfl hl (by decide) rfl (fun ls hl => ?_)
  have loop1 : ∀ cnt k : Nat, k + cnt = 8 → ∀ (H : Heap) (locs : List Loc) (ls : Array Slot), zw G ca A s0.heap s0 (wS ca a h c z) H locs → lv_has ls 4 [(3, .int (nI k)), (2, .int (tsF c x k)), (0, .ref (a 0)), (1, .int x)] → W pg l ev rm_X2_sumOf s0 mt args below meth cd H locs 0 0 Q (F0 mt 4 ls []) := by
    intro cnt
    induction cnt with
    | zero =>
      intro k hk9 H locs ls hz hl
      obtain rfl : 8 = k := by omega
      refine lv_iload_n (pc := 4) hx hb dX2_sumOf_4 rfl (lv_at hl 0 rfl) ?_
      refine lv_bipush (v := 8) (pc := 5) hx hb dX2_sumOf_5 (by decide) ?_
      refine lv_icmp_ge (pc := 7) (tgt := 29) hx hb dX2_sumOf_7 (by decide) (fun c_7 => ?_) (fun c9 => absurd (by decide) c9)
      refine lv_iload_n (pc := 29) hx hb dX2_sumOf_29 rfl (lv_at hl 1 rfl) ?_
      exact z_iret (pc := 30) hx hb hr hlk hQ hz dX2_sumOf_30 (by rfl) (by rfl)
    | succ cnt ih =>
      intro k hk9 H locs ls hz hl
      have hk : k < 8 := by omega
      refine lv_iload_n (pc := 4) hx hb dX2_sumOf_4 rfl (lv_at hl 0 rfl) ?_
      refine lv_bipush (v := 8) (pc := 5) hx hb dX2_sumOf_5 (by decide) ?_
      refine lv_icmp_ge (pc := 7) (tgt := 29) hx hb dX2_sumOf_7 (by decide) (fun c9 => absurd c9 (nI_ge hk (by decide))) (fun c_7 => ?_)
      refine lv_iload_n (pc := 10) hx hb dX2_sumOf_10 rfl (lv_at hl 1 rfl) ?_
      refine lv_aload_n (pc := 11) hx hb dX2_sumOf_11 rfl (lv_at hl 2 rfl) ?_
      refine z_get (own := RX2) (ref := "CupFountain$State") (C := RX2) (T := TX2) (N := 9) (ci := 2) (v := .ref (a 1)) (pc := 12) hx hb hts hinX2 hown hz 0 rfl rfl 0 (by decide) L11 rfl rfl dX2_sumOf_12 ?_
      refine lv_iload_n (pc := 15) hx hb dX2_sumOf_15 rfl (lv_at hl 0 rfl) ?_
      refine z_aald (pc := 16) hx hb hz 1 3 rfl rfl k rfl hk (by decide) rfl dX2_sumOf_16 ?_
      refine lv_iload_n (pc := 17) hx hb dX2_sumOf_17 rfl (lv_at hl 3 rfl) ?_
      refine z_runV (pc := 18) (As := [.int x]) (rest := [.int (tsF c x k)]) (ws1 := wS ca a h c z) ⟨hx, hb, hml, hown, hts⟩ (k_X0_tell l G ca (a (2 + k)) (c k) (z k) x (hbb k hk).1 (hbb k hk).2) (cwV 1 hts (zgoodV zsub wq_10_4 wq_8_4 wq_8_5 wq_4_4 wq_8_6) rfl rfl rfl hdV_X0_tell ⟨Nat.le_of_ble_eq_true rfl, Nat.le_of_ble_eq_true rfl⟩) hz (wSr ca a h c z k) (wS_pm (by assumption)) ((wS_pm (by assumption)).symm) rfl rfl rfl hl.1 (Nat.le_of_ble_eq_true rfl) (st1 := [.int (tellR (c k) x), .int (tsF c x k)]) rfl dX2_sumOf_18 ⟨Nat.zero_le _, Nat.zero_le _⟩ (fun H locs hz => ?_)
      refine lv_iadd (pc := 21) hx hb dX2_sumOf_21 ?_
      refine lv_istore_n (lv' := [(2, .int ((tsF c x k) + (tellR (c k) x))), (3, .int (nI k)), (0, .ref (a 0)), (1, .int x)]) (pc := 22) hx hb dX2_sumOf_22 rfl hl (by decide) rfl (fun ls hl => ?_)
      refine lv_iinc (v := nI (k + 1)) (lv' := [(3, .int (nI (k + 1))), (2, .int ((tsF c x k) + (tellR (c k) x))), (0, .ref (a 0)), (1, .int x)]) (pc := 23) hx hb dX2_sumOf_23 hl (k := 1) rfl (nI_add k 1) (by decide) rfl (fun ls hl => ?_)
      refine lv_goto (tgt := 4) (pc := 26) hx hb dX2_sumOf_26 (by decide) ?_
      exact ih (k + 1) (by omega) _ _ _ hz (lv_sub hl [0, 1, 2, 3] rfl)
  exact loop1 8 0 (by omega) _ _ _ hz (lv_sub hl [0, 1, 2, 3] rfl)

def rm_X2_sumFull : Room := { frames := 1, cells := 0, slots := 0, locals := 20 }
set_option maxRecDepth 20000 in
theorem hdV_X2_sumFull : yX2_sumFull.cls = RX2 ∧ yX2_sumFull.cls ≠ "java/lang/invoke/MethodHandle" ∧ yX2_sumFull.cls ≠ "java/lang/invoke/VarHandle" ∧ (parseMethodDescriptor yX2_sumFull.desc).map (fun d => d.parameters.length) = some 0 := by decide +kernel
set_option maxHeartbeats 4000000 in
set_option maxRecDepth 100000 in
theorem k_X2_sumFull (l : Launch) (G : va_G) (ca : Nat → ClassId) (a : Nat → Nat) (h : Nat → Int32) (c : Nat → Nat → Int32) (z : Nat → Int32) : Zc l G ca yX2_sumFull (zws yX2_sumFull cX2_sumFull 3 (some .int)) rm_X2_sumFull [.ref (a 0)] (wS ca a h c z) (some (.int (tfF c 8))) (wS ca a h c z) := by
  refine Zc.of (cc := cX2_sumFull) (maxL := 3) (ret := (some .int)) (by decide) rfl (Nat.le_of_ble_eq_true rfl) ?_
  intro pg ev s0 mt below meth cd A args Q ls hx hb hr hml hown hts hlk hQ hl hz
  have L11 : (Cond.fieldLink RX2 11 "CupFountain$State" "cups" "[LCupFountain$Cup;").before args s0 = true := hts _ (zsub _ wq_3_6)
  have hinX2 : ∀ w ∈ wsX20, w ∈ zws yX2_sumFull cX2_sumFull 3 (some .int) := fun w h => zsub w (wl_wsX20 w h)
  have hl : lv_has ls 3 [(0, .ref (a 0))] := hl
  refine lv_iconst (v := 0) (pc := 0) hx hb dX2_sumFull_0 (by decide) ?_
  refine lv_istore_n (lv' := [(1, .int 0), (0, .ref (a 0))]) (pc := 1) hx hb dX2_sumFull_1 rfl hl (by decide) rfl (fun ls hl => ?_)
  refine lv_iconst (v := 0) (pc := 2) hx hb dX2_sumFull_2 (by decide) ?_
  refine lv_istore_n (lv' := [(2, .int 0), (1, .int 0), (0, .ref (a 0))]) (pc := 3) hx hb dX2_sumFull_3 rfl hl (by decide) rfl (fun ls hl => ?_)
  have loop1 : ∀ cnt k : Nat, k + cnt = 8 → ∀ (H : Heap) (locs : List Loc) (ls : Array Slot), zw G ca A s0.heap s0 (wS ca a h c z) H locs → lv_has ls 3 [(2, .int (nI k)), (1, .int (tfF c k)), (0, .ref (a 0))] → W pg l ev rm_X2_sumFull s0 mt args below meth cd H locs 0 0 Q (F0 mt 4 ls []) := by
    intro cnt
    induction cnt with
    | zero =>
      intro k hk9 H locs ls hz hl
      obtain rfl : 8 = k := by omega
      refine lv_iload_n (pc := 4) hx hb dX2_sumFull_4 rfl (lv_at hl 0 rfl) ?_
      refine lv_bipush (v := 8) (pc := 5) hx hb dX2_sumFull_5 (by decide) ?_
      refine lv_icmp_ge (pc := 7) (tgt := 31) hx hb dX2_sumFull_7 (by decide) (fun c_7 => ?_) (fun c9 => absurd (by decide) c9)
      refine lv_iload_n (pc := 31) hx hb dX2_sumFull_31 rfl (lv_at hl 1 rfl) ?_
      exact z_iret (pc := 32) hx hb hr hlk hQ hz dX2_sumFull_32 (by rfl) (by rfl)
    | succ cnt ih =>
      intro k hk9 H locs ls hz hl
      have hk : k < 8 := by omega
      refine lv_iload_n (pc := 4) hx hb dX2_sumFull_4 rfl (lv_at hl 0 rfl) ?_
      refine lv_bipush (v := 8) (pc := 5) hx hb dX2_sumFull_5 (by decide) ?_
      refine lv_icmp_ge (pc := 7) (tgt := 31) hx hb dX2_sumFull_7 (by decide) (fun c9 => absurd c9 (nI_ge hk (by decide))) (fun c_7 => ?_)
      refine lv_iload_n (pc := 10) hx hb dX2_sumFull_10 rfl (lv_at hl 1 rfl) ?_
      refine lv_aload_n (pc := 11) hx hb dX2_sumFull_11 rfl (lv_at hl 2 rfl) ?_
      refine z_get (own := RX2) (ref := "CupFountain$State") (C := RX2) (T := TX2) (N := 9) (ci := 2) (v := .ref (a 1)) (pc := 12) hx hb hts hinX2 hown hz 0 rfl rfl 0 (by decide) L11 rfl rfl dX2_sumFull_12 ?_
      refine lv_iload_n (pc := 15) hx hb dX2_sumFull_15 rfl (lv_at hl 0 rfl) ?_
      refine z_aald (pc := 16) hx hb hz 1 3 rfl rfl k rfl hk (by decide) rfl dX2_sumFull_16 ?_
      refine z_runV (pc := 17) (As := []) (rest := [.int (tfF c k)]) (ws1 := wS ca a h c z) ⟨hx, hb, hml, hown, hts⟩ (k_X0_isFull l G ca (a (2 + k)) (c k) (z k)) (cwV 0 hts (zgoodV zsub wq_10_9 wq_10_10 wq_10_11 wq_4_4 wq_11_0) rfl rfl rfl hdV_X0_isFull ⟨Nat.le_of_ble_eq_true rfl, Nat.le_of_ble_eq_true rfl⟩) hz (wSr ca a h c z k) (wS_pm (by assumption)) ((wS_pm (by assumption)).symm) rfl rfl rfl hl.1 (Nat.le_of_ble_eq_true rfl) (st1 := [.int (fullR (c k)), .int (tfF c k)]) rfl dX2_sumFull_17 ⟨Nat.zero_le _, Nat.zero_le _⟩ (fun H locs hz => ?_)
      refine z_runSN (pc := 20) (As := [.int (fullR (c k))]) (rest := [.int (tfF c k)]) (ws1 := wS ca a h c z) ⟨hx, hb, hml, hown, hts⟩ (k_X3_asNumber l G ca (fullR (c k))) ⟨va_cnB 1 hts (zgood0 zsub wq_8_8) rfl rfl rfl hz.1.2.2.2.2.1 (hts _ (zsub _ wq_1_2)) hdN_X3_asNumber ⟨Nat.le_of_ble_eq_true rfl, Nat.le_of_ble_eq_true rfl⟩, hts _ (zsub _ wq_8_7), trivial⟩ hz (wS ca a h c z) zp_no (List.Perm.refl _) rfl hl.1 (Nat.le_of_ble_eq_true rfl) (st1 := [.int (numF (fullR (c k))), .int (tfF c k)]) rfl dX2_sumFull_20 ⟨Nat.zero_le _, Nat.zero_le _⟩ (fun H locs hz => ?_)
      refine lv_iadd (pc := 23) hx hb dX2_sumFull_23 ?_
      refine lv_istore_n (lv' := [(1, .int ((tfF c k) + (numF (fullR (c k))))), (2, .int (nI k)), (0, .ref (a 0))]) (pc := 24) hx hb dX2_sumFull_24 rfl hl (by decide) rfl (fun ls hl => ?_)
      refine lv_iinc (v := nI (k + 1)) (lv' := [(2, .int (nI (k + 1))), (1, .int ((tfF c k) + (numF (fullR (c k))))), (0, .ref (a 0))]) (pc := 25) hx hb dX2_sumFull_25 hl (k := 1) rfl (nI_add k 1) (by decide) rfl (fun ls hl => ?_)
      refine lv_goto (tgt := 4) (pc := 28) hx hb dX2_sumFull_28 (by decide) ?_
      exact ih (k + 1) (by omega) _ _ _ hz (lv_sub hl [0, 1, 2] rfl)
  exact loop1 8 0 (by omega) _ _ _ hz (lv_sub hl [0, 1, 2] rfl)

def rm_X2_tell : Room := { frames := 3, cells := 0, slots := 0, locals := 64 }
set_option maxRecDepth 20000 in
theorem hdV_X2_tell : yX2_tell.cls = RX2 ∧ yX2_tell.cls ≠ "java/lang/invoke/MethodHandle" ∧ yX2_tell.cls ≠ "java/lang/invoke/VarHandle" ∧ (parseMethodDescriptor yX2_tell.desc).map (fun d => d.parameters.length) = some 1 := by decide +kernel
set_option maxHeartbeats 4000000 in
set_option maxRecDepth 100000 in
theorem k_X2_tell (l : Launch) (G : va_G) (ca : Nat → ClassId) (a : Nat → Nat) (h : Nat → Int32) (c : Nat → Nat → Int32) (z : Nat → Int32) (x : Int32) (hbb : ∀ k, k < 8 → b01 (c k 5) ∧ b01 (c k 6)) : Zc l G ca yX2_tell (zws yX2_tell cX2_tell 2 (some .int)) rm_X2_tell [.ref (a 0), .int x] (wS ca a h c z) (some (.int (stellR (h, c) x))) (wS ca a h c z) := by
  refine Zc.of (cc := cX2_tell) (maxL := 2) (ret := (some .int)) (by decide) rfl (Nat.le_of_ble_eq_true rfl) ?_
  intro pg ev s0 mt below meth cd A args Q ls hx hb hr hml hown hts hlk hQ hl hz
  have L17 : (Cond.fieldLink RX2 17 "CupFountain$State" "tick" "I").before args s0 = true := hts _ (zsub _ wq_3_7)
  have L30 : (Cond.fieldLink RX2 30 "CupFountain$State" "basin" "I").before args s0 = true := hts _ (zsub _ wq_3_11)
  have L33 : (Cond.fieldLink RX2 33 "CupFountain$State" "lost" "I").before args s0 = true := hts _ (zsub _ wq_4_0)
  have L36 : (Cond.fieldLink RX2 36 "CupFountain$State" "sprung" "I").before args s0 = true := hts _ (zsub _ wq_4_1)
  have L39 : (Cond.fieldLink RX2 39 "CupFountain$State" "filled" "I").before args s0 = true := hts _ (zsub _ wq_4_2)
  have hinX2 : ∀ w ∈ wsX20, w ∈ zws yX2_tell cX2_tell 2 (some .int) := fun w h => zsub w (wl_wsX20 w h)
  have hl : lv_has ls 2 [(0, .ref (a 0)), (1, .int x)] := hl
  refine lv_iload_n (pc := 0) hx hb dX2_tell_0 rfl (lv_at hl 1 rfl) ?_
  rcases sw13 x with hs | rfl | rfl | rfl | rfl | rfl | rfl | rfl | rfl | rfl | rfl | rfl | rfl | rfl
  · refine lv_tableOut (tgt := 136) (pc := 1) hx hb dX2_tell_1 (inF_out hs) (by decide) ?_
    refine lv_bipush (v := -2) (pc := 136) hx hb dX2_tell_136 (by decide) ?_
    exact z_iret (pc := 138) hx hb hr hlk hQ hz dX2_tell_138 (by simp only [stellR, if_pos hs]) (by rfl)
  · refine lv_tableIn (off := 67) (tgt := 68) (pc := 1) hx hb dX2_tell_1 (by decide) (by decide) (by decide) (by decide) ?_
    refine lv_aload_n (pc := 68) hx hb dX2_tell_68 rfl (lv_at hl 0 rfl) ?_
    refine z_get (own := RX2) (ref := "CupFountain$State") (C := RX2) (T := TX2) (N := 9) (ci := 2) (v := .int (h 0)) (pc := 69) hx hb hts hinX2 hown hz 0 rfl rfl 1 (by decide) L17 rfl rfl dX2_tell_69 ?_
    exact z_iret (pc := 72) hx hb hr hlk hQ hz dX2_tell_72 (by rfl) (by rfl)
  · refine lv_tableIn (off := 72) (tgt := 73) (pc := 1) hx hb dX2_tell_1 (by decide) (by decide) (by decide) (by decide) ?_
    refine lv_aload_n (pc := 73) hx hb dX2_tell_73 rfl (lv_at hl 0 rfl) ?_
    refine lv_aload_n (pc := 74) hx hb dX2_tell_74 rfl (lv_at hl 0 rfl) ?_
    refine z_get (own := RX2) (ref := "CupFountain$State") (C := RX2) (T := TX2) (N := 9) (ci := 2) (v := .int (h 0)) (pc := 75) hx hb hts hinX2 hown hz 0 rfl rfl 1 (by decide) L17 rfl rfl dX2_tell_75 ?_
    refine z_runV (pc := 78) (As := [.int (h 0)]) (rest := []) (ws1 := wS ca a h c z) ⟨hx, hb, hml, hown, hts⟩ (k_X2_hourOf l G ca a h c z (h 0)) (cwV 1 hts (zgoodV zsub wq_9_8 wq_9_9 wq_9_10 wq_1_11 wq_9_11) rfl rfl rfl hdV_X2_hourOf ⟨Nat.le_of_ble_eq_true rfl, Nat.le_of_ble_eq_true rfl⟩) hz [] zp_all zp_all' rfl rfl rfl hl.1 (Nat.le_of_ble_eq_true rfl) (st1 := [.int (hoR h (h 0))]) rfl dX2_tell_78 ⟨Nat.zero_le _, Nat.zero_le _⟩ (fun H locs hz => ?_)
    exact z_iret (pc := 81) hx hb hr hlk hQ hz dX2_tell_81 (by rfl) (by rfl)
  · refine lv_tableIn (off := 81) (tgt := 82) (pc := 1) hx hb dX2_tell_1 (by decide) (by decide) (by decide) (by decide) ?_
    refine lv_aload_n (pc := 82) hx hb dX2_tell_82 rfl (lv_at hl 0 rfl) ?_
    refine lv_iconst (v := 3) (pc := 83) hx hb dX2_tell_83 (by decide) ?_
    refine z_runV (pc := 84) (As := [.int 3]) (rest := []) (ws1 := wS ca a h c z) ⟨hx, hb, hml, hown, hts⟩ (k_X2_sumOf l G ca a h c z 3 hbb) (cwV 1 hts (zgoodV zsub wq_10_0 wq_10_1 wq_10_2 wq_1_11 wq_10_3) rfl rfl rfl hdV_X2_sumOf ⟨Nat.le_of_ble_eq_true rfl, Nat.le_of_ble_eq_true rfl⟩) hz [] zp_all zp_all' rfl rfl rfl hl.1 (Nat.le_of_ble_eq_true rfl) (st1 := [.int (tsF c 3 8)]) rfl dX2_tell_84 ⟨Nat.zero_le _, Nat.zero_le _⟩ (fun H locs hz => ?_)
    exact z_iret (pc := 87) hx hb hr hlk hQ hz dX2_tell_87 (by rfl) (by rfl)
  · refine lv_tableIn (off := 87) (tgt := 88) (pc := 1) hx hb dX2_tell_1 (by decide) (by decide) (by decide) (by decide) ?_
    refine lv_aload_n (pc := 88) hx hb dX2_tell_88 rfl (lv_at hl 0 rfl) ?_
    refine z_get (own := RX2) (ref := "CupFountain$State") (C := RX2) (T := TX2) (N := 9) (ci := 2) (v := .int (h 1)) (pc := 89) hx hb hts hinX2 hown hz 0 rfl rfl 5 (by decide) L30 rfl rfl dX2_tell_89 ?_
    exact z_iret (pc := 92) hx hb hr hlk hQ hz dX2_tell_92 (by rfl) (by rfl)
  · refine lv_tableIn (off := 92) (tgt := 93) (pc := 1) hx hb dX2_tell_1 (by decide) (by decide) (by decide) (by decide) ?_
    refine lv_aload_n (pc := 93) hx hb dX2_tell_93 rfl (lv_at hl 0 rfl) ?_
    refine z_get (own := RX2) (ref := "CupFountain$State") (C := RX2) (T := TX2) (N := 9) (ci := 2) (v := .int (h 2)) (pc := 94) hx hb hts hinX2 hown hz 0 rfl rfl 6 (by decide) L33 rfl rfl dX2_tell_94 ?_
    exact z_iret (pc := 97) hx hb hr hlk hQ hz dX2_tell_97 (by rfl) (by rfl)
  · refine lv_tableIn (off := 97) (tgt := 98) (pc := 1) hx hb dX2_tell_1 (by decide) (by decide) (by decide) (by decide) ?_
    refine lv_aload_n (pc := 98) hx hb dX2_tell_98 rfl (lv_at hl 0 rfl) ?_
    refine z_get (own := RX2) (ref := "CupFountain$State") (C := RX2) (T := TX2) (N := 9) (ci := 2) (v := .int (h 3)) (pc := 99) hx hb hts hinX2 hown hz 0 rfl rfl 7 (by decide) L36 rfl rfl dX2_tell_99 ?_
    exact z_iret (pc := 102) hx hb hr hlk hQ hz dX2_tell_102 (by rfl) (by rfl)
  · refine lv_tableIn (off := 102) (tgt := 103) (pc := 1) hx hb dX2_tell_1 (by decide) (by decide) (by decide) (by decide) ?_
    refine lv_aload_n (pc := 103) hx hb dX2_tell_103 rfl (lv_at hl 0 rfl) ?_
    refine z_get (own := RX2) (ref := "CupFountain$State") (C := RX2) (T := TX2) (N := 9) (ci := 2) (v := .int (h 4)) (pc := 104) hx hb hts hinX2 hown hz 0 rfl rfl 8 (by decide) L39 rfl rfl dX2_tell_104 ?_
    exact z_iret (pc := 107) hx hb hr hlk hQ hz dX2_tell_107 (by rfl) (by rfl)
  · refine lv_tableIn (off := 107) (tgt := 108) (pc := 1) hx hb dX2_tell_1 (by decide) (by decide) (by decide) (by decide) ?_
    refine lv_aload_n (pc := 108) hx hb dX2_tell_108 rfl (lv_at hl 0 rfl) ?_
    refine lv_bipush (v := 8) (pc := 109) hx hb dX2_tell_109 (by decide) ?_
    refine z_runV (pc := 111) (As := [.int 8]) (rest := []) (ws1 := wS ca a h c z) ⟨hx, hb, hml, hown, hts⟩ (k_X2_sumOf l G ca a h c z 8 hbb) (cwV 1 hts (zgoodV zsub wq_10_0 wq_10_1 wq_10_2 wq_1_11 wq_10_3) rfl rfl rfl hdV_X2_sumOf ⟨Nat.le_of_ble_eq_true rfl, Nat.le_of_ble_eq_true rfl⟩) hz [] zp_all zp_all' rfl rfl rfl hl.1 (Nat.le_of_ble_eq_true rfl) (st1 := [.int (tsF c 8 8)]) rfl dX2_tell_111 ⟨Nat.zero_le _, Nat.zero_le _⟩ (fun H locs hz => ?_)
    exact z_iret (pc := 114) hx hb hr hlk hQ hz dX2_tell_114 (by rfl) (by rfl)
  · refine lv_tableIn (off := 114) (tgt := 115) (pc := 1) hx hb dX2_tell_1 (by decide) (by decide) (by decide) (by decide) ?_
    refine lv_aload_n (pc := 115) hx hb dX2_tell_115 rfl (lv_at hl 0 rfl) ?_
    refine lv_bipush (v := 9) (pc := 116) hx hb dX2_tell_116 (by decide) ?_
    refine z_runV (pc := 118) (As := [.int 9]) (rest := []) (ws1 := wS ca a h c z) ⟨hx, hb, hml, hown, hts⟩ (k_X2_sumOf l G ca a h c z 9 hbb) (cwV 1 hts (zgoodV zsub wq_10_0 wq_10_1 wq_10_2 wq_1_11 wq_10_3) rfl rfl rfl hdV_X2_sumOf ⟨Nat.le_of_ble_eq_true rfl, Nat.le_of_ble_eq_true rfl⟩) hz [] zp_all zp_all' rfl rfl rfl hl.1 (Nat.le_of_ble_eq_true rfl) (st1 := [.int (tsF c 9 8)]) rfl dX2_tell_118 ⟨Nat.zero_le _, Nat.zero_le _⟩ (fun H locs hz => ?_)
    exact z_iret (pc := 121) hx hb hr hlk hQ hz dX2_tell_121 (by rfl) (by rfl)
  · refine lv_tableIn (off := 121) (tgt := 122) (pc := 1) hx hb dX2_tell_1 (by decide) (by decide) (by decide) (by decide) ?_
    refine lv_aload_n (pc := 122) hx hb dX2_tell_122 rfl (lv_at hl 0 rfl) ?_
    refine z_runV (pc := 123) (As := []) (rest := []) (ws1 := wS ca a h c z) ⟨hx, hb, hml, hown, hts⟩ (k_X2_sumFull l G ca a h c z) (cwV 0 hts (zgoodV zsub wq_10_5 wq_10_6 wq_10_7 wq_1_11 wq_10_8) rfl rfl rfl hdV_X2_sumFull ⟨Nat.le_of_ble_eq_true rfl, Nat.le_of_ble_eq_true rfl⟩) hz [] zp_all zp_all' rfl rfl rfl hl.1 (Nat.le_of_ble_eq_true rfl) (st1 := [.int (tfF c 8)]) rfl dX2_tell_123 ⟨Nat.zero_le _, Nat.zero_le _⟩ (fun H locs hz => ?_)
    exact z_iret (pc := 126) hx hb hr hlk hQ hz dX2_tell_126 (by rfl) (by rfl)
  · refine lv_tableIn (off := 126) (tgt := 127) (pc := 1) hx hb dX2_tell_1 (by decide) (by decide) (by decide) (by decide) ?_
    refine lv_aload_n (pc := 127) hx hb dX2_tell_127 rfl (lv_at hl 0 rfl) ?_
    refine lv_iload_n (pc := 128) hx hb dX2_tell_128 rfl (lv_at hl 1 rfl) ?_
    refine lv_bipush (v := 10) (pc := 129) hx hb dX2_tell_129 (by decide) ?_
    refine lv_isub (pc := 131) hx hb dX2_tell_131 ?_
    refine z_runV (pc := 132) (As := [.int (10 - 10)]) (rest := []) (ws1 := wS ca a h c z) ⟨hx, hb, hml, hown, hts⟩ (k_X2_tellSetting l G ca a h c z (10 - 10)) (cwV 1 hts (zgoodV zsub wq_11_1 wq_11_2 wq_11_3 wq_1_11 wq_11_4) rfl rfl rfl hdV_X2_tellSetting ⟨Nat.le_of_ble_eq_true rfl, Nat.le_of_ble_eq_true rfl⟩) hz [] zp_all zp_all' rfl rfl rfl hl.1 (Nat.le_of_ble_eq_true rfl) (st1 := [.int (setF h (10 - 10))]) rfl dX2_tell_132 ⟨Nat.zero_le _, Nat.zero_le _⟩ (fun H locs hz => ?_)
    exact z_iret (pc := 135) hx hb hr hlk hQ hz dX2_tell_135 (by rfl) (by rfl)
  · refine lv_tableIn (off := 126) (tgt := 127) (pc := 1) hx hb dX2_tell_1 (by decide) (by decide) (by decide) (by decide) ?_
    refine lv_aload_n (pc := 127) hx hb dX2_tell_127 rfl (lv_at hl 0 rfl) ?_
    refine lv_iload_n (pc := 128) hx hb dX2_tell_128 rfl (lv_at hl 1 rfl) ?_
    refine lv_bipush (v := 10) (pc := 129) hx hb dX2_tell_129 (by decide) ?_
    refine lv_isub (pc := 131) hx hb dX2_tell_131 ?_
    refine z_runV (pc := 132) (As := [.int (11 - 10)]) (rest := []) (ws1 := wS ca a h c z) ⟨hx, hb, hml, hown, hts⟩ (k_X2_tellSetting l G ca a h c z (11 - 10)) (cwV 1 hts (zgoodV zsub wq_11_1 wq_11_2 wq_11_3 wq_1_11 wq_11_4) rfl rfl rfl hdV_X2_tellSetting ⟨Nat.le_of_ble_eq_true rfl, Nat.le_of_ble_eq_true rfl⟩) hz [] zp_all zp_all' rfl rfl rfl hl.1 (Nat.le_of_ble_eq_true rfl) (st1 := [.int (setF h (11 - 10))]) rfl dX2_tell_132 ⟨Nat.zero_le _, Nat.zero_le _⟩ (fun H locs hz => ?_)
    exact z_iret (pc := 135) hx hb hr hlk hQ hz dX2_tell_135 (by rfl) (by rfl)
  · refine lv_tableIn (off := 126) (tgt := 127) (pc := 1) hx hb dX2_tell_1 (by decide) (by decide) (by decide) (by decide) ?_
    refine lv_aload_n (pc := 127) hx hb dX2_tell_127 rfl (lv_at hl 0 rfl) ?_
    refine lv_iload_n (pc := 128) hx hb dX2_tell_128 rfl (lv_at hl 1 rfl) ?_
    refine lv_bipush (v := 10) (pc := 129) hx hb dX2_tell_129 (by decide) ?_
    refine lv_isub (pc := 131) hx hb dX2_tell_131 ?_
    refine z_runV (pc := 132) (As := [.int (12 - 10)]) (rest := []) (ws1 := wS ca a h c z) ⟨hx, hb, hml, hown, hts⟩ (k_X2_tellSetting l G ca a h c z (12 - 10)) (cwV 1 hts (zgoodV zsub wq_11_1 wq_11_2 wq_11_3 wq_1_11 wq_11_4) rfl rfl rfl hdV_X2_tellSetting ⟨Nat.le_of_ble_eq_true rfl, Nat.le_of_ble_eq_true rfl⟩) hz [] zp_all zp_all' rfl rfl rfl hl.1 (Nat.le_of_ble_eq_true rfl) (st1 := [.int (setF h (12 - 10))]) rfl dX2_tell_132 ⟨Nat.zero_le _, Nat.zero_le _⟩ (fun H locs hz => ?_)
    exact z_iret (pc := 135) hx hb hr hlk hQ hz dX2_tell_135 (by rfl) (by rfl)

def rm_X2_isCupValue : Room := { frames := 1, cells := 0, slots := 0, locals := 22 }
set_option maxRecDepth 20000 in
theorem hdV_X2_isCupValue : yX2_isCupValue.cls = RX2 ∧ yX2_isCupValue.cls ≠ "java/lang/invoke/MethodHandle" ∧ yX2_isCupValue.cls ≠ "java/lang/invoke/VarHandle" ∧ (parseMethodDescriptor yX2_isCupValue.desc).map (fun d => d.parameters.length) = some 3 := by decide +kernel
set_option maxHeartbeats 4000000 in
set_option maxRecDepth 100000 in
theorem k_X2_isCupValue (l : Launch) (G : va_G) (ca : Nat → ClassId) (cup which value : Int32) : Zc l G ca yX2_isCupValue (zws yX2_isCupValue cX2_isCupValue 3 (some .boolean)) rm_X2_isCupValue [.int cup, .int which, .int value] ([]) (some (.int (isValF cup which value))) ([]) := by
  refine Zc.of (cc := cX2_isCupValue) (maxL := 3) (ret := (some .boolean)) (by decide) rfl (Nat.le_of_ble_eq_true rfl) ?_
  intro pg ev s0 mt below meth cd A args Q ls hx hb hr hml hown hts hlk hQ hl hz
  have hl : lv_has ls 3 [(0, .int cup), (1, .int which), (2, .int value)] := hl
  refine lv_iload_n (pc := 0) hx hb dX2_isCupValue_0 rfl (lv_at hl 1 rfl) ?_
  rcases sw3 which with hs | rfl | rfl | rfl
  · refine lv_tableOut (tgt := 54) (pc := 1) hx hb dX2_isCupValue_1 (inF_out hs) (by decide) ?_
    refine lv_iconst (v := 0) (pc := 54) hx hb dX2_isCupValue_54 (by decide) ?_
    have hs3 : ∀ j : Int32, j = 0 ∨ j = 1 ∨ j = 2 → ¬ which = j := by intro j hj e9; subst e9; rcases hj with q | q | q <;> (rw [q] at hs; exact absurd hs (by decide))
    exact z_zret (pc := 55) hx hb hr hlk hQ hz rfl dX2_isCupValue_55 (by simp only [isValF]; rw [if_neg (hs3 0 (Or.inl rfl)), if_neg (hs3 1 (Or.inr (Or.inl rfl))), if_neg (hs3 2 (Or.inr (Or.inr rfl)))]) (by rfl)
  · refine lv_tableIn (off := 27) (tgt := 28) (pc := 1) hx hb dX2_isCupValue_1 (by decide) (by decide) (by decide) (by decide) ?_
    refine lv_iload_n (pc := 28) hx hb dX2_isCupValue_28 rfl (lv_at hl 2 rfl) ?_
    refine lv_iconst (v := 1) (pc := 29) hx hb dX2_isCupValue_29 (by decide) ?_
    refine lv_bipush (v := 99) (pc := 30) hx hb dX2_isCupValue_30 (by decide) ?_
    refine z_runSN (pc := 32) (As := [.int value, .int 1, .int 99]) (rest := []) (ws1 := []) ⟨hx, hb, hml, hown, hts⟩ (k_X3_isWithin l G ca value 1 99) ⟨va_cnB 3 hts (zgood0 zsub wq_17_10) rfl rfl rfl hz.1.2.2.2.1 (hts _ (zsub _ wq_1_2)) hdN_X3_isWithin ⟨Nat.le_of_ble_eq_true rfl, Nat.le_of_ble_eq_true rfl⟩, hts _ (zsub _ wq_17_9), trivial⟩ hz ([]) zp_no (List.Perm.refl _) rfl hl.1 (Nat.le_of_ble_eq_true rfl) (st1 := [.int (inF value 1 99)]) rfl dX2_isCupValue_32 ⟨Nat.zero_le _, Nat.zero_le _⟩ (fun H locs hz => ?_)
    exact z_zret (pc := 35) hx hb hr hlk hQ hz (inF_n _ _ _) dX2_isCupValue_35 (by rfl) (by rfl)
  · refine lv_tableIn (off := 35) (tgt := 36) (pc := 1) hx hb dX2_isCupValue_1 (by decide) (by decide) (by decide) (by decide) ?_
    refine lv_iload_n (pc := 36) hx hb dX2_isCupValue_36 rfl (lv_at hl 2 rfl) ?_
    refine lv_iconst (v := 0) (pc := 37) hx hb dX2_isCupValue_37 (by decide) ?_
    refine lv_bipush (v := 9) (pc := 38) hx hb dX2_isCupValue_38 (by decide) ?_
    refine z_runSN (pc := 40) (As := [.int value, .int 0, .int 9]) (rest := []) (ws1 := []) ⟨hx, hb, hml, hown, hts⟩ (k_X3_isWithin l G ca value 0 9) ⟨va_cnB 3 hts (zgood0 zsub wq_17_10) rfl rfl rfl hz.1.2.2.2.1 (hts _ (zsub _ wq_1_2)) hdN_X3_isWithin ⟨Nat.le_of_ble_eq_true rfl, Nat.le_of_ble_eq_true rfl⟩, hts _ (zsub _ wq_17_9), trivial⟩ hz ([]) zp_no (List.Perm.refl _) rfl hl.1 (Nat.le_of_ble_eq_true rfl) (st1 := [.int (inF value 0 9)]) rfl dX2_isCupValue_40 ⟨Nat.zero_le _, Nat.zero_le _⟩ (fun H locs hz => ?_)
    exact z_zret (pc := 43) hx hb hr hlk hQ hz (inF_n _ _ _) dX2_isCupValue_43 (by rfl) (by rfl)
  · refine lv_tableIn (off := 43) (tgt := 44) (pc := 1) hx hb dX2_isCupValue_1 (by decide) (by decide) (by decide) (by decide) ?_
    refine lv_iload_n (pc := 44) hx hb dX2_isCupValue_44 rfl (lv_at hl 2 rfl) ?_
    refine lv_iload_n (pc := 45) hx hb dX2_isCupValue_45 rfl (lv_at hl 0 rfl) ?_
    refine lv_iconst (v := 1) (pc := 46) hx hb dX2_isCupValue_46 (by decide) ?_
    refine lv_iadd (pc := 47) hx hb dX2_isCupValue_47 ?_
    refine lv_bipush (v := 8) (pc := 48) hx hb dX2_isCupValue_48 (by decide) ?_
    refine z_runSN (pc := 50) (As := [.int value, .int (cup + 1), .int 8]) (rest := []) (ws1 := []) ⟨hx, hb, hml, hown, hts⟩ (k_X3_isWithin l G ca value (cup + 1) 8) ⟨va_cnB 3 hts (zgood0 zsub wq_17_10) rfl rfl rfl hz.1.2.2.2.1 (hts _ (zsub _ wq_1_2)) hdN_X3_isWithin ⟨Nat.le_of_ble_eq_true rfl, Nat.le_of_ble_eq_true rfl⟩, hts _ (zsub _ wq_17_9), trivial⟩ hz ([]) zp_no (List.Perm.refl _) rfl hl.1 (Nat.le_of_ble_eq_true rfl) (st1 := [.int (inF value (cup + 1) 8)]) rfl dX2_isCupValue_50 ⟨Nat.zero_le _, Nat.zero_le _⟩ (fun H locs hz => ?_)
    exact z_zret (pc := 53) hx hb hr hlk hQ hz (inF_n _ _ _) dX2_isCupValue_53 (by rw [isValF_2]) (by rfl)

def rm_X2_changeLock : Room := { frames := 1, cells := 0, slots := 0, locals := 21 }
set_option maxRecDepth 20000 in
theorem hdV_X2_changeLock : yX2_changeLock.cls = RX2 ∧ yX2_changeLock.cls ≠ "java/lang/invoke/MethodHandle" ∧ yX2_changeLock.cls ≠ "java/lang/invoke/VarHandle" ∧ (parseMethodDescriptor yX2_changeLock.desc).map (fun d => d.parameters.length) = some 1 := by decide +kernel
set_option maxHeartbeats 4000000 in
set_option maxRecDepth 100000 in
theorem k_X2_changeLock (l : Launch) (G : va_G) (ca : Nat → ClassId) (a : Nat → Nat) (h : Nat → Int32) (c : Nat → Nat → Int32) (z : Nat → Int32) (cup : Int32) (hbb : ∀ k, k < 8 → b01 (c k 5) ∧ b01 (c k 6)) : Zc l G ca yX2_changeLock (zws yX2_changeLock cX2_changeLock 3 (some .int)) rm_X2_changeLock [.ref (a 0), .int cup] (wS ca a h c z) (some (.int (turnR c cup))) (wS ca a h (turnC c cup) z) := by
  refine Zc.of (cc := cX2_changeLock) (maxL := 3) (ret := (some .int)) (by decide) rfl (Nat.le_of_ble_eq_true rfl) ?_
  intro pg ev s0 mt below meth cd A args Q ls hx hb hr hml hown hts hlk hQ hl hz
  have L73 : (Cond.fieldLink RX2 73 "CupFountain$Cup" "guarded" "Z").before args s0 = true := hts _ (zsub _ wq_13_6)
  have L77 : (Cond.fieldLink RX2 77 "CupFountain$Cup" "open" "Z").before args s0 = true := hts _ (zsub _ wq_13_8)
  have hinX0 : ∀ w ∈ wsX00, w ∈ zws yX2_changeLock cX2_changeLock 3 (some .int) := fun w h => zsub w (wl_wsX00 w h)
  have hl : lv_has ls 3 [(0, .ref (a 0)), (1, .int cup)] := hl
  by_cases hcup : inF cup 0 7 = 0
  · refine lv_aload_n (pc := 0) hx hb dX2_changeLock_0 rfl (lv_at hl 0 rfl) ?_
    refine lv_iload_n (pc := 1) hx hb dX2_changeLock_1 rfl (lv_at hl 1 rfl) ?_
    refine z_runV (pc := 2) (As := [.int cup]) (rest := []) (ws1 := wS ca a h c z) ⟨hx, hb, hml, hown, hts⟩ (k_X2_find_n l G ca a h c z cup hcup) (cwV 1 hts (zgoodV zsub wq_15_10 wq_8_0 wq_8_1 wq_1_11 wq_8_2) rfl rfl rfl hdV_X2_find ⟨Nat.le_of_ble_eq_true rfl, Nat.le_of_ble_eq_true rfl⟩) hz [] zp_all zp_all' rfl rfl rfl hl.1 (Nat.le_of_ble_eq_true rfl) (st1 := [.null]) rfl dX2_changeLock_2 ⟨Nat.zero_le _, Nat.zero_le _⟩ (fun H locs hz => ?_)
    refine lv_astore_nN (lv' := [(2, .null), (0, .ref (a 0)), (1, .int cup)]) (pc := 5) hx hb dX2_changeLock_5 rfl hl (by decide) rfl (fun ls hl => ?_)
    refine lv_aload_nN (pc := 6) hx hb dX2_changeLock_6 rfl (lv_at hl 0 rfl) ?_
    refine lv_ifnonnullN (pc := 7) hx hb dX2_changeLock_7 ?_
    refine lv_iconst (v := -1) (pc := 10) hx hb dX2_changeLock_10 (by decide) ?_
    exact z_iret (pc := 11) hx hb hr hlk hQ hz dX2_changeLock_11 (by simp only [turnR, if_pos hcup]) (by simp only [turnC, if_pos hcup])
  · obtain ⟨k, hk, rfl⟩ := isCup_pos hcup
    have hnk : nn (nI k) = k := nn_nI (by omega)
    have hb5 := (hbb k hk).1
    have hb6 := (hbb k hk).2
    refine lv_aload_n (pc := 0) hx hb dX2_changeLock_0 rfl (lv_at hl 0 rfl) ?_
    refine lv_iload_n (pc := 1) hx hb dX2_changeLock_1 rfl (lv_at hl 1 rfl) ?_
    refine z_runV (pc := 2) (As := [.int (nI k)]) (rest := []) (ws1 := wS ca a h c z) ⟨hx, hb, hml, hown, hts⟩ (k_X2_find_r l G ca a h c z k (by assumption)) (cwV 1 hts (zgoodV zsub wq_15_10 wq_8_0 wq_8_1 wq_1_11 wq_8_2) rfl rfl rfl hdV_X2_find ⟨Nat.le_of_ble_eq_true rfl, Nat.le_of_ble_eq_true rfl⟩) hz [] zp_all zp_all' rfl rfl rfl hl.1 (Nat.le_of_ble_eq_true rfl) (st1 := [.ref (a (2 + k))]) rfl dX2_changeLock_2 ⟨Nat.zero_le _, Nat.zero_le _⟩ (fun H locs hz => ?_)
    refine lv_astore_n (lv' := [(2, .ref (a (2 + k))), (0, .ref (a 0)), (1, .int (nI k))]) (pc := 5) hx hb dX2_changeLock_5 rfl hl (by decide) rfl (fun ls hl => ?_)
    refine lv_aload_n (pc := 6) hx hb dX2_changeLock_6 rfl (lv_at hl 0 rfl) ?_
    refine lv_ifnonnull (tgt := 12) (pc := 7) hx hb dX2_changeLock_7 (by decide) ?_
    refine lv_aload_n (pc := 12) hx hb dX2_changeLock_12 rfl (lv_at hl 0 rfl) ?_
    refine z_get (own := RX2) (ref := "CupFountain$Cup") (C := RX0) (T := TX0) (N := 13) (ci := 0) (v := .int (c k 6)) (pc := 13) hx hb hts hinX0 hown hz (2 + k) (wS_at (by assumption)) rfl 6 (by decide) L73 rfl rfl dX2_changeLock_13 ?_
    refine lv_if_eq (pc := 16) (tgt := 22) hx hb dX2_changeLock_16 (by decide) (fun c_16 => ?_) (fun c_16 => ?_)
    · have e6 : ¬ c k 6 = 1 := by rw [c_16]; decide
      refine lv_aload_n (pc := 22) hx hb dX2_changeLock_22 rfl (lv_at hl 0 rfl) ?_
      refine lv_aload_n (pc := 23) hx hb dX2_changeLock_23 rfl (lv_at hl 0 rfl) ?_
      refine z_get (own := RX2) (ref := "CupFountain$Cup") (C := RX0) (T := TX0) (N := 13) (ci := 0) (v := .int (c k 5)) (pc := 24) hx hb hts hinX0 hown hz (2 + k) (wS_at (by assumption)) rfl 5 (by decide) L77 rfl rfl dX2_changeLock_24 ?_
      refine lv_if_ne (pc := 27) (tgt := 34) hx hb dX2_changeLock_27 (by decide) (fun c_27 => ?_) (fun c_27 => ?_)
      · have e5 : c k 5 = 1 := hb5.resolve_left c_27
        refine lv_iconst (v := 0) (pc := 34) hx hb dX2_changeLock_34 (by decide) ?_
        refine z_put (own := RX2) (ref := "CupFountain$Cup") (C := RX0) (T := TX0) (N := 13) (ci := 0) (v := .int 0) (ws1 := wS ca a h (u2 c k 5 0) z) (pc := 35) hx hb hts hinX0 tyX0 tyX0_ok nmX0 hown hz (2 + k) (wS_at (by assumption)) rfl 5 (by decide) L77 rfl rfl rfl rfl (Nat.le_of_ble_eq_true rfl) (wS_set (by assumption) (by decide)) dX2_changeLock_35 (fun H locs hz => ?_)
        refine lv_aload_n (pc := 38) hx hb dX2_changeLock_38 rfl (lv_at hl 0 rfl) ?_
        refine z_get (own := RX2) (ref := "CupFountain$Cup") (C := RX0) (T := TX0) (N := 13) (ci := 0) (v := .int ((u2 c k 5 0) k 5)) (pc := 39) hx hb hts hinX0 hown hz (2 + k) (wS_at (by assumption)) rfl 5 (by decide) L77 rfl rfl dX2_changeLock_39 ?_
        refine z_top (y := 0) u2_s ?_
        refine z_runSN (pc := 42) (As := [.int 0]) (rest := []) (ws1 := wS ca a h (u2 c k 5 0) z) ⟨hx, hb, hml, hown, hts⟩ (k_X3_asNumber l G ca 0) ⟨va_cnB 1 hts (zgood0 zsub wq_8_8) rfl rfl rfl hz.1.2.2.2.2.1 (hts _ (zsub _ wq_1_2)) hdN_X3_asNumber ⟨Nat.le_of_ble_eq_true rfl, Nat.le_of_ble_eq_true rfl⟩, hts _ (zsub _ wq_8_7), trivial⟩ hz (wS ca a h (u2 c k 5 0) z) zp_no (List.Perm.refl _) rfl hl.1 (Nat.le_of_ble_eq_true rfl) (st1 := [.int (numF 0)]) rfl dX2_changeLock_42 ⟨Nat.zero_le _, Nat.zero_le _⟩ (fun H locs hz => ?_)
        exact z_iret (pc := 45) hx hb hr hlk hQ hz dX2_changeLock_45 (by simp only [turnR, if_neg hcup, if_neg e6, hnk, e5]; rfl) (by simp only [turnC, if_neg hcup, if_neg e6, hnk, e5]; rfl)
      · have e5 : c k 5 = 0 := c_27
        refine lv_iconst (v := 1) (pc := 30) hx hb dX2_changeLock_30 (by decide) ?_
        refine lv_goto (tgt := 35) (pc := 31) hx hb dX2_changeLock_31 (by decide) ?_
        refine z_put (own := RX2) (ref := "CupFountain$Cup") (C := RX0) (T := TX0) (N := 13) (ci := 0) (v := .int 1) (ws1 := wS ca a h (u2 c k 5 1) z) (pc := 35) hx hb hts hinX0 tyX0 tyX0_ok nmX0 hown hz (2 + k) (wS_at (by assumption)) rfl 5 (by decide) L77 rfl rfl rfl rfl (Nat.le_of_ble_eq_true rfl) (wS_set (by assumption) (by decide)) dX2_changeLock_35 (fun H locs hz => ?_)
        refine lv_aload_n (pc := 38) hx hb dX2_changeLock_38 rfl (lv_at hl 0 rfl) ?_
        refine z_get (own := RX2) (ref := "CupFountain$Cup") (C := RX0) (T := TX0) (N := 13) (ci := 0) (v := .int ((u2 c k 5 1) k 5)) (pc := 39) hx hb hts hinX0 hown hz (2 + k) (wS_at (by assumption)) rfl 5 (by decide) L77 rfl rfl dX2_changeLock_39 ?_
        refine z_top (y := 1) u2_s ?_
        refine z_runSN (pc := 42) (As := [.int 1]) (rest := []) (ws1 := wS ca a h (u2 c k 5 1) z) ⟨hx, hb, hml, hown, hts⟩ (k_X3_asNumber l G ca 1) ⟨va_cnB 1 hts (zgood0 zsub wq_8_8) rfl rfl rfl hz.1.2.2.2.2.1 (hts _ (zsub _ wq_1_2)) hdN_X3_asNumber ⟨Nat.le_of_ble_eq_true rfl, Nat.le_of_ble_eq_true rfl⟩, hts _ (zsub _ wq_8_7), trivial⟩ hz (wS ca a h (u2 c k 5 1) z) zp_no (List.Perm.refl _) rfl hl.1 (Nat.le_of_ble_eq_true rfl) (st1 := [.int (numF 1)]) rfl dX2_changeLock_42 ⟨Nat.zero_le _, Nat.zero_le _⟩ (fun H locs hz => ?_)
        exact z_iret (pc := 45) hx hb hr hlk hQ hz dX2_changeLock_45 (by simp only [turnR, if_neg hcup, if_neg e6, hnk, e5]; rfl) (by simp only [turnC, if_neg hcup, if_neg e6, hnk, e5]; rfl)
    · have e6 : c k 6 = 1 := hb6.resolve_left c_16
      refine lv_bipush (v := -4) (pc := 19) hx hb dX2_changeLock_19 (by decide) ?_
      exact z_iret (pc := 21) hx hb hr hlk hQ hz dX2_changeLock_21 (by simp only [turnR, if_neg hcup, if_pos e6, hnk]) (by simp only [turnC, if_neg hcup, if_pos e6, hnk])

def rm_X2_changeHour : Room := { frames := 1, cells := 0, slots := 0, locals := 22 }
set_option maxRecDepth 20000 in
theorem hdV_X2_changeHour : yX2_changeHour.cls = RX2 ∧ yX2_changeHour.cls ≠ "java/lang/invoke/MethodHandle" ∧ yX2_changeHour.cls ≠ "java/lang/invoke/VarHandle" ∧ (parseMethodDescriptor yX2_changeHour.desc).map (fun d => d.parameters.length) = some 2 := by decide +kernel
set_option maxHeartbeats 4000000 in
set_option maxRecDepth 100000 in
theorem k_X2_changeHour (l : Launch) (G : va_G) (ca : Nat → ClassId) (a : Nat → Nat) (h : Nat → Int32) (c : Nat → Nat → Int32) (z : Nat → Int32) (cup hour : Int32) (hbb : ∀ k, k < 8 → b01 (c k 5) ∧ b01 (c k 6)) : Zc l G ca yX2_changeHour (zws yX2_changeHour cX2_changeHour 5 (some .int)) rm_X2_changeHour [.ref (a 0), .int cup, .int hour] (wS ca a h c z) (some (.int (hourR c cup hour))) (wS ca a h (hourC c cup hour) z) := by
  refine Zc.of (cc := cX2_changeHour) (maxL := 5) (ret := (some .int)) (by decide) rfl (Nat.le_of_ble_eq_true rfl) ?_
  intro pg ev s0 mt below meth cd A args Q ls hx hb hr hml hown hts hlk hQ hl hz
  have L73 : (Cond.fieldLink RX2 73 "CupFountain$Cup" "guarded" "Z").before args s0 = true := hts _ (zsub _ wq_13_6)
  have L77 : (Cond.fieldLink RX2 77 "CupFountain$Cup" "open" "Z").before args s0 = true := hts _ (zsub _ wq_13_8)
  have L84 : (Cond.fieldLink RX2 84 "CupFountain$Cup" "hour" "I").before args s0 = true := hts _ (zsub _ wq_13_7)
  have hinX0 : ∀ w ∈ wsX00, w ∈ zws yX2_changeHour cX2_changeHour 5 (some .int) := fun w h => zsub w (wl_wsX00 w h)
  have hl : lv_has ls 5 [(0, .ref (a 0)), (1, .int cup), (2, .int hour)] := hl
  by_cases hcup : inF cup 0 7 = 0
  · refine lv_aload_n (pc := 0) hx hb dX2_changeHour_0 rfl (lv_at hl 0 rfl) ?_
    refine lv_iload_n (pc := 1) hx hb dX2_changeHour_1 rfl (lv_at hl 1 rfl) ?_
    refine z_runV (pc := 2) (As := [.int cup]) (rest := []) (ws1 := wS ca a h c z) ⟨hx, hb, hml, hown, hts⟩ (k_X2_find_n l G ca a h c z cup hcup) (cwV 1 hts (zgoodV zsub wq_15_10 wq_8_0 wq_8_1 wq_1_11 wq_8_2) rfl rfl rfl hdV_X2_find ⟨Nat.le_of_ble_eq_true rfl, Nat.le_of_ble_eq_true rfl⟩) hz [] zp_all zp_all' rfl rfl rfl hl.1 (Nat.le_of_ble_eq_true rfl) (st1 := [.null]) rfl dX2_changeHour_2 ⟨Nat.zero_le _, Nat.zero_le _⟩ (fun H locs hz => ?_)
    refine lv_astore_nN (lv' := [(3, .null), (0, .ref (a 0)), (1, .int cup), (2, .int hour)]) (pc := 5) hx hb dX2_changeHour_5 rfl hl (by decide) rfl (fun ls hl => ?_)
    refine lv_aload_nN (pc := 6) hx hb dX2_changeHour_6 rfl (lv_at hl 0 rfl) ?_
    refine lv_ifnonnullN (pc := 7) hx hb dX2_changeHour_7 ?_
    refine lv_iconst (v := -1) (pc := 10) hx hb dX2_changeHour_10 (by decide) ?_
    exact z_iret (pc := 11) hx hb hr hlk hQ hz dX2_changeHour_11 (by simp only [hourR, if_pos hcup]) (by simp only [hourC, if_pos hcup])
  · obtain ⟨k, hk, rfl⟩ := isCup_pos hcup
    have hnk : nn (nI k) = k := nn_nI (by omega)
    have hb5 := (hbb k hk).1
    have hb6 := (hbb k hk).2
    refine lv_aload_n (pc := 0) hx hb dX2_changeHour_0 rfl (lv_at hl 0 rfl) ?_
    refine lv_iload_n (pc := 1) hx hb dX2_changeHour_1 rfl (lv_at hl 1 rfl) ?_
    refine z_runV (pc := 2) (As := [.int (nI k)]) (rest := []) (ws1 := wS ca a h c z) ⟨hx, hb, hml, hown, hts⟩ (k_X2_find_r l G ca a h c z k (by assumption)) (cwV 1 hts (zgoodV zsub wq_15_10 wq_8_0 wq_8_1 wq_1_11 wq_8_2) rfl rfl rfl hdV_X2_find ⟨Nat.le_of_ble_eq_true rfl, Nat.le_of_ble_eq_true rfl⟩) hz [] zp_all zp_all' rfl rfl rfl hl.1 (Nat.le_of_ble_eq_true rfl) (st1 := [.ref (a (2 + k))]) rfl dX2_changeHour_2 ⟨Nat.zero_le _, Nat.zero_le _⟩ (fun H locs hz => ?_)
    refine lv_astore_n (lv' := [(3, .ref (a (2 + k))), (0, .ref (a 0)), (1, .int (nI k)), (2, .int hour)]) (pc := 5) hx hb dX2_changeHour_5 rfl hl (by decide) rfl (fun ls hl => ?_)
    refine lv_aload_n (pc := 6) hx hb dX2_changeHour_6 rfl (lv_at hl 0 rfl) ?_
    refine lv_ifnonnull (tgt := 12) (pc := 7) hx hb dX2_changeHour_7 (by decide) ?_
    refine lv_iload_n (pc := 12) hx hb dX2_changeHour_12 rfl (lv_at hl 3 rfl) ?_
    refine lv_iconst (v := -1) (pc := 13) hx hb dX2_changeHour_13 (by decide) ?_
    refine lv_sipush (v := 239) (pc := 14) hx hb dX2_changeHour_14 (by decide) ?_
    refine z_runSN (pc := 17) (As := [.int hour, .int (-1), .int 239]) (rest := []) (ws1 := wS ca a h c z) ⟨hx, hb, hml, hown, hts⟩ (k_X3_isWithin l G ca hour (-1) 239) ⟨va_cnB 3 hts (zgood0 zsub wq_17_10) rfl rfl rfl hz.1.2.2.2.1 (hts _ (zsub _ wq_1_2)) hdN_X3_isWithin ⟨Nat.le_of_ble_eq_true rfl, Nat.le_of_ble_eq_true rfl⟩, hts _ (zsub _ wq_17_9), trivial⟩ hz (wS ca a h c z) zp_no (List.Perm.refl _) rfl hl.1 (Nat.le_of_ble_eq_true rfl) (st1 := [.int (inF hour (-1) 239)]) rfl dX2_changeHour_17 ⟨Nat.zero_le _, Nat.zero_le _⟩ (fun H locs hz => ?_)
    refine lv_if_ne (pc := 20) (tgt := 26) hx hb dX2_changeHour_20 (by decide) (fun c_20 => ?_) (fun c_20 => ?_)
    · refine lv_aload_n (pc := 26) hx hb dX2_changeHour_26 rfl (lv_at hl 0 rfl) ?_
      refine z_get (own := RX2) (ref := "CupFountain$Cup") (C := RX0) (T := TX0) (N := 13) (ci := 0) (v := .int (c k 4)) (pc := 27) hx hb hts hinX0 hown hz (2 + k) (wS_at (by assumption)) rfl 4 (by decide) L84 rfl rfl dX2_changeHour_27 ?_
      refine lv_istore (lv' := [(4, .int (c k 4)), (3, .ref (a (2 + k))), (0, .ref (a 0)), (1, .int (nI k)), (2, .int hour)]) (pc := 30) hx hb dX2_changeHour_30 hl (by decide) rfl (fun ls hl => ?_)
      refine lv_iload (pc := 32) hx hb dX2_changeHour_32 (lv_at hl 0 rfl) ?_
      refine lv_iload_n (pc := 34) hx hb dX2_changeHour_34 rfl (lv_at hl 4 rfl) ?_
      refine lv_icmp_ne (pc := 35) (tgt := 41) hx hb dX2_changeHour_35 (by decide) (fun c_35 => ?_) (fun c_35 => ?_)
      · refine lv_aload_n (pc := 41) hx hb dX2_changeHour_41 rfl (lv_at hl 1 rfl) ?_
        refine lv_iload_n (pc := 42) hx hb dX2_changeHour_42 rfl (lv_at hl 4 rfl) ?_
        refine z_put (own := RX2) (ref := "CupFountain$Cup") (C := RX0) (T := TX0) (N := 13) (ci := 0) (v := .int hour) (ws1 := wS ca a h (u2 c k 4 hour) z) (pc := 43) hx hb hts hinX0 tyX0 tyX0_ok nmX0 hown hz (2 + k) (wS_at (by assumption)) rfl 4 (by decide) L84 rfl rfl rfl rfl (Nat.le_of_ble_eq_true rfl) (wS_set (by assumption) (by decide)) dX2_changeHour_43 (fun H locs hz => ?_)
        refine lv_iload_n (pc := 46) hx hb dX2_changeHour_46 rfl (lv_at hl 4 rfl) ?_
        refine lv_iconst (v := -1) (pc := 47) hx hb dX2_changeHour_47 (by decide) ?_
        refine lv_icmp_ne (pc := 48) (tgt := 61) hx hb dX2_changeHour_48 (by decide) (fun c_48 => ?_) (fun c_48 => ?_)
        · refine lv_iload (pc := 61) hx hb dX2_changeHour_61 (lv_at hl 0 rfl) ?_
          refine lv_iconst (v := -1) (pc := 63) hx hb dX2_changeHour_63 (by decide) ?_
          refine lv_icmp_ne (pc := 64) (tgt := 73) hx hb dX2_changeHour_64 (by decide) (fun c_64 => ?_) (fun c_64 => ?_)
          · refine lv_iload (pc := 73) hx hb dX2_changeHour_73 (lv_at hl 0 rfl) ?_
            exact z_iret (pc := 75) hx hb hr hlk hQ hz dX2_changeHour_75 (by simp only [hourR, if_neg hcup, if_neg c_20, if_neg c_35, if_neg c_48, if_neg c_64, hnk]) (by simp only [hourC, if_neg hcup, if_neg c_20, if_neg c_35, if_neg c_48, if_neg c_64, hnk])
          · refine lv_sipush (v := 240) (pc := 67) hx hb dX2_changeHour_67 (by decide) ?_
            refine lv_goto (tgt := 75) (pc := 70) hx hb dX2_changeHour_70 (by decide) ?_
            exact z_iret (pc := 75) hx hb hr hlk hQ hz dX2_changeHour_75 (by simp only [hourR, if_neg hcup, if_neg c_20, if_neg c_35, if_neg c_48, if_pos c_64, hnk]) (by simp only [hourC, if_neg hcup, if_neg c_20, if_neg c_35, if_neg c_48, if_pos c_64, hnk])
        · refine lv_aload_n (pc := 51) hx hb dX2_changeHour_51 rfl (lv_at hl 1 rfl) ?_
          refine lv_iconst (v := 0) (pc := 52) hx hb dX2_changeHour_52 (by decide) ?_
          refine z_put (own := RX2) (ref := "CupFountain$Cup") (C := RX0) (T := TX0) (N := 13) (ci := 0) (v := .int 0) (ws1 := wS ca a h (u2 (u2 c k 4 hour) k 6 0) z) (pc := 53) hx hb hts hinX0 tyX0 tyX0_ok nmX0 hown hz (2 + k) (wS_at (by assumption)) rfl 6 (by decide) L73 rfl rfl rfl rfl (Nat.le_of_ble_eq_true rfl) (wS_set (by assumption) (by decide)) dX2_changeHour_53 (fun H locs hz => ?_)
          refine lv_aload_n (pc := 56) hx hb dX2_changeHour_56 rfl (lv_at hl 1 rfl) ?_
          refine lv_iconst (v := 1) (pc := 57) hx hb dX2_changeHour_57 (by decide) ?_
          refine z_put (own := RX2) (ref := "CupFountain$Cup") (C := RX0) (T := TX0) (N := 13) (ci := 0) (v := .int 1) (ws1 := wS ca a h (u2 (u2 (u2 c k 4 hour) k 6 0) k 5 1) z) (pc := 58) hx hb hts hinX0 tyX0 tyX0_ok nmX0 hown hz (2 + k) (wS_at (by assumption)) rfl 5 (by decide) L77 rfl rfl rfl rfl (Nat.le_of_ble_eq_true rfl) (wS_set (by assumption) (by decide)) dX2_changeHour_58 (fun H locs hz => ?_)
          refine lv_iload (pc := 61) hx hb dX2_changeHour_61 (lv_at hl 0 rfl) ?_
          refine lv_iconst (v := -1) (pc := 63) hx hb dX2_changeHour_63 (by decide) ?_
          refine lv_icmp_ne (pc := 64) (tgt := 73) hx hb dX2_changeHour_64 (by decide) (fun c_64 => ?_) (fun c_64 => ?_)
          · refine lv_iload (pc := 73) hx hb dX2_changeHour_73 (lv_at hl 0 rfl) ?_
            exact z_iret (pc := 75) hx hb hr hlk hQ hz dX2_changeHour_75 (by simp only [hourR, if_neg hcup, if_neg c_20, if_neg c_35, if_pos c_48, if_neg c_64, hnk]) (by simp only [hourC, if_neg hcup, if_neg c_20, if_neg c_35, if_pos c_48, if_neg c_64, hnk])
          · refine lv_sipush (v := 240) (pc := 67) hx hb dX2_changeHour_67 (by decide) ?_
            refine lv_goto (tgt := 75) (pc := 70) hx hb dX2_changeHour_70 (by decide) ?_
            exact z_iret (pc := 75) hx hb hr hlk hQ hz dX2_changeHour_75 (by simp only [hourR, if_neg hcup, if_neg c_20, if_neg c_35, if_pos c_48, if_pos c_64, hnk]) (by simp only [hourC, if_neg hcup, if_neg c_20, if_neg c_35, if_pos c_48, if_pos c_64, hnk])
      · refine lv_bipush (v := -5) (pc := 38) hx hb dX2_changeHour_38 (by decide) ?_
        exact z_iret (pc := 40) hx hb hr hlk hQ hz dX2_changeHour_40 (by simp only [hourR, if_neg hcup, if_neg c_20, if_pos c_35, hnk]) (by simp only [hourC, if_neg hcup, if_neg c_20, if_pos c_35, hnk])
    · refine lv_bipush (v := -2) (pc := 23) hx hb dX2_changeHour_23 (by decide) ?_
      exact z_iret (pc := 25) hx hb hr hlk hQ hz dX2_changeHour_25 (by simp only [hourR, if_neg hcup, if_pos c_20, hnk]) (by simp only [hourC, if_neg hcup, if_pos c_20, hnk])

def rm_X2_changeGuard : Room := { frames := 1, cells := 0, slots := 0, locals := 21 }
set_option maxRecDepth 20000 in
theorem hdV_X2_changeGuard : yX2_changeGuard.cls = RX2 ∧ yX2_changeGuard.cls ≠ "java/lang/invoke/MethodHandle" ∧ yX2_changeGuard.cls ≠ "java/lang/invoke/VarHandle" ∧ (parseMethodDescriptor yX2_changeGuard.desc).map (fun d => d.parameters.length) = some 1 := by decide +kernel
set_option maxHeartbeats 4000000 in
set_option maxRecDepth 100000 in
theorem k_X2_changeGuard (l : Launch) (G : va_G) (ca : Nat → ClassId) (a : Nat → Nat) (h : Nat → Int32) (c : Nat → Nat → Int32) (z : Nat → Int32) (cup : Int32) (hbb : ∀ k, k < 8 → b01 (c k 5) ∧ b01 (c k 6)) : Zc l G ca yX2_changeGuard (zws yX2_changeGuard cX2_changeGuard 3 (some .int)) rm_X2_changeGuard [.ref (a 0), .int cup] (wS ca a h c z) (some (.int (guardR c cup))) (wS ca a h (guardC c cup) z) := by
  refine Zc.of (cc := cX2_changeGuard) (maxL := 3) (ret := (some .int)) (by decide) rfl (Nat.le_of_ble_eq_true rfl) ?_
  intro pg ev s0 mt below meth cd A args Q ls hx hb hr hml hown hts hlk hQ hl hz
  have L73 : (Cond.fieldLink RX2 73 "CupFountain$Cup" "guarded" "Z").before args s0 = true := hts _ (zsub _ wq_13_6)
  have L77 : (Cond.fieldLink RX2 77 "CupFountain$Cup" "open" "Z").before args s0 = true := hts _ (zsub _ wq_13_8)
  have L84 : (Cond.fieldLink RX2 84 "CupFountain$Cup" "hour" "I").before args s0 = true := hts _ (zsub _ wq_13_7)
  have hinX0 : ∀ w ∈ wsX00, w ∈ zws yX2_changeGuard cX2_changeGuard 3 (some .int) := fun w h => zsub w (wl_wsX00 w h)
  have hl : lv_has ls 3 [(0, .ref (a 0)), (1, .int cup)] := hl
  by_cases hcup : inF cup 0 7 = 0
  · refine lv_aload_n (pc := 0) hx hb dX2_changeGuard_0 rfl (lv_at hl 0 rfl) ?_
    refine lv_iload_n (pc := 1) hx hb dX2_changeGuard_1 rfl (lv_at hl 1 rfl) ?_
    refine z_runV (pc := 2) (As := [.int cup]) (rest := []) (ws1 := wS ca a h c z) ⟨hx, hb, hml, hown, hts⟩ (k_X2_find_n l G ca a h c z cup hcup) (cwV 1 hts (zgoodV zsub wq_15_10 wq_8_0 wq_8_1 wq_1_11 wq_8_2) rfl rfl rfl hdV_X2_find ⟨Nat.le_of_ble_eq_true rfl, Nat.le_of_ble_eq_true rfl⟩) hz [] zp_all zp_all' rfl rfl rfl hl.1 (Nat.le_of_ble_eq_true rfl) (st1 := [.null]) rfl dX2_changeGuard_2 ⟨Nat.zero_le _, Nat.zero_le _⟩ (fun H locs hz => ?_)
    refine lv_astore_nN (lv' := [(2, .null), (0, .ref (a 0)), (1, .int cup)]) (pc := 5) hx hb dX2_changeGuard_5 rfl hl (by decide) rfl (fun ls hl => ?_)
    refine lv_aload_nN (pc := 6) hx hb dX2_changeGuard_6 rfl (lv_at hl 0 rfl) ?_
    refine lv_ifnonnullN (pc := 7) hx hb dX2_changeGuard_7 ?_
    refine lv_iconst (v := -1) (pc := 10) hx hb dX2_changeGuard_10 (by decide) ?_
    exact z_iret (pc := 11) hx hb hr hlk hQ hz dX2_changeGuard_11 (by simp only [guardR, if_pos hcup]) (by simp only [guardC, if_pos hcup])
  · obtain ⟨k, hk, rfl⟩ := isCup_pos hcup
    have hnk : nn (nI k) = k := nn_nI (by omega)
    have hb5 := (hbb k hk).1
    have hb6 := (hbb k hk).2
    refine lv_aload_n (pc := 0) hx hb dX2_changeGuard_0 rfl (lv_at hl 0 rfl) ?_
    refine lv_iload_n (pc := 1) hx hb dX2_changeGuard_1 rfl (lv_at hl 1 rfl) ?_
    refine z_runV (pc := 2) (As := [.int (nI k)]) (rest := []) (ws1 := wS ca a h c z) ⟨hx, hb, hml, hown, hts⟩ (k_X2_find_r l G ca a h c z k (by assumption)) (cwV 1 hts (zgoodV zsub wq_15_10 wq_8_0 wq_8_1 wq_1_11 wq_8_2) rfl rfl rfl hdV_X2_find ⟨Nat.le_of_ble_eq_true rfl, Nat.le_of_ble_eq_true rfl⟩) hz [] zp_all zp_all' rfl rfl rfl hl.1 (Nat.le_of_ble_eq_true rfl) (st1 := [.ref (a (2 + k))]) rfl dX2_changeGuard_2 ⟨Nat.zero_le _, Nat.zero_le _⟩ (fun H locs hz => ?_)
    refine lv_astore_n (lv' := [(2, .ref (a (2 + k))), (0, .ref (a 0)), (1, .int (nI k))]) (pc := 5) hx hb dX2_changeGuard_5 rfl hl (by decide) rfl (fun ls hl => ?_)
    refine lv_aload_n (pc := 6) hx hb dX2_changeGuard_6 rfl (lv_at hl 0 rfl) ?_
    refine lv_ifnonnull (tgt := 12) (pc := 7) hx hb dX2_changeGuard_7 (by decide) ?_
    refine lv_aload_n (pc := 12) hx hb dX2_changeGuard_12 rfl (lv_at hl 0 rfl) ?_
    refine z_get (own := RX2) (ref := "CupFountain$Cup") (C := RX0) (T := TX0) (N := 13) (ci := 0) (v := .int (c k 4)) (pc := 13) hx hb hts hinX0 hown hz (2 + k) (wS_at (by assumption)) rfl 4 (by decide) L84 rfl rfl dX2_changeGuard_13 ?_
    refine lv_iconst (v := -1) (pc := 16) hx hb dX2_changeGuard_16 (by decide) ?_
    refine lv_icmp_ne (pc := 17) (tgt := 23) hx hb dX2_changeGuard_17 (by decide) (fun c_17 => ?_) (fun c_17 => ?_)
    · refine lv_aload_n (pc := 23) hx hb dX2_changeGuard_23 rfl (lv_at hl 0 rfl) ?_
      refine lv_aload_n (pc := 24) hx hb dX2_changeGuard_24 rfl (lv_at hl 0 rfl) ?_
      refine z_get (own := RX2) (ref := "CupFountain$Cup") (C := RX0) (T := TX0) (N := 13) (ci := 0) (v := .int (c k 6)) (pc := 25) hx hb hts hinX0 hown hz (2 + k) (wS_at (by assumption)) rfl 6 (by decide) L73 rfl rfl dX2_changeGuard_25 ?_
      refine lv_if_ne (pc := 28) (tgt := 35) hx hb dX2_changeGuard_28 (by decide) (fun c_28 => ?_) (fun c_28 => ?_)
      · have e6 : c k 6 = 1 := hb6.resolve_left c_28
        refine lv_iconst (v := 0) (pc := 35) hx hb dX2_changeGuard_35 (by decide) ?_
        refine z_put (own := RX2) (ref := "CupFountain$Cup") (C := RX0) (T := TX0) (N := 13) (ci := 0) (v := .int 0) (ws1 := wS ca a h (u2 c k 6 0) z) (pc := 36) hx hb hts hinX0 tyX0 tyX0_ok nmX0 hown hz (2 + k) (wS_at (by assumption)) rfl 6 (by decide) L73 rfl rfl rfl rfl (Nat.le_of_ble_eq_true rfl) (wS_set (by assumption) (by decide)) dX2_changeGuard_36 (fun H locs hz => ?_)
        refine lv_aload_n (pc := 39) hx hb dX2_changeGuard_39 rfl (lv_at hl 0 rfl) ?_
        refine lv_aload_n (pc := 40) hx hb dX2_changeGuard_40 rfl (lv_at hl 0 rfl) ?_
        refine z_get (own := RX2) (ref := "CupFountain$Cup") (C := RX0) (T := TX0) (N := 13) (ci := 0) (v := .int ((u2 c k 6 0) k 6)) (pc := 41) hx hb hts hinX0 hown hz (2 + k) (wS_at (by assumption)) rfl 6 (by decide) L73 rfl rfl dX2_changeGuard_41 ?_
        refine z_top (y := 0) u2_s ?_
        refine lv_if_ne (pc := 44) (tgt := 51) hx hb dX2_changeGuard_44 (by decide) (fun c9 => absurd rfl c9) (fun c_44 => ?_)
        refine lv_iconst (v := 1) (pc := 47) hx hb dX2_changeGuard_47 (by decide) ?_
        refine lv_goto (tgt := 52) (pc := 48) hx hb dX2_changeGuard_48 (by decide) ?_
        refine z_put (own := RX2) (ref := "CupFountain$Cup") (C := RX0) (T := TX0) (N := 13) (ci := 0) (v := .int 1) (ws1 := wS ca a h (u2 (u2 c k 6 0) k 5 1) z) (pc := 52) hx hb hts hinX0 tyX0 tyX0_ok nmX0 hown hz (2 + k) (wS_at (by assumption)) rfl 5 (by decide) L77 rfl rfl rfl rfl (Nat.le_of_ble_eq_true rfl) (wS_set (by assumption) (by decide)) dX2_changeGuard_52 (fun H locs hz => ?_)
        refine lv_aload_n (pc := 55) hx hb dX2_changeGuard_55 rfl (lv_at hl 0 rfl) ?_
        refine z_get (own := RX2) (ref := "CupFountain$Cup") (C := RX0) (T := TX0) (N := 13) (ci := 0) (v := .int ((u2 (u2 c k 6 0) k 5 1) k 6)) (pc := 56) hx hb hts hinX0 hown hz (2 + k) (wS_at (by assumption)) rfl 6 (by decide) L73 rfl rfl dX2_changeGuard_56 ?_
        refine z_top (y := 0) (by rw [u2_nw (by decide), u2_s]) ?_
        refine z_runSN (pc := 59) (As := [.int 0]) (rest := []) (ws1 := wS ca a h (u2 (u2 c k 6 0) k 5 1) z) ⟨hx, hb, hml, hown, hts⟩ (k_X3_asNumber l G ca 0) ⟨va_cnB 1 hts (zgood0 zsub wq_8_8) rfl rfl rfl hz.1.2.2.2.2.1 (hts _ (zsub _ wq_1_2)) hdN_X3_asNumber ⟨Nat.le_of_ble_eq_true rfl, Nat.le_of_ble_eq_true rfl⟩, hts _ (zsub _ wq_8_7), trivial⟩ hz (wS ca a h (u2 (u2 c k 6 0) k 5 1) z) zp_no (List.Perm.refl _) rfl hl.1 (Nat.le_of_ble_eq_true rfl) (st1 := [.int (numF 0)]) rfl dX2_changeGuard_59 ⟨Nat.zero_le _, Nat.zero_le _⟩ (fun H locs hz => ?_)
        exact z_iret (pc := 62) hx hb hr hlk hQ hz dX2_changeGuard_62 (by simp only [guardR, if_neg hcup, if_neg c_17, hnk, e6]; rfl) (by simp only [guardC, if_neg hcup, if_neg c_17, hnk, e6]; rw [u2_comm (show (5 : Nat) ≠ 6 by decide)]; rfl)
      · have e6 : c k 6 = 0 := c_28
        refine lv_iconst (v := 1) (pc := 31) hx hb dX2_changeGuard_31 (by decide) ?_
        refine lv_goto (tgt := 36) (pc := 32) hx hb dX2_changeGuard_32 (by decide) ?_
        refine z_put (own := RX2) (ref := "CupFountain$Cup") (C := RX0) (T := TX0) (N := 13) (ci := 0) (v := .int 1) (ws1 := wS ca a h (u2 c k 6 1) z) (pc := 36) hx hb hts hinX0 tyX0 tyX0_ok nmX0 hown hz (2 + k) (wS_at (by assumption)) rfl 6 (by decide) L73 rfl rfl rfl rfl (Nat.le_of_ble_eq_true rfl) (wS_set (by assumption) (by decide)) dX2_changeGuard_36 (fun H locs hz => ?_)
        refine lv_aload_n (pc := 39) hx hb dX2_changeGuard_39 rfl (lv_at hl 0 rfl) ?_
        refine lv_aload_n (pc := 40) hx hb dX2_changeGuard_40 rfl (lv_at hl 0 rfl) ?_
        refine z_get (own := RX2) (ref := "CupFountain$Cup") (C := RX0) (T := TX0) (N := 13) (ci := 0) (v := .int ((u2 c k 6 1) k 6)) (pc := 41) hx hb hts hinX0 hown hz (2 + k) (wS_at (by assumption)) rfl 6 (by decide) L73 rfl rfl dX2_changeGuard_41 ?_
        refine z_top (y := 1) u2_s ?_
        refine lv_if_ne (pc := 44) (tgt := 51) hx hb dX2_changeGuard_44 (by decide) (fun c_44 => ?_) (fun c9 => absurd c9 (by decide))
        refine lv_iconst (v := 0) (pc := 51) hx hb dX2_changeGuard_51 (by decide) ?_
        refine z_put (own := RX2) (ref := "CupFountain$Cup") (C := RX0) (T := TX0) (N := 13) (ci := 0) (v := .int 0) (ws1 := wS ca a h (u2 (u2 c k 6 1) k 5 0) z) (pc := 52) hx hb hts hinX0 tyX0 tyX0_ok nmX0 hown hz (2 + k) (wS_at (by assumption)) rfl 5 (by decide) L77 rfl rfl rfl rfl (Nat.le_of_ble_eq_true rfl) (wS_set (by assumption) (by decide)) dX2_changeGuard_52 (fun H locs hz => ?_)
        refine lv_aload_n (pc := 55) hx hb dX2_changeGuard_55 rfl (lv_at hl 0 rfl) ?_
        refine z_get (own := RX2) (ref := "CupFountain$Cup") (C := RX0) (T := TX0) (N := 13) (ci := 0) (v := .int ((u2 (u2 c k 6 1) k 5 0) k 6)) (pc := 56) hx hb hts hinX0 hown hz (2 + k) (wS_at (by assumption)) rfl 6 (by decide) L73 rfl rfl dX2_changeGuard_56 ?_
        refine z_top (y := 1) (by rw [u2_nw (by decide), u2_s]) ?_
        refine z_runSN (pc := 59) (As := [.int 1]) (rest := []) (ws1 := wS ca a h (u2 (u2 c k 6 1) k 5 0) z) ⟨hx, hb, hml, hown, hts⟩ (k_X3_asNumber l G ca 1) ⟨va_cnB 1 hts (zgood0 zsub wq_8_8) rfl rfl rfl hz.1.2.2.2.2.1 (hts _ (zsub _ wq_1_2)) hdN_X3_asNumber ⟨Nat.le_of_ble_eq_true rfl, Nat.le_of_ble_eq_true rfl⟩, hts _ (zsub _ wq_8_7), trivial⟩ hz (wS ca a h (u2 (u2 c k 6 1) k 5 0) z) zp_no (List.Perm.refl _) rfl hl.1 (Nat.le_of_ble_eq_true rfl) (st1 := [.int (numF 1)]) rfl dX2_changeGuard_59 ⟨Nat.zero_le _, Nat.zero_le _⟩ (fun H locs hz => ?_)
        exact z_iret (pc := 62) hx hb hr hlk hQ hz dX2_changeGuard_62 (by simp only [guardR, if_neg hcup, if_neg c_17, hnk, e6]; rfl) (by simp only [guardC, if_neg hcup, if_neg c_17, hnk, e6]; rw [u2_comm (show (5 : Nat) ≠ 6 by decide)]; rfl)
    · refine lv_bipush (v := -4) (pc := 20) hx hb dX2_changeGuard_20 (by decide) ?_
      exact z_iret (pc := 22) hx hb hr hlk hQ hz dX2_changeGuard_22 (by simp only [guardR, if_neg hcup, if_pos c_17, hnk]) (by simp only [guardC, if_neg hcup, if_pos c_17, hnk])

def rm_X2_pour : Room := { frames := 1, cells := 0, slots := 0, locals := 22 }
set_option maxRecDepth 20000 in
theorem hdV_X2_pour : yX2_pour.cls = RX2 ∧ yX2_pour.cls ≠ "java/lang/invoke/MethodHandle" ∧ yX2_pour.cls ≠ "java/lang/invoke/VarHandle" ∧ (parseMethodDescriptor yX2_pour.desc).map (fun d => d.parameters.length) = some 2 := by decide +kernel
set_option maxHeartbeats 4000000 in
set_option maxRecDepth 100000 in
theorem k_X2_pour (l : Launch) (G : va_G) (ca : Nat → ClassId) (a : Nat → Nat) (h : Nat → Int32) (c : Nat → Nat → Int32) (z : Nat → Int32) (cup water : Int32) (hbb : ∀ k, k < 8 → b01 (c k 5) ∧ b01 (c k 6)) : Zc l G ca yX2_pour (zws yX2_pour cX2_pour 4 (some .int)) rm_X2_pour [.ref (a 0), .int cup, .int water] (wS ca a h c z) (some (.int (fillR c cup water))) (wS ca a (fillH h c cup water) (fillC c cup water) z) := by
  refine Zc.of (cc := cX2_pour) (maxL := 4) (ret := (some .int)) (by decide) rfl (Nat.le_of_ble_eq_true rfl) ?_
  intro pg ev s0 mt below meth cd A args Q ls hx hb hr hml hown hts hlk hQ hl hz
  have L39 : (Cond.fieldLink RX2 39 "CupFountain$State" "filled" "I").before args s0 = true := hts _ (zsub _ wq_4_2)
  have L87 : (Cond.fieldLink RX2 87 "CupFountain$Cup" "water" "I").before args s0 = true := hts _ (zsub _ wq_14_5)
  have hinX0 : ∀ w ∈ wsX00, w ∈ zws yX2_pour cX2_pour 4 (some .int) := fun w h => zsub w (wl_wsX00 w h)
  have hinX2 : ∀ w ∈ wsX20, w ∈ zws yX2_pour cX2_pour 4 (some .int) := fun w h => zsub w (wl_wsX20 w h)
  have hl : lv_has ls 4 [(0, .ref (a 0)), (1, .int cup), (2, .int water)] := hl
  by_cases hcup : inF cup 0 7 = 0
  · refine lv_aload_n (pc := 0) hx hb dX2_pour_0 rfl (lv_at hl 0 rfl) ?_
    refine lv_iload_n (pc := 1) hx hb dX2_pour_1 rfl (lv_at hl 1 rfl) ?_
    refine z_runV (pc := 2) (As := [.int cup]) (rest := []) (ws1 := wS ca a h c z) ⟨hx, hb, hml, hown, hts⟩ (k_X2_find_n l G ca a h c z cup hcup) (cwV 1 hts (zgoodV zsub wq_15_10 wq_8_0 wq_8_1 wq_1_11 wq_8_2) rfl rfl rfl hdV_X2_find ⟨Nat.le_of_ble_eq_true rfl, Nat.le_of_ble_eq_true rfl⟩) hz [] zp_all zp_all' rfl rfl rfl hl.1 (Nat.le_of_ble_eq_true rfl) (st1 := [.null]) rfl dX2_pour_2 ⟨Nat.zero_le _, Nat.zero_le _⟩ (fun H locs hz => ?_)
    refine lv_astore_nN (lv' := [(3, .null), (0, .ref (a 0)), (1, .int cup), (2, .int water)]) (pc := 5) hx hb dX2_pour_5 rfl hl (by decide) rfl (fun ls hl => ?_)
    refine lv_aload_nN (pc := 6) hx hb dX2_pour_6 rfl (lv_at hl 0 rfl) ?_
    refine lv_ifnonnullN (pc := 7) hx hb dX2_pour_7 ?_
    refine lv_iconst (v := -1) (pc := 10) hx hb dX2_pour_10 (by decide) ?_
    exact z_iret (pc := 11) hx hb hr hlk hQ hz dX2_pour_11 (by simp only [fillR, if_pos hcup]) (by simp only [fillC, fillH, if_pos hcup])
  · obtain ⟨k, hk, rfl⟩ := isCup_pos hcup
    have hnk : nn (nI k) = k := nn_nI (by omega)
    have hb5 := (hbb k hk).1
    have hb6 := (hbb k hk).2
    refine lv_aload_n (pc := 0) hx hb dX2_pour_0 rfl (lv_at hl 0 rfl) ?_
    refine lv_iload_n (pc := 1) hx hb dX2_pour_1 rfl (lv_at hl 1 rfl) ?_
    refine z_runV (pc := 2) (As := [.int (nI k)]) (rest := []) (ws1 := wS ca a h c z) ⟨hx, hb, hml, hown, hts⟩ (k_X2_find_r l G ca a h c z k (by assumption)) (cwV 1 hts (zgoodV zsub wq_15_10 wq_8_0 wq_8_1 wq_1_11 wq_8_2) rfl rfl rfl hdV_X2_find ⟨Nat.le_of_ble_eq_true rfl, Nat.le_of_ble_eq_true rfl⟩) hz [] zp_all zp_all' rfl rfl rfl hl.1 (Nat.le_of_ble_eq_true rfl) (st1 := [.ref (a (2 + k))]) rfl dX2_pour_2 ⟨Nat.zero_le _, Nat.zero_le _⟩ (fun H locs hz => ?_)
    refine lv_astore_n (lv' := [(3, .ref (a (2 + k))), (0, .ref (a 0)), (1, .int (nI k)), (2, .int water)]) (pc := 5) hx hb dX2_pour_5 rfl hl (by decide) rfl (fun ls hl => ?_)
    refine lv_aload_n (pc := 6) hx hb dX2_pour_6 rfl (lv_at hl 0 rfl) ?_
    refine lv_ifnonnull (tgt := 12) (pc := 7) hx hb dX2_pour_7 (by decide) ?_
    refine lv_iload_n (pc := 12) hx hb dX2_pour_12 rfl (lv_at hl 3 rfl) ?_
    refine lv_iconst (v := 1) (pc := 13) hx hb dX2_pour_13 (by decide) ?_
    refine lv_bipush (v := 99) (pc := 14) hx hb dX2_pour_14 (by decide) ?_
    refine z_runSN (pc := 16) (As := [.int water, .int 1, .int 99]) (rest := []) (ws1 := wS ca a h c z) ⟨hx, hb, hml, hown, hts⟩ (k_X3_isWithin l G ca water 1 99) ⟨va_cnB 3 hts (zgood0 zsub wq_17_10) rfl rfl rfl hz.1.2.2.2.1 (hts _ (zsub _ wq_1_2)) hdN_X3_isWithin ⟨Nat.le_of_ble_eq_true rfl, Nat.le_of_ble_eq_true rfl⟩, hts _ (zsub _ wq_17_9), trivial⟩ hz (wS ca a h c z) zp_no (List.Perm.refl _) rfl hl.1 (Nat.le_of_ble_eq_true rfl) (st1 := [.int (inF water 1 99)]) rfl dX2_pour_16 ⟨Nat.zero_le _, Nat.zero_le _⟩ (fun H locs hz => ?_)
    refine lv_if_ne (pc := 19) (tgt := 25) hx hb dX2_pour_19 (by decide) (fun c_19 => ?_) (fun c_19 => ?_)
    · refine lv_aload_n (pc := 25) hx hb dX2_pour_25 rfl (lv_at hl 0 rfl) ?_
      refine z_get (own := RX2) (ref := "CupFountain$Cup") (C := RX0) (T := TX0) (N := 13) (ci := 0) (v := .int (c k 3)) (pc := 26) hx hb hts hinX0 hown hz (2 + k) (wS_at (by assumption)) rfl 3 (by decide) L87 rfl rfl dX2_pour_26 ?_
      refine lv_iload_n (pc := 29) hx hb dX2_pour_29 rfl (lv_at hl 3 rfl) ?_
      refine lv_iadd (pc := 30) hx hb dX2_pour_30 ?_
      refine lv_sipush (v := 9999) (pc := 31) hx hb dX2_pour_31 (by decide) ?_
      refine lv_icmp_le (pc := 34) (tgt := 40) hx hb dX2_pour_34 (by decide) (fun c_34 => ?_) (fun c_34 => ?_)
      · refine lv_aload_n (pc := 40) hx hb dX2_pour_40 rfl (lv_at hl 0 rfl) ?_
        refine lv_dup (pc := 41) hx hb dX2_pour_41 rfl ?_
        refine z_get (own := RX2) (ref := "CupFountain$Cup") (C := RX0) (T := TX0) (N := 13) (ci := 0) (v := .int (c k 3)) (pc := 42) hx hb hts hinX0 hown hz (2 + k) (wS_at (by assumption)) rfl 3 (by decide) L87 rfl rfl dX2_pour_42 ?_
        refine lv_iload_n (pc := 45) hx hb dX2_pour_45 rfl (lv_at hl 3 rfl) ?_
        refine lv_iadd (pc := 46) hx hb dX2_pour_46 ?_
        refine z_put (own := RX2) (ref := "CupFountain$Cup") (C := RX0) (T := TX0) (N := 13) (ci := 0) (v := .int ((c k 3) + water)) (ws1 := wS ca a h (u2 c k 3 ((c k 3) + water)) z) (pc := 47) hx hb hts hinX0 tyX0 tyX0_ok nmX0 hown hz (2 + k) (wS_at (by assumption)) rfl 3 (by decide) L87 rfl rfl rfl rfl (Nat.le_of_ble_eq_true rfl) (wS_set (by assumption) (by decide)) dX2_pour_47 (fun H locs hz => ?_)
        refine lv_aload_n (pc := 50) hx hb dX2_pour_50 rfl (lv_at hl 1 rfl) ?_
        refine lv_dup (pc := 51) hx hb dX2_pour_51 rfl ?_
        refine z_get (own := RX2) (ref := "CupFountain$State") (C := RX2) (T := TX2) (N := 9) (ci := 2) (v := .int (h 4)) (pc := 52) hx hb hts hinX2 hown hz 0 rfl rfl 8 (by decide) L39 rfl rfl dX2_pour_52 ?_
        refine lv_iload_n (pc := 55) hx hb dX2_pour_55 rfl (lv_at hl 3 rfl) ?_
        refine lv_iadd (pc := 56) hx hb dX2_pour_56 ?_
        refine z_put (own := RX2) (ref := "CupFountain$State") (C := RX2) (T := TX2) (N := 9) (ci := 2) (v := .int ((h 4) + water)) (ws1 := wS ca a (upd h 4 ((h 4) + water)) (u2 c k 3 ((c k 3) + water)) z) (pc := 57) hx hb hts hinX2 tyX2 tyX2_ok nmX2 hown hz 0 rfl rfl 8 (by decide) L39 rfl rfl rfl rfl (Nat.le_of_ble_eq_true rfl) rfl dX2_pour_57 (fun H locs hz => ?_)
        refine lv_aload_n (pc := 60) hx hb dX2_pour_60 rfl (lv_at hl 0 rfl) ?_
        refine z_get (own := RX2) (ref := "CupFountain$Cup") (C := RX0) (T := TX0) (N := 13) (ci := 0) (v := .int ((u2 c k 3 ((c k 3) + water)) k 3)) (pc := 61) hx hb hts hinX0 hown hz (2 + k) (wS_at (by assumption)) rfl 3 (by decide) L87 rfl rfl dX2_pour_61 ?_
        refine z_top (y := c k 3 + water) u2_s ?_
        exact z_iret (pc := 64) hx hb hr hlk hQ hz dX2_pour_64 (by simp only [fillR, if_neg hcup, if_neg c_19, if_pos c_34, hnk]) (by simp only [fillC, fillH, if_neg hcup, if_neg c_19, if_pos c_34, hnk])
      · refine lv_bipush (v := -3) (pc := 37) hx hb dX2_pour_37 (by decide) ?_
        exact z_iret (pc := 39) hx hb hr hlk hQ hz dX2_pour_39 (by simp only [fillR, if_neg hcup, if_neg c_19, if_neg c_34, hnk]) (by simp only [fillC, fillH, if_neg hcup, if_neg c_19, if_neg c_34, hnk])
    · refine lv_bipush (v := -2) (pc := 22) hx hb dX2_pour_22 (by decide) ?_
      exact z_iret (pc := 24) hx hb hr hlk hQ hz dX2_pour_24 (by simp only [fillR, if_neg hcup, if_pos c_19, hnk]) (by simp only [fillC, fillH, if_neg hcup, if_pos c_19, hnk])

def rm_X2_changeCup : Room := { frames := 2, cells := 0, slots := 0, locals := 44 }
set_option maxRecDepth 20000 in
theorem hdV_X2_changeCup : yX2_changeCup.cls = RX2 ∧ yX2_changeCup.cls ≠ "java/lang/invoke/MethodHandle" ∧ yX2_changeCup.cls ≠ "java/lang/invoke/VarHandle" ∧ (parseMethodDescriptor yX2_changeCup.desc).map (fun d => d.parameters.length) = some 3 := by decide +kernel
set_option maxHeartbeats 4000000 in
set_option maxRecDepth 100000 in
theorem k_X2_changeCup (l : Launch) (G : va_G) (ca : Nat → ClassId) (a : Nat → Nat) (h : Nat → Int32) (c : Nat → Nat → Int32) (z : Nat → Int32) (cup which value : Int32) (hbb : ∀ k, k < 8 → b01 (c k 5) ∧ b01 (c k 6)) : Zc l G ca yX2_changeCup (zws yX2_changeCup cX2_changeCup 6 (some .int)) rm_X2_changeCup [.ref (a 0), .int cup, .int which, .int value] (wS ca a h c z) (some (.int (setR c cup which value))) (wS ca a h (setC c cup which value) z) := by
  refine Zc.of (cc := cX2_changeCup) (maxL := 6) (ret := (some .int)) (by decide) rfl (Nat.le_of_ble_eq_true rfl) ?_
  intro pg ev s0 mt below meth cd A args Q ls hx hb hr hml hown hts hlk hQ hl hz
  have L61 : (Cond.fieldLink RX2 61 "CupFountain$Cup" "size" "I").before args s0 = true := hts _ (zsub _ wq_14_11)
  have L64 : (Cond.fieldLink RX2 64 "CupFountain$Cup" "leak" "I").before args s0 = true := hts _ (zsub _ wq_24_3)
  have L67 : (Cond.fieldLink RX2 67 "CupFountain$Cup" "next" "I").before args s0 = true := hts _ (zsub _ wq_15_1)
  have hinX0 : ∀ w ∈ wsX00, w ∈ zws yX2_changeCup cX2_changeCup 6 (some .int) := fun w h => zsub w (wl_wsX00 w h)
  have hl : lv_has ls 6 [(0, .ref (a 0)), (1, .int cup), (2, .int which), (3, .int value)] := hl
  by_cases hcup : inF cup 0 7 = 0
  · refine lv_aload_n (pc := 0) hx hb dX2_changeCup_0 rfl (lv_at hl 0 rfl) ?_
    refine lv_iload_n (pc := 1) hx hb dX2_changeCup_1 rfl (lv_at hl 1 rfl) ?_
    refine z_runV (pc := 2) (As := [.int cup]) (rest := []) (ws1 := wS ca a h c z) ⟨hx, hb, hml, hown, hts⟩ (k_X2_find_n l G ca a h c z cup hcup) (cwV 1 hts (zgoodV zsub wq_15_10 wq_8_0 wq_8_1 wq_1_11 wq_8_2) rfl rfl rfl hdV_X2_find ⟨Nat.le_of_ble_eq_true rfl, Nat.le_of_ble_eq_true rfl⟩) hz [] zp_all zp_all' rfl rfl rfl hl.1 (Nat.le_of_ble_eq_true rfl) (st1 := [.null]) rfl dX2_changeCup_2 ⟨Nat.zero_le _, Nat.zero_le _⟩ (fun H locs hz => ?_)
    refine lv_astoreN (lv' := [(4, .null), (0, .ref (a 0)), (1, .int cup), (2, .int which), (3, .int value)]) (pc := 5) hx hb dX2_changeCup_5 hl (by decide) rfl (fun ls hl => ?_)
    refine lv_aloadN (pc := 7) hx hb dX2_changeCup_7 (lv_at hl 0 rfl) ?_
    refine lv_ifnonnullN (pc := 9) hx hb dX2_changeCup_9 ?_
    refine lv_iconst (v := -1) (pc := 12) hx hb dX2_changeCup_12 (by decide) ?_
    exact z_iret (pc := 13) hx hb hr hlk hQ hz dX2_changeCup_13 (by simp only [setR, if_pos hcup]) (by simp only [setC, if_pos hcup])
  · obtain ⟨k, hk, rfl⟩ := isCup_pos hcup
    have hnk : nn (nI k) = k := nn_nI (by omega)
    have hb5 := (hbb k hk).1
    have hb6 := (hbb k hk).2
    refine lv_aload_n (pc := 0) hx hb dX2_changeCup_0 rfl (lv_at hl 0 rfl) ?_
    refine lv_iload_n (pc := 1) hx hb dX2_changeCup_1 rfl (lv_at hl 1 rfl) ?_
    refine z_runV (pc := 2) (As := [.int (nI k)]) (rest := []) (ws1 := wS ca a h c z) ⟨hx, hb, hml, hown, hts⟩ (k_X2_find_r l G ca a h c z k (by assumption)) (cwV 1 hts (zgoodV zsub wq_15_10 wq_8_0 wq_8_1 wq_1_11 wq_8_2) rfl rfl rfl hdV_X2_find ⟨Nat.le_of_ble_eq_true rfl, Nat.le_of_ble_eq_true rfl⟩) hz [] zp_all zp_all' rfl rfl rfl hl.1 (Nat.le_of_ble_eq_true rfl) (st1 := [.ref (a (2 + k))]) rfl dX2_changeCup_2 ⟨Nat.zero_le _, Nat.zero_le _⟩ (fun H locs hz => ?_)
    refine lv_astore (lv' := [(4, .ref (a (2 + k))), (0, .ref (a 0)), (1, .int (nI k)), (2, .int which), (3, .int value)]) (pc := 5) hx hb dX2_changeCup_5 hl (by decide) rfl (fun ls hl => ?_)
    refine lv_aload (pc := 7) hx hb dX2_changeCup_7 (lv_at hl 0 rfl) ?_
    refine lv_ifnonnull (tgt := 14) (pc := 9) hx hb dX2_changeCup_9 (by decide) ?_
    refine lv_iload_n (pc := 14) hx hb dX2_changeCup_14 rfl (lv_at hl 2 rfl) ?_
    refine lv_iload_n (pc := 15) hx hb dX2_changeCup_15 rfl (lv_at hl 3 rfl) ?_
    refine lv_iload_n (pc := 16) hx hb dX2_changeCup_16 rfl (lv_at hl 4 rfl) ?_
    refine z_runS (pc := 17) (As := [.int (nI k), .int which, .int value]) (rest := []) (ws1 := wS ca a h c z) ⟨hx, hb, hml, hown, hts⟩ (k_X2_isCupValue l G ca (nI k) which value) (cwS 3 hts (zgoodS zsub wq_24_4 wq_24_5 wq_1_11 wq_24_6) rfl rfl rfl hdV_X2_isCupValue ⟨Nat.le_of_ble_eq_true rfl, Nat.le_of_ble_eq_true rfl⟩) hz (wS ca a h c z) zp_no (List.Perm.refl _) rfl hl.1 (Nat.le_of_ble_eq_true rfl) (st1 := [.int (isValF (nI k) which value)]) rfl dX2_changeCup_17 ⟨Nat.zero_le _, Nat.zero_le _⟩ (fun H locs hz => ?_)
    refine lv_if_ne (pc := 20) (tgt := 26) hx hb dX2_changeCup_20 (by decide) (fun c_20 => ?_) (fun c_20 => ?_)
    · obtain ⟨w, hw, rfl⟩ := isVal_pos c_20
      have hnw : nn (nI w) = w := nn_nI (by omega)
      refine lv_aload (pc := 26) hx hb dX2_changeCup_26 (lv_at hl 0 rfl) ?_
      refine lv_iload_n (pc := 28) hx hb dX2_changeCup_28 rfl (lv_at hl 3 rfl) ?_
      refine z_runV (pc := 29) (As := [.int (nI w)]) (rest := []) (ws1 := wS ca a h c z) ⟨hx, hb, hml, hown, hts⟩ (k_X0_tell l G ca (a (2 + k)) (c k) (z k) (nI w) hb5 hb6) (cwV 1 hts (zgoodV zsub wq_10_4 wq_8_4 wq_8_5 wq_4_4 wq_8_6) rfl rfl rfl hdV_X0_tell ⟨Nat.le_of_ble_eq_true rfl, Nat.le_of_ble_eq_true rfl⟩) hz (wSr ca a h c z k) (wS_pm (by assumption)) ((wS_pm (by assumption)).symm) rfl rfl rfl hl.1 (Nat.le_of_ble_eq_true rfl) (st1 := [.int (tellR (c k) (nI w))]) rfl dX2_changeCup_29 ⟨Nat.zero_le _, Nat.zero_le _⟩ (fun H locs hz => ?_)
      refine z_top (y := c k w) (tellR_w hw) ?_
      refine lv_istore (lv' := [(5, .int (c k w)), (4, .ref (a (2 + k))), (0, .ref (a 0)), (1, .int (nI k)), (2, .int (nI w)), (3, .int value)]) (pc := 32) hx hb dX2_changeCup_32 hl (by decide) rfl (fun ls hl => ?_)
      refine lv_iload (pc := 34) hx hb dX2_changeCup_34 (lv_at hl 0 rfl) ?_
      refine lv_iload_n (pc := 36) hx hb dX2_changeCup_36 rfl (lv_at hl 5 rfl) ?_
      refine lv_icmp_ne (pc := 37) (tgt := 43) hx hb dX2_changeCup_37 (by decide) (fun c_37 => ?_) (fun c_37 => ?_)
      · have hw3 : w = 0 ∨ w = 1 ∨ w = 2 := by omega
        rcases hw3 with rfl | rfl | rfl
        · refine lv_iload_n (pc := 43) hx hb dX2_changeCup_43 rfl (lv_at hl 4 rfl) ?_
          refine lv_if_ne (pc := 44) (tgt := 56) hx hb dX2_changeCup_44 (by decide) (fun c9 => absurd (show nI 0 = 0 from rfl) c9) (fun c_44 => ?_)
          refine lv_aload (pc := 47) hx hb dX2_changeCup_47 (lv_at hl 1 rfl) ?_
          refine lv_iload_n (pc := 49) hx hb dX2_changeCup_49 rfl (lv_at hl 5 rfl) ?_
          refine z_put (own := RX2) (ref := "CupFountain$Cup") (C := RX0) (T := TX0) (N := 13) (ci := 0) (v := .int value) (ws1 := wS ca a h (u2 c k 0 value) z) (pc := 50) hx hb hts hinX0 tyX0 tyX0_ok nmX0 hown hz (2 + k) (wS_at (by assumption)) rfl 0 (by decide) L61 rfl rfl rfl rfl (Nat.le_of_ble_eq_true rfl) (wS_set (by assumption) (by decide)) dX2_changeCup_50 (fun H locs hz => ?_)
          refine lv_goto (tgt := 76) (pc := 53) hx hb dX2_changeCup_53 (by decide) ?_
          refine lv_iload (pc := 76) hx hb dX2_changeCup_76 (lv_at hl 0 rfl) ?_
          exact z_iret (pc := 78) hx hb hr hlk hQ hz dX2_changeCup_78 (by simp only [setR, if_neg hcup, if_neg c_20, if_neg c_37, hnk, hnw]) (by simp only [setC, if_neg hcup, if_neg c_20, if_neg c_37, hnk, hnw])
        · refine lv_iload_n (pc := 43) hx hb dX2_changeCup_43 rfl (lv_at hl 4 rfl) ?_
          refine lv_if_ne (pc := 44) (tgt := 56) hx hb dX2_changeCup_44 (by decide) (fun c_44 => ?_) (fun c9 => absurd c9 (by decide))
          refine lv_iload_n (pc := 56) hx hb dX2_changeCup_56 rfl (lv_at hl 4 rfl) ?_
          refine lv_iconst (v := 1) (pc := 57) hx hb dX2_changeCup_57 (by decide) ?_
          refine lv_icmp_ne (pc := 58) (tgt := 70) hx hb dX2_changeCup_58 (by decide) (fun c9 => absurd (show nI 1 = 1 from rfl) c9) (fun c_58 => ?_)
          refine lv_aload (pc := 61) hx hb dX2_changeCup_61 (lv_at hl 1 rfl) ?_
          refine lv_iload_n (pc := 63) hx hb dX2_changeCup_63 rfl (lv_at hl 5 rfl) ?_
          refine z_put (own := RX2) (ref := "CupFountain$Cup") (C := RX0) (T := TX0) (N := 13) (ci := 0) (v := .int value) (ws1 := wS ca a h (u2 c k 1 value) z) (pc := 64) hx hb hts hinX0 tyX0 tyX0_ok nmX0 hown hz (2 + k) (wS_at (by assumption)) rfl 1 (by decide) L64 rfl rfl rfl rfl (Nat.le_of_ble_eq_true rfl) (wS_set (by assumption) (by decide)) dX2_changeCup_64 (fun H locs hz => ?_)
          refine lv_goto (tgt := 76) (pc := 67) hx hb dX2_changeCup_67 (by decide) ?_
          refine lv_iload (pc := 76) hx hb dX2_changeCup_76 (lv_at hl 0 rfl) ?_
          exact z_iret (pc := 78) hx hb hr hlk hQ hz dX2_changeCup_78 (by simp only [setR, if_neg hcup, if_neg c_20, if_neg c_37, hnk, hnw]) (by simp only [setC, if_neg hcup, if_neg c_20, if_neg c_37, hnk, hnw])
        · refine lv_iload_n (pc := 43) hx hb dX2_changeCup_43 rfl (lv_at hl 4 rfl) ?_
          refine lv_if_ne (pc := 44) (tgt := 56) hx hb dX2_changeCup_44 (by decide) (fun c_44 => ?_) (fun c9 => absurd c9 (by decide))
          refine lv_iload_n (pc := 56) hx hb dX2_changeCup_56 rfl (lv_at hl 4 rfl) ?_
          refine lv_iconst (v := 1) (pc := 57) hx hb dX2_changeCup_57 (by decide) ?_
          refine lv_icmp_ne (pc := 58) (tgt := 70) hx hb dX2_changeCup_58 (by decide) (fun c_58 => ?_) (fun c9 => absurd c9 (by decide))
          refine lv_aload (pc := 70) hx hb dX2_changeCup_70 (lv_at hl 1 rfl) ?_
          refine lv_iload_n (pc := 72) hx hb dX2_changeCup_72 rfl (lv_at hl 5 rfl) ?_
          refine z_put (own := RX2) (ref := "CupFountain$Cup") (C := RX0) (T := TX0) (N := 13) (ci := 0) (v := .int value) (ws1 := wS ca a h (u2 c k 2 value) z) (pc := 73) hx hb hts hinX0 tyX0 tyX0_ok nmX0 hown hz (2 + k) (wS_at (by assumption)) rfl 2 (by decide) L67 rfl rfl rfl rfl (Nat.le_of_ble_eq_true rfl) (wS_set (by assumption) (by decide)) dX2_changeCup_73 (fun H locs hz => ?_)
          refine lv_iload (pc := 76) hx hb dX2_changeCup_76 (lv_at hl 0 rfl) ?_
          exact z_iret (pc := 78) hx hb hr hlk hQ hz dX2_changeCup_78 (by simp only [setR, if_neg hcup, if_neg c_20, if_neg c_37, hnk, hnw]) (by simp only [setC, if_neg hcup, if_neg c_20, if_neg c_37, hnk, hnw])
      · refine lv_bipush (v := -5) (pc := 40) hx hb dX2_changeCup_40 (by decide) ?_
        exact z_iret (pc := 42) hx hb hr hlk hQ hz dX2_changeCup_42 (by simp only [setR, if_neg hcup, if_neg c_20, if_pos c_37, hnk, hnw]) (by simp only [setC, if_neg hcup, if_neg c_20, hnk, hnw]; rw [← c_37, u2_same])
    · refine lv_bipush (v := -2) (pc := 23) hx hb dX2_changeCup_23 (by decide) ?_
      exact z_iret (pc := 25) hx hb hr hlk hQ hz dX2_changeCup_25 (by simp only [setR, if_neg hcup, if_pos c_20, hnk]) (by simp only [setC, if_neg hcup, if_pos c_20, hnk])

def rm_X2_changeSetting : Room := { frames := 1, cells := 0, slots := 0, locals := 22 }
set_option maxRecDepth 20000 in
theorem hdV_X2_changeSetting : yX2_changeSetting.cls = RX2 ∧ yX2_changeSetting.cls ≠ "java/lang/invoke/MethodHandle" ∧ yX2_changeSetting.cls ≠ "java/lang/invoke/VarHandle" ∧ (parseMethodDescriptor yX2_changeSetting.desc).map (fun d => d.parameters.length) = some 2 := by decide +kernel
set_option maxHeartbeats 4000000 in
set_option maxRecDepth 100000 in
theorem k_X2_changeSetting (l : Launch) (G : va_G) (ca : Nat → ClassId) (a : Nat → Nat) (h : Nat → Int32) (c : Nat → Nat → Int32) (z : Nat → Int32) (which value : Int32) : Zc l G ca yX2_changeSetting (zws yX2_changeSetting cX2_changeSetting 4 (some .int)) rm_X2_changeSetting [.ref (a 0), .int which, .int value] (wS ca a h c z) (some (.int (putR h which value))) (wS ca a (putH h which value) c z) := by
  refine Zc.of (cc := cX2_changeSetting) (maxL := 4) (ret := (some .int)) (by decide) rfl (Nat.le_of_ble_eq_true rfl) ?_
  intro pg ev s0 mt below meth cd A args Q ls hx hb hr hml hown hts hlk hQ hl hz
  have L21 : (Cond.fieldLink RX2 21 "CupFountain$State" "spring" "I").before args s0 = true := hts _ (zsub _ wq_3_8)
  have L24 : (Cond.fieldLink RX2 24 "CupFountain$State" "comesBack" "I").before args s0 = true := hts _ (zsub _ wq_3_9)
  have L27 : (Cond.fieldLink RX2 27 "CupFountain$State" "day" "I").before args s0 = true := hts _ (zsub _ wq_3_10)
  have hinX2 : ∀ w ∈ wsX20, w ∈ zws yX2_changeSetting cX2_changeSetting 4 (some .int) := fun w h => zsub w (wl_wsX20 w h)
  have hl : lv_has ls 4 [(0, .ref (a 0)), (1, .int which), (2, .int value)] := hl
  rcases sw3 which with hs | rfl | rfl | rfl
  · refine lv_iload_n (pc := 0) hx hb dX2_changeSetting_0 rfl (lv_at hl 1 rfl) ?_
    refine lv_iconst (v := 0) (pc := 1) hx hb dX2_changeSetting_1 (by decide) ?_
    refine lv_iconst (v := 2) (pc := 2) hx hb dX2_changeSetting_2 (by decide) ?_
    refine z_runSN (pc := 3) (As := [.int which, .int 0, .int 2]) (rest := []) (ws1 := wS ca a h c z) ⟨hx, hb, hml, hown, hts⟩ (k_X3_isWithin l G ca which 0 2) ⟨va_cnB 3 hts (zgood0 zsub wq_17_10) rfl rfl rfl hz.1.2.2.2.1 (hts _ (zsub _ wq_1_2)) hdN_X3_isWithin ⟨Nat.le_of_ble_eq_true rfl, Nat.le_of_ble_eq_true rfl⟩, hts _ (zsub _ wq_17_9), trivial⟩ hz (wS ca a h c z) zp_no (List.Perm.refl _) rfl hl.1 (Nat.le_of_ble_eq_true rfl) (st1 := [.int (inF which 0 2)]) rfl dX2_changeSetting_3 ⟨Nat.zero_le _, Nat.zero_le _⟩ (fun H locs hz => ?_)
    refine lv_if_ne (pc := 6) (tgt := 11) hx hb dX2_changeSetting_6 (by decide) (fun c9 => absurd hs c9) (fun c_6 => ?_)
    refine lv_iconst (v := -1) (pc := 9) hx hb dX2_changeSetting_9 (by decide) ?_
    exact z_iret (pc := 10) hx hb hr hlk hQ hz dX2_changeSetting_10 (by simp only [putR, if_pos hs]) (by simp only [putH, if_pos hs])
  · refine lv_iload_n (pc := 0) hx hb dX2_changeSetting_0 rfl (lv_at hl 1 rfl) ?_
    refine lv_iconst (v := 0) (pc := 1) hx hb dX2_changeSetting_1 (by decide) ?_
    refine lv_iconst (v := 2) (pc := 2) hx hb dX2_changeSetting_2 (by decide) ?_
    refine z_runSN (pc := 3) (As := [.int 0, .int 0, .int 2]) (rest := []) (ws1 := wS ca a h c z) ⟨hx, hb, hml, hown, hts⟩ (k_X3_isWithin l G ca 0 0 2) ⟨va_cnB 3 hts (zgood0 zsub wq_17_10) rfl rfl rfl hz.1.2.2.2.1 (hts _ (zsub _ wq_1_2)) hdN_X3_isWithin ⟨Nat.le_of_ble_eq_true rfl, Nat.le_of_ble_eq_true rfl⟩, hts _ (zsub _ wq_17_9), trivial⟩ hz (wS ca a h c z) zp_no (List.Perm.refl _) rfl hl.1 (Nat.le_of_ble_eq_true rfl) (st1 := [.int (inF 0 0 2)]) rfl dX2_changeSetting_3 ⟨Nat.zero_le _, Nat.zero_le _⟩ (fun H locs hz => ?_)
    refine lv_if_ne (pc := 6) (tgt := 11) hx hb dX2_changeSetting_6 (by decide) (fun c_6 => ?_) (fun c9 => absurd c9 (by decide))
    refine lv_iload_n (pc := 11) hx hb dX2_changeSetting_11 rfl (lv_at hl 1 rfl) ?_
    refine lv_iconst (v := 2) (pc := 12) hx hb dX2_changeSetting_12 (by decide) ?_
    refine lv_icmp_ne (pc := 13) (tgt := 30) hx hb dX2_changeSetting_13 (by decide) (fun c_13 => ?_) (fun c9 => absurd c9 (by decide))
    refine lv_iload_n (pc := 30) hx hb dX2_changeSetting_30 rfl (lv_at hl 2 rfl) ?_
    refine lv_iconst (v := 0) (pc := 31) hx hb dX2_changeSetting_31 (by decide) ?_
    refine lv_bipush (v := 99) (pc := 32) hx hb dX2_changeSetting_32 (by decide) ?_
    refine z_runSN (pc := 34) (As := [.int value, .int 0, .int 99]) (rest := []) (ws1 := wS ca a h c z) ⟨hx, hb, hml, hown, hts⟩ (k_X3_isWithin l G ca value 0 99) ⟨va_cnB 3 hts (zgood0 zsub wq_17_10) rfl rfl rfl hz.1.2.2.2.1 (hts _ (zsub _ wq_1_2)) hdN_X3_isWithin ⟨Nat.le_of_ble_eq_true rfl, Nat.le_of_ble_eq_true rfl⟩, hts _ (zsub _ wq_17_9), trivial⟩ hz (wS ca a h c z) zp_no (List.Perm.refl _) rfl hl.1 (Nat.le_of_ble_eq_true rfl) (st1 := [.int (inF value 0 99)]) rfl dX2_changeSetting_34 ⟨Nat.zero_le _, Nat.zero_le _⟩ (fun H locs hz => ?_)
    refine lv_if_ne (pc := 37) (tgt := 43) hx hb dX2_changeSetting_37 (by decide) (fun c_37 => ?_) (fun c_37 => ?_)
    · refine lv_aload_n (pc := 43) hx hb dX2_changeSetting_43 rfl (lv_at hl 0 rfl) ?_
      refine lv_iload_n (pc := 44) hx hb dX2_changeSetting_44 rfl (lv_at hl 1 rfl) ?_
      refine z_runV (pc := 45) (As := [.int 0]) (rest := []) (ws1 := wS ca a h c z) ⟨hx, hb, hml, hown, hts⟩ (k_X2_tellSetting l G ca a h c z 0) (cwV 1 hts (zgoodV zsub wq_11_1 wq_11_2 wq_11_3 wq_1_11 wq_11_4) rfl rfl rfl hdV_X2_tellSetting ⟨Nat.le_of_ble_eq_true rfl, Nat.le_of_ble_eq_true rfl⟩) hz [] zp_all zp_all' rfl rfl rfl hl.1 (Nat.le_of_ble_eq_true rfl) (st1 := [.int (setF h 0)]) rfl dX2_changeSetting_45 ⟨Nat.zero_le _, Nat.zero_le _⟩ (fun H locs hz => ?_)
      refine z_top (y := h 5) rfl ?_
      refine lv_istore_n (lv' := [(3, .int (h 5)), (0, .ref (a 0)), (1, .int 0), (2, .int value)]) (pc := 48) hx hb dX2_changeSetting_48 rfl hl (by decide) rfl (fun ls hl => ?_)
      refine lv_iload_n (pc := 49) hx hb dX2_changeSetting_49 rfl (lv_at hl 0 rfl) ?_
      refine lv_iload_n (pc := 50) hx hb dX2_changeSetting_50 rfl (lv_at hl 3 rfl) ?_
      refine lv_icmp_ne (pc := 51) (tgt := 57) hx hb dX2_changeSetting_51 (by decide) (fun c_51 => ?_) (fun c_51 => ?_)
      · refine lv_iload_n (pc := 57) hx hb dX2_changeSetting_57 rfl (lv_at hl 2 rfl) ?_
        refine lv_if_ne (pc := 58) (tgt := 69) hx hb dX2_changeSetting_58 (by decide) (fun c9 => absurd rfl c9) (fun c_58 => ?_)
        refine lv_aload_n (pc := 61) hx hb dX2_changeSetting_61 rfl (lv_at hl 1 rfl) ?_
        refine lv_iload_n (pc := 62) hx hb dX2_changeSetting_62 rfl (lv_at hl 3 rfl) ?_
        refine z_put (own := RX2) (ref := "CupFountain$State") (C := RX2) (T := TX2) (N := 9) (ci := 2) (v := .int value) (ws1 := wS ca a (upd h 5 value) c z) (pc := 63) hx hb hts hinX2 tyX2 tyX2_ok nmX2 hown hz 0 rfl rfl 2 (by decide) L21 rfl rfl rfl rfl (Nat.le_of_ble_eq_true rfl) rfl dX2_changeSetting_63 (fun H locs hz => ?_)
        refine lv_goto (tgt := 87) (pc := 66) hx hb dX2_changeSetting_66 (by decide) ?_
        refine lv_iload_n (pc := 87) hx hb dX2_changeSetting_87 rfl (lv_at hl 0 rfl) ?_
        exact z_iret (pc := 88) hx hb hr hlk hQ hz dX2_changeSetting_88 (by simp only [putR, if_neg (show ¬ inF 0 0 2 = 0 by decide), if_neg (show ¬ (0 : Int32) = 2 by decide), if_neg c_37]; rw [show h (5 + nn 0) = h 5 from rfl, if_neg c_51]) (by simp only [putH, if_neg (show ¬ inF 0 0 2 = 0 by decide), if_neg (show ¬ (0 : Int32) = 2 by decide), if_neg c_37]; rw [show 5 + nn 0 = 5 from rfl])
      · refine lv_bipush (v := -5) (pc := 54) hx hb dX2_changeSetting_54 (by decide) ?_
        exact z_iret (pc := 56) hx hb hr hlk hQ hz dX2_changeSetting_56 (by simp only [putR, if_neg (show ¬ inF 0 0 2 = 0 by decide), if_neg (show ¬ (0 : Int32) = 2 by decide), if_neg c_37]; rw [show h (5 + nn 0) = h 5 from rfl, if_pos c_51]) (by simp only [putH, if_neg (show ¬ inF 0 0 2 = 0 by decide), if_neg (show ¬ (0 : Int32) = 2 by decide), if_neg c_37]; rw [show 5 + nn 0 = 5 from rfl]; rw [← c_51]; exact congrArg (fun q => wS ca a q c z) upd_same)
    · refine lv_bipush (v := -2) (pc := 40) hx hb dX2_changeSetting_40 (by decide) ?_
      exact z_iret (pc := 42) hx hb hr hlk hQ hz dX2_changeSetting_42 (by simp only [putR, if_neg (show ¬ inF 0 0 2 = 0 by decide), if_neg (show ¬ (0 : Int32) = 2 by decide), if_pos c_37]) (by simp only [putH, if_neg (show ¬ inF 0 0 2 = 0 by decide), if_neg (show ¬ (0 : Int32) = 2 by decide), if_pos c_37])
  · refine lv_iload_n (pc := 0) hx hb dX2_changeSetting_0 rfl (lv_at hl 1 rfl) ?_
    refine lv_iconst (v := 0) (pc := 1) hx hb dX2_changeSetting_1 (by decide) ?_
    refine lv_iconst (v := 2) (pc := 2) hx hb dX2_changeSetting_2 (by decide) ?_
    refine z_runSN (pc := 3) (As := [.int 1, .int 0, .int 2]) (rest := []) (ws1 := wS ca a h c z) ⟨hx, hb, hml, hown, hts⟩ (k_X3_isWithin l G ca 1 0 2) ⟨va_cnB 3 hts (zgood0 zsub wq_17_10) rfl rfl rfl hz.1.2.2.2.1 (hts _ (zsub _ wq_1_2)) hdN_X3_isWithin ⟨Nat.le_of_ble_eq_true rfl, Nat.le_of_ble_eq_true rfl⟩, hts _ (zsub _ wq_17_9), trivial⟩ hz (wS ca a h c z) zp_no (List.Perm.refl _) rfl hl.1 (Nat.le_of_ble_eq_true rfl) (st1 := [.int (inF 1 0 2)]) rfl dX2_changeSetting_3 ⟨Nat.zero_le _, Nat.zero_le _⟩ (fun H locs hz => ?_)
    refine lv_if_ne (pc := 6) (tgt := 11) hx hb dX2_changeSetting_6 (by decide) (fun c_6 => ?_) (fun c9 => absurd c9 (by decide))
    refine lv_iload_n (pc := 11) hx hb dX2_changeSetting_11 rfl (lv_at hl 1 rfl) ?_
    refine lv_iconst (v := 2) (pc := 12) hx hb dX2_changeSetting_12 (by decide) ?_
    refine lv_icmp_ne (pc := 13) (tgt := 30) hx hb dX2_changeSetting_13 (by decide) (fun c_13 => ?_) (fun c9 => absurd c9 (by decide))
    refine lv_iload_n (pc := 30) hx hb dX2_changeSetting_30 rfl (lv_at hl 2 rfl) ?_
    refine lv_iconst (v := 0) (pc := 31) hx hb dX2_changeSetting_31 (by decide) ?_
    refine lv_bipush (v := 99) (pc := 32) hx hb dX2_changeSetting_32 (by decide) ?_
    refine z_runSN (pc := 34) (As := [.int value, .int 0, .int 99]) (rest := []) (ws1 := wS ca a h c z) ⟨hx, hb, hml, hown, hts⟩ (k_X3_isWithin l G ca value 0 99) ⟨va_cnB 3 hts (zgood0 zsub wq_17_10) rfl rfl rfl hz.1.2.2.2.1 (hts _ (zsub _ wq_1_2)) hdN_X3_isWithin ⟨Nat.le_of_ble_eq_true rfl, Nat.le_of_ble_eq_true rfl⟩, hts _ (zsub _ wq_17_9), trivial⟩ hz (wS ca a h c z) zp_no (List.Perm.refl _) rfl hl.1 (Nat.le_of_ble_eq_true rfl) (st1 := [.int (inF value 0 99)]) rfl dX2_changeSetting_34 ⟨Nat.zero_le _, Nat.zero_le _⟩ (fun H locs hz => ?_)
    refine lv_if_ne (pc := 37) (tgt := 43) hx hb dX2_changeSetting_37 (by decide) (fun c_37 => ?_) (fun c_37 => ?_)
    · refine lv_aload_n (pc := 43) hx hb dX2_changeSetting_43 rfl (lv_at hl 0 rfl) ?_
      refine lv_iload_n (pc := 44) hx hb dX2_changeSetting_44 rfl (lv_at hl 1 rfl) ?_
      refine z_runV (pc := 45) (As := [.int 1]) (rest := []) (ws1 := wS ca a h c z) ⟨hx, hb, hml, hown, hts⟩ (k_X2_tellSetting l G ca a h c z 1) (cwV 1 hts (zgoodV zsub wq_11_1 wq_11_2 wq_11_3 wq_1_11 wq_11_4) rfl rfl rfl hdV_X2_tellSetting ⟨Nat.le_of_ble_eq_true rfl, Nat.le_of_ble_eq_true rfl⟩) hz [] zp_all zp_all' rfl rfl rfl hl.1 (Nat.le_of_ble_eq_true rfl) (st1 := [.int (setF h 1)]) rfl dX2_changeSetting_45 ⟨Nat.zero_le _, Nat.zero_le _⟩ (fun H locs hz => ?_)
      refine z_top (y := h 6) rfl ?_
      refine lv_istore_n (lv' := [(3, .int (h 6)), (0, .ref (a 0)), (1, .int 1), (2, .int value)]) (pc := 48) hx hb dX2_changeSetting_48 rfl hl (by decide) rfl (fun ls hl => ?_)
      refine lv_iload_n (pc := 49) hx hb dX2_changeSetting_49 rfl (lv_at hl 0 rfl) ?_
      refine lv_iload_n (pc := 50) hx hb dX2_changeSetting_50 rfl (lv_at hl 3 rfl) ?_
      refine lv_icmp_ne (pc := 51) (tgt := 57) hx hb dX2_changeSetting_51 (by decide) (fun c_51 => ?_) (fun c_51 => ?_)
      · refine lv_iload_n (pc := 57) hx hb dX2_changeSetting_57 rfl (lv_at hl 2 rfl) ?_
        refine lv_if_ne (pc := 58) (tgt := 69) hx hb dX2_changeSetting_58 (by decide) (fun c_58 => ?_) (fun c9 => absurd c9 (by decide))
        refine lv_iload_n (pc := 69) hx hb dX2_changeSetting_69 rfl (lv_at hl 2 rfl) ?_
        refine lv_iconst (v := 1) (pc := 70) hx hb dX2_changeSetting_70 (by decide) ?_
        refine lv_icmp_ne (pc := 71) (tgt := 82) hx hb dX2_changeSetting_71 (by decide) (fun c9 => absurd rfl c9) (fun c_71 => ?_)
        refine lv_aload_n (pc := 74) hx hb dX2_changeSetting_74 rfl (lv_at hl 1 rfl) ?_
        refine lv_iload_n (pc := 75) hx hb dX2_changeSetting_75 rfl (lv_at hl 3 rfl) ?_
        refine z_put (own := RX2) (ref := "CupFountain$State") (C := RX2) (T := TX2) (N := 9) (ci := 2) (v := .int value) (ws1 := wS ca a (upd h 6 value) c z) (pc := 76) hx hb hts hinX2 tyX2 tyX2_ok nmX2 hown hz 0 rfl rfl 3 (by decide) L24 rfl rfl rfl rfl (Nat.le_of_ble_eq_true rfl) rfl dX2_changeSetting_76 (fun H locs hz => ?_)
        refine lv_goto (tgt := 87) (pc := 79) hx hb dX2_changeSetting_79 (by decide) ?_
        refine lv_iload_n (pc := 87) hx hb dX2_changeSetting_87 rfl (lv_at hl 0 rfl) ?_
        exact z_iret (pc := 88) hx hb hr hlk hQ hz dX2_changeSetting_88 (by simp only [putR, if_neg (show ¬ inF 1 0 2 = 0 by decide), if_neg (show ¬ (1 : Int32) = 2 by decide), if_neg c_37]; rw [show h (5 + nn 1) = h 6 from rfl, if_neg c_51]) (by simp only [putH, if_neg (show ¬ inF 1 0 2 = 0 by decide), if_neg (show ¬ (1 : Int32) = 2 by decide), if_neg c_37]; rw [show 5 + nn 1 = 6 from rfl])
      · refine lv_bipush (v := -5) (pc := 54) hx hb dX2_changeSetting_54 (by decide) ?_
        exact z_iret (pc := 56) hx hb hr hlk hQ hz dX2_changeSetting_56 (by simp only [putR, if_neg (show ¬ inF 1 0 2 = 0 by decide), if_neg (show ¬ (1 : Int32) = 2 by decide), if_neg c_37]; rw [show h (5 + nn 1) = h 6 from rfl, if_pos c_51]) (by simp only [putH, if_neg (show ¬ inF 1 0 2 = 0 by decide), if_neg (show ¬ (1 : Int32) = 2 by decide), if_neg c_37]; rw [show 5 + nn 1 = 6 from rfl]; rw [← c_51]; exact congrArg (fun q => wS ca a q c z) upd_same)
    · refine lv_bipush (v := -2) (pc := 40) hx hb dX2_changeSetting_40 (by decide) ?_
      exact z_iret (pc := 42) hx hb hr hlk hQ hz dX2_changeSetting_42 (by simp only [putR, if_neg (show ¬ inF 1 0 2 = 0 by decide), if_neg (show ¬ (1 : Int32) = 2 by decide), if_pos c_37]) (by simp only [putH, if_neg (show ¬ inF 1 0 2 = 0 by decide), if_neg (show ¬ (1 : Int32) = 2 by decide), if_pos c_37])
  · refine lv_iload_n (pc := 0) hx hb dX2_changeSetting_0 rfl (lv_at hl 1 rfl) ?_
    refine lv_iconst (v := 0) (pc := 1) hx hb dX2_changeSetting_1 (by decide) ?_
    refine lv_iconst (v := 2) (pc := 2) hx hb dX2_changeSetting_2 (by decide) ?_
    refine z_runSN (pc := 3) (As := [.int 2, .int 0, .int 2]) (rest := []) (ws1 := wS ca a h c z) ⟨hx, hb, hml, hown, hts⟩ (k_X3_isWithin l G ca 2 0 2) ⟨va_cnB 3 hts (zgood0 zsub wq_17_10) rfl rfl rfl hz.1.2.2.2.1 (hts _ (zsub _ wq_1_2)) hdN_X3_isWithin ⟨Nat.le_of_ble_eq_true rfl, Nat.le_of_ble_eq_true rfl⟩, hts _ (zsub _ wq_17_9), trivial⟩ hz (wS ca a h c z) zp_no (List.Perm.refl _) rfl hl.1 (Nat.le_of_ble_eq_true rfl) (st1 := [.int (inF 2 0 2)]) rfl dX2_changeSetting_3 ⟨Nat.zero_le _, Nat.zero_le _⟩ (fun H locs hz => ?_)
    refine lv_if_ne (pc := 6) (tgt := 11) hx hb dX2_changeSetting_6 (by decide) (fun c_6 => ?_) (fun c9 => absurd c9 (by decide))
    refine lv_iload_n (pc := 11) hx hb dX2_changeSetting_11 rfl (lv_at hl 1 rfl) ?_
    refine lv_iconst (v := 2) (pc := 12) hx hb dX2_changeSetting_12 (by decide) ?_
    refine lv_icmp_ne (pc := 13) (tgt := 30) hx hb dX2_changeSetting_13 (by decide) (fun c9 => absurd rfl c9) (fun c_13 => ?_)
    refine lv_iload_n (pc := 16) hx hb dX2_changeSetting_16 rfl (lv_at hl 2 rfl) ?_
    refine lv_iconst (v := 1) (pc := 17) hx hb dX2_changeSetting_17 (by decide) ?_
    refine lv_sipush (v := 240) (pc := 18) hx hb dX2_changeSetting_18 (by decide) ?_
    refine z_runSN (pc := 21) (As := [.int value, .int 1, .int 240]) (rest := []) (ws1 := wS ca a h c z) ⟨hx, hb, hml, hown, hts⟩ (k_X3_isWithin l G ca value 1 240) ⟨va_cnB 3 hts (zgood0 zsub wq_17_10) rfl rfl rfl hz.1.2.2.2.1 (hts _ (zsub _ wq_1_2)) hdN_X3_isWithin ⟨Nat.le_of_ble_eq_true rfl, Nat.le_of_ble_eq_true rfl⟩, hts _ (zsub _ wq_17_9), trivial⟩ hz (wS ca a h c z) zp_no (List.Perm.refl _) rfl hl.1 (Nat.le_of_ble_eq_true rfl) (st1 := [.int (inF value 1 240)]) rfl dX2_changeSetting_21 ⟨Nat.zero_le _, Nat.zero_le _⟩ (fun H locs hz => ?_)
    refine lv_if_ne (pc := 24) (tgt := 43) hx hb dX2_changeSetting_24 (by decide) (fun c_24 => ?_) (fun c_24 => ?_)
    · refine lv_aload_n (pc := 43) hx hb dX2_changeSetting_43 rfl (lv_at hl 0 rfl) ?_
      refine lv_iload_n (pc := 44) hx hb dX2_changeSetting_44 rfl (lv_at hl 1 rfl) ?_
      refine z_runV (pc := 45) (As := [.int 2]) (rest := []) (ws1 := wS ca a h c z) ⟨hx, hb, hml, hown, hts⟩ (k_X2_tellSetting l G ca a h c z 2) (cwV 1 hts (zgoodV zsub wq_11_1 wq_11_2 wq_11_3 wq_1_11 wq_11_4) rfl rfl rfl hdV_X2_tellSetting ⟨Nat.le_of_ble_eq_true rfl, Nat.le_of_ble_eq_true rfl⟩) hz [] zp_all zp_all' rfl rfl rfl hl.1 (Nat.le_of_ble_eq_true rfl) (st1 := [.int (setF h 2)]) rfl dX2_changeSetting_45 ⟨Nat.zero_le _, Nat.zero_le _⟩ (fun H locs hz => ?_)
      refine z_top (y := h 7) rfl ?_
      refine lv_istore_n (lv' := [(3, .int (h 7)), (0, .ref (a 0)), (1, .int 2), (2, .int value)]) (pc := 48) hx hb dX2_changeSetting_48 rfl hl (by decide) rfl (fun ls hl => ?_)
      refine lv_iload_n (pc := 49) hx hb dX2_changeSetting_49 rfl (lv_at hl 0 rfl) ?_
      refine lv_iload_n (pc := 50) hx hb dX2_changeSetting_50 rfl (lv_at hl 3 rfl) ?_
      refine lv_icmp_ne (pc := 51) (tgt := 57) hx hb dX2_changeSetting_51 (by decide) (fun c_51 => ?_) (fun c_51 => ?_)
      · refine lv_iload_n (pc := 57) hx hb dX2_changeSetting_57 rfl (lv_at hl 2 rfl) ?_
        refine lv_if_ne (pc := 58) (tgt := 69) hx hb dX2_changeSetting_58 (by decide) (fun c_58 => ?_) (fun c9 => absurd c9 (by decide))
        refine lv_iload_n (pc := 69) hx hb dX2_changeSetting_69 rfl (lv_at hl 2 rfl) ?_
        refine lv_iconst (v := 1) (pc := 70) hx hb dX2_changeSetting_70 (by decide) ?_
        refine lv_icmp_ne (pc := 71) (tgt := 82) hx hb dX2_changeSetting_71 (by decide) (fun c_71 => ?_) (fun c9 => absurd c9 (by decide))
        refine lv_aload_n (pc := 82) hx hb dX2_changeSetting_82 rfl (lv_at hl 1 rfl) ?_
        refine lv_iload_n (pc := 83) hx hb dX2_changeSetting_83 rfl (lv_at hl 3 rfl) ?_
        refine z_put (own := RX2) (ref := "CupFountain$State") (C := RX2) (T := TX2) (N := 9) (ci := 2) (v := .int value) (ws1 := wS ca a (upd h 7 value) c z) (pc := 84) hx hb hts hinX2 tyX2 tyX2_ok nmX2 hown hz 0 rfl rfl 4 (by decide) L27 rfl rfl rfl rfl (Nat.le_of_ble_eq_true rfl) rfl dX2_changeSetting_84 (fun H locs hz => ?_)
        refine lv_iload_n (pc := 87) hx hb dX2_changeSetting_87 rfl (lv_at hl 0 rfl) ?_
        exact z_iret (pc := 88) hx hb hr hlk hQ hz dX2_changeSetting_88 (by simp only [putR, if_neg (show ¬ inF 2 0 2 = 0 by decide), if_true, if_neg c_24]; rw [show h (5 + nn 2) = h 7 from rfl, if_neg c_51]) (by simp only [putH, if_neg (show ¬ inF 2 0 2 = 0 by decide), if_true, if_neg c_24]; rw [show 5 + nn 2 = 7 from rfl])
      · refine lv_bipush (v := -5) (pc := 54) hx hb dX2_changeSetting_54 (by decide) ?_
        exact z_iret (pc := 56) hx hb hr hlk hQ hz dX2_changeSetting_56 (by simp only [putR, if_neg (show ¬ inF 2 0 2 = 0 by decide), if_true, if_neg c_24]; rw [show h (5 + nn 2) = h 7 from rfl, if_pos c_51]) (by simp only [putH, if_neg (show ¬ inF 2 0 2 = 0 by decide), if_true, if_neg c_24]; rw [show 5 + nn 2 = 7 from rfl]; rw [← c_51]; exact congrArg (fun q => wS ca a q c z) upd_same)
    · refine lv_goto (tgt := 40) (pc := 27) hx hb dX2_changeSetting_27 (by decide) ?_
      refine lv_bipush (v := -2) (pc := 40) hx hb dX2_changeSetting_40 (by decide) ?_
      exact z_iret (pc := 42) hx hb hr hlk hQ hz dX2_changeSetting_42 (by simp only [putR, if_neg (show ¬ inF 2 0 2 = 0 by decide), if_true, if_pos c_24]) (by simp only [putH, if_neg (show ¬ inF 2 0 2 = 0 by decide), if_true, if_pos c_24])
