def rm_X2_copyFrom : Room := { frames := 1, cells := 0, slots := 0, locals := 21 }
set_option maxRecDepth 20000 in
theorem hdV_X2_copyFrom : yX2_copyFrom.cls = RX2 ∧ yX2_copyFrom.cls ≠ "java/lang/invoke/MethodHandle" ∧ yX2_copyFrom.cls ≠ "java/lang/invoke/VarHandle" ∧ (parseMethodDescriptor yX2_copyFrom.desc).map (fun d => d.parameters.length) = some 1 := by decide +kernel
set_option maxHeartbeats 4000000 in
set_option maxRecDepth 100000 in
theorem k_X2_copyFrom (l : Launch) (G : va_G) (ca : Nat → ClassId) (a b : Nat → Nat) (h h2 : Nat → Int32) (c c2 : Nat → Nat → Int32) (z z2 : Nat → Int32) (hbb : ∀ k, k < 8 → b01 (c2 k 5) ∧ b01 (c2 k 6)) : Zc l G ca yX2_copyFrom (zws yX2_copyFrom cX2_copyFrom 3 none) rm_X2_copyFrom [.ref (a 0), .ref (b 0)] (w2S ca a b h c h2 c2 z z2) none (w2S ca a b h2 c2 h2 c2 z z2) := by
  refine Zc.of (cc := cX2_copyFrom) (maxL := 3) (ret := none) (by decide) rfl (Nat.le_of_ble_eq_true rfl) ?_
  intro pg ev s0 mt below meth cd A args Q ls hx hb hr hml hown hts hlk hQ hl hz
  have L11 : (Cond.fieldLink RX2 11 "CupFountain$State" "cups" "[LCupFountain$Cup;").before args s0 = true := hts _ (zsub _ wq_3_6)
  have L17 : (Cond.fieldLink RX2 17 "CupFountain$State" "tick" "I").before args s0 = true := hts _ (zsub _ wq_3_7)
  have L21 : (Cond.fieldLink RX2 21 "CupFountain$State" "spring" "I").before args s0 = true := hts _ (zsub _ wq_3_8)
  have L24 : (Cond.fieldLink RX2 24 "CupFountain$State" "comesBack" "I").before args s0 = true := hts _ (zsub _ wq_3_9)
  have L27 : (Cond.fieldLink RX2 27 "CupFountain$State" "day" "I").before args s0 = true := hts _ (zsub _ wq_3_10)
  have L30 : (Cond.fieldLink RX2 30 "CupFountain$State" "basin" "I").before args s0 = true := hts _ (zsub _ wq_3_11)
  have L33 : (Cond.fieldLink RX2 33 "CupFountain$State" "lost" "I").before args s0 = true := hts _ (zsub _ wq_4_0)
  have L36 : (Cond.fieldLink RX2 36 "CupFountain$State" "sprung" "I").before args s0 = true := hts _ (zsub _ wq_4_1)
  have L39 : (Cond.fieldLink RX2 39 "CupFountain$State" "filled" "I").before args s0 = true := hts _ (zsub _ wq_4_2)
  have hinX2 : ∀ w ∈ wsX20, w ∈ zws yX2_copyFrom cX2_copyFrom 3 none := fun w h => zsub w (wl_wsX20 w h)
  have hl : lv_has ls 3 [(0, .ref (a 0)), (1, .ref (b 0))] := hl
  refine lv_iconst (v := 0) (pc := 0) hx hb dX2_copyFrom_0 (by decide) ?_
  refine lv_istore_n (lv' := [(2, .int 0), (0, .ref (a 0)), (1, .ref (b 0))]) (pc := 1) hx hb dX2_copyFrom_1 rfl hl (by decide) rfl (fun ls hl => ?_)
  have loop1 : ∀ cnt k : Nat, k + cnt = 8 → ∀ (H : Heap) (locs : List Loc) (ls : Array Slot), zw G ca A s0.heap s0 (w2S ca a b h (cpC c c2 k) h2 c2 z z2) H locs → lv_has ls 3 [(2, .int (nI k)), (0, .ref (a 0)), (1, .ref (b 0))] → W pg l ev rm_X2_copyFrom s0 mt args below meth cd H locs 0 0 Q (F0 mt 2 ls []) := by
    intro cnt
    induction cnt with
    | zero =>
      intro k hk9 H locs ls hz hl
      obtain rfl : 8 = k := by omega
      refine lv_iload_n (pc := 2) hx hb dX2_copyFrom_2 rfl (lv_at hl 0 rfl) ?_
      refine lv_bipush (v := 8) (pc := 3) hx hb dX2_copyFrom_3 (by decide) ?_
      refine lv_icmp_ge (pc := 5) (tgt := 29) hx hb dX2_copyFrom_5 (by decide) (fun c_5 => ?_) (fun c9 => absurd (by decide) c9)
      refine lv_aload_n (pc := 29) hx hb dX2_copyFrom_29 rfl (lv_at hl 1 rfl) ?_
      refine lv_aload_n (pc := 30) hx hb dX2_copyFrom_30 rfl (lv_at hl 2 rfl) ?_
      refine z_get (own := RX2) (ref := "CupFountain$State") (C := RX2) (T := TX2) (N := 9) (ci := 2) (v := .int (h2 0)) (pc := 31) hx hb hts hinX2 hown hz 10 rfl rfl 1 (by decide) L17 rfl rfl dX2_copyFrom_31 ?_
      refine z_put (own := RX2) (ref := "CupFountain$State") (C := RX2) (T := TX2) (N := 9) (ci := 2) (v := .int (h2 0)) (ws1 := w2S ca a b (upd h 0 (h2 0)) (cpC c c2 8) h2 c2 z z2) (pc := 34) hx hb hts hinX2 tyX2 tyX2_ok nmX2 hown hz 0 rfl rfl 1 (by decide) L17 rfl rfl rfl rfl (Nat.le_of_ble_eq_true rfl) rfl dX2_copyFrom_34 (fun H locs hz => ?_)
      refine lv_aload_n (pc := 37) hx hb dX2_copyFrom_37 rfl (lv_at hl 1 rfl) ?_
      refine lv_aload_n (pc := 38) hx hb dX2_copyFrom_38 rfl (lv_at hl 2 rfl) ?_
      refine z_get (own := RX2) (ref := "CupFountain$State") (C := RX2) (T := TX2) (N := 9) (ci := 2) (v := .int (h2 5)) (pc := 39) hx hb hts hinX2 hown hz 10 rfl rfl 2 (by decide) L21 rfl rfl dX2_copyFrom_39 ?_
      refine z_put (own := RX2) (ref := "CupFountain$State") (C := RX2) (T := TX2) (N := 9) (ci := 2) (v := .int (h2 5)) (ws1 := w2S ca a b (upd (upd h 0 (h2 0)) 5 (h2 5)) (cpC c c2 8) h2 c2 z z2) (pc := 42) hx hb hts hinX2 tyX2 tyX2_ok nmX2 hown hz 0 rfl rfl 2 (by decide) L21 rfl rfl rfl rfl (Nat.le_of_ble_eq_true rfl) rfl dX2_copyFrom_42 (fun H locs hz => ?_)
      refine lv_aload_n (pc := 45) hx hb dX2_copyFrom_45 rfl (lv_at hl 1 rfl) ?_
      refine lv_aload_n (pc := 46) hx hb dX2_copyFrom_46 rfl (lv_at hl 2 rfl) ?_
      refine z_get (own := RX2) (ref := "CupFountain$State") (C := RX2) (T := TX2) (N := 9) (ci := 2) (v := .int (h2 6)) (pc := 47) hx hb hts hinX2 hown hz 10 rfl rfl 3 (by decide) L24 rfl rfl dX2_copyFrom_47 ?_
      refine z_put (own := RX2) (ref := "CupFountain$State") (C := RX2) (T := TX2) (N := 9) (ci := 2) (v := .int (h2 6)) (ws1 := w2S ca a b (upd (upd (upd h 0 (h2 0)) 5 (h2 5)) 6 (h2 6)) (cpC c c2 8) h2 c2 z z2) (pc := 50) hx hb hts hinX2 tyX2 tyX2_ok nmX2 hown hz 0 rfl rfl 3 (by decide) L24 rfl rfl rfl rfl (Nat.le_of_ble_eq_true rfl) rfl dX2_copyFrom_50 (fun H locs hz => ?_)
      refine lv_aload_n (pc := 53) hx hb dX2_copyFrom_53 rfl (lv_at hl 1 rfl) ?_
      refine lv_aload_n (pc := 54) hx hb dX2_copyFrom_54 rfl (lv_at hl 2 rfl) ?_
      refine z_get (own := RX2) (ref := "CupFountain$State") (C := RX2) (T := TX2) (N := 9) (ci := 2) (v := .int (h2 7)) (pc := 55) hx hb hts hinX2 hown hz 10 rfl rfl 4 (by decide) L27 rfl rfl dX2_copyFrom_55 ?_
      refine z_put (own := RX2) (ref := "CupFountain$State") (C := RX2) (T := TX2) (N := 9) (ci := 2) (v := .int (h2 7)) (ws1 := w2S ca a b (upd (upd (upd (upd h 0 (h2 0)) 5 (h2 5)) 6 (h2 6)) 7 (h2 7)) (cpC c c2 8) h2 c2 z z2) (pc := 58) hx hb hts hinX2 tyX2 tyX2_ok nmX2 hown hz 0 rfl rfl 4 (by decide) L27 rfl rfl rfl rfl (Nat.le_of_ble_eq_true rfl) rfl dX2_copyFrom_58 (fun H locs hz => ?_)
      refine lv_aload_n (pc := 61) hx hb dX2_copyFrom_61 rfl (lv_at hl 1 rfl) ?_
      refine lv_aload_n (pc := 62) hx hb dX2_copyFrom_62 rfl (lv_at hl 2 rfl) ?_
      refine z_get (own := RX2) (ref := "CupFountain$State") (C := RX2) (T := TX2) (N := 9) (ci := 2) (v := .int (h2 1)) (pc := 63) hx hb hts hinX2 hown hz 10 rfl rfl 5 (by decide) L30 rfl rfl dX2_copyFrom_63 ?_
      refine z_put (own := RX2) (ref := "CupFountain$State") (C := RX2) (T := TX2) (N := 9) (ci := 2) (v := .int (h2 1)) (ws1 := w2S ca a b (upd (upd (upd (upd (upd h 0 (h2 0)) 5 (h2 5)) 6 (h2 6)) 7 (h2 7)) 1 (h2 1)) (cpC c c2 8) h2 c2 z z2) (pc := 66) hx hb hts hinX2 tyX2 tyX2_ok nmX2 hown hz 0 rfl rfl 5 (by decide) L30 rfl rfl rfl rfl (Nat.le_of_ble_eq_true rfl) rfl dX2_copyFrom_66 (fun H locs hz => ?_)
      refine lv_aload_n (pc := 69) hx hb dX2_copyFrom_69 rfl (lv_at hl 1 rfl) ?_
      refine lv_aload_n (pc := 70) hx hb dX2_copyFrom_70 rfl (lv_at hl 2 rfl) ?_
      refine z_get (own := RX2) (ref := "CupFountain$State") (C := RX2) (T := TX2) (N := 9) (ci := 2) (v := .int (h2 2)) (pc := 71) hx hb hts hinX2 hown hz 10 rfl rfl 6 (by decide) L33 rfl rfl dX2_copyFrom_71 ?_
      refine z_put (own := RX2) (ref := "CupFountain$State") (C := RX2) (T := TX2) (N := 9) (ci := 2) (v := .int (h2 2)) (ws1 := w2S ca a b (upd (upd (upd (upd (upd (upd h 0 (h2 0)) 5 (h2 5)) 6 (h2 6)) 7 (h2 7)) 1 (h2 1)) 2 (h2 2)) (cpC c c2 8) h2 c2 z z2) (pc := 74) hx hb hts hinX2 tyX2 tyX2_ok nmX2 hown hz 0 rfl rfl 6 (by decide) L33 rfl rfl rfl rfl (Nat.le_of_ble_eq_true rfl) rfl dX2_copyFrom_74 (fun H locs hz => ?_)
      refine lv_aload_n (pc := 77) hx hb dX2_copyFrom_77 rfl (lv_at hl 1 rfl) ?_
      refine lv_aload_n (pc := 78) hx hb dX2_copyFrom_78 rfl (lv_at hl 2 rfl) ?_
      refine z_get (own := RX2) (ref := "CupFountain$State") (C := RX2) (T := TX2) (N := 9) (ci := 2) (v := .int (h2 3)) (pc := 79) hx hb hts hinX2 hown hz 10 rfl rfl 7 (by decide) L36 rfl rfl dX2_copyFrom_79 ?_
      refine z_put (own := RX2) (ref := "CupFountain$State") (C := RX2) (T := TX2) (N := 9) (ci := 2) (v := .int (h2 3)) (ws1 := w2S ca a b (upd (upd (upd (upd (upd (upd (upd h 0 (h2 0)) 5 (h2 5)) 6 (h2 6)) 7 (h2 7)) 1 (h2 1)) 2 (h2 2)) 3 (h2 3)) (cpC c c2 8) h2 c2 z z2) (pc := 82) hx hb hts hinX2 tyX2 tyX2_ok nmX2 hown hz 0 rfl rfl 7 (by decide) L36 rfl rfl rfl rfl (Nat.le_of_ble_eq_true rfl) rfl dX2_copyFrom_82 (fun H locs hz => ?_)
      refine lv_aload_n (pc := 85) hx hb dX2_copyFrom_85 rfl (lv_at hl 1 rfl) ?_
      refine lv_aload_n (pc := 86) hx hb dX2_copyFrom_86 rfl (lv_at hl 2 rfl) ?_
      refine z_get (own := RX2) (ref := "CupFountain$State") (C := RX2) (T := TX2) (N := 9) (ci := 2) (v := .int (h2 4)) (pc := 87) hx hb hts hinX2 hown hz 10 rfl rfl 8 (by decide) L39 rfl rfl dX2_copyFrom_87 ?_
      refine z_put (own := RX2) (ref := "CupFountain$State") (C := RX2) (T := TX2) (N := 9) (ci := 2) (v := .int (h2 4)) (ws1 := w2S ca a b (upd (upd (upd (upd (upd (upd (upd (upd h 0 (h2 0)) 5 (h2 5)) 6 (h2 6)) 7 (h2 7)) 1 (h2 1)) 2 (h2 2)) 3 (h2 3)) 4 (h2 4)) (cpC c c2 8) h2 c2 z z2) (pc := 90) hx hb hts hinX2 tyX2 tyX2_ok nmX2 hown hz 0 rfl rfl 8 (by decide) L39 rfl rfl rfl rfl (Nat.le_of_ble_eq_true rfl) rfl dX2_copyFrom_90 (fun H locs hz => ?_)
      exact z_vret (pc := 93) hx hb hr hlk hQ hz dX2_copyFrom_93 rfl (by rfl)
    | succ cnt ih =>
      intro k hk9 H locs ls hz hl
      have hk : k < 8 := by omega
      refine lv_iload_n (pc := 2) hx hb dX2_copyFrom_2 rfl (lv_at hl 0 rfl) ?_
      refine lv_bipush (v := 8) (pc := 3) hx hb dX2_copyFrom_3 (by decide) ?_
      refine lv_icmp_ge (pc := 5) (tgt := 29) hx hb dX2_copyFrom_5 (by decide) (fun c9 => absurd c9 (nI_ge hk (by decide))) (fun c_5 => ?_)
      refine lv_aload_n (pc := 8) hx hb dX2_copyFrom_8 rfl (lv_at hl 1 rfl) ?_
      refine z_get (own := RX2) (ref := "CupFountain$State") (C := RX2) (T := TX2) (N := 9) (ci := 2) (v := .ref (a 1)) (pc := 9) hx hb hts hinX2 hown hz 0 rfl rfl 0 (by decide) L11 rfl rfl dX2_copyFrom_9 ?_
      refine lv_iload_n (pc := 12) hx hb dX2_copyFrom_12 rfl (lv_at hl 0 rfl) ?_
      refine z_aald (pc := 13) hx hb hz 1 3 rfl rfl k rfl hk (by decide) rfl dX2_copyFrom_13 ?_
      refine lv_aload_n (pc := 14) hx hb dX2_copyFrom_14 rfl (lv_at hl 2 rfl) ?_
      refine z_get (own := RX2) (ref := "CupFountain$State") (C := RX2) (T := TX2) (N := 9) (ci := 2) (v := .ref (b 1)) (pc := 15) hx hb hts hinX2 hown hz 10 rfl rfl 0 (by decide) L11 rfl rfl dX2_copyFrom_15 ?_
      refine lv_iload_n (pc := 18) hx hb dX2_copyFrom_18 rfl (lv_at hl 0 rfl) ?_
      refine z_aald (pc := 19) hx hb hz 11 3 rfl rfl k rfl hk (by decide) rfl dX2_copyFrom_19 ?_
      refine z_runV (pc := 20) (As := [.ref (b (2 + k))]) (rest := []) (ws1 := w2S ca a b h (va_up (cpC c c2 k) k (c2 k)) h2 c2 z z2) ⟨hx, hb, hml, hown, hts⟩ (k_X0_copyFrom l G ca (a (2 + k)) (b (2 + k)) ((cpC c c2 k) k) (c2 k) (z k) (z2 k) (hbb k hk).1 (hbb k hk).2) (cwV 1 hts (zgoodV zsub wq_12_2 wq_12_3 wq_12_4 wq_4_4 wq_12_5) rfl rfl rfl hdV_X0_copyFrom ⟨Nat.le_of_ble_eq_true rfl, Nat.le_of_ble_eq_true rfl⟩) hz (w2r ca a b h (cpC c c2 k) h2 c2 z z2 k) (w2_pm hk) (w2_pm1 hk) rfl rfl rfl hl.1 (Nat.le_of_ble_eq_true rfl) (st1 := []) rfl dX2_copyFrom_20 ⟨Nat.zero_le _, Nat.zero_le _⟩ (fun H locs hz => ?_)
      refine lv_iinc (v := nI (k + 1)) (lv' := [(2, .int (nI (k + 1))), (0, .ref (a 0)), (1, .ref (b 0))]) (pc := 23) hx hb dX2_copyFrom_23 hl (k := 0) rfl (nI_add k 1) (by decide) rfl (fun ls hl => ?_)
      refine lv_goto (tgt := 2) (pc := 26) hx hb dX2_copyFrom_26 (by decide) ?_
      exact ih (k + 1) (by omega) _ _ _ (hz.as (by rw [cpC_s])) (lv_sub hl [0, 1, 2] rfl)
  exact loop1 8 0 (by omega) _ _ _ (hz.as (by rw [cpC_0])) (lv_sub hl [0, 1, 2] rfl)
