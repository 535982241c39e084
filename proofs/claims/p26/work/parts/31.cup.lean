def rm_X3_isWithin : Room := { frames := 0, cells := 0, slots := 0, locals := 0 }
set_option maxRecDepth 20000 in
theorem hdV_X3_isWithin : yX3_isWithin.cls = RX3 ∧ yX3_isWithin.cls ≠ "java/lang/invoke/MethodHandle" ∧ yX3_isWithin.cls ≠ "java/lang/invoke/VarHandle" ∧ (parseMethodDescriptor yX3_isWithin.desc).map (fun d => d.parameters.length) = some 3 := by decide +kernel
theorem hdN_X3_isWithin : yX3_isWithin.cls ≠ "java/lang/invoke/MethodHandle" ∧ yX3_isWithin.cls ≠ "java/lang/invoke/VarHandle" ∧ (parseMethodDescriptor yX3_isWithin.desc).map (fun d => d.parameters.length) = some 3 := hdV_X3_isWithin.2
set_option maxHeartbeats 4000000 in
set_option maxRecDepth 100000 in
theorem k_X3_isWithin (l : Launch) (G : va_G) (ca : Nat → ClassId) (x lo hi : Int32) : Zc l G ca yX3_isWithin (zws yX3_isWithin cX3_isWithin 3 (some .boolean)) rm_X3_isWithin [.int x, .int lo, .int hi] ([]) (some (.int (inF x lo hi))) ([]) := by
  refine Zc.of (cc := cX3_isWithin) (maxL := 3) (ret := (some .boolean)) (by decide) rfl (Nat.le_of_ble_eq_true rfl) ?_
  intro pg ev s0 mt below meth cd A args Q ls hx hb hr hml hown hts hlk hQ hl hz
  have hl : lv_has ls 3 [(0, .int x), (1, .int lo), (2, .int hi)] := hl
  refine lv_iload_n (pc := 0) hx hb dX3_isWithin_0 rfl (lv_at hl 0 rfl) ?_
  refine lv_iload_n (pc := 1) hx hb dX3_isWithin_1 rfl (lv_at hl 1 rfl) ?_
  refine lv_icmp_lt (pc := 2) (tgt := 14) hx hb dX3_isWithin_2 (by decide) (fun c_2 => ?_) (fun c_2 => ?_)
  · refine lv_iconst (v := 0) (pc := 14) hx hb dX3_isWithin_14 (by decide) ?_
    exact z_zret (pc := 15) hx hb hr hlk hQ hz rfl dX3_isWithin_15 (by simp only [inF, if_pos c_2]) (by rfl)
  · refine lv_iload_n (pc := 5) hx hb dX3_isWithin_5 rfl (lv_at hl 0 rfl) ?_
    refine lv_iload_n (pc := 6) hx hb dX3_isWithin_6 rfl (lv_at hl 2 rfl) ?_
    refine lv_icmp_gt (pc := 7) (tgt := 14) hx hb dX3_isWithin_7 (by decide) (fun c_7 => ?_) (fun c_7 => ?_)
    · refine lv_iconst (v := 0) (pc := 14) hx hb dX3_isWithin_14 (by decide) ?_
      exact z_zret (pc := 15) hx hb hr hlk hQ hz rfl dX3_isWithin_15 (by simp only [inF, if_neg c_2, if_pos c_7]) (by rfl)
    · refine lv_iconst (v := 1) (pc := 10) hx hb dX3_isWithin_10 (by decide) ?_
      refine lv_goto (tgt := 15) (pc := 11) hx hb dX3_isWithin_11 (by decide) ?_
      exact z_zret (pc := 15) hx hb hr hlk hQ hz rfl dX3_isWithin_15 (by simp only [inF, if_neg c_2, if_neg c_7]) (by rfl)


def rm_X3_asNumber : Room := { frames := 0, cells := 0, slots := 0, locals := 0 }
set_option maxRecDepth 20000 in
theorem hdV_X3_asNumber : yX3_asNumber.cls = RX3 ∧ yX3_asNumber.cls ≠ "java/lang/invoke/MethodHandle" ∧ yX3_asNumber.cls ≠ "java/lang/invoke/VarHandle" ∧ (parseMethodDescriptor yX3_asNumber.desc).map (fun d => d.parameters.length) = some 1 := by decide +kernel
theorem hdN_X3_asNumber : yX3_asNumber.cls ≠ "java/lang/invoke/MethodHandle" ∧ yX3_asNumber.cls ≠ "java/lang/invoke/VarHandle" ∧ (parseMethodDescriptor yX3_asNumber.desc).map (fun d => d.parameters.length) = some 1 := hdV_X3_asNumber.2
set_option maxHeartbeats 4000000 in
set_option maxRecDepth 100000 in
theorem k_X3_asNumber (l : Launch) (G : va_G) (ca : Nat → ClassId) (x : Int32) : Zc l G ca yX3_asNumber (zws yX3_asNumber cX3_asNumber 1 (some .int)) rm_X3_asNumber [.int x] ([]) (some (.int (numF x))) ([]) := by
  refine Zc.of (cc := cX3_asNumber) (maxL := 1) (ret := (some .int)) (by decide) rfl (Nat.le_of_ble_eq_true rfl) ?_
  intro pg ev s0 mt below meth cd A args Q ls hx hb hr hml hown hts hlk hQ hl hz
  have hl : lv_has ls 1 [(0, .int x)] := hl
  refine lv_iload_n (pc := 0) hx hb dX3_asNumber_0 rfl (lv_at hl 0 rfl) ?_
  refine lv_if_eq (pc := 1) (tgt := 8) hx hb dX3_asNumber_1 (by decide) (fun c_1 => ?_) (fun c_1 => ?_)
  · refine lv_iconst (v := 0) (pc := 8) hx hb dX3_asNumber_8 (by decide) ?_
    exact z_iret (pc := 9) hx hb hr hlk hQ hz dX3_asNumber_9 (by simp only [numF, if_pos c_1]) (by rfl)
  · refine lv_iconst (v := 1) (pc := 4) hx hb dX3_asNumber_4 (by decide) ?_
    refine lv_goto (tgt := 9) (pc := 5) hx hb dX3_asNumber_5 (by decide) ?_
    exact z_iret (pc := 9) hx hb hr hlk hQ hz dX3_asNumber_9 (by simp only [numF, if_neg c_1]) (by rfl)

def rm_X0_isFull : Room := { frames := 0, cells := 0, slots := 0, locals := 0 }
set_option maxRecDepth 20000 in
theorem hdV_X0_isFull : yX0_isFull.cls = RX0 ∧ yX0_isFull.cls ≠ "java/lang/invoke/MethodHandle" ∧ yX0_isFull.cls ≠ "java/lang/invoke/VarHandle" ∧ (parseMethodDescriptor yX0_isFull.desc).map (fun d => d.parameters.length) = some 0 := by decide +kernel
set_option maxHeartbeats 4000000 in
set_option maxRecDepth 100000 in
theorem k_X0_isFull (l : Launch) (G : va_G) (ca : Nat → ClassId) (o : Nat) (c : Nat → Int32) (z : Int32) : Zc l G ca yX0_isFull (zws yX0_isFull cX0_isFull 1 (some .boolean)) rm_X0_isFull [.ref o] (wC o c z) (some (.int (fullR c))) (wC o c z) := by
  refine Zc.of (cc := cX0_isFull) (maxL := 1) (ret := (some .boolean)) (by decide) rfl (Nat.le_of_ble_eq_true rfl) ?_
  intro pg ev s0 mt below meth cd A args Q ls hx hb hr hml hown hts hlk hQ hl hz
  have L18 : (Cond.fieldLink RX0 18 "CupFountain$Cup" "water" "I").before args s0 = true := hts _ (zsub _ wq_4_11)
  have L9 : (Cond.fieldLink RX0 9 "CupFountain$Cup" "size" "I").before args s0 = true := hts _ (zsub _ wq_4_9)
  have hinX0 : ∀ w ∈ wsX00, w ∈ zws yX0_isFull cX0_isFull 1 (some .boolean) := fun w h => zsub w (wl_wsX00 w h)
  have hl : lv_has ls 1 [(0, .ref o)] := hl
  refine lv_aload_n (pc := 0) hx hb dX0_isFull_0 rfl (lv_at hl 0 rfl) ?_
  refine z_get (own := RX0) (ref := "CupFountain$Cup") (C := RX0) (T := TX0) (N := 13) (ci := 0) (v := .int (c 3)) (pc := 1) hx hb hts hinX0 hown hz 0 rfl rfl 3 (by decide) L18 rfl rfl dX0_isFull_1 ?_
  refine lv_aload_n (pc := 4) hx hb dX0_isFull_4 rfl (lv_at hl 0 rfl) ?_
  refine z_get (own := RX0) (ref := "CupFountain$Cup") (C := RX0) (T := TX0) (N := 13) (ci := 0) (v := .int (c 0)) (pc := 5) hx hb hts hinX0 hown hz 0 rfl rfl 0 (by decide) L9 rfl rfl dX0_isFull_5 ?_
  refine lv_icmp_lt (pc := 8) (tgt := 15) hx hb dX0_isFull_8 (by decide) (fun c_8 => ?_) (fun c_8 => ?_)
  · refine lv_iconst (v := 0) (pc := 15) hx hb dX0_isFull_15 (by decide) ?_
    exact z_zret (pc := 16) hx hb hr hlk hQ hz rfl dX0_isFull_16 (by simp only [fullR, if_pos c_8]) (by rfl)
  · refine lv_iconst (v := 1) (pc := 11) hx hb dX0_isFull_11 (by decide) ?_
    refine lv_goto (tgt := 16) (pc := 12) hx hb dX0_isFull_12 (by decide) ?_
    exact z_zret (pc := 16) hx hb hr hlk hQ hz rfl dX0_isFull_16 (by simp only [fullR, if_neg c_8]) (by rfl)

def rm_X0_tip : Room := { frames := 0, cells := 0, slots := 0, locals := 0 }
set_option maxRecDepth 20000 in
theorem hdV_X0_tip : yX0_tip.cls = RX0 ∧ yX0_tip.cls ≠ "java/lang/invoke/MethodHandle" ∧ yX0_tip.cls ≠ "java/lang/invoke/VarHandle" ∧ (parseMethodDescriptor yX0_tip.desc).map (fun d => d.parameters.length) = some 1 := by decide +kernel
set_option maxHeartbeats 4000000 in
set_option maxRecDepth 100000 in
theorem k_X0_tip (l : Launch) (G : va_G) (ca : Nat → ClassId) (o : Nat) (c : Nat → Int32) (z : Int32) (hour : Int32) : Zc l G ca yX0_tip (zws yX0_tip cX0_tip 4 (some .int)) rm_X0_tip [.ref o, .int hour] (wC o c z) (some (.int (c 3))) (wC o (tipR c hour) z) := by
  refine Zc.of (cc := cX0_tip) (maxL := 4) (ret := (some .int)) (by decide) rfl (Nat.le_of_ble_eq_true rfl) ?_
  intro pg ev s0 mt below meth cd A args Q ls hx hb hr hml hown hts hlk hQ hl hz
  have L18 : (Cond.fieldLink RX0 18 "CupFountain$Cup" "water" "I").before args s0 = true := hts _ (zsub _ wq_4_11)
  have L21 : (Cond.fieldLink RX0 21 "CupFountain$Cup" "hour" "I").before args s0 = true := hts _ (zsub _ wq_5_0)
  have L31 : (Cond.fieldLink RX0 31 "CupFountain$Cup" "jet" "I").before args s0 = true := hts _ (zsub _ wq_5_3)
  have L34 : (Cond.fieldLink RX0 34 "CupFountain$Cup" "tips" "I").before args s0 = true := hts _ (zsub _ wq_5_4)
  have L37 : (Cond.fieldLink RX0 37 "CupFountain$Cup" "onTime" "I").before args s0 = true := hts _ (zsub _ wq_5_5)
  have L40 : (Cond.fieldLink RX0 40 "CupFountain$Cup" "early" "I").before args s0 = true := hts _ (zsub _ wq_5_6)
  have L43 : (Cond.fieldLink RX0 43 "CupFountain$Cup" "late" "I").before args s0 = true := hts _ (zsub _ wq_5_7)
  have L9 : (Cond.fieldLink RX0 9 "CupFountain$Cup" "size" "I").before args s0 = true := hts _ (zsub _ wq_4_9)
  have hinX0 : ∀ w ∈ wsX00, w ∈ zws yX0_tip cX0_tip 4 (some .int) := fun w h => zsub w (wl_wsX00 w h)
  have hl : lv_has ls 4 [(0, .ref o), (1, .int hour)] := hl
  refine lv_aload_n (pc := 0) hx hb dX0_tip_0 rfl (lv_at hl 0 rfl) ?_
  refine z_get (own := RX0) (ref := "CupFountain$Cup") (C := RX0) (T := TX0) (N := 13) (ci := 0) (v := .int (c 3)) (pc := 1) hx hb hts hinX0 hown hz 0 rfl rfl 3 (by decide) L18 rfl rfl dX0_tip_1 ?_
  refine lv_istore_n (lv' := [(2, .int (c 3)), (0, .ref o), (1, .int hour)]) (pc := 4) hx hb dX0_tip_4 rfl hl (by decide) rfl (fun ls hl => ?_)
  refine lv_aload_n (pc := 5) hx hb dX0_tip_5 rfl (lv_at hl 1 rfl) ?_
  refine z_get (own := RX0) (ref := "CupFountain$Cup") (C := RX0) (T := TX0) (N := 13) (ci := 0) (v := .int (c 0)) (pc := 6) hx hb hts hinX0 hown hz 0 rfl rfl 0 (by decide) L9 rfl rfl dX0_tip_6 ?_
  have J1 : ∀ (H : Heap) (locs : List Loc) (ls : Array Slot), zw G ca A s0.heap s0 (wC o c z) H locs → lv_has ls 4 [(2, .int (c 3)), (0, .ref o), (1, .int hour)] → W pg l ev rm_X0_tip s0 mt args below meth cd H locs 0 0 Q (F0 mt 28 ls [.int (highR c)]) := by
    intro H locs ls hz hl
    refine lv_istore_n (lv' := [(3, .int (highR c)), (2, .int (c 3)), (0, .ref o), (1, .int hour)]) (pc := 28) hx hb dX0_tip_28 rfl hl (by decide) rfl (fun ls hl => ?_)
    refine lv_aload_n (pc := 29) hx hb dX0_tip_29 rfl (lv_at hl 2 rfl) ?_
    refine lv_iload_n (pc := 30) hx hb dX0_tip_30 rfl (lv_at hl 0 rfl) ?_
    refine lv_bipush (v := 30) (pc := 31) hx hb dX0_tip_31 (by decide) ?_
    have J2 : ∀ (H : Heap) (locs : List Loc) (ls : Array Slot), zw G ca A s0.heap s0 (wC o c z) H locs → lv_has ls 4 [(3, .int (highR c)), (2, .int (c 3)), (0, .ref o), (1, .int hour)] → W pg l ev rm_X0_tip s0 mt args below meth cd H locs 0 0 Q (F0 mt 42 ls [.int (jetR c), .ref o]) := by
      intro H locs ls hz hl
      refine z_put (own := RX0) (ref := "CupFountain$Cup") (C := RX0) (T := TX0) (N := 13) (ci := 0) (v := .int (jetR c)) (ws1 := wC o (upd c 7 (jetR c)) z) (pc := 42) hx hb hts hinX0 tyX0 tyX0_ok nmX0 hown hz 0 rfl rfl 7 (by decide) L31 rfl rfl rfl rfl (Nat.le_of_ble_eq_true rfl) rfl dX0_tip_42 (fun H locs hz => ?_)
      refine lv_aload_n (pc := 45) hx hb dX0_tip_45 rfl (lv_at hl 2 rfl) ?_
      refine lv_iconst (v := 0) (pc := 46) hx hb dX0_tip_46 (by decide) ?_
      refine z_put (own := RX0) (ref := "CupFountain$Cup") (C := RX0) (T := TX0) (N := 13) (ci := 0) (v := .int 0) (ws1 := wC o (upd (upd c 7 (jetR c)) 3 0) z) (pc := 47) hx hb hts hinX0 tyX0 tyX0_ok nmX0 hown hz 0 rfl rfl 3 (by decide) L18 rfl rfl rfl rfl (Nat.le_of_ble_eq_true rfl) rfl dX0_tip_47 (fun H locs hz => ?_)
      refine lv_aload_n (pc := 50) hx hb dX0_tip_50 rfl (lv_at hl 2 rfl) ?_
      refine lv_dup (pc := 51) hx hb dX0_tip_51 rfl ?_
      refine z_get (own := RX0) (ref := "CupFountain$Cup") (C := RX0) (T := TX0) (N := 13) (ci := 0) (v := .int (c 8)) (pc := 52) hx hb hts hinX0 hown hz 0 rfl rfl 8 (by decide) L34 rfl rfl dX0_tip_52 ?_
      refine lv_iconst (v := 1) (pc := 55) hx hb dX0_tip_55 (by decide) ?_
      refine lv_iadd (pc := 56) hx hb dX0_tip_56 ?_
      refine z_put (own := RX0) (ref := "CupFountain$Cup") (C := RX0) (T := TX0) (N := 13) (ci := 0) (v := .int ((c 8) + 1)) (ws1 := wC o (upd (upd (upd c 7 (jetR c)) 3 0) 8 ((c 8) + 1)) z) (pc := 57) hx hb hts hinX0 tyX0 tyX0_ok nmX0 hown hz 0 rfl rfl 8 (by decide) L34 rfl rfl rfl rfl (Nat.le_of_ble_eq_true rfl) rfl dX0_tip_57 (fun H locs hz => ?_)
      refine lv_aload_n (pc := 60) hx hb dX0_tip_60 rfl (lv_at hl 2 rfl) ?_
      refine z_get (own := RX0) (ref := "CupFountain$Cup") (C := RX0) (T := TX0) (N := 13) (ci := 0) (v := .int (c 4)) (pc := 61) hx hb hts hinX0 hown hz 0 rfl rfl 4 (by decide) L21 rfl rfl dX0_tip_61 ?_
      refine lv_iconst (v := -1) (pc := 64) hx hb dX0_tip_64 (by decide) ?_
      refine lv_icmp_ne (pc := 65) (tgt := 70) hx hb dX0_tip_65 (by decide) (fun c_65 => ?_) (fun c_65 => ?_)
      · refine lv_iload_n (pc := 70) hx hb dX0_tip_70 rfl (lv_at hl 3 rfl) ?_
        refine lv_aload_n (pc := 71) hx hb dX0_tip_71 rfl (lv_at hl 2 rfl) ?_
        refine z_get (own := RX0) (ref := "CupFountain$Cup") (C := RX0) (T := TX0) (N := 13) (ci := 0) (v := .int (c 4)) (pc := 72) hx hb hts hinX0 hown hz 0 rfl rfl 4 (by decide) L21 rfl rfl dX0_tip_72 ?_
        refine lv_icmp_ne (pc := 75) (tgt := 91) hx hb dX0_tip_75 (by decide) (fun c_75 => ?_) (fun c_75 => ?_)
        · refine lv_iload_n (pc := 91) hx hb dX0_tip_91 rfl (lv_at hl 3 rfl) ?_
          refine lv_aload_n (pc := 92) hx hb dX0_tip_92 rfl (lv_at hl 2 rfl) ?_
          refine z_get (own := RX0) (ref := "CupFountain$Cup") (C := RX0) (T := TX0) (N := 13) (ci := 0) (v := .int (c 4)) (pc := 93) hx hb hts hinX0 hown hz 0 rfl rfl 4 (by decide) L21 rfl rfl dX0_tip_93 ?_
          refine lv_icmp_ge (pc := 96) (tgt := 112) hx hb dX0_tip_96 (by decide) (fun c_96 => ?_) (fun c_96 => ?_)
          · refine lv_aload_n (pc := 112) hx hb dX0_tip_112 rfl (lv_at hl 2 rfl) ?_
            refine lv_dup (pc := 113) hx hb dX0_tip_113 rfl ?_
            refine z_get (own := RX0) (ref := "CupFountain$Cup") (C := RX0) (T := TX0) (N := 13) (ci := 0) (v := .int (c 11)) (pc := 114) hx hb hts hinX0 hown hz 0 rfl rfl 11 (by decide) L43 rfl rfl dX0_tip_114 ?_
            refine lv_iconst (v := 1) (pc := 117) hx hb dX0_tip_117 (by decide) ?_
            refine lv_iadd (pc := 118) hx hb dX0_tip_118 ?_
            refine z_put (own := RX0) (ref := "CupFountain$Cup") (C := RX0) (T := TX0) (N := 13) (ci := 0) (v := .int ((c 11) + 1)) (ws1 := wC o (upd (upd (upd (upd c 7 (jetR c)) 3 0) 8 ((c 8) + 1)) 11 ((c 11) + 1)) z) (pc := 119) hx hb hts hinX0 tyX0 tyX0_ok nmX0 hown hz 0 rfl rfl 11 (by decide) L43 rfl rfl rfl rfl (Nat.le_of_ble_eq_true rfl) rfl dX0_tip_119 (fun H locs hz => ?_)
            refine lv_iload_n (pc := 122) hx hb dX0_tip_122 rfl (lv_at hl 1 rfl) ?_
            exact z_iret (pc := 123) hx hb hr hlk hQ hz dX0_tip_123 (by rfl) (by simp only [tipR, if_neg c_65, if_neg c_75, if_pos c_96]; rfl)
          · refine lv_aload_n (pc := 99) hx hb dX0_tip_99 rfl (lv_at hl 2 rfl) ?_
            refine lv_dup (pc := 100) hx hb dX0_tip_100 rfl ?_
            refine z_get (own := RX0) (ref := "CupFountain$Cup") (C := RX0) (T := TX0) (N := 13) (ci := 0) (v := .int (c 10)) (pc := 101) hx hb hts hinX0 hown hz 0 rfl rfl 10 (by decide) L40 rfl rfl dX0_tip_101 ?_
            refine lv_iconst (v := 1) (pc := 104) hx hb dX0_tip_104 (by decide) ?_
            refine lv_iadd (pc := 105) hx hb dX0_tip_105 ?_
            refine z_put (own := RX0) (ref := "CupFountain$Cup") (C := RX0) (T := TX0) (N := 13) (ci := 0) (v := .int ((c 10) + 1)) (ws1 := wC o (upd (upd (upd (upd c 7 (jetR c)) 3 0) 8 ((c 8) + 1)) 10 ((c 10) + 1)) z) (pc := 106) hx hb hts hinX0 tyX0 tyX0_ok nmX0 hown hz 0 rfl rfl 10 (by decide) L40 rfl rfl rfl rfl (Nat.le_of_ble_eq_true rfl) rfl dX0_tip_106 (fun H locs hz => ?_)
            refine lv_goto (tgt := 122) (pc := 109) hx hb dX0_tip_109 (by decide) ?_
            refine lv_iload_n (pc := 122) hx hb dX0_tip_122 rfl (lv_at hl 1 rfl) ?_
            exact z_iret (pc := 123) hx hb hr hlk hQ hz dX0_tip_123 (by rfl) (by simp only [tipR, if_neg c_65, if_neg c_75, if_neg c_96]; rfl)
        · refine lv_aload_n (pc := 78) hx hb dX0_tip_78 rfl (lv_at hl 2 rfl) ?_
          refine lv_dup (pc := 79) hx hb dX0_tip_79 rfl ?_
          refine z_get (own := RX0) (ref := "CupFountain$Cup") (C := RX0) (T := TX0) (N := 13) (ci := 0) (v := .int (c 9)) (pc := 80) hx hb hts hinX0 hown hz 0 rfl rfl 9 (by decide) L37 rfl rfl dX0_tip_80 ?_
          refine lv_iconst (v := 1) (pc := 83) hx hb dX0_tip_83 (by decide) ?_
          refine lv_iadd (pc := 84) hx hb dX0_tip_84 ?_
          refine z_put (own := RX0) (ref := "CupFountain$Cup") (C := RX0) (T := TX0) (N := 13) (ci := 0) (v := .int ((c 9) + 1)) (ws1 := wC o (upd (upd (upd (upd c 7 (jetR c)) 3 0) 8 ((c 8) + 1)) 9 ((c 9) + 1)) z) (pc := 85) hx hb hts hinX0 tyX0 tyX0_ok nmX0 hown hz 0 rfl rfl 9 (by decide) L37 rfl rfl rfl rfl (Nat.le_of_ble_eq_true rfl) rfl dX0_tip_85 (fun H locs hz => ?_)
          refine lv_goto (tgt := 122) (pc := 88) hx hb dX0_tip_88 (by decide) ?_
          refine lv_iload_n (pc := 122) hx hb dX0_tip_122 rfl (lv_at hl 1 rfl) ?_
          exact z_iret (pc := 123) hx hb hr hlk hQ hz dX0_tip_123 (by rfl) (by simp only [tipR, if_neg c_65, if_pos c_75]; rfl)
      · refine lv_iload_n (pc := 68) hx hb dX0_tip_68 rfl (lv_at hl 1 rfl) ?_
        exact z_iret (pc := 69) hx hb hr hlk hQ hz dX0_tip_69 (by rfl) (by simp only [tipR, if_pos c_65]; rfl)
    refine lv_icmp_ge (pc := 33) (tgt := 40) hx hb dX0_tip_33 (by decide) (fun c_33 => ?_) (fun c_33 => ?_)
    · refine lv_bipush (v := 30) (pc := 40) hx hb dX0_tip_40 (by decide) ?_
      exact z_top (by simp only [jetR, if_pos c_33]) (J2 _ _ _ hz (lv_sub hl [0, 1, 2, 3] rfl))
    · refine lv_iload_n (pc := 36) hx hb dX0_tip_36 rfl (lv_at hl 0 rfl) ?_
      refine lv_goto (tgt := 42) (pc := 37) hx hb dX0_tip_37 (by decide) ?_
      exact z_top (by simp only [jetR, if_neg c_33]) (J2 _ _ _ hz (lv_sub hl [0, 1, 2, 3] rfl))
  refine lv_if_le (pc := 9) (tgt := 27) hx hb dX0_tip_9 (by decide) (fun c_9 => ?_) (fun c_9 => ?_)
  · refine lv_iconst (v := 0) (pc := 27) hx hb dX0_tip_27 (by decide) ?_
    exact z_top (by simp only [highR, if_pos c_9]) (J1 _ _ _ hz (lv_sub hl [0, 1, 2] rfl))
  · refine lv_bipush (v := 10) (pc := 12) hx hb dX0_tip_12 (by decide) ?_
    refine lv_aload_n (pc := 14) hx hb dX0_tip_14 rfl (lv_at hl 1 rfl) ?_
    refine z_get (own := RX0) (ref := "CupFountain$Cup") (C := RX0) (T := TX0) (N := 13) (ci := 0) (v := .int (c 3)) (pc := 15) hx hb hts hinX0 hown hz 0 rfl rfl 3 (by decide) L18 rfl rfl dX0_tip_15 ?_
    refine lv_imul (pc := 18) hx hb dX0_tip_18 ?_
    refine lv_aload_n (pc := 19) hx hb dX0_tip_19 rfl (lv_at hl 1 rfl) ?_
    refine z_get (own := RX0) (ref := "CupFountain$Cup") (C := RX0) (T := TX0) (N := 13) (ci := 0) (v := .int (c 0)) (pc := 20) hx hb hts hinX0 hown hz 0 rfl rfl 0 (by decide) L9 rfl rfl dX0_tip_20 ?_
    refine lv_idiv (pc := 23) hx hb dX0_tip_23 (fun q => c_9 (by rw [q]; exact Int32.le_refl 0)) ?_
    refine lv_goto (tgt := 28) (pc := 24) hx hb dX0_tip_24 (by decide) ?_
    exact z_top (by simp only [highR, if_neg c_9]) (J1 _ _ _ hz (lv_sub hl [0, 1, 2] rfl))

def rm_X0_runOver : Room := { frames := 0, cells := 0, slots := 0, locals := 0 }
set_option maxRecDepth 20000 in
theorem hdV_X0_runOver : yX0_runOver.cls = RX0 ∧ yX0_runOver.cls ≠ "java/lang/invoke/MethodHandle" ∧ yX0_runOver.cls ≠ "java/lang/invoke/VarHandle" ∧ (parseMethodDescriptor yX0_runOver.desc).map (fun d => d.parameters.length) = some 0 := by decide +kernel
set_option maxHeartbeats 4000000 in
set_option maxRecDepth 100000 in
theorem k_X0_runOver (l : Launch) (G : va_G) (ca : Nat → ClassId) (o : Nat) (c : Nat → Int32) (z : Int32) : Zc l G ca yX0_runOver (zws yX0_runOver cX0_runOver 2 (some .int)) rm_X0_runOver [.ref o] (wC o c z) (some (.int (overR c))) (wC o (upd c 3 (c 3 - overR c)) z) := by
  refine Zc.of (cc := cX0_runOver) (maxL := 2) (ret := (some .int)) (by decide) rfl (Nat.le_of_ble_eq_true rfl) ?_
  intro pg ev s0 mt below meth cd A args Q ls hx hb hr hml hown hts hlk hQ hl hz
  have L18 : (Cond.fieldLink RX0 18 "CupFountain$Cup" "water" "I").before args s0 = true := hts _ (zsub _ wq_4_11)
  have hinX0 : ∀ w ∈ wsX00, w ∈ zws yX0_runOver cX0_runOver 2 (some .int) := fun w h => zsub w (wl_wsX00 w h)
  have hl : lv_has ls 2 [(0, .ref o)] := hl
  refine lv_aload_n (pc := 0) hx hb dX0_runOver_0 rfl (lv_at hl 0 rfl) ?_
  refine z_get (own := RX0) (ref := "CupFountain$Cup") (C := RX0) (T := TX0) (N := 13) (ci := 0) (v := .int (c 3)) (pc := 1) hx hb hts hinX0 hown hz 0 rfl rfl 3 (by decide) L18 rfl rfl dX0_runOver_1 ?_
  refine lv_sipush (v := 9999) (pc := 4) hx hb dX0_runOver_4 (by decide) ?_
  have J1 : ∀ (H : Heap) (locs : List Loc) (ls : Array Slot), zw G ca A s0.heap s0 (wC o c z) H locs → lv_has ls 2 [(0, .ref o)] → W pg l ev rm_X0_runOver s0 mt args below meth cd H locs 0 0 Q (F0 mt 22 ls [.int (overR c)]) := by
    intro H locs ls hz hl
    refine lv_istore_n (lv' := [(1, .int (overR c)), (0, .ref o)]) (pc := 22) hx hb dX0_runOver_22 rfl hl (by decide) rfl (fun ls hl => ?_)
    refine lv_aload_n (pc := 23) hx hb dX0_runOver_23 rfl (lv_at hl 1 rfl) ?_
    refine lv_dup (pc := 24) hx hb dX0_runOver_24 rfl ?_
    refine z_get (own := RX0) (ref := "CupFountain$Cup") (C := RX0) (T := TX0) (N := 13) (ci := 0) (v := .int (c 3)) (pc := 25) hx hb hts hinX0 hown hz 0 rfl rfl 3 (by decide) L18 rfl rfl dX0_runOver_25 ?_
    refine lv_iload_n (pc := 28) hx hb dX0_runOver_28 rfl (lv_at hl 0 rfl) ?_
    refine lv_isub (pc := 29) hx hb dX0_runOver_29 ?_
    refine z_put (own := RX0) (ref := "CupFountain$Cup") (C := RX0) (T := TX0) (N := 13) (ci := 0) (v := .int ((c 3) - (overR c))) (ws1 := wC o (upd c 3 ((c 3) - (overR c))) z) (pc := 30) hx hb hts hinX0 tyX0 tyX0_ok nmX0 hown hz 0 rfl rfl 3 (by decide) L18 rfl rfl rfl rfl (Nat.le_of_ble_eq_true rfl) rfl dX0_runOver_30 (fun H locs hz => ?_)
    refine lv_iload_n (pc := 33) hx hb dX0_runOver_33 rfl (lv_at hl 0 rfl) ?_
    exact z_iret (pc := 34) hx hb hr hlk hQ hz dX0_runOver_34 (by rfl) (by rfl)
  refine lv_icmp_le (pc := 7) (tgt := 21) hx hb dX0_runOver_7 (by decide) (fun c_7 => ?_) (fun c_7 => ?_)
  · refine lv_iconst (v := 0) (pc := 21) hx hb dX0_runOver_21 (by decide) ?_
    exact z_top (by simp only [overR, if_pos c_7]) (J1 _ _ _ hz (lv_sub hl [0] rfl))
  · refine lv_aload_n (pc := 10) hx hb dX0_runOver_10 rfl (lv_at hl 0 rfl) ?_
    refine z_get (own := RX0) (ref := "CupFountain$Cup") (C := RX0) (T := TX0) (N := 13) (ci := 0) (v := .int (c 3)) (pc := 11) hx hb hts hinX0 hown hz 0 rfl rfl 3 (by decide) L18 rfl rfl dX0_runOver_11 ?_
    refine lv_sipush (v := 9999) (pc := 14) hx hb dX0_runOver_14 (by decide) ?_
    refine lv_isub (pc := 17) hx hb dX0_runOver_17 ?_
    refine lv_goto (tgt := 22) (pc := 18) hx hb dX0_runOver_18 (by decide) ?_
    exact z_top (by simp only [overR, if_neg c_7]) (J1 _ _ _ hz (lv_sub hl [0] rfl))

def rm_X0_drip : Room := { frames := 1, cells := 0, slots := 0, locals := 21 }
set_option maxRecDepth 20000 in
theorem hdV_X0_drip : yX0_drip.cls = RX0 ∧ yX0_drip.cls ≠ "java/lang/invoke/MethodHandle" ∧ yX0_drip.cls ≠ "java/lang/invoke/VarHandle" ∧ (parseMethodDescriptor yX0_drip.desc).map (fun d => d.parameters.length) = some 0 := by decide +kernel
set_option maxHeartbeats 4000000 in
set_option maxRecDepth 100000 in
theorem k_X0_drip (l : Launch) (G : va_G) (ca : Nat → ClassId) (o : Nat) (c : Nat → Int32) (z : Int32) : Zc l G ca yX0_drip (zws yX0_drip cX0_drip 2 (some .int)) rm_X0_drip [.ref o] (wC o c z) (some (.int (dripR c))) (wC o (upd c 3 (c 3 - dripR c)) z) := by
  refine Zc.of (cc := cX0_drip) (maxL := 2) (ret := (some .int)) (by decide) rfl (Nat.le_of_ble_eq_true rfl) ?_
  intro pg ev s0 mt below meth cd A args Q ls hx hb hr hml hown hts hlk hQ hl hz
  have L15 : (Cond.fieldLink RX0 15 "CupFountain$Cup" "leak" "I").before args s0 = true := hts _ (zsub _ wq_4_10)
  have L18 : (Cond.fieldLink RX0 18 "CupFountain$Cup" "water" "I").before args s0 = true := hts _ (zsub _ wq_4_11)
  have hinX0 : ∀ w ∈ wsX00, w ∈ zws yX0_drip cX0_drip 2 (some .int) := fun w h => zsub w (wl_wsX00 w h)
  have hl : lv_has ls 2 [(0, .ref o)] := hl
  refine lv_aload_n (pc := 0) hx hb dX0_drip_0 rfl (lv_at hl 0 rfl) ?_
  refine z_get (own := RX0) (ref := "CupFountain$Cup") (C := RX0) (T := TX0) (N := 13) (ci := 0) (v := .int (c 3)) (pc := 1) hx hb hts hinX0 hown hz 0 rfl rfl 3 (by decide) L18 rfl rfl dX0_drip_1 ?_
  refine lv_aload_n (pc := 4) hx hb dX0_drip_4 rfl (lv_at hl 0 rfl) ?_
  refine z_get (own := RX0) (ref := "CupFountain$Cup") (C := RX0) (T := TX0) (N := 13) (ci := 0) (v := .int (c 1)) (pc := 5) hx hb hts hinX0 hown hz 0 rfl rfl 1 (by decide) L15 rfl rfl dX0_drip_5 ?_
  refine va_mmin (own := RX0) (pc := 8) hx hb (by rw [hml]; exact hl.1.symm) hown (hts _ (zsub _ wq_16_3)) (hts _ (zsub _ wq_14_2)) (hts _ (zsub _ wq_14_3)) (hts _ (zsub _ wq_14_4)) (Nat.le_of_ble_eq_true rfl) (Nat.le_of_ble_eq_true rfl) (Nat.zero_le _) (Nat.zero_le _) dX0_drip_8 ?_
  refine z_top (y := dripR c) rfl ?_
  refine lv_istore_n (lv' := [(1, .int (dripR c)), (0, .ref o)]) (pc := 11) hx hb dX0_drip_11 rfl hl (by decide) rfl (fun ls hl => ?_)
  refine lv_aload_n (pc := 12) hx hb dX0_drip_12 rfl (lv_at hl 1 rfl) ?_
  refine lv_dup (pc := 13) hx hb dX0_drip_13 rfl ?_
  refine z_get (own := RX0) (ref := "CupFountain$Cup") (C := RX0) (T := TX0) (N := 13) (ci := 0) (v := .int (c 3)) (pc := 14) hx hb hts hinX0 hown hz 0 rfl rfl 3 (by decide) L18 rfl rfl dX0_drip_14 ?_
  refine lv_iload_n (pc := 17) hx hb dX0_drip_17 rfl (lv_at hl 0 rfl) ?_
  refine lv_isub (pc := 18) hx hb dX0_drip_18 ?_
  refine z_put (own := RX0) (ref := "CupFountain$Cup") (C := RX0) (T := TX0) (N := 13) (ci := 0) (v := .int ((c 3) - (dripR c))) (ws1 := wC o (upd c 3 ((c 3) - (dripR c))) z) (pc := 19) hx hb hts hinX0 tyX0 tyX0_ok nmX0 hown hz 0 rfl rfl 3 (by decide) L18 rfl rfl rfl rfl (Nat.le_of_ble_eq_true rfl) rfl dX0_drip_19 (fun H locs hz => ?_)
  refine lv_iload_n (pc := 22) hx hb dX0_drip_22 rfl (lv_at hl 0 rfl) ?_
  exact z_iret (pc := 23) hx hb hr hlk hQ hz dX0_drip_23 (by rfl) (by rfl)

def rm_X0_tell : Room := { frames := 1, cells := 0, slots := 0, locals := 20 }
set_option maxRecDepth 20000 in
theorem hdV_X0_tell : yX0_tell.cls = RX0 ∧ yX0_tell.cls ≠ "java/lang/invoke/MethodHandle" ∧ yX0_tell.cls ≠ "java/lang/invoke/VarHandle" ∧ (parseMethodDescriptor yX0_tell.desc).map (fun d => d.parameters.length) = some 1 := by decide +kernel
set_option maxHeartbeats 4000000 in
set_option maxRecDepth 100000 in
theorem k_X0_tell (l : Launch) (G : va_G) (ca : Nat → ClassId) (o : Nat) (c : Nat → Int32) (z : Int32) (x : Int32) (hb5 : b01 (c 5)) (hb6 : b01 (c 6)) : Zc l G ca yX0_tell (zws yX0_tell cX0_tell 2 (some .int)) rm_X0_tell [.ref o, .int x] (wC o c z) (some (.int (tellR c x))) (wC o c z) := by
  refine Zc.of (cc := cX0_tell) (maxL := 2) (ret := (some .int)) (by decide) rfl (Nat.le_of_ble_eq_true rfl) ?_
  intro pg ev s0 mt below meth cd A args Q ls hx hb hr hml hown hts hlk hQ hl hz
  have L15 : (Cond.fieldLink RX0 15 "CupFountain$Cup" "leak" "I").before args s0 = true := hts _ (zsub _ wq_4_10)
  have L18 : (Cond.fieldLink RX0 18 "CupFountain$Cup" "water" "I").before args s0 = true := hts _ (zsub _ wq_4_11)
  have L21 : (Cond.fieldLink RX0 21 "CupFountain$Cup" "hour" "I").before args s0 = true := hts _ (zsub _ wq_5_0)
  have L24 : (Cond.fieldLink RX0 24 "CupFountain$Cup" "open" "Z").before args s0 = true := hts _ (zsub _ wq_5_1)
  have L28 : (Cond.fieldLink RX0 28 "CupFountain$Cup" "guarded" "Z").before args s0 = true := hts _ (zsub _ wq_5_2)
  have L31 : (Cond.fieldLink RX0 31 "CupFountain$Cup" "jet" "I").before args s0 = true := hts _ (zsub _ wq_5_3)
  have L34 : (Cond.fieldLink RX0 34 "CupFountain$Cup" "tips" "I").before args s0 = true := hts _ (zsub _ wq_5_4)
  have L37 : (Cond.fieldLink RX0 37 "CupFountain$Cup" "onTime" "I").before args s0 = true := hts _ (zsub _ wq_5_5)
  have L40 : (Cond.fieldLink RX0 40 "CupFountain$Cup" "early" "I").before args s0 = true := hts _ (zsub _ wq_5_6)
  have L43 : (Cond.fieldLink RX0 43 "CupFountain$Cup" "late" "I").before args s0 = true := hts _ (zsub _ wq_5_7)
  have L49 : (Cond.fieldLink RX0 49 "CupFountain$Cup" "next" "I").before args s0 = true := hts _ (zsub _ wq_5_9)
  have L9 : (Cond.fieldLink RX0 9 "CupFountain$Cup" "size" "I").before args s0 = true := hts _ (zsub _ wq_4_9)
  have hinX0 : ∀ w ∈ wsX00, w ∈ zws yX0_tell cX0_tell 2 (some .int) := fun w h => zsub w (wl_wsX00 w h)
  have hl : lv_has ls 2 [(0, .ref o), (1, .int x)] := hl
  refine lv_iload_n (pc := 0) hx hb dX0_tell_0 rfl (lv_at hl 1 rfl) ?_
  rcases sw12 x with hs | rfl | rfl | rfl | rfl | rfl | rfl | rfl | rfl | rfl | rfl | rfl | rfl
  · refine lv_tableOut (tgt := 143) (pc := 1) hx hb dX0_tell_1 (inF_out hs) (by decide) ?_
    refine lv_bipush (v := -2) (pc := 143) hx hb dX0_tell_143 (by decide) ?_
    exact z_iret (pc := 145) hx hb hr hlk hQ hz dX0_tell_145 (by simp only [tellR, if_pos hs]) (by rfl)
  · refine lv_tableIn (off := 63) (tgt := 64) (pc := 1) hx hb dX0_tell_1 (by decide) (by decide) (by decide) (by decide) ?_
    refine lv_aload_n (pc := 64) hx hb dX0_tell_64 rfl (lv_at hl 0 rfl) ?_
    refine z_get (own := RX0) (ref := "CupFountain$Cup") (C := RX0) (T := TX0) (N := 13) (ci := 0) (v := .int (c 0)) (pc := 65) hx hb hts hinX0 hown hz 0 rfl rfl 0 (by decide) L9 rfl rfl dX0_tell_65 ?_
    exact z_iret (pc := 68) hx hb hr hlk hQ hz dX0_tell_68 (by simp only [tellR]; rw [if_neg (by decide), if_neg (by decide)]; rfl) (by rfl)
  · refine lv_tableIn (off := 68) (tgt := 69) (pc := 1) hx hb dX0_tell_1 (by decide) (by decide) (by decide) (by decide) ?_
    refine lv_aload_n (pc := 69) hx hb dX0_tell_69 rfl (lv_at hl 0 rfl) ?_
    refine z_get (own := RX0) (ref := "CupFountain$Cup") (C := RX0) (T := TX0) (N := 13) (ci := 0) (v := .int (c 1)) (pc := 70) hx hb hts hinX0 hown hz 0 rfl rfl 1 (by decide) L15 rfl rfl dX0_tell_70 ?_
    exact z_iret (pc := 73) hx hb hr hlk hQ hz dX0_tell_73 (by simp only [tellR]; rw [if_neg (by decide), if_neg (by decide)]; rfl) (by rfl)
  · refine lv_tableIn (off := 73) (tgt := 74) (pc := 1) hx hb dX0_tell_1 (by decide) (by decide) (by decide) (by decide) ?_
    refine lv_aload_n (pc := 74) hx hb dX0_tell_74 rfl (lv_at hl 0 rfl) ?_
    refine z_get (own := RX0) (ref := "CupFountain$Cup") (C := RX0) (T := TX0) (N := 13) (ci := 0) (v := .int (c 2)) (pc := 75) hx hb hts hinX0 hown hz 0 rfl rfl 2 (by decide) L49 rfl rfl dX0_tell_75 ?_
    exact z_iret (pc := 78) hx hb hr hlk hQ hz dX0_tell_78 (by simp only [tellR]; rw [if_neg (by decide), if_neg (by decide)]; rfl) (by rfl)
  · refine lv_tableIn (off := 78) (tgt := 79) (pc := 1) hx hb dX0_tell_1 (by decide) (by decide) (by decide) (by decide) ?_
    refine lv_aload_n (pc := 79) hx hb dX0_tell_79 rfl (lv_at hl 0 rfl) ?_
    refine z_get (own := RX0) (ref := "CupFountain$Cup") (C := RX0) (T := TX0) (N := 13) (ci := 0) (v := .int (c 3)) (pc := 80) hx hb hts hinX0 hown hz 0 rfl rfl 3 (by decide) L18 rfl rfl dX0_tell_80 ?_
    exact z_iret (pc := 83) hx hb hr hlk hQ hz dX0_tell_83 (by simp only [tellR]; rw [if_neg (by decide), if_neg (by decide)]; rfl) (by rfl)
  · refine lv_tableIn (off := 83) (tgt := 84) (pc := 1) hx hb dX0_tell_1 (by decide) (by decide) (by decide) (by decide) ?_
    refine lv_aload_n (pc := 84) hx hb dX0_tell_84 rfl (lv_at hl 0 rfl) ?_
    refine z_get (own := RX0) (ref := "CupFountain$Cup") (C := RX0) (T := TX0) (N := 13) (ci := 0) (v := .int (c 4)) (pc := 85) hx hb hts hinX0 hown hz 0 rfl rfl 4 (by decide) L21 rfl rfl dX0_tell_85 ?_
    refine lv_iconst (v := -1) (pc := 88) hx hb dX0_tell_88 (by decide) ?_
    refine lv_icmp_ne (pc := 89) (tgt := 97) hx hb dX0_tell_89 (by decide) (fun c_89 => ?_) (fun c_89 => ?_)
    · refine lv_aload_n (pc := 97) hx hb dX0_tell_97 rfl (lv_at hl 0 rfl) ?_
      refine z_get (own := RX0) (ref := "CupFountain$Cup") (C := RX0) (T := TX0) (N := 13) (ci := 0) (v := .int (c 4)) (pc := 98) hx hb hts hinX0 hown hz 0 rfl rfl 4 (by decide) L21 rfl rfl dX0_tell_98 ?_
      exact z_iret (pc := 101) hx hb hr hlk hQ hz dX0_tell_101 (by rw [tellR, if_neg (by decide), if_pos rfl, if_neg c_89]; rfl) (by rfl)
    · refine lv_bipush (v := -5) (pc := 92) hx hb dX0_tell_92 (by decide) ?_
      refine lv_goto (tgt := 101) (pc := 94) hx hb dX0_tell_94 (by decide) ?_
      exact z_iret (pc := 101) hx hb hr hlk hQ hz dX0_tell_101 (by rw [tellR, if_neg (by decide), if_pos rfl, if_pos c_89]) (by rfl)
  · refine lv_tableIn (off := 101) (tgt := 102) (pc := 1) hx hb dX0_tell_1 (by decide) (by decide) (by decide) (by decide) ?_
    refine lv_aload_n (pc := 102) hx hb dX0_tell_102 rfl (lv_at hl 0 rfl) ?_
    refine z_get (own := RX0) (ref := "CupFountain$Cup") (C := RX0) (T := TX0) (N := 13) (ci := 0) (v := .int (c 5)) (pc := 103) hx hb hts hinX0 hown hz 0 rfl rfl 5 (by decide) L24 rfl rfl dX0_tell_103 ?_
    refine z_runSN (pc := 106) (As := [.int (c 5)]) (rest := []) (ws1 := wC o c z) ⟨hx, hb, hml, hown, hts⟩ (k_X3_asNumber l G ca (c 5)) ⟨va_cnB 1 hts (zgood0 zsub wq_8_8) rfl rfl rfl hz.1.2.1 (hts _ (zsub _ wq_1_2)) hdN_X3_asNumber ⟨Nat.le_of_ble_eq_true rfl, Nat.le_of_ble_eq_true rfl⟩, hts _ (zsub _ wq_8_7), trivial⟩ hz (wC o c z) zp_no (List.Perm.refl _) rfl hl.1 (Nat.le_of_ble_eq_true rfl) (st1 := [.int (numF (c 5))]) rfl dX0_tell_106 ⟨Nat.zero_le _, Nat.zero_le _⟩ (fun H locs hz => ?_)
    exact z_iret (pc := 109) hx hb hr hlk hQ hz dX0_tell_109 (by simp only [tellR, numF]; rw [if_neg (by decide), if_neg (by decide), b01_a hb5]; rfl) (by rfl)
  · refine lv_tableIn (off := 109) (tgt := 110) (pc := 1) hx hb dX0_tell_1 (by decide) (by decide) (by decide) (by decide) ?_
    refine lv_aload_n (pc := 110) hx hb dX0_tell_110 rfl (lv_at hl 0 rfl) ?_
    refine z_get (own := RX0) (ref := "CupFountain$Cup") (C := RX0) (T := TX0) (N := 13) (ci := 0) (v := .int (c 6)) (pc := 111) hx hb hts hinX0 hown hz 0 rfl rfl 6 (by decide) L28 rfl rfl dX0_tell_111 ?_
    refine z_runSN (pc := 114) (As := [.int (c 6)]) (rest := []) (ws1 := wC o c z) ⟨hx, hb, hml, hown, hts⟩ (k_X3_asNumber l G ca (c 6)) ⟨va_cnB 1 hts (zgood0 zsub wq_8_8) rfl rfl rfl hz.1.2.1 (hts _ (zsub _ wq_1_2)) hdN_X3_asNumber ⟨Nat.le_of_ble_eq_true rfl, Nat.le_of_ble_eq_true rfl⟩, hts _ (zsub _ wq_8_7), trivial⟩ hz (wC o c z) zp_no (List.Perm.refl _) rfl hl.1 (Nat.le_of_ble_eq_true rfl) (st1 := [.int (numF (c 6))]) rfl dX0_tell_114 ⟨Nat.zero_le _, Nat.zero_le _⟩ (fun H locs hz => ?_)
    exact z_iret (pc := 117) hx hb hr hlk hQ hz dX0_tell_117 (by simp only [tellR, numF]; rw [if_neg (by decide), if_neg (by decide), b01_a hb6]; rfl) (by rfl)
  · refine lv_tableIn (off := 117) (tgt := 118) (pc := 1) hx hb dX0_tell_1 (by decide) (by decide) (by decide) (by decide) ?_
    refine lv_aload_n (pc := 118) hx hb dX0_tell_118 rfl (lv_at hl 0 rfl) ?_
    refine z_get (own := RX0) (ref := "CupFountain$Cup") (C := RX0) (T := TX0) (N := 13) (ci := 0) (v := .int (c 7)) (pc := 119) hx hb hts hinX0 hown hz 0 rfl rfl 7 (by decide) L31 rfl rfl dX0_tell_119 ?_
    exact z_iret (pc := 122) hx hb hr hlk hQ hz dX0_tell_122 (by simp only [tellR]; rw [if_neg (by decide), if_neg (by decide)]; rfl) (by rfl)
  · refine lv_tableIn (off := 122) (tgt := 123) (pc := 1) hx hb dX0_tell_1 (by decide) (by decide) (by decide) (by decide) ?_
    refine lv_aload_n (pc := 123) hx hb dX0_tell_123 rfl (lv_at hl 0 rfl) ?_
    refine z_get (own := RX0) (ref := "CupFountain$Cup") (C := RX0) (T := TX0) (N := 13) (ci := 0) (v := .int (c 8)) (pc := 124) hx hb hts hinX0 hown hz 0 rfl rfl 8 (by decide) L34 rfl rfl dX0_tell_124 ?_
    exact z_iret (pc := 127) hx hb hr hlk hQ hz dX0_tell_127 (by simp only [tellR]; rw [if_neg (by decide), if_neg (by decide)]; rfl) (by rfl)
  · refine lv_tableIn (off := 127) (tgt := 128) (pc := 1) hx hb dX0_tell_1 (by decide) (by decide) (by decide) (by decide) ?_
    refine lv_aload_n (pc := 128) hx hb dX0_tell_128 rfl (lv_at hl 0 rfl) ?_
    refine z_get (own := RX0) (ref := "CupFountain$Cup") (C := RX0) (T := TX0) (N := 13) (ci := 0) (v := .int (c 9)) (pc := 129) hx hb hts hinX0 hown hz 0 rfl rfl 9 (by decide) L37 rfl rfl dX0_tell_129 ?_
    exact z_iret (pc := 132) hx hb hr hlk hQ hz dX0_tell_132 (by simp only [tellR]; rw [if_neg (by decide), if_neg (by decide)]; rfl) (by rfl)
  · refine lv_tableIn (off := 132) (tgt := 133) (pc := 1) hx hb dX0_tell_1 (by decide) (by decide) (by decide) (by decide) ?_
    refine lv_aload_n (pc := 133) hx hb dX0_tell_133 rfl (lv_at hl 0 rfl) ?_
    refine z_get (own := RX0) (ref := "CupFountain$Cup") (C := RX0) (T := TX0) (N := 13) (ci := 0) (v := .int (c 10)) (pc := 134) hx hb hts hinX0 hown hz 0 rfl rfl 10 (by decide) L40 rfl rfl dX0_tell_134 ?_
    exact z_iret (pc := 137) hx hb hr hlk hQ hz dX0_tell_137 (by simp only [tellR]; rw [if_neg (by decide), if_neg (by decide)]; rfl) (by rfl)
  · refine lv_tableIn (off := 137) (tgt := 138) (pc := 1) hx hb dX0_tell_1 (by decide) (by decide) (by decide) (by decide) ?_
    refine lv_aload_n (pc := 138) hx hb dX0_tell_138 rfl (lv_at hl 0 rfl) ?_
    refine z_get (own := RX0) (ref := "CupFountain$Cup") (C := RX0) (T := TX0) (N := 13) (ci := 0) (v := .int (c 11)) (pc := 139) hx hb hts hinX0 hown hz 0 rfl rfl 11 (by decide) L43 rfl rfl dX0_tell_139 ?_
    exact z_iret (pc := 142) hx hb hr hlk hQ hz dX0_tell_142 (by simp only [tellR]; rw [if_neg (by decide), if_neg (by decide)]; rfl) (by rfl)

def rm_X0_copyFrom : Room := { frames := 0, cells := 0, slots := 0, locals := 0 }
set_option maxRecDepth 20000 in
theorem hdV_X0_copyFrom : yX0_copyFrom.cls = RX0 ∧ yX0_copyFrom.cls ≠ "java/lang/invoke/MethodHandle" ∧ yX0_copyFrom.cls ≠ "java/lang/invoke/VarHandle" ∧ (parseMethodDescriptor yX0_copyFrom.desc).map (fun d => d.parameters.length) = some 1 := by decide +kernel
set_option maxHeartbeats 4000000 in
set_option maxRecDepth 100000 in
theorem k_X0_copyFrom (l : Launch) (G : va_G) (ca : Nat → ClassId) (o q : Nat) (c c2 : Nat → Int32) (z z2 : Int32) (hb5 : b01 (c2 5)) (hb6 : b01 (c2 6)) : Zc l G ca yX0_copyFrom (zws yX0_copyFrom cX0_copyFrom 2 none) rm_X0_copyFrom [.ref o, .ref q] (wC o c z ++ wC q c2 z2) none (wC o c2 z ++ wC q c2 z2) := by
  refine Zc.of (cc := cX0_copyFrom) (maxL := 2) (ret := none) (by decide) rfl (Nat.le_of_ble_eq_true rfl) ?_
  intro pg ev s0 mt below meth cd A args Q ls hx hb hr hml hown hts hlk hQ hl hz
  have L15 : (Cond.fieldLink RX0 15 "CupFountain$Cup" "leak" "I").before args s0 = true := hts _ (zsub _ wq_4_10)
  have L18 : (Cond.fieldLink RX0 18 "CupFountain$Cup" "water" "I").before args s0 = true := hts _ (zsub _ wq_4_11)
  have L21 : (Cond.fieldLink RX0 21 "CupFountain$Cup" "hour" "I").before args s0 = true := hts _ (zsub _ wq_5_0)
  have L24 : (Cond.fieldLink RX0 24 "CupFountain$Cup" "open" "Z").before args s0 = true := hts _ (zsub _ wq_5_1)
  have L28 : (Cond.fieldLink RX0 28 "CupFountain$Cup" "guarded" "Z").before args s0 = true := hts _ (zsub _ wq_5_2)
  have L31 : (Cond.fieldLink RX0 31 "CupFountain$Cup" "jet" "I").before args s0 = true := hts _ (zsub _ wq_5_3)
  have L34 : (Cond.fieldLink RX0 34 "CupFountain$Cup" "tips" "I").before args s0 = true := hts _ (zsub _ wq_5_4)
  have L37 : (Cond.fieldLink RX0 37 "CupFountain$Cup" "onTime" "I").before args s0 = true := hts _ (zsub _ wq_5_5)
  have L40 : (Cond.fieldLink RX0 40 "CupFountain$Cup" "early" "I").before args s0 = true := hts _ (zsub _ wq_5_6)
  have L43 : (Cond.fieldLink RX0 43 "CupFountain$Cup" "late" "I").before args s0 = true := hts _ (zsub _ wq_5_7)
  have L49 : (Cond.fieldLink RX0 49 "CupFountain$Cup" "next" "I").before args s0 = true := hts _ (zsub _ wq_5_9)
  have L9 : (Cond.fieldLink RX0 9 "CupFountain$Cup" "size" "I").before args s0 = true := hts _ (zsub _ wq_4_9)
  have hinX0 : ∀ w ∈ wsX00, w ∈ zws yX0_copyFrom cX0_copyFrom 2 none := fun w h => zsub w (wl_wsX00 w h)
  have hl : lv_has ls 2 [(0, .ref o), (1, .ref q)] := hl
  refine lv_aload_n (pc := 0) hx hb dX0_copyFrom_0 rfl (lv_at hl 0 rfl) ?_
  refine lv_aload_n (pc := 1) hx hb dX0_copyFrom_1 rfl (lv_at hl 1 rfl) ?_
  refine z_get (own := RX0) (ref := "CupFountain$Cup") (C := RX0) (T := TX0) (N := 13) (ci := 0) (v := .int (c2 0)) (pc := 2) hx hb hts hinX0 hown hz 1 rfl rfl 0 (by decide) L9 rfl rfl dX0_copyFrom_2 ?_
  refine z_put (own := RX0) (ref := "CupFountain$Cup") (C := RX0) (T := TX0) (N := 13) (ci := 0) (v := .int (c2 0)) (ws1 := wC o (upd c 0 (c2 0)) z ++ wC q c2 z2) (pc := 5) hx hb hts hinX0 tyX0 tyX0_ok nmX0 hown hz 0 rfl rfl 0 (by decide) L9 rfl rfl rfl rfl (Nat.le_of_ble_eq_true rfl) rfl dX0_copyFrom_5 (fun H locs hz => ?_)
  refine lv_aload_n (pc := 8) hx hb dX0_copyFrom_8 rfl (lv_at hl 0 rfl) ?_
  refine lv_aload_n (pc := 9) hx hb dX0_copyFrom_9 rfl (lv_at hl 1 rfl) ?_
  refine z_get (own := RX0) (ref := "CupFountain$Cup") (C := RX0) (T := TX0) (N := 13) (ci := 0) (v := .int (c2 1)) (pc := 10) hx hb hts hinX0 hown hz 1 rfl rfl 1 (by decide) L15 rfl rfl dX0_copyFrom_10 ?_
  refine z_put (own := RX0) (ref := "CupFountain$Cup") (C := RX0) (T := TX0) (N := 13) (ci := 0) (v := .int (c2 1)) (ws1 := wC o (upd (upd c 0 (c2 0)) 1 (c2 1)) z ++ wC q c2 z2) (pc := 13) hx hb hts hinX0 tyX0 tyX0_ok nmX0 hown hz 0 rfl rfl 1 (by decide) L15 rfl rfl rfl rfl (Nat.le_of_ble_eq_true rfl) rfl dX0_copyFrom_13 (fun H locs hz => ?_)
  refine lv_aload_n (pc := 16) hx hb dX0_copyFrom_16 rfl (lv_at hl 0 rfl) ?_
  refine lv_aload_n (pc := 17) hx hb dX0_copyFrom_17 rfl (lv_at hl 1 rfl) ?_
  refine z_get (own := RX0) (ref := "CupFountain$Cup") (C := RX0) (T := TX0) (N := 13) (ci := 0) (v := .int (c2 2)) (pc := 18) hx hb hts hinX0 hown hz 1 rfl rfl 2 (by decide) L49 rfl rfl dX0_copyFrom_18 ?_
  refine z_put (own := RX0) (ref := "CupFountain$Cup") (C := RX0) (T := TX0) (N := 13) (ci := 0) (v := .int (c2 2)) (ws1 := wC o (upd (upd (upd c 0 (c2 0)) 1 (c2 1)) 2 (c2 2)) z ++ wC q c2 z2) (pc := 21) hx hb hts hinX0 tyX0 tyX0_ok nmX0 hown hz 0 rfl rfl 2 (by decide) L49 rfl rfl rfl rfl (Nat.le_of_ble_eq_true rfl) rfl dX0_copyFrom_21 (fun H locs hz => ?_)
  refine lv_aload_n (pc := 24) hx hb dX0_copyFrom_24 rfl (lv_at hl 0 rfl) ?_
  refine lv_aload_n (pc := 25) hx hb dX0_copyFrom_25 rfl (lv_at hl 1 rfl) ?_
  refine z_get (own := RX0) (ref := "CupFountain$Cup") (C := RX0) (T := TX0) (N := 13) (ci := 0) (v := .int (c2 3)) (pc := 26) hx hb hts hinX0 hown hz 1 rfl rfl 3 (by decide) L18 rfl rfl dX0_copyFrom_26 ?_
  refine z_put (own := RX0) (ref := "CupFountain$Cup") (C := RX0) (T := TX0) (N := 13) (ci := 0) (v := .int (c2 3)) (ws1 := wC o (upd (upd (upd (upd c 0 (c2 0)) 1 (c2 1)) 2 (c2 2)) 3 (c2 3)) z ++ wC q c2 z2) (pc := 29) hx hb hts hinX0 tyX0 tyX0_ok nmX0 hown hz 0 rfl rfl 3 (by decide) L18 rfl rfl rfl rfl (Nat.le_of_ble_eq_true rfl) rfl dX0_copyFrom_29 (fun H locs hz => ?_)
  refine lv_aload_n (pc := 32) hx hb dX0_copyFrom_32 rfl (lv_at hl 0 rfl) ?_
  refine lv_aload_n (pc := 33) hx hb dX0_copyFrom_33 rfl (lv_at hl 1 rfl) ?_
  refine z_get (own := RX0) (ref := "CupFountain$Cup") (C := RX0) (T := TX0) (N := 13) (ci := 0) (v := .int (c2 4)) (pc := 34) hx hb hts hinX0 hown hz 1 rfl rfl 4 (by decide) L21 rfl rfl dX0_copyFrom_34 ?_
  refine z_put (own := RX0) (ref := "CupFountain$Cup") (C := RX0) (T := TX0) (N := 13) (ci := 0) (v := .int (c2 4)) (ws1 := wC o (upd (upd (upd (upd (upd c 0 (c2 0)) 1 (c2 1)) 2 (c2 2)) 3 (c2 3)) 4 (c2 4)) z ++ wC q c2 z2) (pc := 37) hx hb hts hinX0 tyX0 tyX0_ok nmX0 hown hz 0 rfl rfl 4 (by decide) L21 rfl rfl rfl rfl (Nat.le_of_ble_eq_true rfl) rfl dX0_copyFrom_37 (fun H locs hz => ?_)
  refine lv_aload_n (pc := 40) hx hb dX0_copyFrom_40 rfl (lv_at hl 0 rfl) ?_
  refine lv_aload_n (pc := 41) hx hb dX0_copyFrom_41 rfl (lv_at hl 1 rfl) ?_
  refine z_get (own := RX0) (ref := "CupFountain$Cup") (C := RX0) (T := TX0) (N := 13) (ci := 0) (v := .int (c2 5)) (pc := 42) hx hb hts hinX0 hown hz 1 rfl rfl 5 (by decide) L24 rfl rfl dX0_copyFrom_42 ?_
  refine z_put (own := RX0) (ref := "CupFountain$Cup") (C := RX0) (T := TX0) (N := 13) (ci := 0) (v := .int (c2 5)) (ws1 := wC o (upd (upd (upd (upd (upd (upd c 0 (c2 0)) 1 (c2 1)) 2 (c2 2)) 3 (c2 3)) 4 (c2 4)) 5 (c2 5)) z ++ wC q c2 z2) (pc := 45) hx hb hts hinX0 tyX0 tyX0_ok nmX0 hown hz 0 rfl rfl 5 (by decide) L24 rfl rfl (b01_n hb5) (b01_f hb5) (Nat.le_of_ble_eq_true rfl) rfl dX0_copyFrom_45 (fun H locs hz => ?_)
  refine lv_aload_n (pc := 48) hx hb dX0_copyFrom_48 rfl (lv_at hl 0 rfl) ?_
  refine lv_aload_n (pc := 49) hx hb dX0_copyFrom_49 rfl (lv_at hl 1 rfl) ?_
  refine z_get (own := RX0) (ref := "CupFountain$Cup") (C := RX0) (T := TX0) (N := 13) (ci := 0) (v := .int (c2 6)) (pc := 50) hx hb hts hinX0 hown hz 1 rfl rfl 6 (by decide) L28 rfl rfl dX0_copyFrom_50 ?_
  refine z_put (own := RX0) (ref := "CupFountain$Cup") (C := RX0) (T := TX0) (N := 13) (ci := 0) (v := .int (c2 6)) (ws1 := wC o (upd (upd (upd (upd (upd (upd (upd c 0 (c2 0)) 1 (c2 1)) 2 (c2 2)) 3 (c2 3)) 4 (c2 4)) 5 (c2 5)) 6 (c2 6)) z ++ wC q c2 z2) (pc := 53) hx hb hts hinX0 tyX0 tyX0_ok nmX0 hown hz 0 rfl rfl 6 (by decide) L28 rfl rfl (b01_n hb6) (b01_f hb6) (Nat.le_of_ble_eq_true rfl) rfl dX0_copyFrom_53 (fun H locs hz => ?_)
  refine lv_aload_n (pc := 56) hx hb dX0_copyFrom_56 rfl (lv_at hl 0 rfl) ?_
  refine lv_aload_n (pc := 57) hx hb dX0_copyFrom_57 rfl (lv_at hl 1 rfl) ?_
  refine z_get (own := RX0) (ref := "CupFountain$Cup") (C := RX0) (T := TX0) (N := 13) (ci := 0) (v := .int (c2 7)) (pc := 58) hx hb hts hinX0 hown hz 1 rfl rfl 7 (by decide) L31 rfl rfl dX0_copyFrom_58 ?_
  refine z_put (own := RX0) (ref := "CupFountain$Cup") (C := RX0) (T := TX0) (N := 13) (ci := 0) (v := .int (c2 7)) (ws1 := wC o (upd (upd (upd (upd (upd (upd (upd (upd c 0 (c2 0)) 1 (c2 1)) 2 (c2 2)) 3 (c2 3)) 4 (c2 4)) 5 (c2 5)) 6 (c2 6)) 7 (c2 7)) z ++ wC q c2 z2) (pc := 61) hx hb hts hinX0 tyX0 tyX0_ok nmX0 hown hz 0 rfl rfl 7 (by decide) L31 rfl rfl rfl rfl (Nat.le_of_ble_eq_true rfl) rfl dX0_copyFrom_61 (fun H locs hz => ?_)
  refine lv_aload_n (pc := 64) hx hb dX0_copyFrom_64 rfl (lv_at hl 0 rfl) ?_
  refine lv_aload_n (pc := 65) hx hb dX0_copyFrom_65 rfl (lv_at hl 1 rfl) ?_
  refine z_get (own := RX0) (ref := "CupFountain$Cup") (C := RX0) (T := TX0) (N := 13) (ci := 0) (v := .int (c2 8)) (pc := 66) hx hb hts hinX0 hown hz 1 rfl rfl 8 (by decide) L34 rfl rfl dX0_copyFrom_66 ?_
  refine z_put (own := RX0) (ref := "CupFountain$Cup") (C := RX0) (T := TX0) (N := 13) (ci := 0) (v := .int (c2 8)) (ws1 := wC o (upd (upd (upd (upd (upd (upd (upd (upd (upd c 0 (c2 0)) 1 (c2 1)) 2 (c2 2)) 3 (c2 3)) 4 (c2 4)) 5 (c2 5)) 6 (c2 6)) 7 (c2 7)) 8 (c2 8)) z ++ wC q c2 z2) (pc := 69) hx hb hts hinX0 tyX0 tyX0_ok nmX0 hown hz 0 rfl rfl 8 (by decide) L34 rfl rfl rfl rfl (Nat.le_of_ble_eq_true rfl) rfl dX0_copyFrom_69 (fun H locs hz => ?_)
  refine lv_aload_n (pc := 72) hx hb dX0_copyFrom_72 rfl (lv_at hl 0 rfl) ?_
  refine lv_aload_n (pc := 73) hx hb dX0_copyFrom_73 rfl (lv_at hl 1 rfl) ?_
  refine z_get (own := RX0) (ref := "CupFountain$Cup") (C := RX0) (T := TX0) (N := 13) (ci := 0) (v := .int (c2 9)) (pc := 74) hx hb hts hinX0 hown hz 1 rfl rfl 9 (by decide) L37 rfl rfl dX0_copyFrom_74 ?_
  refine z_put (own := RX0) (ref := "CupFountain$Cup") (C := RX0) (T := TX0) (N := 13) (ci := 0) (v := .int (c2 9)) (ws1 := wC o (upd (upd (upd (upd (upd (upd (upd (upd (upd (upd c 0 (c2 0)) 1 (c2 1)) 2 (c2 2)) 3 (c2 3)) 4 (c2 4)) 5 (c2 5)) 6 (c2 6)) 7 (c2 7)) 8 (c2 8)) 9 (c2 9)) z ++ wC q c2 z2) (pc := 77) hx hb hts hinX0 tyX0 tyX0_ok nmX0 hown hz 0 rfl rfl 9 (by decide) L37 rfl rfl rfl rfl (Nat.le_of_ble_eq_true rfl) rfl dX0_copyFrom_77 (fun H locs hz => ?_)
  refine lv_aload_n (pc := 80) hx hb dX0_copyFrom_80 rfl (lv_at hl 0 rfl) ?_
  refine lv_aload_n (pc := 81) hx hb dX0_copyFrom_81 rfl (lv_at hl 1 rfl) ?_
  refine z_get (own := RX0) (ref := "CupFountain$Cup") (C := RX0) (T := TX0) (N := 13) (ci := 0) (v := .int (c2 10)) (pc := 82) hx hb hts hinX0 hown hz 1 rfl rfl 10 (by decide) L40 rfl rfl dX0_copyFrom_82 ?_
  refine z_put (own := RX0) (ref := "CupFountain$Cup") (C := RX0) (T := TX0) (N := 13) (ci := 0) (v := .int (c2 10)) (ws1 := wC o (upd (upd (upd (upd (upd (upd (upd (upd (upd (upd (upd c 0 (c2 0)) 1 (c2 1)) 2 (c2 2)) 3 (c2 3)) 4 (c2 4)) 5 (c2 5)) 6 (c2 6)) 7 (c2 7)) 8 (c2 8)) 9 (c2 9)) 10 (c2 10)) z ++ wC q c2 z2) (pc := 85) hx hb hts hinX0 tyX0 tyX0_ok nmX0 hown hz 0 rfl rfl 10 (by decide) L40 rfl rfl rfl rfl (Nat.le_of_ble_eq_true rfl) rfl dX0_copyFrom_85 (fun H locs hz => ?_)
  refine lv_aload_n (pc := 88) hx hb dX0_copyFrom_88 rfl (lv_at hl 0 rfl) ?_
  refine lv_aload_n (pc := 89) hx hb dX0_copyFrom_89 rfl (lv_at hl 1 rfl) ?_
  refine z_get (own := RX0) (ref := "CupFountain$Cup") (C := RX0) (T := TX0) (N := 13) (ci := 0) (v := .int (c2 11)) (pc := 90) hx hb hts hinX0 hown hz 1 rfl rfl 11 (by decide) L43 rfl rfl dX0_copyFrom_90 ?_
  refine z_put (own := RX0) (ref := "CupFountain$Cup") (C := RX0) (T := TX0) (N := 13) (ci := 0) (v := .int (c2 11)) (ws1 := wC o (upd (upd (upd (upd (upd (upd (upd (upd (upd (upd (upd (upd c 0 (c2 0)) 1 (c2 1)) 2 (c2 2)) 3 (c2 3)) 4 (c2 4)) 5 (c2 5)) 6 (c2 6)) 7 (c2 7)) 8 (c2 8)) 9 (c2 9)) 10 (c2 10)) 11 (c2 11)) z ++ wC q c2 z2) (pc := 93) hx hb hts hinX0 tyX0 tyX0_ok nmX0 hown hz 0 rfl rfl 11 (by decide) L43 rfl rfl rfl rfl (Nat.le_of_ble_eq_true rfl) rfl dX0_copyFrom_93 (fun H locs hz => ?_)
  exact z_vret (pc := 96) hx hb hr hlk hQ hz dX0_copyFrom_96 rfl (by rfl)
