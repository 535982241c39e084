def rm_X4_type : Room := { frames := 0, cells := 0, slots := 0, locals := 0 }
set_option maxRecDepth 20000 in
theorem hdV_X4_type : yX4_type.cls = RX4 ∧ yX4_type.cls ≠ "java/lang/invoke/MethodHandle" ∧ yX4_type.cls ≠ "java/lang/invoke/VarHandle" ∧ (parseMethodDescriptor yX4_type.desc).map (fun d => d.parameters.length) = some 1 := by decide +kernel
set_option maxHeartbeats 4000000 in
set_option maxRecDepth 100000 in
theorem k_X4_type (l : Launch) (G : va_G) (ca : Nat → ClassId) (a : Nat → Nat) (f h : Nat → Int32) (c : Nat → Nat → Int32) (hi sn be tx ti : Nat → Int32) (ln : Nat) (hln : ln ≤ 60) (hf7 : f 7 = nI ln) (x : Int32) (hxc : vp_nar .char x = x) : Zc l G ca yX4_type (zws yX4_type cX4_type 2 (some .int)) rm_X4_type [.ref (a 0), .int x] (mm ca a f h c hi sn be tx ti) (some (.int (typeR ln))) (mm ca a (typeF f ln) h c hi sn be (typeT tx ln x) ti) := by
  refine Zc.of (cc := cX4_type) (maxL := 2) (ret := (some .int)) (by decide) rfl (Nat.le_of_ble_eq_true rfl) ?_
  intro pg ev s0 mt below meth cd A args Q ls hx hb hr hml hown hts hlk hQ hl hz
  have L116 : (Cond.fieldLink RX4 116 "CupFountainModel" "length" "I").before args s0 = true := hts _ (zsub _ wq_16_1)
  have L22 : (Cond.fieldLink RX4 22 "CupFountainModel" "text" "[C").before args s0 = true := hts _ (zsub _ wq_4_9)
  have hinX4 : ∀ w ∈ wsX40, w ∈ zws yX4_type cX4_type 2 (some .int) := fun w h => zsub w (wl_wsX40 w h)
  have hl : lv_has ls 2 [(0, .ref (a 0)), (1, .int x)] := hl
  refine lv_aload_n (pc := 0) hx hb dX4_type_0 rfl (lv_at hl 0 rfl) ?_
  refine z_get (own := RX4) (ref := "CupFountainModel") (C := RX4) (T := TX4) (N := 17) (ci := 4) (v := .int (f 7)) (pc := 1) hx hb hts hinX4 hown hz 0 rfl rfl 7 (by decide) L116 rfl rfl dX4_type_1 ?_
  refine lv_bipush (v := 60) (pc := 4) hx hb dX4_type_4 (by decide) ?_
  refine lv_icmp_ne (pc := 6) (tgt := 12) hx hb dX4_type_6 (by decide) (fun c_6 => ?_) (fun c_6 => ?_)
  · have h60 : ¬ ln = 60 := fun q => c_6 (by rw [hf7, q]; rfl)
    refine lv_aload_n (pc := 12) hx hb dX4_type_12 rfl (lv_at hl 0 rfl) ?_
    refine z_get (own := RX4) (ref := "CupFountainModel") (C := RX4) (T := TX4) (N := 17) (ci := 4) (v := .ref (a 5)) (pc := 13) hx hb hts hinX4 hown hz 0 rfl rfl 6 (by decide) L22 rfl rfl dX4_type_13 ?_
    refine lv_aload_n (pc := 16) hx hb dX4_type_16 rfl (lv_at hl 0 rfl) ?_
    refine z_get (own := RX4) (ref := "CupFountainModel") (C := RX4) (T := TX4) (N := 17) (ci := 4) (v := .int (f 7)) (pc := 17) hx hb hts hinX4 hown hz 0 rfl rfl 7 (by decide) L116 rfl rfl dX4_type_17 ?_
    refine lv_iload_n (pc := 20) hx hb dX4_type_20 rfl (lv_at hl 1 rfl) ?_
    refine z_cast (ws1 := mm ca a f h c hi sn be (upd tx ln x) ti) (pc := 21) hx hb hz 5 rfl ln hf7 (by omega) (by decide) (by rw [hxc]; rfl) dX4_type_21 (fun H locs hz => ?_)
    refine lv_aload_n (pc := 22) hx hb dX4_type_22 rfl (lv_at hl 0 rfl) ?_
    refine lv_dup (pc := 23) hx hb dX4_type_23 rfl ?_
    refine z_get (own := RX4) (ref := "CupFountainModel") (C := RX4) (T := TX4) (N := 17) (ci := 4) (v := .int (f 7)) (pc := 24) hx hb hts hinX4 hown hz 0 rfl rfl 7 (by decide) L116 rfl rfl dX4_type_24 ?_
    refine lv_iconst (v := 1) (pc := 27) hx hb dX4_type_27 (by decide) ?_
    refine lv_iadd (pc := 28) hx hb dX4_type_28 ?_
    refine z_top (y := nI (ln + 1)) (by rw [hf7]; exact nI_1 ln) ?_
    refine z_put (own := RX4) (ref := "CupFountainModel") (C := RX4) (T := TX4) (N := 17) (ci := 4) (v := .int (nI (ln + 1))) (ws1 := mm ca a (upd f 7 (nI (ln + 1))) h c hi sn be (upd tx ln x) ti) (pc := 29) hx hb hts hinX4 tyX4 tyX4_ok nmX4 hown hz 0 rfl rfl 7 (by decide) L116 rfl rfl rfl rfl (Nat.le_of_ble_eq_true rfl) rfl dX4_type_29 (fun H locs hz => ?_)
    refine lv_aload_n (pc := 32) hx hb dX4_type_32 rfl (lv_at hl 0 rfl) ?_
    refine z_get (own := RX4) (ref := "CupFountainModel") (C := RX4) (T := TX4) (N := 17) (ci := 4) (v := .int (nI (ln + 1))) (pc := 33) hx hb hts hinX4 hown hz 0 rfl rfl 7 (by decide) L116 rfl rfl dX4_type_33 ?_
    exact z_iret (pc := 36) hx hb hr hlk hQ hz dX4_type_36 (by simp only [typeR, if_neg h60]) (by simp only [typeF, typeT, if_neg h60])
  · have h60 : ln = 60 := (nI_eq (b := 60) (by omega) (by decide)).mp (hf7.symm.trans c_6)
    refine lv_bipush (v := -3) (pc := 9) hx hb dX4_type_9 (by decide) ?_
    exact z_iret (pc := 11) hx hb hr hlk hQ hz dX4_type_11 (by simp only [typeR, if_pos h60]) (by simp only [typeF, typeT, if_pos h60])

def rm_X4_clearText : Room := { frames := 0, cells := 0, slots := 0, locals := 0 }
set_option maxRecDepth 20000 in
theorem hdV_X4_clearText : yX4_clearText.cls = RX4 ∧ yX4_clearText.cls ≠ "java/lang/invoke/MethodHandle" ∧ yX4_clearText.cls ≠ "java/lang/invoke/VarHandle" ∧ (parseMethodDescriptor yX4_clearText.desc).map (fun d => d.parameters.length) = some 0 := by decide +kernel
set_option maxHeartbeats 4000000 in
set_option maxRecDepth 100000 in
theorem k_X4_clearText (l : Launch) (G : va_G) (ca : Nat → ClassId) (a : Nat → Nat) (f h : Nat → Int32) (c : Nat → Nat → Int32) (hi sn be tx ti : Nat → Int32) : Zc l G ca yX4_clearText (zws yX4_clearText cX4_clearText 2 (some .int)) rm_X4_clearText [.ref (a 0)] (mm ca a f h c hi sn be tx ti) (some (.int (f 7))) (mm ca a (upd f 7 0) h c hi sn be tx ti) := by
  refine Zc.of (cc := cX4_clearText) (maxL := 2) (ret := (some .int)) (by decide) rfl (Nat.le_of_ble_eq_true rfl) ?_
  intro pg ev s0 mt below meth cd A args Q ls hx hb hr hml hown hts hlk hQ hl hz
  have L116 : (Cond.fieldLink RX4 116 "CupFountainModel" "length" "I").before args s0 = true := hts _ (zsub _ wq_16_1)
  have hinX4 : ∀ w ∈ wsX40, w ∈ zws yX4_clearText cX4_clearText 2 (some .int) := fun w h => zsub w (wl_wsX40 w h)
  have hl : lv_has ls 2 [(0, .ref (a 0))] := hl
  refine lv_aload_n (pc := 0) hx hb dX4_clearText_0 rfl (lv_at hl 0 rfl) ?_
  refine z_get (own := RX4) (ref := "CupFountainModel") (C := RX4) (T := TX4) (N := 17) (ci := 4) (v := .int (f 7)) (pc := 1) hx hb hts hinX4 hown hz 0 rfl rfl 7 (by decide) L116 rfl rfl dX4_clearText_1 ?_
  refine lv_istore_n (lv' := [(1, .int (f 7)), (0, .ref (a 0))]) (pc := 4) hx hb dX4_clearText_4 rfl hl (by decide) rfl (fun ls hl => ?_)
  refine lv_aload_n (pc := 5) hx hb dX4_clearText_5 rfl (lv_at hl 1 rfl) ?_
  refine lv_iconst (v := 0) (pc := 6) hx hb dX4_clearText_6 (by decide) ?_
  refine z_put (own := RX4) (ref := "CupFountainModel") (C := RX4) (T := TX4) (N := 17) (ci := 4) (v := .int 0) (ws1 := mm ca a (upd f 7 0) h c hi sn be tx ti) (pc := 7) hx hb hts hinX4 tyX4 tyX4_ok nmX4 hown hz 0 rfl rfl 7 (by decide) L116 rfl rfl rfl rfl (Nat.le_of_ble_eq_true rfl) rfl dX4_clearText_7 (fun H locs hz => ?_)
  refine lv_iload_n (pc := 10) hx hb dX4_clearText_10 rfl (lv_at hl 0 rfl) ?_
  exact z_iret (pc := 11) hx hb hr hlk hQ hz dX4_clearText_11 (by rfl) (by rfl)

def rm_X4_stopped : Room := { frames := 1, cells := 0, slots := 0, locals := 22 }
set_option maxRecDepth 20000 in
theorem hdV_X4_stopped : yX4_stopped.cls = RX4 ∧ yX4_stopped.cls ≠ "java/lang/invoke/MethodHandle" ∧ yX4_stopped.cls ≠ "java/lang/invoke/VarHandle" ∧ (parseMethodDescriptor yX4_stopped.desc).map (fun d => d.parameters.length) = some 1 := by decide +kernel
set_option maxHeartbeats 4000000 in
set_option maxRecDepth 100000 in
theorem k_X4_stopped (l : Launch) (G : va_G) (ca : Nat → ClassId) (a : Nat → Nat) (f h : Nat → Int32) (c : Nat → Nat → Int32) (hi sn be tx ti : Nat → Int32) (what : Int32) : Zc l G ca yX4_stopped (zws yX4_stopped cX4_stopped 2 (some .int)) rm_X4_stopped [.ref (a 0), .int what] (mm ca a f h c hi sn be tx ti) (some (.int (stopR f what))) (mm ca a f h c hi sn be tx ti) := by
  refine Zc.of (cc := cX4_stopped) (maxL := 2) (ret := (some .int)) (by decide) rfl (Nat.le_of_ble_eq_true rfl) ?_
  intro pg ev s0 mt below meth cd A args Q ls hx hb hr hml hown hts hlk hQ hl hz
  have L162 : (Cond.fieldLink RX4 162 "CupFountainModel" "stoppedBy" "I").before args s0 = true := hts _ (zsub _ wq_18_22)
  have L26 : (Cond.fieldLink RX4 26 "CupFountainModel" "stoppedAt" "I").before args s0 = true := hts _ (zsub _ wq_4_10)
  have hinX4 : ∀ w ∈ wsX40, w ∈ zws yX4_stopped cX4_stopped 2 (some .int) := fun w h => zsub w (wl_wsX40 w h)
  have hl : lv_has ls 2 [(0, .ref (a 0)), (1, .int what)] := hl
  refine lv_iload_n (pc := 0) hx hb dX4_stopped_0 rfl (lv_at hl 1 rfl) ?_
  refine lv_iconst (v := 0) (pc := 1) hx hb dX4_stopped_1 (by decide) ?_
  refine lv_iconst (v := 1) (pc := 2) hx hb dX4_stopped_2 (by decide) ?_
  refine z_runS (pc := 3) (As := [.int what, .int 0, .int 1]) (rest := []) (ws1 := mm ca a f h c hi sn be tx ti) ⟨hx, hb, hml, hown, hts⟩ (k_X4_in l G ca what 0 1) (cwS 3 hts (zgoodS zsub wq_7_5 wq_7_6 wq_1_5 wq_7_7) rfl rfl rfl hdV_X4_in ⟨Nat.le_of_ble_eq_true rfl, Nat.le_of_ble_eq_true rfl⟩) hz (mm ca a f h c hi sn be tx ti) zp_no (List.Perm.refl _) rfl hl.1 (Nat.le_of_ble_eq_true rfl) (st1 := [.int (inF what 0 1)]) rfl dX4_stopped_3 ⟨Nat.zero_le _, Nat.zero_le _⟩ (fun H locs hz => ?_)
  refine lv_if_ne (pc := 6) (tgt := 12) hx hb dX4_stopped_6 (by decide) (fun c_6 => ?_) (fun c_6 => ?_)
  · refine lv_aload_n (pc := 12) hx hb dX4_stopped_12 rfl (lv_at hl 0 rfl) ?_
    refine z_get (own := RX4) (ref := "CupFountainModel") (C := RX4) (T := TX4) (N := 17) (ci := 4) (v := .int (f 8)) (pc := 13) hx hb hts hinX4 hown hz 0 rfl rfl 8 (by decide) L26 rfl rfl dX4_stopped_13 ?_
    refine lv_bipush (v := -5) (pc := 16) hx hb dX4_stopped_16 (by decide) ?_
    refine lv_icmp_ne (pc := 18) (tgt := 26) hx hb dX4_stopped_18 (by decide) (fun c_18 => ?_) (fun c_18 => ?_)
    · refine lv_iload_n (pc := 26) hx hb dX4_stopped_26 rfl (lv_at hl 1 rfl) ?_
      refine lv_if_ne (pc := 27) (tgt := 37) hx hb dX4_stopped_27 (by decide) (fun c_27 => ?_) (fun c_27 => ?_)
      · refine lv_aload_n (pc := 37) hx hb dX4_stopped_37 rfl (lv_at hl 0 rfl) ?_
        refine z_get (own := RX4) (ref := "CupFountainModel") (C := RX4) (T := TX4) (N := 17) (ci := 4) (v := .int (f 9)) (pc := 38) hx hb hts hinX4 hown hz 0 rfl rfl 9 (by decide) L162 rfl rfl dX4_stopped_38 ?_
        exact z_iret (pc := 41) hx hb hr hlk hQ hz dX4_stopped_41 (by simp only [stopR, if_neg c_6, if_neg c_18, if_neg c_27]) (by rfl)
      · refine lv_aload_n (pc := 30) hx hb dX4_stopped_30 rfl (lv_at hl 0 rfl) ?_
        refine z_get (own := RX4) (ref := "CupFountainModel") (C := RX4) (T := TX4) (N := 17) (ci := 4) (v := .int (f 8)) (pc := 31) hx hb hts hinX4 hown hz 0 rfl rfl 8 (by decide) L26 rfl rfl dX4_stopped_31 ?_
        refine lv_goto (tgt := 41) (pc := 34) hx hb dX4_stopped_34 (by decide) ?_
        exact z_iret (pc := 41) hx hb hr hlk hQ hz dX4_stopped_41 (by simp only [stopR, if_neg c_6, if_neg c_18, if_pos c_27]) (by rfl)
    · refine lv_bipush (v := -5) (pc := 21) hx hb dX4_stopped_21 (by decide) ?_
      refine lv_goto (tgt := 41) (pc := 23) hx hb dX4_stopped_23 (by decide) ?_
      exact z_iret (pc := 41) hx hb hr hlk hQ hz dX4_stopped_41 (by simp only [stopR, if_neg c_6, if_pos c_18]) (by rfl)
  · refine lv_bipush (v := -2) (pc := 9) hx hb dX4_stopped_9 (by decide) ?_
    exact z_iret (pc := 11) hx hb hr hlk hQ hz dX4_stopped_11 (by simp only [stopR, if_pos c_6]) (by rfl)

def rm_X4_undo : Room := { frames := 1, cells := 0, slots := 0, locals := 24 }
set_option maxRecDepth 20000 in
theorem hdV_X4_undo : yX4_undo.cls = RX4 ∧ yX4_undo.cls ≠ "java/lang/invoke/MethodHandle" ∧ yX4_undo.cls ≠ "java/lang/invoke/VarHandle" ∧ (parseMethodDescriptor yX4_undo.desc).map (fun d => d.parameters.length) = some 0 := by decide +kernel
set_option maxHeartbeats 4000000 in
set_option maxRecDepth 100000 in
theorem k_X4_undo_b (l : Launch) (G : va_G) (ca : Nat → ClassId) (a : Nat → Nat) (f h : Nat → Int32) (c : Nat → Nat → Int32) (hi sn be tx ti : Nat → Int32) (h1 : Nat → Int32) (c1 : Nat → Nat → Int32) (n : Nat) (hn : n < 4) (hf2 : f 2 = nI (n + 1)) (hh : ∀ j, j < 104 → hi (104 * n + j) = enc h1 c1 j) : Zc l G ca yX4_undo (zws yX4_undo cX4_undo 1 (some .int)) rm_X4_undo [.ref (a 0)] (mm ca a f h c hi sn be tx ti) (some (.int (nI n))) (mm ca a (upd f 2 (nI n)) h1 c1 hi sn be tx ti) := by
  refine Zc.of (cc := cX4_undo) (maxL := 1) (ret := (some .int)) (by decide) rfl (Nat.le_of_ble_eq_true rfl) ?_
  intro pg ev s0 mt below meth cd A args Q ls hx hb hr hml hown hts hlk hQ hl hz
  have L13 : (Cond.fieldLink RX4 13 "CupFountainModel" "history" "[I").before args s0 = true := hts _ (zsub _ wq_4_6)
  have L42 : (Cond.fieldLink RX4 42 "CupFountainModel" "kept" "I").before args s0 = true := hts _ (zsub _ wq_7_23)
  have L7 : (Cond.fieldLink RX4 7 "CupFountainModel" "s" "[I").before args s0 = true := hts _ (zsub _ wq_4_5)
  have hinX4 : ∀ w ∈ wsX40, w ∈ zws yX4_undo cX4_undo 1 (some .int) := fun w h => zsub w (wl_wsX40 w h)
  have hl : lv_has ls 1 [(0, .ref (a 0))] := hl
  refine lv_aload_n (pc := 0) hx hb dX4_undo_0 rfl (lv_at hl 0 rfl) ?_
  refine z_get (own := RX4) (ref := "CupFountainModel") (C := RX4) (T := TX4) (N := 17) (ci := 4) (v := .int (f 2)) (pc := 1) hx hb hts hinX4 hown hz 0 rfl rfl 2 (by decide) L42 rfl rfl dX4_undo_1 ?_
  refine lv_if_ne (pc := 4) (tgt := 10) hx hb dX4_undo_4 (by decide) (fun c_4 => ?_) (fun c9 => absurd c9 (by rw [hf2]; exact nI_ne0 (by omega) (by omega)))
  refine lv_aload_n (pc := 10) hx hb dX4_undo_10 rfl (lv_at hl 0 rfl) ?_
  refine lv_dup (pc := 11) hx hb dX4_undo_11 rfl ?_
  refine z_get (own := RX4) (ref := "CupFountainModel") (C := RX4) (T := TX4) (N := 17) (ci := 4) (v := .int (f 2)) (pc := 12) hx hb hts hinX4 hown hz 0 rfl rfl 2 (by decide) L42 rfl rfl dX4_undo_12 ?_
  refine lv_iconst (v := 1) (pc := 15) hx hb dX4_undo_15 (by decide) ?_
  refine lv_isub (pc := 16) hx hb dX4_undo_16 ?_
  refine z_top (y := nI n) (by rw [hf2]; exact nI_pred n) ?_
  refine z_put (own := RX4) (ref := "CupFountainModel") (C := RX4) (T := TX4) (N := 17) (ci := 4) (v := .int (nI n)) (ws1 := mm ca a (upd f 2 (nI n)) h c hi sn be tx ti) (pc := 17) hx hb hts hinX4 tyX4 tyX4_ok nmX4 hown hz 0 rfl rfl 2 (by decide) L42 rfl rfl rfl rfl (Nat.le_of_ble_eq_true rfl) rfl dX4_undo_17 (fun H locs hz => ?_)
  refine lv_aload_n (pc := 20) hx hb dX4_undo_20 rfl (lv_at hl 0 rfl) ?_
  refine z_get (own := RX4) (ref := "CupFountainModel") (C := RX4) (T := TX4) (N := 17) (ci := 4) (v := .ref (a 2)) (pc := 21) hx hb hts hinX4 hown hz 0 rfl rfl 1 (by decide) L13 rfl rfl dX4_undo_21 ?_
  refine lv_bipush (v := 104) (pc := 24) hx hb dX4_undo_24 (by decide) ?_
  refine lv_aload_n (pc := 26) hx hb dX4_undo_26 rfl (lv_at hl 0 rfl) ?_
  refine z_get (own := RX4) (ref := "CupFountainModel") (C := RX4) (T := TX4) (N := 17) (ci := 4) (v := .int (nI n)) (pc := 27) hx hb hts hinX4 hown hz 0 rfl rfl 2 (by decide) L42 rfl rfl dX4_undo_27 ?_
  refine lv_imul (pc := 30) hx hb dX4_undo_30 ?_
  refine z_top (y := nI (104 * n)) (pk_mul 104 n) ?_
  refine lv_aload_n (pc := 31) hx hb dX4_undo_31 rfl (lv_at hl 0 rfl) ?_
  refine z_get (own := RX4) (ref := "CupFountainModel") (C := RX4) (T := TX4) (N := 17) (ci := 4) (v := .ref (a 1)) (pc := 32) hx hb hts hinX4 hown hz 0 rfl rfl 0 (by decide) L7 rfl rfl dX4_undo_32 ?_
  refine lv_iconst (v := 0) (pc := 35) hx hb dX4_undo_35 (by decide) ?_
  refine z_runS (pc := 36) (As := [.ref (a 2), .int (nI (104 * n)), .ref (a 1), .int 0]) (rest := []) (ws1 := wM ca a (upd f 2 (nI n)) (va_cpy hi (enc h c) (104 * n) 0 104) hi sn be tx ti) ⟨hx, hb, hml, hown, hts⟩ (k_X4_copy l G ca (a 2) (a 1) 416 104 (104 * n) 0 hi (enc h c) (by omega) (by omega) (by decide) (by decide)) (cwS 4 hts (zgoodS zsub wq_6_19 wq_6_20 wq_1_5 wq_6_21) rfl rfl rfl hdV_X4_copy ⟨Nat.le_of_ble_eq_true rfl, Nat.le_of_ble_eq_true rfl⟩) hz (List.filterMap (fun q9 => (mm ca a (upd f 2 (nI n)) h c hi sn be tx ti)[q9]?) [0, 3, 4, 5, 6]) (z_pick [2, 1, 0, 3, 4, 5, 6] rfl rfl) (z_pick (ws := wM ca a (upd f 2 (nI n)) (va_cpy hi (enc h c) (104 * n) 0 104) hi sn be tx ti) [2, 1, 0, 3, 4, 5, 6] rfl rfl).symm rfl hl.1 (Nat.le_of_ble_eq_true rfl) (st1 := []) rfl dX4_undo_36 ⟨Nat.zero_le _, Nat.zero_le _⟩ (fun H locs hz => ?_)
  have hz := (hz.cell (g := enc h1 c1) 1 rfl (fun j hj => (cpy_at hj).trans (hh j hj))).as (show _ = mm ca a (upd f 2 (nI n)) h1 c1 hi sn be tx ti from rfl)
  refine lv_aload_n (pc := 39) hx hb dX4_undo_39 rfl (lv_at hl 0 rfl) ?_
  refine z_get (own := RX4) (ref := "CupFountainModel") (C := RX4) (T := TX4) (N := 17) (ci := 4) (v := .int (nI n)) (pc := 40) hx hb hts hinX4 hown hz 0 rfl rfl 2 (by decide) L42 rfl rfl dX4_undo_40 ?_
  exact z_iret (pc := 43) hx hb hr hlk hQ hz dX4_undo_43 (by rfl) (by rfl)

set_option maxHeartbeats 4000000 in
set_option maxRecDepth 100000 in
theorem k_X4_undo_a (l : Launch) (G : va_G) (ca : Nat → ClassId) (a : Nat → Nat) (f h : Nat → Int32) (c : Nat → Nat → Int32) (hi sn be tx ti : Nat → Int32) (hf2 : f 2 = 0) : Zc l G ca yX4_undo (zws yX4_undo cX4_undo 1 (some .int)) rm_X4_undo [.ref (a 0)] (mm ca a f h c hi sn be tx ti) (some (.int (-5))) (mm ca a f h c hi sn be tx ti) := by
  refine Zc.of (cc := cX4_undo) (maxL := 1) (ret := (some .int)) (by decide) rfl (Nat.le_of_ble_eq_true rfl) ?_
  intro pg ev s0 mt below meth cd A args Q ls hx hb hr hml hown hts hlk hQ hl hz
  have L42 : (Cond.fieldLink RX4 42 "CupFountainModel" "kept" "I").before args s0 = true := hts _ (zsub _ wq_7_23)
  have hinX4 : ∀ w ∈ wsX40, w ∈ zws yX4_undo cX4_undo 1 (some .int) := fun w h => zsub w (wl_wsX40 w h)
  have hl : lv_has ls 1 [(0, .ref (a 0))] := hl
  refine lv_aload_n (pc := 0) hx hb dX4_undo_0 rfl (lv_at hl 0 rfl) ?_
  refine z_get (own := RX4) (ref := "CupFountainModel") (C := RX4) (T := TX4) (N := 17) (ci := 4) (v := .int (f 2)) (pc := 1) hx hb hts hinX4 hown hz 0 rfl rfl 2 (by decide) L42 rfl rfl dX4_undo_1 ?_
  refine lv_if_ne (pc := 4) (tgt := 10) hx hb dX4_undo_4 (by decide) (fun c9 => absurd hf2 c9) (fun c_4 => ?_)
  refine lv_bipush (v := -5) (pc := 7) hx hb dX4_undo_7 (by decide) ?_
  exact z_iret (pc := 9) hx hb hr hlk hQ hz dX4_undo_9 (by rfl) (by rfl)

def rm_X4_keep : Room := { frames := 1, cells := 0, slots := 0, locals := 24 }
set_option maxRecDepth 20000 in
theorem hdV_X4_keep : yX4_keep.cls = RX4 ∧ yX4_keep.cls ≠ "java/lang/invoke/MethodHandle" ∧ yX4_keep.cls ≠ "java/lang/invoke/VarHandle" ∧ (parseMethodDescriptor yX4_keep.desc).map (fun d => d.parameters.length) = some 0 := by decide +kernel
set_option maxHeartbeats 4000000 in
set_option maxRecDepth 100000 in
theorem k_X4_keep (l : Launch) (G : va_G) (ca : Nat → ClassId) (a : Nat → Nat) (f h : Nat → Int32) (c : Nat → Nat → Int32) (hi sn be tx ti : Nat → Int32) : Zc l G ca yX4_keep (zws yX4_keep cX4_keep 1 (some .int)) rm_X4_keep [.ref (a 0)] (mm ca a f h c hi sn be tx ti) (some (.int (h 0))) (mm ca a (upd f 4 1) h c hi (enc h c) be tx ti) := by
  refine Zc.of (cc := cX4_keep) (maxL := 1) (ret := (some .int)) (by decide) rfl (Nat.le_of_ble_eq_true rfl) ?_
  intro pg ev s0 mt below meth cd A args Q ls hx hb hr hml hown hts hlk hQ hl hz
  have L16 : (Cond.fieldLink RX4 16 "CupFountainModel" "snapshot" "[I").before args s0 = true := hts _ (zsub _ wq_4_7)
  have L165 : (Cond.fieldLink RX4 165 "CupFountainModel" "isTaken" "Z").before args s0 = true := hts _ (zsub _ wq_21_8)
  have L7 : (Cond.fieldLink RX4 7 "CupFountainModel" "s" "[I").before args s0 = true := hts _ (zsub _ wq_4_5)
  have hinX4 : ∀ w ∈ wsX40, w ∈ zws yX4_keep cX4_keep 1 (some .int) := fun w h => zsub w (wl_wsX40 w h)
  have hl : lv_has ls 1 [(0, .ref (a 0))] := hl
  refine lv_aload_n (pc := 0) hx hb dX4_keep_0 rfl (lv_at hl 0 rfl) ?_
  refine z_get (own := RX4) (ref := "CupFountainModel") (C := RX4) (T := TX4) (N := 17) (ci := 4) (v := .ref (a 1)) (pc := 1) hx hb hts hinX4 hown hz 0 rfl rfl 0 (by decide) L7 rfl rfl dX4_keep_1 ?_
  refine lv_iconst (v := 0) (pc := 4) hx hb dX4_keep_4 (by decide) ?_
  refine lv_aload_n (pc := 5) hx hb dX4_keep_5 rfl (lv_at hl 0 rfl) ?_
  refine z_get (own := RX4) (ref := "CupFountainModel") (C := RX4) (T := TX4) (N := 17) (ci := 4) (v := .ref (a 3)) (pc := 6) hx hb hts hinX4 hown hz 0 rfl rfl 3 (by decide) L16 rfl rfl dX4_keep_6 ?_
  refine lv_iconst (v := 0) (pc := 9) hx hb dX4_keep_9 (by decide) ?_
  refine z_runS (pc := 10) (As := [.ref (a 1), .int 0, .ref (a 3), .int 0]) (rest := []) (ws1 := mm ca a f h c hi (va_cpy (enc h c) sn 0 0 104) be tx ti) ⟨hx, hb, hml, hown, hts⟩ (k_X4_copy l G ca (a 1) (a 3) 104 104 0 0 (enc h c) sn (by omega) (by omega) (by decide) (by decide)) (cwS 4 hts (zgoodS zsub wq_6_19 wq_6_20 wq_1_5 wq_6_21) rfl rfl rfl hdV_X4_copy ⟨Nat.le_of_ble_eq_true rfl, Nat.le_of_ble_eq_true rfl⟩) hz (List.filterMap (fun q9 => (mm ca a f h c hi sn be tx ti)[q9]?) [0, 2, 4, 5, 6]) (z_pick [1, 3, 0, 2, 4, 5, 6] rfl rfl) (z_pick (ws := mm ca a f h c hi (va_cpy (enc h c) sn 0 0 104) be tx ti) [1, 3, 0, 2, 4, 5, 6] rfl rfl).symm rfl hl.1 (Nat.le_of_ble_eq_true rfl) (st1 := []) rfl dX4_keep_10 ⟨Nat.zero_le _, Nat.zero_le _⟩ (fun H locs hz => ?_)
  have hz := (hz.cell (g := (enc h c)) 3 rfl (fun j hj => cpy_at0 hj)).as (show _ = mm ca a f h c hi (enc h c) be tx ti from rfl)
  refine lv_aload_n (pc := 13) hx hb dX4_keep_13 rfl (lv_at hl 0 rfl) ?_
  refine lv_iconst (v := 1) (pc := 14) hx hb dX4_keep_14 (by decide) ?_
  refine z_put (own := RX4) (ref := "CupFountainModel") (C := RX4) (T := TX4) (N := 17) (ci := 4) (v := .int 1) (ws1 := mm ca a (upd f 4 1) h c hi (enc h c) be tx ti) (pc := 15) hx hb hts hinX4 tyX4 tyX4_ok nmX4 hown hz 0 rfl rfl 4 (by decide) L165 rfl rfl rfl rfl (Nat.le_of_ble_eq_true rfl) rfl dX4_keep_15 (fun H locs hz => ?_)
  refine lv_aload_n (pc := 18) hx hb dX4_keep_18 rfl (lv_at hl 0 rfl) ?_
  refine z_get (own := RX4) (ref := "CupFountainModel") (C := RX4) (T := TX4) (N := 17) (ci := 4) (v := .ref (a 1)) (pc := 19) hx hb hts hinX4 hown hz 0 rfl rfl 0 (by decide) L7 rfl rfl dX4_keep_19 ?_
  refine lv_iconst (v := 0) (pc := 22) hx hb dX4_keep_22 (by decide) ?_
  refine z_iald (x := h 0) (pc := 23) hx hb hz 1 rfl 0 rfl (by decide) (by decide) (enc_h (by decide)) dX4_keep_23 ?_
  exact z_iret (pc := 24) hx hb hr hlk hQ hz dX4_keep_24 (by rfl) (by rfl)

def rm_X4_restore : Room := { frames := 2, cells := 0, slots := 0, locals := 46 }
set_option maxRecDepth 20000 in
theorem hdV_X4_restore : yX4_restore.cls = RX4 ∧ yX4_restore.cls ≠ "java/lang/invoke/MethodHandle" ∧ yX4_restore.cls ≠ "java/lang/invoke/VarHandle" ∧ (parseMethodDescriptor yX4_restore.desc).map (fun d => d.parameters.length) = some 0 := by decide +kernel
set_option maxHeartbeats 4000000 in
set_option maxRecDepth 100000 in
theorem k_X4_restore_b (l : Launch) (G : va_G) (ca : Nat → ClassId) (a : Nat → Nat) (f h : Nat → Int32) (c : Nat → Nat → Int32) (hi sn be tx ti : Nat → Int32) (h1 : Nat → Int32) (c1 : Nat → Nat → Int32) (kp : Nat) (hkp : kp ≤ 4) (hf2 : f 2 = nI kp) (hf4 : f 4 = 1) (hh : ∀ j, j < 104 → sn j = enc h1 c1 j) : Zc l G ca yX4_restore (zws yX4_restore cX4_restore 1 (some .int)) rm_X4_restore [.ref (a 0)] (mm ca a f h c hi sn be tx ti) (some (.int (h1 0))) (mm ca a (upd f 2 (nI (recK kp))) h1 c1 (recHi hi (enc h c) kp) sn be tx ti) := by
  refine Zc.of (cc := cX4_restore) (maxL := 1) (ret := (some .int)) (by decide) rfl (Nat.le_of_ble_eq_true rfl) ?_
  intro pg ev s0 mt below meth cd A args Q ls hx hb hr hml hown hts hlk hQ hl hz
  have L16 : (Cond.fieldLink RX4 16 "CupFountainModel" "snapshot" "[I").before args s0 = true := hts _ (zsub _ wq_4_7)
  have L165 : (Cond.fieldLink RX4 165 "CupFountainModel" "isTaken" "Z").before args s0 = true := hts _ (zsub _ wq_21_8)
  have L7 : (Cond.fieldLink RX4 7 "CupFountainModel" "s" "[I").before args s0 = true := hts _ (zsub _ wq_4_5)
  have hinX4 : ∀ w ∈ wsX40, w ∈ zws yX4_restore cX4_restore 1 (some .int) := fun w h => zsub w (wl_wsX40 w h)
  have hl : lv_has ls 1 [(0, .ref (a 0))] := hl
  refine lv_aload_n (pc := 0) hx hb dX4_restore_0 rfl (lv_at hl 0 rfl) ?_
  refine z_get (own := RX4) (ref := "CupFountainModel") (C := RX4) (T := TX4) (N := 17) (ci := 4) (v := .int (f 4)) (pc := 1) hx hb hts hinX4 hown hz 0 rfl rfl 4 (by decide) L165 rfl rfl dX4_restore_1 ?_
  refine lv_if_ne (pc := 4) (tgt := 10) hx hb dX4_restore_4 (by decide) (fun c_4 => ?_) (fun c9 => absurd c9 (by rw [hf4]; decide))
  refine lv_aload_n (pc := 10) hx hb dX4_restore_10 rfl (lv_at hl 0 rfl) ?_
  refine lv_aload_n (pc := 11) hx hb dX4_restore_11 rfl (lv_at hl 0 rfl) ?_
  refine z_get (own := RX4) (ref := "CupFountainModel") (C := RX4) (T := TX4) (N := 17) (ci := 4) (v := .ref (a 1)) (pc := 12) hx hb hts hinX4 hown hz 0 rfl rfl 0 (by decide) L7 rfl rfl dX4_restore_12 ?_
  refine z_runV (pc := 15) (As := [.ref (a 1)]) (rest := []) (ws1 := mm ca a (upd f 2 (nI (recK kp))) h c (recHi hi (enc h c) kp) sn be tx ti) ⟨hx, hb, hml, hown, hts⟩ (k_X4_recordFrom_s l G ca a f h c hi sn be tx ti kp hkp hf2) (cwV 1 hts (zgoodV zsub wq_7_19 wq_7_20 wq_7_21 wq_1_5 wq_7_22) rfl rfl rfl hdV_X4_recordFrom ⟨Nat.le_of_ble_eq_true rfl, Nat.le_of_ble_eq_true rfl⟩) hz [] zp_all zp_all' rfl rfl rfl hl.1 (Nat.le_of_ble_eq_true rfl) (st1 := []) rfl dX4_restore_15 ⟨Nat.zero_le _, Nat.zero_le _⟩ (fun H locs hz => ?_)
  refine lv_aload_n (pc := 18) hx hb dX4_restore_18 rfl (lv_at hl 0 rfl) ?_
  refine z_get (own := RX4) (ref := "CupFountainModel") (C := RX4) (T := TX4) (N := 17) (ci := 4) (v := .ref (a 3)) (pc := 19) hx hb hts hinX4 hown hz 0 rfl rfl 3 (by decide) L16 rfl rfl dX4_restore_19 ?_
  refine lv_iconst (v := 0) (pc := 22) hx hb dX4_restore_22 (by decide) ?_
  refine lv_aload_n (pc := 23) hx hb dX4_restore_23 rfl (lv_at hl 0 rfl) ?_
  refine z_get (own := RX4) (ref := "CupFountainModel") (C := RX4) (T := TX4) (N := 17) (ci := 4) (v := .ref (a 1)) (pc := 24) hx hb hts hinX4 hown hz 0 rfl rfl 0 (by decide) L7 rfl rfl dX4_restore_24 ?_
  refine lv_iconst (v := 0) (pc := 27) hx hb dX4_restore_27 (by decide) ?_
  refine z_runS (pc := 28) (As := [.ref (a 3), .int 0, .ref (a 1), .int 0]) (rest := []) (ws1 := wM ca a (upd f 2 (nI (recK kp))) (va_cpy sn (enc h c) 0 0 104) (recHi hi (enc h c) kp) sn be tx ti) ⟨hx, hb, hml, hown, hts⟩ (k_X4_copy l G ca (a 3) (a 1) 104 104 0 0 sn (enc h c) (by omega) (by omega) (by decide) (by decide)) (cwS 4 hts (zgoodS zsub wq_6_19 wq_6_20 wq_1_5 wq_6_21) rfl rfl rfl hdV_X4_copy ⟨Nat.le_of_ble_eq_true rfl, Nat.le_of_ble_eq_true rfl⟩) hz (List.filterMap (fun q9 => (mm ca a (upd f 2 (nI (recK kp))) h c (recHi hi (enc h c) kp) sn be tx ti)[q9]?) [0, 2, 4, 5, 6]) (z_pick [3, 1, 0, 2, 4, 5, 6] rfl rfl) (z_pick (ws := wM ca a (upd f 2 (nI (recK kp))) (va_cpy sn (enc h c) 0 0 104) (recHi hi (enc h c) kp) sn be tx ti) [3, 1, 0, 2, 4, 5, 6] rfl rfl).symm rfl hl.1 (Nat.le_of_ble_eq_true rfl) (st1 := []) rfl dX4_restore_28 ⟨Nat.zero_le _, Nat.zero_le _⟩ (fun H locs hz => ?_)
  have hz := (hz.cell (g := enc h1 c1) 1 rfl (fun j hj => (cpy_at0 hj).trans (hh j hj))).as (show _ = mm ca a (upd f 2 (nI (recK kp))) h1 c1 (recHi hi (enc h c) kp) sn be tx ti from rfl)
  refine lv_aload_n (pc := 31) hx hb dX4_restore_31 rfl (lv_at hl 0 rfl) ?_
  refine z_get (own := RX4) (ref := "CupFountainModel") (C := RX4) (T := TX4) (N := 17) (ci := 4) (v := .ref (a 1)) (pc := 32) hx hb hts hinX4 hown hz 0 rfl rfl 0 (by decide) L7 rfl rfl dX4_restore_32 ?_
  refine lv_iconst (v := 0) (pc := 35) hx hb dX4_restore_35 (by decide) ?_
  refine z_iald (x := h1 0) (pc := 36) hx hb hz 1 rfl 0 rfl (by decide) (by decide) (enc_h (by decide)) dX4_restore_36 ?_
  exact z_iret (pc := 37) hx hb hr hlk hQ hz dX4_restore_37 (by rfl) (by rfl)

set_option maxHeartbeats 4000000 in
set_option maxRecDepth 100000 in
theorem k_X4_restore_a (l : Launch) (G : va_G) (ca : Nat → ClassId) (a : Nat → Nat) (f h : Nat → Int32) (c : Nat → Nat → Int32) (hi sn be tx ti : Nat → Int32) (hf4 : f 4 = 0) : Zc l G ca yX4_restore (zws yX4_restore cX4_restore 1 (some .int)) rm_X4_restore [.ref (a 0)] (mm ca a f h c hi sn be tx ti) (some (.int (-5))) (mm ca a f h c hi sn be tx ti) := by
  refine Zc.of (cc := cX4_restore) (maxL := 1) (ret := (some .int)) (by decide) rfl (Nat.le_of_ble_eq_true rfl) ?_
  intro pg ev s0 mt below meth cd A args Q ls hx hb hr hml hown hts hlk hQ hl hz
  have L165 : (Cond.fieldLink RX4 165 "CupFountainModel" "isTaken" "Z").before args s0 = true := hts _ (zsub _ wq_21_8)
  have hinX4 : ∀ w ∈ wsX40, w ∈ zws yX4_restore cX4_restore 1 (some .int) := fun w h => zsub w (wl_wsX40 w h)
  have hl : lv_has ls 1 [(0, .ref (a 0))] := hl
  refine lv_aload_n (pc := 0) hx hb dX4_restore_0 rfl (lv_at hl 0 rfl) ?_
  refine z_get (own := RX4) (ref := "CupFountainModel") (C := RX4) (T := TX4) (N := 17) (ci := 4) (v := .int (f 4)) (pc := 1) hx hb hts hinX4 hown hz 0 rfl rfl 4 (by decide) L165 rfl rfl dX4_restore_1 ?_
  refine lv_if_ne (pc := 4) (tgt := 10) hx hb dX4_restore_4 (by decide) (fun c9 => absurd hf4 c9) (fun c_4 => ?_)
  refine lv_bipush (v := -5) (pc := 7) hx hb dX4_restore_7 (by decide) ?_
  exact z_iret (pc := 9) hx hb hr hlk hQ hz dX4_restore_9 (by rfl) (by rfl)

def rm_X4_cup : Room := { frames := 2, cells := 0, slots := 0, locals := 42 }
set_option maxRecDepth 20000 in
theorem hdV_X4_cup : yX4_cup.cls = RX4 ∧ yX4_cup.cls ≠ "java/lang/invoke/MethodHandle" ∧ yX4_cup.cls ≠ "java/lang/invoke/VarHandle" ∧ (parseMethodDescriptor yX4_cup.desc).map (fun d => d.parameters.length) = some 2 := by decide +kernel
set_option maxHeartbeats 4000000 in
set_option maxRecDepth 100000 in
theorem k_X4_cup (l : Launch) (G : va_G) (ca : Nat → ClassId) (a : Nat → Nat) (f h : Nat → Int32) (c : Nat → Nat → Int32) (hi sn be tx ti : Nat → Int32) (cup what : Int32) : Zc l G ca yX4_cup (zws yX4_cup cX4_cup 3 (some .int)) rm_X4_cup [.ref (a 0), .int cup, .int what] (mm ca a f h c hi sn be tx ti) (some (.int (cupR c cup what))) (mm ca a f h c hi sn be tx ti) := by
  refine Zc.of (cc := cX4_cup) (maxL := 3) (ret := (some .int)) (by decide) rfl (Nat.le_of_ble_eq_true rfl) ?_
  intro pg ev s0 mt below meth cd A args Q ls hx hb hr hml hown hts hlk hQ hl hz
  have hl : lv_has ls 3 [(0, .ref (a 0)), (1, .int cup), (2, .int what)] := hl
  refine lv_iload_n (pc := 0) hx hb dX4_cup_0 rfl (lv_at hl 1 rfl) ?_
  refine z_runS (pc := 1) (As := [.int cup]) (rest := []) (ws1 := mm ca a f h c hi sn be tx ti) ⟨hx, hb, hml, hown, hts⟩ (k_X4_isCup l G ca cup) (cwS 1 hts (zgoodS zsub wq_7_2 wq_7_3 wq_1_5 wq_7_4) rfl rfl rfl hdV_X4_isCup ⟨Nat.le_of_ble_eq_true rfl, Nat.le_of_ble_eq_true rfl⟩) hz (mm ca a f h c hi sn be tx ti) zp_no (List.Perm.refl _) rfl hl.1 (Nat.le_of_ble_eq_true rfl) (st1 := [.int (inF cup 0 7)]) rfl dX4_cup_1 ⟨Nat.zero_le _, Nat.zero_le _⟩ (fun H locs hz => ?_)
  refine lv_if_ne (pc := 4) (tgt := 9) hx hb dX4_cup_4 (by decide) (fun c_4 => ?_) (fun c_4 => ?_)
  · obtain ⟨k, hk, rfl⟩ := isCup_pos c_4
    have hnk : nn (nI k) = k := nn_nI (by omega)
    refine lv_iload_n (pc := 9) hx hb dX4_cup_9 rfl (lv_at hl 2 rfl) ?_
    refine lv_iconst (v := 0) (pc := 10) hx hb dX4_cup_10 (by decide) ?_
    refine lv_bipush (v := 11) (pc := 11) hx hb dX4_cup_11 (by decide) ?_
    refine z_runS (pc := 13) (As := [.int what, .int 0, .int 11]) (rest := []) (ws1 := mm ca a f h c hi sn be tx ti) ⟨hx, hb, hml, hown, hts⟩ (k_X4_in l G ca what 0 11) (cwS 3 hts (zgoodS zsub wq_7_5 wq_7_6 wq_1_5 wq_7_7) rfl rfl rfl hdV_X4_in ⟨Nat.le_of_ble_eq_true rfl, Nat.le_of_ble_eq_true rfl⟩) hz (mm ca a f h c hi sn be tx ti) zp_no (List.Perm.refl _) rfl hl.1 (Nat.le_of_ble_eq_true rfl) (st1 := [.int (inF what 0 11)]) rfl dX4_cup_13 ⟨Nat.zero_le _, Nat.zero_le _⟩ (fun H locs hz => ?_)
    refine lv_if_ne (pc := 16) (tgt := 22) hx hb dX4_cup_16 (by decide) (fun c_16 => ?_) (fun c_16 => ?_)
    · obtain ⟨j, hj, rfl⟩ := i32_nI (n := 11) (Or.inl rfl) rfl (by decide) (inF_ne c_16)
      have hnw : nn (nI j) = j := nn_nI (by omega)
      have hj12 : j < 12 := by omega
      refine lv_iload_n (pc := 22) hx hb dX4_cup_22 rfl (lv_at hl 2 rfl) ?_
      refine lv_iconst (v := 4) (pc := 23) hx hb dX4_cup_23 (by decide) ?_
      refine lv_icmp_ne (pc := 24) (tgt := 42) hx hb dX4_cup_24 (by decide) (fun c_24 => ?_) (fun c_24 => ?_)
      · refine lv_aload_n (pc := 42) hx hb dX4_cup_42 rfl (lv_at hl 0 rfl) ?_
        refine lv_iload_n (pc := 43) hx hb dX4_cup_43 rfl (lv_at hl 1 rfl) ?_
        refine lv_iload_n (pc := 44) hx hb dX4_cup_44 rfl (lv_at hl 2 rfl) ?_
        refine z_runV (pc := 45) (As := [.int (nI k), .int (nI j)]) (rest := []) (ws1 := mm ca a f h c hi sn be tx ti) ⟨hx, hb, hml, hown, hts⟩ (k_X4_of l G ca a f h c hi sn be tx ti k j (by assumption) (by assumption)) (cwV 2 hts (zgoodV zsub wq_7_11 wq_7_12 wq_7_13 wq_1_5 wq_7_14) rfl rfl rfl hdV_X4_of ⟨Nat.le_of_ble_eq_true rfl, Nat.le_of_ble_eq_true rfl⟩) hz [] zp_all zp_all' rfl rfl rfl hl.1 (Nat.le_of_ble_eq_true rfl) (st1 := [.int (c k j)]) rfl dX4_cup_45 ⟨Nat.zero_le _, Nat.zero_le _⟩ (fun H locs hz => ?_)
        exact z_iret (pc := 48) hx hb hr hlk hQ hz dX4_cup_48 (by simp only [cupR, if_neg c_4, if_neg c_16, if_neg c_24, hnk, hnw]) (by rfl)
      · refine lv_aload_n (pc := 27) hx hb dX4_cup_27 rfl (lv_at hl 0 rfl) ?_
        refine lv_iload_n (pc := 28) hx hb dX4_cup_28 rfl (lv_at hl 1 rfl) ?_
        refine lv_iconst (v := 4) (pc := 29) hx hb dX4_cup_29 (by decide) ?_
        refine z_runV (pc := 30) (As := [.int (nI k), .int 4]) (rest := []) (ws1 := mm ca a f h c hi sn be tx ti) ⟨hx, hb, hml, hown, hts⟩ (k_X4_of l G ca a f h c hi sn be tx ti k 4 (by assumption) (by decide)) (cwV 2 hts (zgoodV zsub wq_7_11 wq_7_12 wq_7_13 wq_1_5 wq_7_14) rfl rfl rfl hdV_X4_of ⟨Nat.le_of_ble_eq_true rfl, Nat.le_of_ble_eq_true rfl⟩) hz [] zp_all zp_all' rfl rfl rfl hl.1 (Nat.le_of_ble_eq_true rfl) (st1 := [.int (c k 4)]) rfl dX4_cup_30 ⟨Nat.zero_le _, Nat.zero_le _⟩ (fun H locs hz => ?_)
        refine lv_iconst (v := -1) (pc := 33) hx hb dX4_cup_33 (by decide) ?_
        refine lv_icmp_ne (pc := 34) (tgt := 42) hx hb dX4_cup_34 (by decide) (fun c_34 => ?_) (fun c_34 => ?_)
        · refine lv_aload_n (pc := 42) hx hb dX4_cup_42 rfl (lv_at hl 0 rfl) ?_
          refine lv_iload_n (pc := 43) hx hb dX4_cup_43 rfl (lv_at hl 1 rfl) ?_
          refine lv_iload_n (pc := 44) hx hb dX4_cup_44 rfl (lv_at hl 2 rfl) ?_
          refine z_runV (pc := 45) (As := [.int (nI k), .int (nI j)]) (rest := []) (ws1 := mm ca a f h c hi sn be tx ti) ⟨hx, hb, hml, hown, hts⟩ (k_X4_of l G ca a f h c hi sn be tx ti k j (by assumption) (by assumption)) (cwV 2 hts (zgoodV zsub wq_7_11 wq_7_12 wq_7_13 wq_1_5 wq_7_14) rfl rfl rfl hdV_X4_of ⟨Nat.le_of_ble_eq_true rfl, Nat.le_of_ble_eq_true rfl⟩) hz [] zp_all zp_all' rfl rfl rfl hl.1 (Nat.le_of_ble_eq_true rfl) (st1 := [.int (c k j)]) rfl dX4_cup_45 ⟨Nat.zero_le _, Nat.zero_le _⟩ (fun H locs hz => ?_)
          exact z_iret (pc := 48) hx hb hr hlk hQ hz dX4_cup_48 (by simp only [cupR, if_neg c_4, if_neg c_16, if_pos c_24, if_neg c_34, hnk, hnw]) (by rfl)
        · refine lv_bipush (v := -5) (pc := 37) hx hb dX4_cup_37 (by decide) ?_
          refine lv_goto (tgt := 48) (pc := 39) hx hb dX4_cup_39 (by decide) ?_
          exact z_iret (pc := 48) hx hb hr hlk hQ hz dX4_cup_48 (by simp only [cupR, if_neg c_4, if_neg c_16, if_pos c_24, if_pos c_34, hnk, hnw]) (by rfl)
    · refine lv_bipush (v := -2) (pc := 19) hx hb dX4_cup_19 (by decide) ?_
      exact z_iret (pc := 21) hx hb hr hlk hQ hz dX4_cup_21 (by simp only [cupR, if_neg c_4, if_pos c_16, hnk]) (by rfl)
  · refine lv_iconst (v := -1) (pc := 7) hx hb dX4_cup_7 (by decide) ?_
    exact z_iret (pc := 8) hx hb hr hlk hQ hz dX4_cup_8 (by simp only [cupR, if_pos c_4]) (by rfl)

def rm_X4_untilTip : Room := { frames := 4, cells := 0, slots := 0, locals := 96 }
set_option maxRecDepth 20000 in
theorem hdV_X4_untilTip : yX4_untilTip.cls = RX4 ∧ yX4_untilTip.cls ≠ "java/lang/invoke/MethodHandle" ∧ yX4_untilTip.cls ≠ "java/lang/invoke/VarHandle" ∧ (parseMethodDescriptor yX4_untilTip.desc).map (fun d => d.parameters.length) = some 2 := by decide +kernel
set_option maxHeartbeats 4000000 in
set_option maxRecDepth 100000 in
theorem k_X4_untilTip (l : Launch) (G : va_G) (ca : Nat → ClassId) (a : Nat → Nat) (f h : Nat → Int32) (c : Nat → Nat → Int32) (hi sn be tx ti : Nat → Int32) (k M : Nat) (hk8 : k < 8) (hM : M < 1000) (hok : okP (h, c)) : Zc l G ca yX4_untilTip (zws yX4_untilTip cX4_untilTip 5 (some .int)) rm_X4_untilTip [.ref (a 0), .int (nI k), .int (nI M)] (mm ca a f h c hi sn be tx ti) (some (.int (utF (h, c) k M 0))) (mm ca a f h c hi sn (enc h c) tx (tkT (h, c) ti (utN (h, c) k M 0))) := by
  refine Zc.of (cc := cX4_untilTip) (maxL := 5) (ret := (some .int)) (by decide) rfl (Nat.le_of_ble_eq_true rfl) ?_
  intro pg ev s0 mt below meth cd A args Q ls hx hb hr hml hown hts hlk hQ hl hz
  have L19 : (Cond.fieldLink RX4 19 "CupFountainModel" "before" "[I").before args s0 = true := hts _ (zsub _ wq_4_8)
  have L30 : (Cond.fieldLink RX4 30 "CupFountainModel" "tipped" "[Z").before args s0 = true := hts _ (zsub _ wq_4_12)
  have L7 : (Cond.fieldLink RX4 7 "CupFountainModel" "s" "[I").before args s0 = true := hts _ (zsub _ wq_4_5)
  have hinX4 : ∀ w ∈ wsX40, w ∈ zws yX4_untilTip cX4_untilTip 5 (some .int) := fun w h => zsub w (wl_wsX40 w h)
  have hl : lv_has ls 5 [(0, .ref (a 0)), (1, .int (nI k)), (2, .int (nI M))] := hl
  refine lv_aload_n (pc := 0) hx hb dX4_untilTip_0 rfl (lv_at hl 0 rfl) ?_
  refine z_runV (pc := 1) (As := []) (rest := []) (ws1 := mm ca a f h c hi sn (enc h c) tx ti) ⟨hx, hb, hml, hown, hts⟩ (k_X4_begin l G ca a f h c hi sn be tx ti) (cwV 0 hts (zgoodV zsub wq_6_15 wq_6_16 wq_6_17 wq_1_5 wq_6_18) rfl rfl rfl hdV_X4_begin ⟨Nat.le_of_ble_eq_true rfl, Nat.le_of_ble_eq_true rfl⟩) hz [] zp_all zp_all' rfl rfl rfl hl.1 (Nat.le_of_ble_eq_true rfl) (st1 := []) rfl dX4_untilTip_1 ⟨Nat.zero_le _, Nat.zero_le _⟩ (fun H locs hz => ?_)
  refine lv_iconst (v := 0) (pc := 4) hx hb dX4_untilTip_4 (by decide) ?_
  refine lv_istore_n (lv' := [(3, .int 0), (0, .ref (a 0)), (1, .int (nI k)), (2, .int (nI M))]) (pc := 5) hx hb dX4_untilTip_5 rfl hl (by decide) rfl (fun ls hl => ?_)
  refine lv_iconst (v := 0) (pc := 6) hx hb dX4_untilTip_6 (by decide) ?_
  refine lv_istore (lv' := [(4, .int 0), (3, .int 0), (0, .ref (a 0)), (1, .int (nI k)), (2, .int (nI M))]) (pc := 7) hx hb dX4_untilTip_7 hl (by decide) rfl (fun ls hl => ?_)
  have loop1 : ∀ cnt i : Nat, i + cnt = M → ∀ (H : Heap) (locs : List Loc) (ls : Array Slot), zw G ca A s0.heap s0 (mm ca a f ((tkN (h, c) i).1) ((tkN (h, c) i).2) hi sn (enc h c) tx (tkT (h, c) ti i)) H locs → lv_has ls 5 [(4, .int (isF (h, c) k i)), (3, .int (nI i)), (0, .ref (a 0)), (1, .int (nI k)), (2, .int (nI M))] → (∀ j, j + 1 < i → tg (h, c) k j = 0) → W pg l ev rm_X4_untilTip s0 mt args below meth cd H locs 0 0 Q (F0 mt 9 ls []) := by
    intro cnt
    induction cnt with
    | zero =>
      intro i hk9 H locs ls hz hl hno
      obtain rfl : M = i := by omega
      refine lv_iload_n (pc := 9) hx hb dX4_untilTip_9 rfl (lv_at hl 1 rfl) ?_
      refine lv_iload_n (pc := 10) hx hb dX4_untilTip_10 rfl (lv_at hl 4 rfl) ?_
      refine lv_icmp_ge (pc := 11) (tgt := 37) hx hb dX4_untilTip_11 (by decide) (fun c_11 => ?_) (fun c9 => absurd (nI_le (Nat.le_refl _) (by omega)) c9)
      refine lv_aload_n (pc := 37) hx hb dX4_untilTip_37 rfl (lv_at hl 2 rfl) ?_
      refine z_get (own := RX4) (ref := "CupFountainModel") (C := RX4) (T := TX4) (N := 17) (ci := 4) (v := .ref (a 4)) (pc := 38) hx hb hts hinX4 hown hz 0 rfl rfl 5 (by decide) L19 rfl rfl dX4_untilTip_38 ?_
      refine lv_iconst (v := 0) (pc := 41) hx hb dX4_untilTip_41 (by decide) ?_
      refine lv_aload_n (pc := 42) hx hb dX4_untilTip_42 rfl (lv_at hl 2 rfl) ?_
      refine z_get (own := RX4) (ref := "CupFountainModel") (C := RX4) (T := TX4) (N := 17) (ci := 4) (v := .ref (a 1)) (pc := 43) hx hb hts hinX4 hown hz 0 rfl rfl 0 (by decide) L7 rfl rfl dX4_untilTip_43 ?_
      refine lv_iconst (v := 0) (pc := 46) hx hb dX4_untilTip_46 (by decide) ?_
      refine z_runS (pc := 47) (As := [.ref (a 4), .int 0, .ref (a 1), .int 0]) (rest := []) (ws1 := wM ca a f (va_cpy (enc h c) (enc ((tkN (h, c) M).1) ((tkN (h, c) M).2)) 0 0 104) hi sn (enc h c) tx (tkT (h, c) ti M)) ⟨hx, hb, hml, hown, hts⟩ (k_X4_copy l G ca (a 4) (a 1) 104 104 0 0 (enc h c) (enc ((tkN (h, c) M).1) ((tkN (h, c) M).2)) (by omega) (by omega) (by decide) (by decide)) (cwS 4 hts (zgoodS zsub wq_6_19 wq_6_20 wq_1_5 wq_6_21) rfl rfl rfl hdV_X4_copy ⟨Nat.le_of_ble_eq_true rfl, Nat.le_of_ble_eq_true rfl⟩) hz (List.filterMap (fun q9 => (mm ca a f ((tkN (h, c) M).1) ((tkN (h, c) M).2) hi sn (enc h c) tx (tkT (h, c) ti M))[q9]?) [0, 2, 3, 5, 6]) (z_pick [4, 1, 0, 2, 3, 5, 6] rfl rfl) (z_pick (ws := wM ca a f (va_cpy (enc h c) (enc ((tkN (h, c) M).1) ((tkN (h, c) M).2)) 0 0 104) hi sn (enc h c) tx (tkT (h, c) ti M)) [4, 1, 0, 2, 3, 5, 6] rfl rfl).symm rfl hl.1 (Nat.le_of_ble_eq_true rfl) (st1 := []) rfl dX4_untilTip_47 ⟨Nat.zero_le _, Nat.zero_le _⟩ (fun H locs hz => ?_)
      have hz := (hz.cell (g := enc h c) 1 rfl (fun j hj => cpy_at0 hj)).as (show _ = mm ca a f h c hi sn (enc h c) tx (tkT (h, c) ti M) from rfl)
      refine lv_iload (pc := 50) hx hb dX4_untilTip_50 (lv_at hl 0 rfl) ?_
      refine lv_if_eq (pc := 52) (tgt := 59) hx hb dX4_untilTip_52 (by decide) (fun c_52 => ?_) (fun c_52 => ?_)
      · refine lv_bipush (v := -5) (pc := 59) hx hb dX4_untilTip_59 (by decide) ?_
        exact z_iret (pc := 61) hx hb hr hlk hQ hz dX4_untilTip_61 (by rw [(ut_end0 hno c_52).1]) (by rw [(ut_end0 hno c_52).2])
      · refine lv_iload_n (pc := 55) hx hb dX4_untilTip_55 rfl (lv_at hl 1 rfl) ?_
        refine lv_goto (tgt := 61) (pc := 56) hx hb dX4_untilTip_56 (by decide) ?_
        exact z_iret (pc := 61) hx hb hr hlk hQ hz dX4_untilTip_61 (by rw [(ut_end1 (Nat.le_refl _) hno c_52).1]) (by rw [(ut_end1 (Nat.le_refl _) hno c_52).2])
    | succ cnt ih =>
      intro i hk9 H locs ls hz hl hno
      have hk : i < M := by omega
      refine lv_iload_n (pc := 9) hx hb dX4_untilTip_9 rfl (lv_at hl 1 rfl) ?_
      refine lv_iload_n (pc := 10) hx hb dX4_untilTip_10 rfl (lv_at hl 4 rfl) ?_
      refine lv_icmp_ge (pc := 11) (tgt := 37) hx hb dX4_untilTip_11 (by decide) (fun c9 => absurd c9 (nI_ge hk (by omega))) (fun c_11 => ?_)
      refine lv_iload (pc := 14) hx hb dX4_untilTip_14 (lv_at hl 0 rfl) ?_
      refine lv_if_ne (pc := 16) (tgt := 37) hx hb dX4_untilTip_16 (by decide) (fun c_16 => ?_) (fun c_16 => ?_)
      · refine lv_aload_n (pc := 37) hx hb dX4_untilTip_37 rfl (lv_at hl 2 rfl) ?_
        refine z_get (own := RX4) (ref := "CupFountainModel") (C := RX4) (T := TX4) (N := 17) (ci := 4) (v := .ref (a 4)) (pc := 38) hx hb hts hinX4 hown hz 0 rfl rfl 5 (by decide) L19 rfl rfl dX4_untilTip_38 ?_
        refine lv_iconst (v := 0) (pc := 41) hx hb dX4_untilTip_41 (by decide) ?_
        refine lv_aload_n (pc := 42) hx hb dX4_untilTip_42 rfl (lv_at hl 2 rfl) ?_
        refine z_get (own := RX4) (ref := "CupFountainModel") (C := RX4) (T := TX4) (N := 17) (ci := 4) (v := .ref (a 1)) (pc := 43) hx hb hts hinX4 hown hz 0 rfl rfl 0 (by decide) L7 rfl rfl dX4_untilTip_43 ?_
        refine lv_iconst (v := 0) (pc := 46) hx hb dX4_untilTip_46 (by decide) ?_
        refine z_runS (pc := 47) (As := [.ref (a 4), .int 0, .ref (a 1), .int 0]) (rest := []) (ws1 := wM ca a f (va_cpy (enc h c) (enc ((tkN (h, c) i).1) ((tkN (h, c) i).2)) 0 0 104) hi sn (enc h c) tx (tkT (h, c) ti i)) ⟨hx, hb, hml, hown, hts⟩ (k_X4_copy l G ca (a 4) (a 1) 104 104 0 0 (enc h c) (enc ((tkN (h, c) i).1) ((tkN (h, c) i).2)) (by omega) (by omega) (by decide) (by decide)) (cwS 4 hts (zgoodS zsub wq_6_19 wq_6_20 wq_1_5 wq_6_21) rfl rfl rfl hdV_X4_copy ⟨Nat.le_of_ble_eq_true rfl, Nat.le_of_ble_eq_true rfl⟩) hz (List.filterMap (fun q9 => (mm ca a f ((tkN (h, c) i).1) ((tkN (h, c) i).2) hi sn (enc h c) tx (tkT (h, c) ti i))[q9]?) [0, 2, 3, 5, 6]) (z_pick [4, 1, 0, 2, 3, 5, 6] rfl rfl) (z_pick (ws := wM ca a f (va_cpy (enc h c) (enc ((tkN (h, c) i).1) ((tkN (h, c) i).2)) 0 0 104) hi sn (enc h c) tx (tkT (h, c) ti i)) [4, 1, 0, 2, 3, 5, 6] rfl rfl).symm rfl hl.1 (Nat.le_of_ble_eq_true rfl) (st1 := []) rfl dX4_untilTip_47 ⟨Nat.zero_le _, Nat.zero_le _⟩ (fun H locs hz => ?_)
        have hz := (hz.cell (g := enc h c) 1 rfl (fun j hj => cpy_at0 hj)).as (show _ = mm ca a f h c hi sn (enc h c) tx (tkT (h, c) ti i) from rfl)
        refine lv_iload (pc := 50) hx hb dX4_untilTip_50 (lv_at hl 0 rfl) ?_
        refine lv_if_eq (pc := 52) (tgt := 59) hx hb dX4_untilTip_52 (by decide) (fun c9 => absurd c9 c_16) (fun c_52 => ?_)
        refine lv_iload_n (pc := 55) hx hb dX4_untilTip_55 rfl (lv_at hl 1 rfl) ?_
        refine lv_goto (tgt := 61) (pc := 56) hx hb dX4_untilTip_56 (by decide) ?_
        exact z_iret (pc := 61) hx hb hr hlk hQ hz dX4_untilTip_61 (by rw [(ut_end1 (by omega) hno c_16).1]) (by rw [(ut_end1 (by omega) hno c_16).2])
      · refine lv_aload_n (pc := 19) hx hb dX4_untilTip_19 rfl (lv_at hl 2 rfl) ?_
        refine z_runV (pc := 20) (As := []) (rest := []) (ws1 := mm ca a f ((tkN (h, c) (i + 1)).1) ((tkN (h, c) (i + 1)).2) hi sn (enc h c) tx (tkT (h, c) ti (i + 1))) ⟨hx, hb, hml, hown, hts⟩ (k_X4_tick l G ca a f ((tkN (h, c) i).1) ((tkN (h, c) i).2) hi sn (enc h c) tx (tkT (h, c) ti i) (hok.ticks i)) (cwV 0 hts (zgoodV zsub wq_14_13 wq_14_14 wq_14_15 wq_1_5 wq_14_16) rfl rfl rfl hdV_X4_tick ⟨Nat.le_of_ble_eq_true rfl, Nat.le_of_ble_eq_true rfl⟩) hz [] zp_all (by rw [List.append_nil]; exact List.Perm.refl _) rfl rfl rfl hl.1 (Nat.le_of_ble_eq_true rfl) (st1 := []) rfl dX4_untilTip_20 ⟨Nat.zero_le _, Nat.zero_le _⟩ (fun H locs hz => ?_)
        refine lv_iinc (v := nI (i + 1)) (lv' := [(3, .int (nI (i + 1))), (4, .int (isF (h, c) k i)), (0, .ref (a 0)), (1, .int (nI k)), (2, .int (nI M))]) (pc := 23) hx hb dX4_untilTip_23 hl (k := 1) rfl (nI_add i 1) (by decide) rfl (fun ls hl => ?_)
        refine lv_aload_n (pc := 26) hx hb dX4_untilTip_26 rfl (lv_at hl 2 rfl) ?_
        refine z_get (own := RX4) (ref := "CupFountainModel") (C := RX4) (T := TX4) (N := 17) (ci := 4) (v := .ref (a 6)) (pc := 27) hx hb hts hinX4 hown hz 0 rfl rfl 10 (by decide) L30 rfl rfl dX4_untilTip_27 ?_
        refine lv_iload_n (pc := 30) hx hb dX4_untilTip_30 rfl (lv_at hl 3 rfl) ?_
        refine z_zald (x := isF (h, c) k (i + 1)) (pc := 31) hx hb hz 6 rfl k rfl hk8 (by decide) (tkT_at hk8) dX4_untilTip_31 ?_
        refine lv_istore (lv' := [(4, .int (isF (h, c) k (i + 1))), (3, .int (nI (i + 1))), (0, .ref (a 0)), (1, .int (nI k)), (2, .int (nI M))]) (pc := 32) hx hb dX4_untilTip_32 hl (by decide) rfl (fun ls hl => ?_)
        refine lv_goto (tgt := 9) (pc := 34) hx hb dX4_untilTip_34 (by decide) ?_
        exact ih (i + 1) (by omega) _ _ _ hz (lv_sub hl [0, 1, 2, 3, 4] rfl) (ut_next hno c_16)
  exact loop1 M 0 (by omega) _ _ _ (hz.as (by rw [tkN_0, tkT_0])) (lv_sub hl [0, 1, 2, 3, 4] rfl) (fun j hj => absurd hj (by omega))

def rm_X4_hourOfTip : Room := { frames := 5, cells := 0, slots := 0, locals := 120 }
set_option maxRecDepth 20000 in
theorem hdV_X4_hourOfTip : yX4_hourOfTip.cls = RX4 ∧ yX4_hourOfTip.cls ≠ "java/lang/invoke/MethodHandle" ∧ yX4_hourOfTip.cls ≠ "java/lang/invoke/VarHandle" ∧ (parseMethodDescriptor yX4_hourOfTip.desc).map (fun d => d.parameters.length) = some 1 := by decide +kernel
set_option maxHeartbeats 4000000 in
set_option maxRecDepth 100000 in
theorem k_X4_hourOfTip (l : Launch) (G : va_G) (ca : Nat → ClassId) (a : Nat → Nat) (f h : Nat → Int32) (c : Nat → Nat → Int32) (hi sn be tx ti : Nat → Int32) (k : Nat) (hk : k < 8) (hok : okP (h, c)) : Zc l G ca yX4_hourOfTip (zws yX4_hourOfTip cX4_hourOfTip 3 (some .int)) rm_X4_hourOfTip [.ref (a 0), .int (nI k)] (mm ca a f h c hi sn be tx ti) (some (.int (hotF (h, c) k))) (mm ca a f h c hi sn (enc h c) tx (tkT (h, c) ti (utN (h, c) k 500 0))) := by
  refine Zc.of (cc := cX4_hourOfTip) (maxL := 3) (ret := (some .int)) (by decide) rfl (Nat.le_of_ble_eq_true rfl) ?_
  intro pg ev s0 mt below meth cd A args Q ls hx hb hr hml hown hts hlk hQ hl hz
  have L7 : (Cond.fieldLink RX4 7 "CupFountainModel" "s" "[I").before args s0 = true := hts _ (zsub _ wq_4_5)
  have hinX4 : ∀ w ∈ wsX40, w ∈ zws yX4_hourOfTip cX4_hourOfTip 3 (some .int) := fun w h => zsub w (wl_wsX40 w h)
  have hl : lv_has ls 3 [(0, .ref (a 0)), (1, .int (nI k))] := hl
  refine lv_aload_n (pc := 0) hx hb dX4_hourOfTip_0 rfl (lv_at hl 0 rfl) ?_
  refine lv_iload_n (pc := 1) hx hb dX4_hourOfTip_1 rfl (lv_at hl 1 rfl) ?_
  refine lv_sipush (v := 500) (pc := 2) hx hb dX4_hourOfTip_2 (by decide) ?_
  refine z_runV (pc := 5) (As := [.int (nI k), .int 500]) (rest := []) (ws1 := mm ca a f h c hi sn (enc h c) tx (tkT (h, c) ti (utN (h, c) k 500 0))) ⟨hx, hb, hml, hown, hts⟩ (k_X4_untilTip l G ca a f h c hi sn be tx ti k 500 hk (by decide) hok) (cwV 2 hts (zgoodV zsub wq_22_17 wq_22_18 wq_22_19 wq_1_5 wq_22_20) rfl rfl rfl hdV_X4_untilTip ⟨Nat.le_of_ble_eq_true rfl, Nat.le_of_ble_eq_true rfl⟩) hz [] zp_all zp_all' rfl rfl rfl hl.1 (Nat.le_of_ble_eq_true rfl) (st1 := [.int (utF (h, c) k 500 0)]) rfl dX4_hourOfTip_5 ⟨Nat.zero_le _, Nat.zero_le _⟩ (fun H locs hz => ?_)
  refine lv_istore_n (lv' := [(2, .int (utF (h, c) k 500 0)), (0, .ref (a 0)), (1, .int (nI k))]) (pc := 8) hx hb dX4_hourOfTip_8 rfl hl (by decide) rfl (fun ls hl => ?_)
  refine lv_iload_n (pc := 9) hx hb dX4_hourOfTip_9 rfl (lv_at hl 0 rfl) ?_
  refine lv_bipush (v := -5) (pc := 10) hx hb dX4_hourOfTip_10 (by decide) ?_
  refine lv_icmp_ne (pc := 12) (tgt := 20) hx hb dX4_hourOfTip_12 (by decide) (fun c_12 => ?_) (fun c_12 => ?_)
  · refine lv_aload_n (pc := 20) hx hb dX4_hourOfTip_20 rfl (lv_at hl 1 rfl) ?_
    refine lv_aload_n (pc := 21) hx hb dX4_hourOfTip_21 rfl (lv_at hl 1 rfl) ?_
    refine z_get (own := RX4) (ref := "CupFountainModel") (C := RX4) (T := TX4) (N := 17) (ci := 4) (v := .ref (a 1)) (pc := 22) hx hb hts hinX4 hown hz 0 rfl rfl 0 (by decide) L7 rfl rfl dX4_hourOfTip_22 ?_
    refine lv_iconst (v := 0) (pc := 25) hx hb dX4_hourOfTip_25 (by decide) ?_
    refine z_iald (x := h 0) (pc := 26) hx hb hz 1 rfl 0 rfl (by decide) (by decide) (enc_h (by decide)) dX4_hourOfTip_26 ?_
    refine lv_iload_n (pc := 27) hx hb dX4_hourOfTip_27 rfl (lv_at hl 0 rfl) ?_
    refine lv_iadd (pc := 28) hx hb dX4_hourOfTip_28 ?_
    refine lv_iconst (v := 1) (pc := 29) hx hb dX4_hourOfTip_29 (by decide) ?_
    refine lv_isub (pc := 30) hx hb dX4_hourOfTip_30 ?_
    refine z_runV (pc := 31) (As := [.int (((h 0) + (utF (h, c) k 500 0)) - 1)]) (rest := []) (ws1 := mm ca a f h c hi sn (enc h c) tx (tkT (h, c) ti (utN (h, c) k 500 0))) ⟨hx, hb, hml, hown, hts⟩ (k_X4_hourOf l G ca a f h c hi sn (enc h c) tx (tkT (h, c) ti (utN (h, c) k 500 0)) (((h 0) + (utF (h, c) k 500 0)) - 1) hok.1) (cwV 1 hts (zgoodV zsub wq_14_17 wq_14_18 wq_14_19 wq_1_5 wq_14_20) rfl rfl rfl hdV_X4_hourOf ⟨Nat.le_of_ble_eq_true rfl, Nat.le_of_ble_eq_true rfl⟩) hz [] zp_all zp_all' rfl rfl rfl hl.1 (Nat.le_of_ble_eq_true rfl) (st1 := [.int (hrF h (((h 0) + (utF (h, c) k 500 0)) - 1))]) rfl dX4_hourOfTip_31 ⟨Nat.zero_le _, Nat.zero_le _⟩ (fun H locs hz => ?_)
    exact z_iret (pc := 34) hx hb hr hlk hQ hz dX4_hourOfTip_34 (by simp only [hotF, if_neg c_12]) (by rfl)
  · refine lv_bipush (v := -5) (pc := 15) hx hb dX4_hourOfTip_15 (by decide) ?_
    refine lv_goto (tgt := 34) (pc := 17) hx hb dX4_hourOfTip_17 (by decide) ?_
    exact z_iret (pc := 34) hx hb hr hlk hQ hz dX4_hourOfTip_34 (by simp only [hotF, if_pos c_12]) (by rfl)

def rm_X4_tipsIn : Room := { frames := 5, cells := 0, slots := 0, locals := 120 }
set_option maxRecDepth 20000 in
theorem hdV_X4_tipsIn : yX4_tipsIn.cls = RX4 ∧ yX4_tipsIn.cls ≠ "java/lang/invoke/MethodHandle" ∧ yX4_tipsIn.cls ≠ "java/lang/invoke/VarHandle" ∧ (parseMethodDescriptor yX4_tipsIn.desc).map (fun d => d.parameters.length) = some 1 := by decide +kernel
set_option maxHeartbeats 4000000 in
set_option maxRecDepth 100000 in
theorem k_X4_tipsIn (l : Launch) (G : va_G) (ca : Nat → ClassId) (a : Nat → Nat) (f h : Nat → Int32) (c : Nat → Nat → Int32) (hi sn be tx ti : Nat → Int32) (cup : Int32) (hok : okP (h, c)) : Zc l G ca yX4_tipsIn (zws yX4_tipsIn cX4_tipsIn 2 (some .int)) rm_X4_tipsIn [.ref (a 0), .int cup] (mm ca a f h c hi sn be tx ti) (some (.int (tipsInF (h, c) cup))) (mm ca a f h c hi sn (scB cup be (enc h c)) tx (scT (h, c) ti cup)) := by
  refine Zc.of (cc := cX4_tipsIn) (maxL := 2) (ret := (some .int)) (by decide) rfl (Nat.le_of_ble_eq_true rfl) ?_
  intro pg ev s0 mt below meth cd A args Q ls hx hb hr hml hown hts hlk hQ hl hz
  have hl : lv_has ls 2 [(0, .ref (a 0)), (1, .int cup)] := hl
  refine lv_iload_n (pc := 0) hx hb dX4_tipsIn_0 rfl (lv_at hl 1 rfl) ?_
  refine z_runS (pc := 1) (As := [.int cup]) (rest := []) (ws1 := mm ca a f h c hi sn be tx ti) ⟨hx, hb, hml, hown, hts⟩ (k_X4_isCup l G ca cup) (cwS 1 hts (zgoodS zsub wq_7_2 wq_7_3 wq_1_5 wq_7_4) rfl rfl rfl hdV_X4_isCup ⟨Nat.le_of_ble_eq_true rfl, Nat.le_of_ble_eq_true rfl⟩) hz (mm ca a f h c hi sn be tx ti) zp_no (List.Perm.refl _) rfl hl.1 (Nat.le_of_ble_eq_true rfl) (st1 := [.int (inF cup 0 7)]) rfl dX4_tipsIn_1 ⟨Nat.zero_le _, Nat.zero_le _⟩ (fun H locs hz => ?_)
  refine lv_if_eq (pc := 4) (tgt := 18) hx hb dX4_tipsIn_4 (by decide) (fun c_4 => ?_) (fun c_4 => ?_)
  · refine lv_iconst (v := -1) (pc := 18) hx hb dX4_tipsIn_18 (by decide) ?_
    exact z_iret (pc := 19) hx hb hr hlk hQ hz dX4_tipsIn_19 (by simp only [tipsInF, if_pos c_4]) (by simp only [scB, scT, if_pos c_4])
  · obtain ⟨k, hk, rfl⟩ := isCup_pos c_4
    have hnk : nn (nI k) = k := nn_nI (by omega)
    refine lv_aload_n (pc := 7) hx hb dX4_tipsIn_7 rfl (lv_at hl 0 rfl) ?_
    refine lv_iload_n (pc := 8) hx hb dX4_tipsIn_8 rfl (lv_at hl 1 rfl) ?_
    refine lv_sipush (v := 500) (pc := 9) hx hb dX4_tipsIn_9 (by decide) ?_
    refine z_runV (pc := 12) (As := [.int (nI k), .int 500]) (rest := []) (ws1 := mm ca a f h c hi sn (enc h c) tx (tkT (h, c) ti (utN (h, c) k 500 0))) ⟨hx, hb, hml, hown, hts⟩ (k_X4_untilTip l G ca a f h c hi sn be tx ti k 500 hk (by decide) hok) (cwV 2 hts (zgoodV zsub wq_22_17 wq_22_18 wq_22_19 wq_1_5 wq_22_20) rfl rfl rfl hdV_X4_untilTip ⟨Nat.le_of_ble_eq_true rfl, Nat.le_of_ble_eq_true rfl⟩) hz [] zp_all zp_all' rfl rfl rfl hl.1 (Nat.le_of_ble_eq_true rfl) (st1 := [.int (utF (h, c) k 500 0)]) rfl dX4_tipsIn_12 ⟨Nat.zero_le _, Nat.zero_le _⟩ (fun H locs hz => ?_)
    refine lv_goto (tgt := 19) (pc := 15) hx hb dX4_tipsIn_15 (by decide) ?_
    exact z_iret (pc := 19) hx hb hr hlk hQ hz dX4_tipsIn_19 (by simp only [tipsInF, if_neg c_4, hnk]) (by simp only [scB, scT, if_neg c_4, hnk])

def rm_X4_tipsAt : Room := { frames := 6, cells := 0, slots := 0, locals := 142 }
set_option maxRecDepth 20000 in
theorem hdV_X4_tipsAt : yX4_tipsAt.cls = RX4 ∧ yX4_tipsAt.cls ≠ "java/lang/invoke/MethodHandle" ∧ yX4_tipsAt.cls ≠ "java/lang/invoke/VarHandle" ∧ (parseMethodDescriptor yX4_tipsAt.desc).map (fun d => d.parameters.length) = some 1 := by decide +kernel
set_option maxHeartbeats 4000000 in
set_option maxRecDepth 100000 in
theorem k_X4_tipsAt (l : Launch) (G : va_G) (ca : Nat → ClassId) (a : Nat → Nat) (f h : Nat → Int32) (c : Nat → Nat → Int32) (hi sn be tx ti : Nat → Int32) (cup : Int32) (hok : okP (h, c)) : Zc l G ca yX4_tipsAt (zws yX4_tipsAt cX4_tipsAt 2 (some .int)) rm_X4_tipsAt [.ref (a 0), .int cup] (mm ca a f h c hi sn be tx ti) (some (.int (tipsAtF (h, c) cup))) (mm ca a f h c hi sn (scB cup be (enc h c)) tx (scT (h, c) ti cup)) := by
  refine Zc.of (cc := cX4_tipsAt) (maxL := 2) (ret := (some .int)) (by decide) rfl (Nat.le_of_ble_eq_true rfl) ?_
  intro pg ev s0 mt below meth cd A args Q ls hx hb hr hml hown hts hlk hQ hl hz
  have hl : lv_has ls 2 [(0, .ref (a 0)), (1, .int cup)] := hl
  refine lv_iload_n (pc := 0) hx hb dX4_tipsAt_0 rfl (lv_at hl 1 rfl) ?_
  refine z_runS (pc := 1) (As := [.int cup]) (rest := []) (ws1 := mm ca a f h c hi sn be tx ti) ⟨hx, hb, hml, hown, hts⟩ (k_X4_isCup l G ca cup) (cwS 1 hts (zgoodS zsub wq_7_2 wq_7_3 wq_1_5 wq_7_4) rfl rfl rfl hdV_X4_isCup ⟨Nat.le_of_ble_eq_true rfl, Nat.le_of_ble_eq_true rfl⟩) hz (mm ca a f h c hi sn be tx ti) zp_no (List.Perm.refl _) rfl hl.1 (Nat.le_of_ble_eq_true rfl) (st1 := [.int (inF cup 0 7)]) rfl dX4_tipsAt_1 ⟨Nat.zero_le _, Nat.zero_le _⟩ (fun H locs hz => ?_)
  refine lv_if_eq (pc := 4) (tgt := 15) hx hb dX4_tipsAt_4 (by decide) (fun c_4 => ?_) (fun c_4 => ?_)
  · refine lv_iconst (v := -1) (pc := 15) hx hb dX4_tipsAt_15 (by decide) ?_
    exact z_iret (pc := 16) hx hb hr hlk hQ hz dX4_tipsAt_16 (by simp only [tipsAtF, if_pos c_4]) (by simp only [scB, scT, if_pos c_4])
  · obtain ⟨k, hk, rfl⟩ := isCup_pos c_4
    have hnk : nn (nI k) = k := nn_nI (by omega)
    refine lv_aload_n (pc := 7) hx hb dX4_tipsAt_7 rfl (lv_at hl 0 rfl) ?_
    refine lv_iload_n (pc := 8) hx hb dX4_tipsAt_8 rfl (lv_at hl 1 rfl) ?_
    refine z_runV (pc := 9) (As := [.int (nI k)]) (rest := []) (ws1 := mm ca a f h c hi sn (enc h c) tx (tkT (h, c) ti (utN (h, c) k 500 0))) ⟨hx, hb, hml, hown, hts⟩ (k_X4_hourOfTip l G ca a f h c hi sn be tx ti k hk hok) (cwV 1 hts (zgoodV zsub wq_23_21 wq_23_22 wq_23_23 wq_1_5 wq_24_0) rfl rfl rfl hdV_X4_hourOfTip ⟨Nat.le_of_ble_eq_true rfl, Nat.le_of_ble_eq_true rfl⟩) hz [] zp_all zp_all' rfl rfl rfl hl.1 (Nat.le_of_ble_eq_true rfl) (st1 := [.int (hotF (h, c) k)]) rfl dX4_tipsAt_9 ⟨Nat.zero_le _, Nat.zero_le _⟩ (fun H locs hz => ?_)
    refine lv_goto (tgt := 16) (pc := 12) hx hb dX4_tipsAt_12 (by decide) ?_
    exact z_iret (pc := 16) hx hb hr hlk hQ hz dX4_tipsAt_16 (by simp only [tipsAtF, if_neg c_4, hnk]) (by simp only [scB, scT, if_neg c_4, hnk])

def rm_X4_starving : Room := { frames := 5, cells := 0, slots := 0, locals := 120 }
set_option maxRecDepth 20000 in
theorem hdV_X4_starving : yX4_starving.cls = RX4 ∧ yX4_starving.cls ≠ "java/lang/invoke/MethodHandle" ∧ yX4_starving.cls ≠ "java/lang/invoke/VarHandle" ∧ (parseMethodDescriptor yX4_starving.desc).map (fun d => d.parameters.length) = some 0 := by decide +kernel
set_option maxHeartbeats 4000000 in
set_option maxRecDepth 100000 in
theorem k_X4_starving (l : Launch) (G : va_G) (ca : Nat → ClassId) (a : Nat → Nat) (f h : Nat → Int32) (c : Nat → Nat → Int32) (hi sn be tx ti : Nat → Int32) (hok : okP (h, c)) : Zc l G ca yX4_starving (zws yX4_starving cX4_starving 3 (some .int)) rm_X4_starving [.ref (a 0)] (mm ca a f h c hi sn be tx ti) (some (.int (stF (h, c) 8))) (mm ca a f h c hi sn (enc h c) tx (stT (h, c) ti 8)) := by
  refine Zc.of (cc := cX4_starving) (maxL := 3) (ret := (some .int)) (by decide) rfl (Nat.le_of_ble_eq_true rfl) ?_
  intro pg ev s0 mt below meth cd A args Q ls hx hb hr hml hown hts hlk hQ hl hz
  have hl : lv_has ls 3 [(0, .ref (a 0))] := hl
  refine lv_bipush (v := -5) (pc := 0) hx hb dX4_starving_0 (by decide) ?_
  refine lv_istore_n (lv' := [(1, .int (-5)), (0, .ref (a 0))]) (pc := 2) hx hb dX4_starving_2 rfl hl (by decide) rfl (fun ls hl => ?_)
  refine lv_bipush (v := 7) (pc := 3) hx hb dX4_starving_3 (by decide) ?_
  refine lv_istore_n (lv' := [(2, .int 7), (1, .int (-5)), (0, .ref (a 0))]) (pc := 5) hx hb dX4_starving_5 rfl hl (by decide) rfl (fun ls hl => ?_)
  have loop1 : ∀ cnt k : Nat, k + cnt = 8 → ∀ (H : Heap) (locs : List Loc) (ls : Array Slot), zw G ca A s0.heap s0 (mm ca a f h c hi sn (stB be (enc h c) k) tx (stT (h, c) ti k)) H locs → lv_has ls 3 [(2, .int (nI (8 - k) - 1)), (1, .int (stF (h, c) k)), (0, .ref (a 0))] → W pg l ev rm_X4_starving s0 mt args below meth cd H locs 0 0 Q (F0 mt 6 ls []) := by
    intro cnt
    induction cnt with
    | zero =>
      intro k hk9 H locs ls hz hl
      obtain rfl : 8 = k := by omega
      refine lv_iload_n (pc := 6) hx hb dX4_starving_6 rfl (lv_at hl 0 rfl) ?_
      refine lv_if_lt (pc := 7) (tgt := 35) hx hb dX4_starving_7 (by decide) (fun c_7 => ?_) (fun c9 => absurd (by decide) c9)
      refine lv_iload_n (pc := 35) hx hb dX4_starving_35 rfl (lv_at hl 1 rfl) ?_
      exact z_iret (pc := 36) hx hb hr hlk hQ hz dX4_starving_36 (by rfl) (by rfl)
    | succ cnt ih =>
      intro k hk9 H locs ls hz hl
      have hk : k < 8 := by omega
      have e8 : nI (8 - k) - 1 = nI (7 - k) := by rw [show 8 - k = (7 - k) + 1 by omega]; exact nI_pred (7 - k)
      rw [e8] at hl
      refine lv_iload_n (pc := 6) hx hb dX4_starving_6 rfl (lv_at hl 0 rfl) ?_
      refine lv_if_lt (pc := 7) (tgt := 35) hx hb dX4_starving_7 (by decide) (fun c9 => absurd c9 (nI_pos (by omega))) (fun c_7 => ?_)
      refine lv_aload_n (pc := 10) hx hb dX4_starving_10 rfl (lv_at hl 2 rfl) ?_
      refine lv_iload_n (pc := 11) hx hb dX4_starving_11 rfl (lv_at hl 0 rfl) ?_
      refine lv_sipush (v := 500) (pc := 12) hx hb dX4_starving_12 (by decide) ?_
      refine z_runV (pc := 15) (As := [.int (nI (7 - k)), .int 500]) (rest := []) (ws1 := mm ca a f h c hi sn (enc h c) tx (tkT (h, c) (stT (h, c) ti k) (utN (h, c) (7 - k) 500 0))) ⟨hx, hb, hml, hown, hts⟩ (k_X4_untilTip l G ca a f h c hi sn (stB be (enc h c) k) tx (stT (h, c) ti k) (7 - k) 500 (by omega) (by decide) hok) (cwV 2 hts (zgoodV zsub wq_22_17 wq_22_18 wq_22_19 wq_1_5 wq_22_20) rfl rfl rfl hdV_X4_untilTip ⟨Nat.le_of_ble_eq_true rfl, Nat.le_of_ble_eq_true rfl⟩) hz [] zp_all zp_all' rfl rfl rfl hl.1 (Nat.le_of_ble_eq_true rfl) (st1 := [.int (utF (h, c) (7 - k) 500 0)]) rfl dX4_starving_15 ⟨Nat.zero_le _, Nat.zero_le _⟩ (fun H locs hz => ?_)
      refine lv_bipush (v := -5) (pc := 18) hx hb dX4_starving_18 (by decide) ?_
      have J2 : ∀ (H : Heap) (locs : List Loc) (ls : Array Slot), zw G ca A s0.heap s0 (mm ca a f h c hi sn (enc h c) tx (tkT (h, c) (stT (h, c) ti k) (utN (h, c) (7 - k) 500 0))) H locs → lv_has ls 3 [(2, .int (nI (7 - k))), (1, .int (stF (h, c) k)), (0, .ref (a 0))] → W pg l ev rm_X4_starving s0 mt args below meth cd H locs 0 0 Q (F0 mt 28 ls [.int (stF (h, c) (k + 1))]) := by
        intro H locs ls hz hl
        refine lv_istore_n (lv' := [(1, .int (stF (h, c) (k + 1))), (2, .int (nI (7 - k))), (0, .ref (a 0))]) (pc := 28) hx hb dX4_starving_28 rfl hl (by decide) rfl (fun ls hl => ?_)
        refine lv_iinc (v := (nI (7 - k)) + (-1)) (lv' := [(2, .int ((nI (7 - k)) + (-1))), (1, .int (stF (h, c) (k + 1))), (0, .ref (a 0))]) (pc := 29) hx hb dX4_starving_29 hl (k := 1) rfl rfl (by decide) rfl (fun ls hl => ?_)
        refine lv_goto (tgt := 6) (pc := 32) hx hb dX4_starving_32 (by decide) ?_
        exact ih (k + 1) (by omega) _ _ _ (hz.as (by rfl)) (by rw [show nI (7 - k) + (-1) = nI (8 - (k + 1)) - 1 by rw [show 8 - (k + 1) = 7 - k by omega]; exact nIm1 _] at hl; exact lv_sub hl [0, 1, 2] rfl)
      refine lv_icmp_ne (pc := 20) (tgt := 27) hx hb dX4_starving_20 (by decide) (fun c_20 => ?_) (fun c_20 => ?_)
      · refine lv_iload_n (pc := 27) hx hb dX4_starving_27 rfl (lv_at hl 1 rfl) ?_
        exact z_top (by simp only [stF, if_neg c_20]) (J2 _ _ _ hz (lv_sub hl [0, 1, 2] rfl))
      · refine lv_iload_n (pc := 23) hx hb dX4_starving_23 rfl (lv_at hl 0 rfl) ?_
        refine lv_goto (tgt := 28) (pc := 24) hx hb dX4_starving_24 (by decide) ?_
        exact z_top (by simp only [stF, if_pos c_20]) (J2 _ _ _ hz (lv_sub hl [0, 1, 2] rfl))
  exact loop1 8 0 (by omega) _ _ _ (hz.as (by rfl)) (lv_sub hl [0, 1, 2] rfl)

def rm_X4_ifTicks : Room := { frames := 4, cells := 0, slots := 0, locals := 96 }
set_option maxRecDepth 20000 in
theorem hdV_X4_ifTicks : yX4_ifTicks.cls = RX4 ∧ yX4_ifTicks.cls ≠ "java/lang/invoke/MethodHandle" ∧ yX4_ifTicks.cls ≠ "java/lang/invoke/VarHandle" ∧ (parseMethodDescriptor yX4_ifTicks.desc).map (fun d => d.parameters.length) = some 2 := by decide +kernel
set_option maxHeartbeats 4000000 in
set_option maxRecDepth 100000 in
theorem k_X4_ifTicks (l : Launch) (G : va_G) (ca : Nat → ClassId) (a : Nat → Nat) (f h : Nat → Int32) (c : Nat → Nat → Int32) (hi sn be tx ti : Nat → Int32) (ticks what : Int32) (hok : okP (h, c)) : Zc l G ca yX4_ifTicks (zws yX4_ifTicks cX4_ifTicks 6 (some .int)) rm_X4_ifTicks [.ref (a 0), .int ticks, .int what] (mm ca a f h c hi sn be tx ti) (some (.int (ifF (h, c) ticks what))) (mm ca a f h c hi sn (ifB ticks what be (enc h c)) tx (ifT (h, c) ti ticks what)) := by
  refine Zc.of (cc := cX4_ifTicks) (maxL := 6) (ret := (some .int)) (by decide) rfl (Nat.le_of_ble_eq_true rfl) ?_
  intro pg ev s0 mt below meth cd A args Q ls hx hb hr hml hown hts hlk hQ hl hz
  have L19 : (Cond.fieldLink RX4 19 "CupFountainModel" "before" "[I").before args s0 = true := hts _ (zsub _ wq_4_8)
  have L7 : (Cond.fieldLink RX4 7 "CupFountainModel" "s" "[I").before args s0 = true := hts _ (zsub _ wq_4_5)
  have hinX4 : ∀ w ∈ wsX40, w ∈ zws yX4_ifTicks cX4_ifTicks 6 (some .int) := fun w h => zsub w (wl_wsX40 w h)
  have hl : lv_has ls 6 [(0, .ref (a 0)), (1, .int ticks), (2, .int what)] := hl
  refine lv_iload_n (pc := 0) hx hb dX4_ifTicks_0 rfl (lv_at hl 1 rfl) ?_
  refine lv_iconst (v := 1) (pc := 1) hx hb dX4_ifTicks_1 (by decide) ?_
  refine lv_sipush (v := 500) (pc := 2) hx hb dX4_ifTicks_2 (by decide) ?_
  refine z_runS (pc := 5) (As := [.int ticks, .int 1, .int 500]) (rest := []) (ws1 := mm ca a f h c hi sn be tx ti) ⟨hx, hb, hml, hown, hts⟩ (k_X4_in l G ca ticks 1 500) (cwS 3 hts (zgoodS zsub wq_7_5 wq_7_6 wq_1_5 wq_7_7) rfl rfl rfl hdV_X4_in ⟨Nat.le_of_ble_eq_true rfl, Nat.le_of_ble_eq_true rfl⟩) hz (mm ca a f h c hi sn be tx ti) zp_no (List.Perm.refl _) rfl hl.1 (Nat.le_of_ble_eq_true rfl) (st1 := [.int (inF ticks 1 500)]) rfl dX4_ifTicks_5 ⟨Nat.zero_le _, Nat.zero_le _⟩ (fun H locs hz => ?_)
  refine lv_if_eq (pc := 8) (tgt := 20) hx hb dX4_ifTicks_8 (by decide) (fun c_8 => ?_) (fun c_8 => ?_)
  · refine lv_bipush (v := -2) (pc := 20) hx hb dX4_ifTicks_20 (by decide) ?_
    exact z_iret (pc := 22) hx hb hr hlk hQ hz dX4_ifTicks_22 (by simp only [ifF, if_pos c_8]) (by simp only [ifB, ifT, if_pos c_8])
  · refine lv_iload_n (pc := 11) hx hb dX4_ifTicks_11 rfl (lv_at hl 2 rfl) ?_
    refine lv_iconst (v := 0) (pc := 12) hx hb dX4_ifTicks_12 (by decide) ?_
    refine lv_iconst (v := 3) (pc := 13) hx hb dX4_ifTicks_13 (by decide) ?_
    refine z_runS (pc := 14) (As := [.int what, .int 0, .int 3]) (rest := []) (ws1 := mm ca a f h c hi sn be tx ti) ⟨hx, hb, hml, hown, hts⟩ (k_X4_in l G ca what 0 3) (cwS 3 hts (zgoodS zsub wq_7_5 wq_7_6 wq_1_5 wq_7_7) rfl rfl rfl hdV_X4_in ⟨Nat.le_of_ble_eq_true rfl, Nat.le_of_ble_eq_true rfl⟩) hz (mm ca a f h c hi sn be tx ti) zp_no (List.Perm.refl _) rfl hl.1 (Nat.le_of_ble_eq_true rfl) (st1 := [.int (inF what 0 3)]) rfl dX4_ifTicks_14 ⟨Nat.zero_le _, Nat.zero_le _⟩ (fun H locs hz => ?_)
    refine lv_if_ne (pc := 17) (tgt := 23) hx hb dX4_ifTicks_17 (by decide) (fun c_17 => ?_) (fun c_17 => ?_)
    · obtain ⟨n, hn, rfl⟩ := i32_nI (n := 500) (Or.inr rfl) rfl (by decide) (inF_ne c_8)
      have hnk : nn (nI n) = n := nn_nI (by omega)
      obtain ⟨j, hj, rfl⟩ := i32_nI (n := 3) (Or.inl rfl) rfl (by decide) (inF_ne c_17)
      have hnw : nn (nI j) = j := nn_nI (by omega)
      have hw12 : ifw (nI j) < 12 := ifw_lt hj
      refine lv_iload_n (pc := 23) hx hb dX4_ifTicks_23 rfl (lv_at hl 2 rfl) ?_
      refine lv_iconst (v := 3) (pc := 24) hx hb dX4_ifTicks_24 (by decide) ?_
      have J1 : ∀ (H : Heap) (locs : List Loc) (ls : Array Slot), zw G ca A s0.heap s0 (mm ca a f h c hi sn be tx ti) H locs → lv_has ls 6 [(0, .ref (a 0)), (1, .int (nI n)), (2, .int (nI j))] → W pg l ev rm_X4_ifTicks s0 mt args below meth cd H locs 0 0 Q (F0 mt 37 ls [.int (nI (ifw (nI j)))]) := by
        intro H locs ls hz hl
        refine lv_istore_n (lv' := [(3, .int (nI (ifw (nI j)))), (0, .ref (a 0)), (1, .int (nI n)), (2, .int (nI j))]) (pc := 37) hx hb dX4_ifTicks_37 rfl hl (by decide) rfl (fun ls hl => ?_)
        refine lv_aload_n (pc := 38) hx hb dX4_ifTicks_38 rfl (lv_at hl 1 rfl) ?_
        refine z_runV (pc := 39) (As := []) (rest := []) (ws1 := mm ca a f h c hi sn (enc h c) tx ti) ⟨hx, hb, hml, hown, hts⟩ (k_X4_begin l G ca a f h c hi sn be tx ti) (cwV 0 hts (zgoodV zsub wq_6_15 wq_6_16 wq_6_17 wq_1_5 wq_6_18) rfl rfl rfl hdV_X4_begin ⟨Nat.le_of_ble_eq_true rfl, Nat.le_of_ble_eq_true rfl⟩) hz [] zp_all zp_all' rfl rfl rfl hl.1 (Nat.le_of_ble_eq_true rfl) (st1 := []) rfl dX4_ifTicks_39 ⟨Nat.zero_le _, Nat.zero_le _⟩ (fun H locs hz => ?_)
        refine lv_aload_n (pc := 42) hx hb dX4_ifTicks_42 rfl (lv_at hl 1 rfl) ?_
        refine lv_iload_n (pc := 43) hx hb dX4_ifTicks_43 rfl (lv_at hl 0 rfl) ?_
        refine z_runV (pc := 44) (As := [.int (nI (ifw (nI j)))]) (rest := []) (ws1 := mm ca a f h c hi sn (enc h c) tx ti) ⟨hx, hb, hml, hown, hts⟩ (k_X4_sumOf l G ca a f h c hi sn (enc h c) tx ti (ifw (nI j)) (by assumption)) (cwV 1 hts (zgoodV zsub wq_14_9 wq_14_10 wq_14_11 wq_1_5 wq_14_12) rfl rfl rfl hdV_X4_sumOf ⟨Nat.le_of_ble_eq_true rfl, Nat.le_of_ble_eq_true rfl⟩) hz [] zp_all zp_all' rfl rfl rfl hl.1 (Nat.le_of_ble_eq_true rfl) (st1 := [.int (sumF c (ifw (nI j)) 8)]) rfl dX4_ifTicks_44 ⟨Nat.zero_le _, Nat.zero_le _⟩ (fun H locs hz => ?_)
        refine lv_istore (lv' := [(4, .int (sumF c (ifw (nI j)) 8)), (3, .int (nI (ifw (nI j)))), (0, .ref (a 0)), (1, .int (nI n)), (2, .int (nI j))]) (pc := 47) hx hb dX4_ifTicks_47 hl (by decide) rfl (fun ls hl => ?_)
        refine lv_iconst (v := 0) (pc := 49) hx hb dX4_ifTicks_49 (by decide) ?_
        refine lv_istore (lv' := [(5, .int 0), (4, .int (sumF c (ifw (nI j)) 8)), (3, .int (nI (ifw (nI j)))), (0, .ref (a 0)), (1, .int (nI n)), (2, .int (nI j))]) (pc := 50) hx hb dX4_ifTicks_50 hl (by decide) rfl (fun ls hl => ?_)
        have loop2 : ∀ cnt i : Nat, i + cnt = n → ∀ (H : Heap) (locs : List Loc) (ls : Array Slot), zw G ca A s0.heap s0 (mm ca a f ((tkN (h, c) i).1) ((tkN (h, c) i).2) hi sn (enc h c) tx (tkT (h, c) ti i)) H locs → lv_has ls 6 [(5, .int (nI i)), (4, .int (sumF c (ifw (nI j)) 8)), (3, .int (nI (ifw (nI j)))), (0, .ref (a 0)), (1, .int (nI n)), (2, .int (nI j))] → W pg l ev rm_X4_ifTicks s0 mt args below meth cd H locs 0 0 Q (F0 mt 52 ls []) := by
          intro cnt
          induction cnt with
          | zero =>
            intro i hk9 H locs ls hz hl
            obtain rfl : n = i := by omega
            refine lv_iload (pc := 52) hx hb dX4_ifTicks_52 (lv_at hl 0 rfl) ?_
            refine lv_iload_n (pc := 54) hx hb dX4_ifTicks_54 rfl (lv_at hl 4 rfl) ?_
            refine lv_icmp_ge (pc := 55) (tgt := 68) hx hb dX4_ifTicks_55 (by decide) (fun c_55 => ?_) (fun c9 => absurd (nI_le (Nat.le_refl _) (by omega)) c9)
            refine lv_aload_n (pc := 68) hx hb dX4_ifTicks_68 rfl (lv_at hl 3 rfl) ?_
            refine lv_iload_n (pc := 69) hx hb dX4_ifTicks_69 rfl (lv_at hl 2 rfl) ?_
            refine z_runV (pc := 70) (As := [.int (nI (ifw (nI j)))]) (rest := []) (ws1 := mm ca a f ((tkN (h, c) n).1) ((tkN (h, c) n).2) hi sn (enc h c) tx (tkT (h, c) ti n)) ⟨hx, hb, hml, hown, hts⟩ (k_X4_sumOf l G ca a f ((tkN (h, c) n).1) ((tkN (h, c) n).2) hi sn (enc h c) tx (tkT (h, c) ti n) (ifw (nI j)) (by assumption)) (cwV 1 hts (zgoodV zsub wq_14_9 wq_14_10 wq_14_11 wq_1_5 wq_14_12) rfl rfl rfl hdV_X4_sumOf ⟨Nat.le_of_ble_eq_true rfl, Nat.le_of_ble_eq_true rfl⟩) hz [] zp_all zp_all' rfl rfl rfl hl.1 (Nat.le_of_ble_eq_true rfl) (st1 := [.int (sumF ((tkN (h, c) n).2) (ifw (nI j)) 8)]) rfl dX4_ifTicks_70 ⟨Nat.zero_le _, Nat.zero_le _⟩ (fun H locs hz => ?_)
            refine lv_iload (pc := 73) hx hb dX4_ifTicks_73 (lv_at hl 1 rfl) ?_
            refine lv_isub (pc := 75) hx hb dX4_ifTicks_75 ?_
            refine lv_istore (lv' := [(5, .int ((sumF ((tkN (h, c) n).2) (ifw (nI j)) 8) - (sumF c (ifw (nI j)) 8))), (4, .int (sumF c (ifw (nI j)) 8)), (3, .int (nI (ifw (nI j)))), (0, .ref (a 0)), (1, .int (nI n)), (2, .int (nI j))]) (pc := 76) hx hb dX4_ifTicks_76 hl (by decide) rfl (fun ls hl => ?_)
            refine lv_aload_n (pc := 78) hx hb dX4_ifTicks_78 rfl (lv_at hl 3 rfl) ?_
            refine z_get (own := RX4) (ref := "CupFountainModel") (C := RX4) (T := TX4) (N := 17) (ci := 4) (v := .ref (a 4)) (pc := 79) hx hb hts hinX4 hown hz 0 rfl rfl 5 (by decide) L19 rfl rfl dX4_ifTicks_79 ?_
            refine lv_iconst (v := 0) (pc := 82) hx hb dX4_ifTicks_82 (by decide) ?_
            refine lv_aload_n (pc := 83) hx hb dX4_ifTicks_83 rfl (lv_at hl 3 rfl) ?_
            refine z_get (own := RX4) (ref := "CupFountainModel") (C := RX4) (T := TX4) (N := 17) (ci := 4) (v := .ref (a 1)) (pc := 84) hx hb hts hinX4 hown hz 0 rfl rfl 0 (by decide) L7 rfl rfl dX4_ifTicks_84 ?_
            refine lv_iconst (v := 0) (pc := 87) hx hb dX4_ifTicks_87 (by decide) ?_
            refine z_runS (pc := 88) (As := [.ref (a 4), .int 0, .ref (a 1), .int 0]) (rest := []) (ws1 := wM ca a f (va_cpy (enc h c) (enc ((tkN (h, c) n).1) ((tkN (h, c) n).2)) 0 0 104) hi sn (enc h c) tx (tkT (h, c) ti n)) ⟨hx, hb, hml, hown, hts⟩ (k_X4_copy l G ca (a 4) (a 1) 104 104 0 0 (enc h c) (enc ((tkN (h, c) n).1) ((tkN (h, c) n).2)) (by omega) (by omega) (by decide) (by decide)) (cwS 4 hts (zgoodS zsub wq_6_19 wq_6_20 wq_1_5 wq_6_21) rfl rfl rfl hdV_X4_copy ⟨Nat.le_of_ble_eq_true rfl, Nat.le_of_ble_eq_true rfl⟩) hz (List.filterMap (fun q9 => (mm ca a f ((tkN (h, c) n).1) ((tkN (h, c) n).2) hi sn (enc h c) tx (tkT (h, c) ti n))[q9]?) [0, 2, 3, 5, 6]) (z_pick [4, 1, 0, 2, 3, 5, 6] rfl rfl) (z_pick (ws := wM ca a f (va_cpy (enc h c) (enc ((tkN (h, c) n).1) ((tkN (h, c) n).2)) 0 0 104) hi sn (enc h c) tx (tkT (h, c) ti n)) [4, 1, 0, 2, 3, 5, 6] rfl rfl).symm rfl hl.1 (Nat.le_of_ble_eq_true rfl) (st1 := []) rfl dX4_ifTicks_88 ⟨Nat.zero_le _, Nat.zero_le _⟩ (fun H locs hz => ?_)
            have hz := (hz.cell (g := enc h c) 1 rfl (fun j hj => cpy_at0 hj)).as (show _ = mm ca a f h c hi sn (enc h c) tx (tkT (h, c) ti n) from rfl)
            refine lv_iload (pc := 91) hx hb dX4_ifTicks_91 (lv_at hl 0 rfl) ?_
            exact z_iret (pc := 93) hx hb hr hlk hQ hz dX4_ifTicks_93 (by simp only [ifF, if_neg c_8, if_neg c_17, if_pos c_55, hnk, hnw]) (by simp only [ifB, ifT, if_neg c_8, if_neg c_17, if_pos c_55, hnk, hnw])
          | succ cnt ih =>
            intro i hk9 H locs ls hz hl
            have hk : i < n := by omega
            refine lv_iload (pc := 52) hx hb dX4_ifTicks_52 (lv_at hl 0 rfl) ?_
            refine lv_iload_n (pc := 54) hx hb dX4_ifTicks_54 rfl (lv_at hl 4 rfl) ?_
            refine lv_icmp_ge (pc := 55) (tgt := 68) hx hb dX4_ifTicks_55 (by decide) (fun c9 => absurd c9 (nI_ge hk (by omega))) (fun c_55 => ?_)
            refine lv_aload_n (pc := 58) hx hb dX4_ifTicks_58 rfl (lv_at hl 3 rfl) ?_
            refine z_runV (pc := 59) (As := []) (rest := []) (ws1 := mm ca a f ((tkN (h, c) (i + 1)).1) ((tkN (h, c) (i + 1)).2) hi sn (enc h c) tx (tkT (h, c) ti (i + 1))) ⟨hx, hb, hml, hown, hts⟩ (k_X4_tick l G ca a f ((tkN (h, c) i).1) ((tkN (h, c) i).2) hi sn (enc h c) tx (tkT (h, c) ti i) (hok.ticks i)) (cwV 0 hts (zgoodV zsub wq_14_13 wq_14_14 wq_14_15 wq_1_5 wq_14_16) rfl rfl rfl hdV_X4_tick ⟨Nat.le_of_ble_eq_true rfl, Nat.le_of_ble_eq_true rfl⟩) hz [] zp_all (by rw [List.append_nil]; exact List.Perm.refl _) rfl rfl rfl hl.1 (Nat.le_of_ble_eq_true rfl) (st1 := []) rfl dX4_ifTicks_59 ⟨Nat.zero_le _, Nat.zero_le _⟩ (fun H locs hz => ?_)
            refine lv_iinc (v := nI (i + 1)) (lv' := [(5, .int (nI (i + 1))), (4, .int (sumF c (ifw (nI j)) 8)), (3, .int (nI (ifw (nI j)))), (0, .ref (a 0)), (1, .int (nI n)), (2, .int (nI j))]) (pc := 62) hx hb dX4_ifTicks_62 hl (k := 0) rfl (nI_add i 1) (by decide) rfl (fun ls hl => ?_)
            refine lv_goto (tgt := 52) (pc := 65) hx hb dX4_ifTicks_65 (by decide) ?_
            exact ih (i + 1) (by omega) _ _ _ hz (lv_sub hl [0, 1, 2, 3, 4, 5] rfl)
        exact loop2 n 0 (by omega) _ _ _ (hz.as (by rw [tkN_0, tkT_0])) (lv_sub hl [0, 1, 2, 3, 4, 5] rfl)
      refine lv_icmp_ne (pc := 25) (tgt := 33) hx hb dX4_ifTicks_25 (by decide) (fun c_25 => ?_) (fun c_25 => ?_)
      · refine lv_bipush (v := 9) (pc := 33) hx hb dX4_ifTicks_33 (by decide) ?_
        refine lv_iload_n (pc := 35) hx hb dX4_ifTicks_35 rfl (lv_at hl 2 rfl) ?_
        refine lv_iadd (pc := 36) hx hb dX4_ifTicks_36 ?_
        exact z_top (by unfold ifw; rw [if_neg c_25]; rw [hnw]; exact nI_add 9 j) (J1 _ _ _ hz (lv_sub hl [0, 1, 2] rfl))
      · refine lv_bipush (v := 8) (pc := 28) hx hb dX4_ifTicks_28 (by decide) ?_
        refine lv_goto (tgt := 37) (pc := 30) hx hb dX4_ifTicks_30 (by decide) ?_
        exact z_top (by unfold ifw; rw [if_pos c_25]; rfl) (J1 _ _ _ hz (lv_sub hl [0, 1, 2] rfl))
    · refine lv_bipush (v := -2) (pc := 20) hx hb dX4_ifTicks_20 (by decide) ?_
      exact z_iret (pc := 22) hx hb hr hlk hQ hz dX4_ifTicks_22 (by simp only [ifF, if_neg c_8, if_pos c_17]) (by simp only [ifB, ifT, if_neg c_8, if_pos c_17])

def rm_X4_highest : Room := { frames := 1, cells := 0, slots := 0, locals := 22 }
set_option maxRecDepth 20000 in
theorem hdV_X4_highest : yX4_highest.cls = RX4 ∧ yX4_highest.cls ≠ "java/lang/invoke/MethodHandle" ∧ yX4_highest.cls ≠ "java/lang/invoke/VarHandle" ∧ (parseMethodDescriptor yX4_highest.desc).map (fun d => d.parameters.length) = some 0 := by decide +kernel
set_option maxHeartbeats 4000000 in
set_option maxRecDepth 100000 in
theorem k_X4_highest (l : Launch) (G : va_G) (ca : Nat → ClassId) (a : Nat → Nat) (f h : Nat → Int32) (c : Nat → Nat → Int32) (hi sn be tx ti : Nat → Int32) : Zc l G ca yX4_highest (zws yX4_highest cX4_highest 3 (some .int)) rm_X4_highest [.ref (a 0)] (mm ca a f h c hi sn be tx ti) (some (.int (hiR c))) (mm ca a f h c hi sn be tx ti) := by
  refine Zc.of (cc := cX4_highest) (maxL := 3) (ret := (some .int)) (by decide) rfl (Nat.le_of_ble_eq_true rfl) ?_
  intro pg ev s0 mt below meth cd A args Q ls hx hb hr hml hown hts hlk hQ hl hz
  have hl : lv_has ls 3 [(0, .ref (a 0))] := hl
  refine lv_iconst (v := 0) (pc := 0) hx hb dX4_highest_0 (by decide) ?_
  refine lv_istore_n (lv' := [(1, .int 0), (0, .ref (a 0))]) (pc := 1) hx hb dX4_highest_1 rfl hl (by decide) rfl (fun ls hl => ?_)
  refine lv_iconst (v := 1) (pc := 2) hx hb dX4_highest_2 (by decide) ?_
  refine lv_istore_n (lv' := [(2, .int 1), (1, .int 0), (0, .ref (a 0))]) (pc := 3) hx hb dX4_highest_3 rfl hl (by decide) rfl (fun ls hl => ?_)
  have loop1 : ∀ cnt k : Nat, k + cnt = 7 → ∀ (H : Heap) (locs : List Loc) (ls : Array Slot), zw G ca A s0.heap s0 (mm ca a f h c hi sn be tx ti) H locs → lv_has ls 3 [(2, .int (nI (k + 1))), (1, .int (nI (hgF c k))), (0, .ref (a 0))] → W pg l ev rm_X4_highest s0 mt args below meth cd H locs 0 0 Q (F0 mt 4 ls []) := by
    intro cnt
    induction cnt with
    | zero =>
      intro k hk9 H locs ls hz hl
      obtain rfl : 7 = k := by omega
      have hg8 : hgF c 7 < 8 := Nat.lt_of_le_of_lt (hgF_le c 7) (by decide)
      refine lv_iload_n (pc := 4) hx hb dX4_highest_4 rfl (lv_at hl 0 rfl) ?_
      refine lv_bipush (v := 8) (pc := 5) hx hb dX4_highest_5 (by decide) ?_
      refine lv_icmp_ge (pc := 7) (tgt := 39) hx hb dX4_highest_7 (by decide) (fun c_7 => ?_) (fun c9 => absurd (by decide) c9)
      refine lv_aload_n (pc := 39) hx hb dX4_highest_39 rfl (lv_at hl 2 rfl) ?_
      refine lv_iload_n (pc := 40) hx hb dX4_highest_40 rfl (lv_at hl 1 rfl) ?_
      refine lv_bipush (v := 7) (pc := 41) hx hb dX4_highest_41 (by decide) ?_
      refine z_runV (pc := 43) (As := [.int (nI (hgF c 7)), .int 7]) (rest := []) (ws1 := mm ca a f h c hi sn be tx ti) ⟨hx, hb, hml, hown, hts⟩ (k_X4_of l G ca a f h c hi sn be tx ti (hgF c 7) 7 (by assumption) (by decide)) (cwV 2 hts (zgoodV zsub wq_7_11 wq_7_12 wq_7_13 wq_1_5 wq_7_14) rfl rfl rfl hdV_X4_of ⟨Nat.le_of_ble_eq_true rfl, Nat.le_of_ble_eq_true rfl⟩) hz [] zp_all zp_all' rfl rfl rfl hl.1 (Nat.le_of_ble_eq_true rfl) (st1 := [.int (c (hgF c 7) 7)]) rfl dX4_highest_43 ⟨Nat.zero_le _, Nat.zero_le _⟩ (fun H locs hz => ?_)
      refine lv_if_ne (pc := 46) (tgt := 54) hx hb dX4_highest_46 (by decide) (fun c_46 => ?_) (fun c_46 => ?_)
      · refine lv_iload_n (pc := 54) hx hb dX4_highest_54 rfl (lv_at hl 1 rfl) ?_
        exact z_iret (pc := 55) hx hb hr hlk hQ hz dX4_highest_55 (by simp only [hiR, if_pos c_7, if_neg c_46]) (by rfl)
      · refine lv_bipush (v := -5) (pc := 49) hx hb dX4_highest_49 (by decide) ?_
        refine lv_goto (tgt := 55) (pc := 51) hx hb dX4_highest_51 (by decide) ?_
        exact z_iret (pc := 55) hx hb hr hlk hQ hz dX4_highest_55 (by simp only [hiR, if_pos c_7, if_pos c_46]) (by rfl)
    | succ cnt ih =>
      intro k hk9 H locs ls hz hl
      have hk : k < 7 := by omega
      have hg8 : hgF c k < 8 := Nat.lt_of_le_of_lt (hgF_le c k) (by omega)
      have hk8 : k + 1 < 8 := by omega
      refine lv_iload_n (pc := 4) hx hb dX4_highest_4 rfl (lv_at hl 0 rfl) ?_
      refine lv_bipush (v := 8) (pc := 5) hx hb dX4_highest_5 (by decide) ?_
      refine lv_icmp_ge (pc := 7) (tgt := 39) hx hb dX4_highest_7 (by decide) (fun c9 => absurd c9 (nI_ge (by omega) (by decide))) (fun c_7 => ?_)
      refine lv_aload_n (pc := 10) hx hb dX4_highest_10 rfl (lv_at hl 2 rfl) ?_
      refine lv_iload_n (pc := 11) hx hb dX4_highest_11 rfl (lv_at hl 0 rfl) ?_
      refine lv_bipush (v := 7) (pc := 12) hx hb dX4_highest_12 (by decide) ?_
      refine z_runV (pc := 14) (As := [.int (nI (k + 1)), .int 7]) (rest := []) (ws1 := mm ca a f h c hi sn be tx ti) ⟨hx, hb, hml, hown, hts⟩ (k_X4_of l G ca a f h c hi sn be tx ti (k + 1) 7 (by assumption) (by decide)) (cwV 2 hts (zgoodV zsub wq_7_11 wq_7_12 wq_7_13 wq_1_5 wq_7_14) rfl rfl rfl hdV_X4_of ⟨Nat.le_of_ble_eq_true rfl, Nat.le_of_ble_eq_true rfl⟩) hz [] zp_all zp_all' rfl rfl rfl hl.1 (Nat.le_of_ble_eq_true rfl) (st1 := [.int (c (k + 1) 7)]) rfl dX4_highest_14 ⟨Nat.zero_le _, Nat.zero_le _⟩ (fun H locs hz => ?_)
      refine lv_aload_n (pc := 17) hx hb dX4_highest_17 rfl (lv_at hl 2 rfl) ?_
      refine lv_iload_n (pc := 18) hx hb dX4_highest_18 rfl (lv_at hl 1 rfl) ?_
      refine lv_bipush (v := 7) (pc := 19) hx hb dX4_highest_19 (by decide) ?_
      refine z_runV (pc := 21) (As := [.int (nI (hgF c k)), .int 7]) (rest := [.int (c (k + 1) 7)]) (ws1 := mm ca a f h c hi sn be tx ti) ⟨hx, hb, hml, hown, hts⟩ (k_X4_of l G ca a f h c hi sn be tx ti (hgF c k) 7 (by assumption) (by decide)) (cwV 2 hts (zgoodV zsub wq_7_11 wq_7_12 wq_7_13 wq_1_5 wq_7_14) rfl rfl rfl hdV_X4_of ⟨Nat.le_of_ble_eq_true rfl, Nat.le_of_ble_eq_true rfl⟩) hz [] zp_all zp_all' rfl rfl rfl hl.1 (Nat.le_of_ble_eq_true rfl) (st1 := [.int (c (hgF c k) 7), .int (c (k + 1) 7)]) rfl dX4_highest_21 ⟨Nat.zero_le _, Nat.zero_le _⟩ (fun H locs hz => ?_)
      have J2 : ∀ (H : Heap) (locs : List Loc) (ls : Array Slot), zw G ca A s0.heap s0 (mm ca a f h c hi sn be tx ti) H locs → lv_has ls 3 [(2, .int (nI (k + 1))), (1, .int (nI (hgF c k))), (0, .ref (a 0))] → W pg l ev rm_X4_highest s0 mt args below meth cd H locs 0 0 Q (F0 mt 32 ls [.int (nI (hgF c (k + 1)))]) := by
        intro H locs ls hz hl
        refine lv_istore_n (lv' := [(1, .int (nI (hgF c (k + 1)))), (2, .int (nI (k + 1))), (0, .ref (a 0))]) (pc := 32) hx hb dX4_highest_32 rfl hl (by decide) rfl (fun ls hl => ?_)
        refine lv_iinc (v := nI (k + 1 + 1)) (lv' := [(2, .int (nI (k + 1 + 1))), (1, .int (nI (hgF c (k + 1)))), (0, .ref (a 0))]) (pc := 33) hx hb dX4_highest_33 hl (k := 1) rfl (nI_add (k + 1) 1) (by decide) rfl (fun ls hl => ?_)
        refine lv_goto (tgt := 4) (pc := 36) hx hb dX4_highest_36 (by decide) ?_
        exact ih (k + 1) (by omega) _ _ _ hz (lv_sub hl [0, 1, 2] rfl)
      refine lv_icmp_le (pc := 24) (tgt := 31) hx hb dX4_highest_24 (by decide) (fun c_24 => ?_) (fun c_24 => ?_)
      · refine lv_iload_n (pc := 31) hx hb dX4_highest_31 rfl (lv_at hl 1 rfl) ?_
        exact z_top (by rw [hgF]; simp only [if_pos c_24]) (J2 _ _ _ hz (lv_sub hl [0, 1, 2] rfl))
      · refine lv_iload_n (pc := 27) hx hb dX4_highest_27 rfl (lv_at hl 0 rfl) ?_
        refine lv_goto (tgt := 32) (pc := 28) hx hb dX4_highest_28 (by decide) ?_
        exact z_top (by rw [hgF]; simp only [if_neg c_24]) (J2 _ _ _ hz (lv_sub hl [0, 1, 2] rfl))
  exact loop1 7 0 (by omega) _ _ _ hz (lv_sub hl [0, 1, 2] rfl)

def rm_X4_full : Room := { frames := 2, cells := 0, slots := 0, locals := 43 }
set_option maxRecDepth 20000 in
theorem hdV_X4_full : yX4_full.cls = RX4 ∧ yX4_full.cls ≠ "java/lang/invoke/MethodHandle" ∧ yX4_full.cls ≠ "java/lang/invoke/VarHandle" ∧ (parseMethodDescriptor yX4_full.desc).map (fun d => d.parameters.length) = some 0 := by decide +kernel
set_option maxHeartbeats 4000000 in
set_option maxRecDepth 100000 in
theorem k_X4_full (l : Launch) (G : va_G) (ca : Nat → ClassId) (a : Nat → Nat) (f h : Nat → Int32) (c : Nat → Nat → Int32) (hi sn be tx ti : Nat → Int32) : Zc l G ca yX4_full (zws yX4_full cX4_full 3 (some .int)) rm_X4_full [.ref (a 0)] (mm ca a f h c hi sn be tx ti) (some (.int (fuF c 8))) (mm ca a f h c hi sn be tx ti) := by
  refine Zc.of (cc := cX4_full) (maxL := 3) (ret := (some .int)) (by decide) rfl (Nat.le_of_ble_eq_true rfl) ?_
  intro pg ev s0 mt below meth cd A args Q ls hx hb hr hml hown hts hlk hQ hl hz
  have hl : lv_has ls 3 [(0, .ref (a 0))] := hl
  refine lv_iconst (v := 0) (pc := 0) hx hb dX4_full_0 (by decide) ?_
  refine lv_istore_n (lv' := [(1, .int 0), (0, .ref (a 0))]) (pc := 1) hx hb dX4_full_1 rfl hl (by decide) rfl (fun ls hl => ?_)
  refine lv_iconst (v := 0) (pc := 2) hx hb dX4_full_2 (by decide) ?_
  refine lv_istore_n (lv' := [(2, .int 0), (1, .int 0), (0, .ref (a 0))]) (pc := 3) hx hb dX4_full_3 rfl hl (by decide) rfl (fun ls hl => ?_)
  have loop1 : ∀ cnt k : Nat, k + cnt = 8 → ∀ (H : Heap) (locs : List Loc) (ls : Array Slot), zw G ca A s0.heap s0 (mm ca a f h c hi sn be tx ti) H locs → lv_has ls 3 [(2, .int (nI k)), (1, .int (fuF c k)), (0, .ref (a 0))] → W pg l ev rm_X4_full s0 mt args below meth cd H locs 0 0 Q (F0 mt 4 ls []) := by
    intro cnt
    induction cnt with
    | zero =>
      intro k hk9 H locs ls hz hl
      obtain rfl : 8 = k := by omega
      refine lv_iload_n (pc := 4) hx hb dX4_full_4 rfl (lv_at hl 0 rfl) ?_
      refine lv_bipush (v := 8) (pc := 5) hx hb dX4_full_5 (by decide) ?_
      refine lv_icmp_ge (pc := 7) (tgt := 32) hx hb dX4_full_7 (by decide) (fun c_7 => ?_) (fun c9 => absurd (by decide) c9)
      refine lv_iload_n (pc := 32) hx hb dX4_full_32 rfl (lv_at hl 1 rfl) ?_
      exact z_iret (pc := 33) hx hb hr hlk hQ hz dX4_full_33 (by rfl) (by rfl)
    | succ cnt ih =>
      intro k hk9 H locs ls hz hl
      have hk : k < 8 := by omega
      refine lv_iload_n (pc := 4) hx hb dX4_full_4 rfl (lv_at hl 0 rfl) ?_
      refine lv_bipush (v := 8) (pc := 5) hx hb dX4_full_5 (by decide) ?_
      refine lv_icmp_ge (pc := 7) (tgt := 32) hx hb dX4_full_7 (by decide) (fun c9 => absurd c9 (nI_ge hk (by decide))) (fun c_7 => ?_)
      refine lv_iload_n (pc := 10) hx hb dX4_full_10 rfl (lv_at hl 1 rfl) ?_
      refine lv_aload_n (pc := 11) hx hb dX4_full_11 rfl (lv_at hl 2 rfl) ?_
      refine lv_iload_n (pc := 12) hx hb dX4_full_12 rfl (lv_at hl 0 rfl) ?_
      refine z_runV (pc := 13) (As := [.int (nI k)]) (rest := [.int (fuF c k)]) (ws1 := mm ca a f h c hi sn be tx ti) ⟨hx, hb, hml, hown, hts⟩ (k_X4_isFull l G ca a f h c hi sn be tx ti k (by assumption)) (cwV 1 hts (zgoodV zsub wq_15_5 wq_15_6 wq_15_7 wq_1_5 wq_15_8) rfl rfl rfl hdV_X4_isFull ⟨Nat.le_of_ble_eq_true rfl, Nat.le_of_ble_eq_true rfl⟩) hz [] zp_all zp_all' rfl rfl rfl hl.1 (Nat.le_of_ble_eq_true rfl) (st1 := [.int (fullF c k), .int (fuF c k)]) rfl dX4_full_13 ⟨Nat.zero_le _, Nat.zero_le _⟩ (fun H locs hz => ?_)
      have J2 : ∀ (H : Heap) (locs : List Loc) (ls : Array Slot), zw G ca A s0.heap s0 (mm ca a f h c hi sn be tx ti) H locs → lv_has ls 3 [(2, .int (nI k)), (1, .int (fuF c k)), (0, .ref (a 0))] → W pg l ev rm_X4_full s0 mt args below meth cd H locs 0 0 Q (F0 mt 24 ls [.int (if fullF c k = 0 then 0 else 1), .int (fuF c k)]) := by
        intro H locs ls hz hl
        refine lv_iadd (pc := 24) hx hb dX4_full_24 ?_
        refine lv_istore_n (lv' := [(1, .int ((fuF c k) + (if fullF c k = 0 then 0 else 1))), (2, .int (nI k)), (0, .ref (a 0))]) (pc := 25) hx hb dX4_full_25 rfl hl (by decide) rfl (fun ls hl => ?_)
        refine lv_iinc (v := nI (k + 1)) (lv' := [(2, .int (nI (k + 1))), (1, .int ((fuF c k) + (if fullF c k = 0 then 0 else 1))), (0, .ref (a 0))]) (pc := 26) hx hb dX4_full_26 hl (k := 1) rfl (nI_add k 1) (by decide) rfl (fun ls hl => ?_)
        refine lv_goto (tgt := 4) (pc := 29) hx hb dX4_full_29 (by decide) ?_
        exact ih (k + 1) (by omega) _ _ _ hz (lv_sub hl [0, 1, 2] rfl)
      refine lv_if_eq (pc := 16) (tgt := 23) hx hb dX4_full_16 (by decide) (fun c_16 => ?_) (fun c_16 => ?_)
      · refine lv_iconst (v := 0) (pc := 23) hx hb dX4_full_23 (by decide) ?_
        exact z_top (by simp only [if_pos c_16]) (J2 _ _ _ hz (lv_sub hl [0, 1, 2] rfl))
      · refine lv_iconst (v := 1) (pc := 19) hx hb dX4_full_19 (by decide) ?_
        refine lv_goto (tgt := 24) (pc := 20) hx hb dX4_full_20 (by decide) ?_
        exact z_top (by simp only [if_neg c_16]) (J2 _ _ _ hz (lv_sub hl [0, 1, 2] rfl))
  exact loop1 8 0 (by omega) _ _ _ hz (lv_sub hl [0, 1, 2] rfl)
