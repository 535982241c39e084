def rm_X4_doSetCup : Room := { frames := 2, cells := 0, slots := 0, locals := 44 }
set_option maxRecDepth 20000 in
theorem hdV_X4_doSetCup : yX4_doSetCup.cls = RX4 ∧ yX4_doSetCup.cls ≠ "java/lang/invoke/MethodHandle" ∧ yX4_doSetCup.cls ≠ "java/lang/invoke/VarHandle" ∧ (parseMethodDescriptor yX4_doSetCup.desc).map (fun d => d.parameters.length) = some 3 := by decide +kernel
set_option maxHeartbeats 4000000 in
set_option maxRecDepth 100000 in
theorem k_X4_doSetCup (l : Launch) (G : va_G) (ca : Nat → ClassId) (a : Nat → Nat) (f h : Nat → Int32) (c : Nat → Nat → Int32) (hi sn be tx ti : Nat → Int32) (cup which value : Int32) : Zc l G ca yX4_doSetCup (zws yX4_doSetCup cX4_doSetCup 5 (some .int)) rm_X4_doSetCup [.ref (a 0), .int cup, .int which, .int value] (mm ca a f h c hi sn be tx ti) (some (.int (setR c cup which value))) (mm ca a f h (setC c cup which value) hi sn be tx ti) := by
  refine Zc.of (cc := cX4_doSetCup) (maxL := 5) (ret := (some .int)) (by decide) rfl (Nat.le_of_ble_eq_true rfl) ?_
  intro pg ev s0 mt below meth cd A args Q ls hx hb hr hml hown hts hlk hQ hl hz
  have hl : lv_has ls 5 [(0, .ref (a 0)), (1, .int cup), (2, .int which), (3, .int value)] := hl
  refine lv_iload_n (pc := 0) hx hb dX4_doSetCup_0 rfl (lv_at hl 1 rfl) ?_
  refine z_runS (pc := 1) (As := [.int cup]) (rest := []) (ws1 := mm ca a f h c hi sn be tx ti) ⟨hx, hb, hml, hown, hts⟩ (k_X4_isCup l G ca cup) (cwS 1 hts (zgoodS zsub wq_7_2 wq_7_3 wq_1_5 wq_7_4) rfl rfl rfl hdV_X4_isCup ⟨Nat.le_of_ble_eq_true rfl, Nat.le_of_ble_eq_true rfl⟩) hz (mm ca a f h c hi sn be tx ti) zp_no (List.Perm.refl _) rfl hl.1 (Nat.le_of_ble_eq_true rfl) (st1 := [.int (inF cup 0 7)]) rfl dX4_doSetCup_1 ⟨Nat.zero_le _, Nat.zero_le _⟩ (fun H locs hz => ?_)
  refine lv_if_ne (pc := 4) (tgt := 9) hx hb dX4_doSetCup_4 (by decide) (fun c_4 => ?_) (fun c_4 => ?_)
  · obtain ⟨k, hk, rfl⟩ := isCup_pos c_4
    have hnk : nn (nI k) = k := nn_nI (by omega)
    refine lv_iload_n (pc := 9) hx hb dX4_doSetCup_9 rfl (lv_at hl 1 rfl) ?_
    refine lv_iload_n (pc := 10) hx hb dX4_doSetCup_10 rfl (lv_at hl 2 rfl) ?_
    refine lv_iload_n (pc := 11) hx hb dX4_doSetCup_11 rfl (lv_at hl 3 rfl) ?_
    refine z_runS (pc := 12) (As := [.int (nI k), .int which, .int value]) (rest := []) (ws1 := mm ca a f h c hi sn be tx ti) ⟨hx, hb, hml, hown, hts⟩ (k_X4_isValue l G ca (nI k) which value) (cwS 3 hts (zgoodS zsub wq_7_8 wq_7_9 wq_1_5 wq_7_10) rfl rfl rfl hdV_X4_isValue ⟨Nat.le_of_ble_eq_true rfl, Nat.le_of_ble_eq_true rfl⟩) hz (mm ca a f h c hi sn be tx ti) zp_no (List.Perm.refl _) rfl hl.1 (Nat.le_of_ble_eq_true rfl) (st1 := [.int (isValF (nI k) which value)]) rfl dX4_doSetCup_12 ⟨Nat.zero_le _, Nat.zero_le _⟩ (fun H locs hz => ?_)
    refine lv_if_ne (pc := 15) (tgt := 21) hx hb dX4_doSetCup_15 (by decide) (fun c_15 => ?_) (fun c_15 => ?_)
    · obtain ⟨w, hw, rfl⟩ := isVal_pos c_15
      have hnw : nn (nI w) = w := nn_nI (by omega)
      have hw12 : w < 12 := by omega
      refine lv_aload_n (pc := 21) hx hb dX4_doSetCup_21 rfl (lv_at hl 0 rfl) ?_
      refine lv_iload_n (pc := 22) hx hb dX4_doSetCup_22 rfl (lv_at hl 1 rfl) ?_
      refine lv_iload_n (pc := 23) hx hb dX4_doSetCup_23 rfl (lv_at hl 2 rfl) ?_
      refine z_runV (pc := 24) (As := [.int (nI k), .int (nI w)]) (rest := []) (ws1 := mm ca a f h c hi sn be tx ti) ⟨hx, hb, hml, hown, hts⟩ (k_X4_of l G ca a f h c hi sn be tx ti k w (by assumption) (by assumption)) (cwV 2 hts (zgoodV zsub wq_7_11 wq_7_12 wq_7_13 wq_1_5 wq_7_14) rfl rfl rfl hdV_X4_of ⟨Nat.le_of_ble_eq_true rfl, Nat.le_of_ble_eq_true rfl⟩) hz [] zp_all zp_all' rfl rfl rfl hl.1 (Nat.le_of_ble_eq_true rfl) (st1 := [.int (c k w)]) rfl dX4_doSetCup_24 ⟨Nat.zero_le _, Nat.zero_le _⟩ (fun H locs hz => ?_)
      refine lv_istore (lv' := [(4, .int (c k w)), (0, .ref (a 0)), (1, .int (nI k)), (2, .int (nI w)), (3, .int value)]) (pc := 27) hx hb dX4_doSetCup_27 hl (by decide) rfl (fun ls hl => ?_)
      refine lv_aload_n (pc := 29) hx hb dX4_doSetCup_29 rfl (lv_at hl 1 rfl) ?_
      refine lv_iload_n (pc := 30) hx hb dX4_doSetCup_30 rfl (lv_at hl 2 rfl) ?_
      refine lv_iload_n (pc := 31) hx hb dX4_doSetCup_31 rfl (lv_at hl 3 rfl) ?_
      refine lv_iload_n (pc := 32) hx hb dX4_doSetCup_32 rfl (lv_at hl 4 rfl) ?_
      refine z_runV (pc := 33) (As := [.int (nI k), .int (nI w), .int value]) (rest := []) (ws1 := mm ca a f h (u2 c k w value) hi sn be tx ti) ⟨hx, hb, hml, hown, hts⟩ (k_X4_lay l G ca a f h c hi sn be tx ti k w value (by assumption) (by assumption)) (cwV 3 hts (zgoodV zsub wq_4_13 wq_4_14 wq_4_15 wq_1_5 wq_4_16) rfl rfl rfl hdV_X4_lay ⟨Nat.le_of_ble_eq_true rfl, Nat.le_of_ble_eq_true rfl⟩) hz [] zp_all zp_all' rfl rfl rfl hl.1 (Nat.le_of_ble_eq_true rfl) (st1 := []) rfl dX4_doSetCup_33 ⟨Nat.zero_le _, Nat.zero_le _⟩ (fun H locs hz => ?_)
      refine lv_iload (pc := 36) hx hb dX4_doSetCup_36 (lv_at hl 0 rfl) ?_
      refine lv_iload_n (pc := 38) hx hb dX4_doSetCup_38 rfl (lv_at hl 4 rfl) ?_
      refine lv_icmp_ne (pc := 39) (tgt := 47) hx hb dX4_doSetCup_39 (by decide) (fun c_39 => ?_) (fun c_39 => ?_)
      · refine lv_iload (pc := 47) hx hb dX4_doSetCup_47 (lv_at hl 0 rfl) ?_
        exact z_iret (pc := 49) hx hb hr hlk hQ hz dX4_doSetCup_49 (by simp only [setR, if_neg c_4, if_neg c_15, if_neg c_39, hnk, hnw]) (by simp only [setC, if_neg c_4, if_neg c_15, if_neg c_39, hnk, hnw])
      · refine lv_bipush (v := -5) (pc := 42) hx hb dX4_doSetCup_42 (by decide) ?_
        refine lv_goto (tgt := 49) (pc := 44) hx hb dX4_doSetCup_44 (by decide) ?_
        exact z_iret (pc := 49) hx hb hr hlk hQ hz dX4_doSetCup_49 (by simp only [setR, if_neg c_4, if_neg c_15, if_pos c_39, hnk, hnw]) (by simp only [setC, if_neg c_4, if_neg c_15, if_pos c_39, hnk, hnw])
    · refine lv_bipush (v := -2) (pc := 18) hx hb dX4_doSetCup_18 (by decide) ?_
      exact z_iret (pc := 20) hx hb hr hlk hQ hz dX4_doSetCup_20 (by simp only [setR, if_neg c_4, if_pos c_15, hnk]) (by simp only [setC, if_neg c_4, if_pos c_15, hnk])
  · refine lv_iconst (v := -1) (pc := 7) hx hb dX4_doSetCup_7 (by decide) ?_
    exact z_iret (pc := 8) hx hb hr hlk hQ hz dX4_doSetCup_8 (by simp only [setR, if_pos c_4]) (by simp only [setC, if_pos c_4])

def rm_X4_doTurn : Room := { frames := 2, cells := 0, slots := 0, locals := 42 }
set_option maxRecDepth 20000 in
theorem hdV_X4_doTurn : yX4_doTurn.cls = RX4 ∧ yX4_doTurn.cls ≠ "java/lang/invoke/MethodHandle" ∧ yX4_doTurn.cls ≠ "java/lang/invoke/VarHandle" ∧ (parseMethodDescriptor yX4_doTurn.desc).map (fun d => d.parameters.length) = some 1 := by decide +kernel
set_option maxHeartbeats 4000000 in
set_option maxRecDepth 100000 in
theorem k_X4_doTurn (l : Launch) (G : va_G) (ca : Nat → ClassId) (a : Nat → Nat) (f h : Nat → Int32) (c : Nat → Nat → Int32) (hi sn be tx ti : Nat → Int32) (cup : Int32) : Zc l G ca yX4_doTurn (zws yX4_doTurn cX4_doTurn 2 (some .int)) rm_X4_doTurn [.ref (a 0), .int cup] (mm ca a f h c hi sn be tx ti) (some (.int (turnR c cup))) (mm ca a f h (turnC c cup) hi sn be tx ti) := by
  refine Zc.of (cc := cX4_doTurn) (maxL := 2) (ret := (some .int)) (by decide) rfl (Nat.le_of_ble_eq_true rfl) ?_
  intro pg ev s0 mt below meth cd A args Q ls hx hb hr hml hown hts hlk hQ hl hz
  have hl : lv_has ls 2 [(0, .ref (a 0)), (1, .int cup)] := hl
  refine lv_iload_n (pc := 0) hx hb dX4_doTurn_0 rfl (lv_at hl 1 rfl) ?_
  refine z_runS (pc := 1) (As := [.int cup]) (rest := []) (ws1 := mm ca a f h c hi sn be tx ti) ⟨hx, hb, hml, hown, hts⟩ (k_X4_isCup l G ca cup) (cwS 1 hts (zgoodS zsub wq_7_2 wq_7_3 wq_1_5 wq_7_4) rfl rfl rfl hdV_X4_isCup ⟨Nat.le_of_ble_eq_true rfl, Nat.le_of_ble_eq_true rfl⟩) hz (mm ca a f h c hi sn be tx ti) zp_no (List.Perm.refl _) rfl hl.1 (Nat.le_of_ble_eq_true rfl) (st1 := [.int (inF cup 0 7)]) rfl dX4_doTurn_1 ⟨Nat.zero_le _, Nat.zero_le _⟩ (fun H locs hz => ?_)
  refine lv_if_ne (pc := 4) (tgt := 9) hx hb dX4_doTurn_4 (by decide) (fun c_4 => ?_) (fun c_4 => ?_)
  · obtain ⟨k, hk, rfl⟩ := isCup_pos c_4
    have hnk : nn (nI k) = k := nn_nI (by omega)
    refine lv_aload_n (pc := 9) hx hb dX4_doTurn_9 rfl (lv_at hl 0 rfl) ?_
    refine lv_iload_n (pc := 10) hx hb dX4_doTurn_10 rfl (lv_at hl 1 rfl) ?_
    refine lv_bipush (v := 6) (pc := 11) hx hb dX4_doTurn_11 (by decide) ?_
    refine z_runV (pc := 13) (As := [.int (nI k), .int 6]) (rest := []) (ws1 := mm ca a f h c hi sn be tx ti) ⟨hx, hb, hml, hown, hts⟩ (k_X4_of l G ca a f h c hi sn be tx ti k 6 (by assumption) (by decide)) (cwV 2 hts (zgoodV zsub wq_7_11 wq_7_12 wq_7_13 wq_1_5 wq_7_14) rfl rfl rfl hdV_X4_of ⟨Nat.le_of_ble_eq_true rfl, Nat.le_of_ble_eq_true rfl⟩) hz [] zp_all zp_all' rfl rfl rfl hl.1 (Nat.le_of_ble_eq_true rfl) (st1 := [.int (c k 6)]) rfl dX4_doTurn_13 ⟨Nat.zero_le _, Nat.zero_le _⟩ (fun H locs hz => ?_)
    refine lv_iconst (v := 1) (pc := 16) hx hb dX4_doTurn_16 (by decide) ?_
    refine lv_icmp_ne (pc := 17) (tgt := 23) hx hb dX4_doTurn_17 (by decide) (fun c_17 => ?_) (fun c_17 => ?_)
    · refine lv_aload_n (pc := 23) hx hb dX4_doTurn_23 rfl (lv_at hl 0 rfl) ?_
      refine lv_iload_n (pc := 24) hx hb dX4_doTurn_24 rfl (lv_at hl 1 rfl) ?_
      refine lv_iconst (v := 5) (pc := 25) hx hb dX4_doTurn_25 (by decide) ?_
      refine lv_iconst (v := 1) (pc := 26) hx hb dX4_doTurn_26 (by decide) ?_
      refine lv_aload_n (pc := 27) hx hb dX4_doTurn_27 rfl (lv_at hl 0 rfl) ?_
      refine lv_iload_n (pc := 28) hx hb dX4_doTurn_28 rfl (lv_at hl 1 rfl) ?_
      refine lv_iconst (v := 5) (pc := 29) hx hb dX4_doTurn_29 (by decide) ?_
      refine z_runV (pc := 30) (As := [.int (nI k), .int 5]) (rest := [.int 1, .int 5, .int (nI k), .ref (a 0)]) (ws1 := mm ca a f h c hi sn be tx ti) ⟨hx, hb, hml, hown, hts⟩ (k_X4_of l G ca a f h c hi sn be tx ti k 5 (by assumption) (by decide)) (cwV 2 hts (zgoodV zsub wq_7_11 wq_7_12 wq_7_13 wq_1_5 wq_7_14) rfl rfl rfl hdV_X4_of ⟨Nat.le_of_ble_eq_true rfl, Nat.le_of_ble_eq_true rfl⟩) hz [] zp_all zp_all' rfl rfl rfl hl.1 (Nat.le_of_ble_eq_true rfl) (st1 := [.int (c k 5), .int 1, .int 5, .int (nI k), .ref (a 0)]) rfl dX4_doTurn_30 ⟨Nat.zero_le _, Nat.zero_le _⟩ (fun H locs hz => ?_)
      refine lv_isub (pc := 33) hx hb dX4_doTurn_33 ?_
      refine z_runV (pc := 34) (As := [.int (nI k), .int 5, .int (1 - (c k 5))]) (rest := []) (ws1 := mm ca a f h (u2 c k 5 (1 - (c k 5))) hi sn be tx ti) ⟨hx, hb, hml, hown, hts⟩ (k_X4_lay l G ca a f h c hi sn be tx ti k 5 (1 - (c k 5)) (by assumption) (by decide)) (cwV 3 hts (zgoodV zsub wq_4_13 wq_4_14 wq_4_15 wq_1_5 wq_4_16) rfl rfl rfl hdV_X4_lay ⟨Nat.le_of_ble_eq_true rfl, Nat.le_of_ble_eq_true rfl⟩) hz [] zp_all zp_all' rfl rfl rfl hl.1 (Nat.le_of_ble_eq_true rfl) (st1 := []) rfl dX4_doTurn_34 ⟨Nat.zero_le _, Nat.zero_le _⟩ (fun H locs hz => ?_)
      refine lv_aload_n (pc := 37) hx hb dX4_doTurn_37 rfl (lv_at hl 0 rfl) ?_
      refine lv_iload_n (pc := 38) hx hb dX4_doTurn_38 rfl (lv_at hl 1 rfl) ?_
      refine lv_iconst (v := 5) (pc := 39) hx hb dX4_doTurn_39 (by decide) ?_
      refine z_runV (pc := 40) (As := [.int (nI k), .int 5]) (rest := []) (ws1 := mm ca a f h (u2 c k 5 (1 - (c k 5))) hi sn be tx ti) ⟨hx, hb, hml, hown, hts⟩ (k_X4_of l G ca a f h (u2 c k 5 (1 - (c k 5))) hi sn be tx ti k 5 (by assumption) (by decide)) (cwV 2 hts (zgoodV zsub wq_7_11 wq_7_12 wq_7_13 wq_1_5 wq_7_14) rfl rfl rfl hdV_X4_of ⟨Nat.le_of_ble_eq_true rfl, Nat.le_of_ble_eq_true rfl⟩) hz [] zp_all zp_all' rfl rfl rfl hl.1 (Nat.le_of_ble_eq_true rfl) (st1 := [.int ((u2 c k 5 (1 - (c k 5))) k 5)]) rfl dX4_doTurn_40 ⟨Nat.zero_le _, Nat.zero_le _⟩ (fun H locs hz => ?_)
      refine z_top (y := 1 - c k 5) u2_s ?_
      exact z_iret (pc := 43) hx hb hr hlk hQ hz dX4_doTurn_43 (by simp only [turnR, if_neg c_4, if_neg c_17, hnk]) (by simp only [turnC, if_neg c_4, if_neg c_17, hnk])
    · refine lv_bipush (v := -4) (pc := 20) hx hb dX4_doTurn_20 (by decide) ?_
      exact z_iret (pc := 22) hx hb hr hlk hQ hz dX4_doTurn_22 (by simp only [turnR, if_neg c_4, if_pos c_17, hnk]) (by simp only [turnC, if_neg c_4, if_pos c_17, hnk])
  · refine lv_iconst (v := -1) (pc := 7) hx hb dX4_doTurn_7 (by decide) ?_
    exact z_iret (pc := 8) hx hb hr hlk hQ hz dX4_doTurn_8 (by simp only [turnR, if_pos c_4]) (by simp only [turnC, if_pos c_4])

def rm_X4_doSetHour : Room := { frames := 2, cells := 0, slots := 0, locals := 42 }
set_option maxRecDepth 20000 in
theorem hdV_X4_doSetHour : yX4_doSetHour.cls = RX4 ∧ yX4_doSetHour.cls ≠ "java/lang/invoke/MethodHandle" ∧ yX4_doSetHour.cls ≠ "java/lang/invoke/VarHandle" ∧ (parseMethodDescriptor yX4_doSetHour.desc).map (fun d => d.parameters.length) = some 2 := by decide +kernel
set_option maxHeartbeats 4000000 in
set_option maxRecDepth 100000 in
theorem k_X4_doSetHour (l : Launch) (G : va_G) (ca : Nat → ClassId) (a : Nat → Nat) (f h : Nat → Int32) (c : Nat → Nat → Int32) (hi sn be tx ti : Nat → Int32) (cup hour : Int32) : Zc l G ca yX4_doSetHour (zws yX4_doSetHour cX4_doSetHour 4 (some .int)) rm_X4_doSetHour [.ref (a 0), .int cup, .int hour] (mm ca a f h c hi sn be tx ti) (some (.int (hourR c cup hour))) (mm ca a f h (hourC c cup hour) hi sn be tx ti) := by
  refine Zc.of (cc := cX4_doSetHour) (maxL := 4) (ret := (some .int)) (by decide) rfl (Nat.le_of_ble_eq_true rfl) ?_
  intro pg ev s0 mt below meth cd A args Q ls hx hb hr hml hown hts hlk hQ hl hz
  have hl : lv_has ls 4 [(0, .ref (a 0)), (1, .int cup), (2, .int hour)] := hl
  refine lv_iload_n (pc := 0) hx hb dX4_doSetHour_0 rfl (lv_at hl 1 rfl) ?_
  refine z_runS (pc := 1) (As := [.int cup]) (rest := []) (ws1 := mm ca a f h c hi sn be tx ti) ⟨hx, hb, hml, hown, hts⟩ (k_X4_isCup l G ca cup) (cwS 1 hts (zgoodS zsub wq_7_2 wq_7_3 wq_1_5 wq_7_4) rfl rfl rfl hdV_X4_isCup ⟨Nat.le_of_ble_eq_true rfl, Nat.le_of_ble_eq_true rfl⟩) hz (mm ca a f h c hi sn be tx ti) zp_no (List.Perm.refl _) rfl hl.1 (Nat.le_of_ble_eq_true rfl) (st1 := [.int (inF cup 0 7)]) rfl dX4_doSetHour_1 ⟨Nat.zero_le _, Nat.zero_le _⟩ (fun H locs hz => ?_)
  refine lv_if_ne (pc := 4) (tgt := 9) hx hb dX4_doSetHour_4 (by decide) (fun c_4 => ?_) (fun c_4 => ?_)
  · obtain ⟨k, hk, rfl⟩ := isCup_pos c_4
    have hnk : nn (nI k) = k := nn_nI (by omega)
    refine lv_iload_n (pc := 9) hx hb dX4_doSetHour_9 rfl (lv_at hl 2 rfl) ?_
    refine lv_iconst (v := -1) (pc := 10) hx hb dX4_doSetHour_10 (by decide) ?_
    refine lv_sipush (v := 239) (pc := 11) hx hb dX4_doSetHour_11 (by decide) ?_
    refine z_runS (pc := 14) (As := [.int hour, .int (-1), .int 239]) (rest := []) (ws1 := mm ca a f h c hi sn be tx ti) ⟨hx, hb, hml, hown, hts⟩ (k_X4_in l G ca hour (-1) 239) (cwS 3 hts (zgoodS zsub wq_7_5 wq_7_6 wq_1_5 wq_7_7) rfl rfl rfl hdV_X4_in ⟨Nat.le_of_ble_eq_true rfl, Nat.le_of_ble_eq_true rfl⟩) hz (mm ca a f h c hi sn be tx ti) zp_no (List.Perm.refl _) rfl hl.1 (Nat.le_of_ble_eq_true rfl) (st1 := [.int (inF hour (-1) 239)]) rfl dX4_doSetHour_14 ⟨Nat.zero_le _, Nat.zero_le _⟩ (fun H locs hz => ?_)
    refine lv_if_ne (pc := 17) (tgt := 23) hx hb dX4_doSetHour_17 (by decide) (fun c_17 => ?_) (fun c_17 => ?_)
    · refine lv_aload_n (pc := 23) hx hb dX4_doSetHour_23 rfl (lv_at hl 0 rfl) ?_
      refine lv_iload_n (pc := 24) hx hb dX4_doSetHour_24 rfl (lv_at hl 1 rfl) ?_
      refine lv_iconst (v := 4) (pc := 25) hx hb dX4_doSetHour_25 (by decide) ?_
      refine z_runV (pc := 26) (As := [.int (nI k), .int 4]) (rest := []) (ws1 := mm ca a f h c hi sn be tx ti) ⟨hx, hb, hml, hown, hts⟩ (k_X4_of l G ca a f h c hi sn be tx ti k 4 (by assumption) (by decide)) (cwV 2 hts (zgoodV zsub wq_7_11 wq_7_12 wq_7_13 wq_1_5 wq_7_14) rfl rfl rfl hdV_X4_of ⟨Nat.le_of_ble_eq_true rfl, Nat.le_of_ble_eq_true rfl⟩) hz [] zp_all zp_all' rfl rfl rfl hl.1 (Nat.le_of_ble_eq_true rfl) (st1 := [.int (c k 4)]) rfl dX4_doSetHour_26 ⟨Nat.zero_le _, Nat.zero_le _⟩ (fun H locs hz => ?_)
      refine lv_istore_n (lv' := [(3, .int (c k 4)), (0, .ref (a 0)), (1, .int (nI k)), (2, .int hour)]) (pc := 29) hx hb dX4_doSetHour_29 rfl hl (by decide) rfl (fun ls hl => ?_)
      refine lv_iload_n (pc := 30) hx hb dX4_doSetHour_30 rfl (lv_at hl 0 rfl) ?_
      refine lv_iload_n (pc := 31) hx hb dX4_doSetHour_31 rfl (lv_at hl 3 rfl) ?_
      refine lv_icmp_ne (pc := 32) (tgt := 38) hx hb dX4_doSetHour_32 (by decide) (fun c_32 => ?_) (fun c_32 => ?_)
      · refine lv_aload_n (pc := 38) hx hb dX4_doSetHour_38 rfl (lv_at hl 1 rfl) ?_
        refine lv_iload_n (pc := 39) hx hb dX4_doSetHour_39 rfl (lv_at hl 2 rfl) ?_
        refine lv_iconst (v := 4) (pc := 40) hx hb dX4_doSetHour_40 (by decide) ?_
        refine lv_iload_n (pc := 41) hx hb dX4_doSetHour_41 rfl (lv_at hl 3 rfl) ?_
        refine z_runV (pc := 42) (As := [.int (nI k), .int 4, .int hour]) (rest := []) (ws1 := mm ca a f h (u2 c k 4 hour) hi sn be tx ti) ⟨hx, hb, hml, hown, hts⟩ (k_X4_lay l G ca a f h c hi sn be tx ti k 4 hour (by assumption) (by decide)) (cwV 3 hts (zgoodV zsub wq_4_13 wq_4_14 wq_4_15 wq_1_5 wq_4_16) rfl rfl rfl hdV_X4_lay ⟨Nat.le_of_ble_eq_true rfl, Nat.le_of_ble_eq_true rfl⟩) hz [] zp_all zp_all' rfl rfl rfl hl.1 (Nat.le_of_ble_eq_true rfl) (st1 := []) rfl dX4_doSetHour_42 ⟨Nat.zero_le _, Nat.zero_le _⟩ (fun H locs hz => ?_)
        refine lv_iload_n (pc := 45) hx hb dX4_doSetHour_45 rfl (lv_at hl 3 rfl) ?_
        refine lv_iconst (v := -1) (pc := 46) hx hb dX4_doSetHour_46 (by decide) ?_
        refine lv_icmp_ne (pc := 47) (tgt := 65) hx hb dX4_doSetHour_47 (by decide) (fun c_47 => ?_) (fun c_47 => ?_)
        · refine lv_iload_n (pc := 65) hx hb dX4_doSetHour_65 rfl (lv_at hl 0 rfl) ?_
          refine lv_iconst (v := -1) (pc := 66) hx hb dX4_doSetHour_66 (by decide) ?_
          refine lv_icmp_ne (pc := 67) (tgt := 76) hx hb dX4_doSetHour_67 (by decide) (fun c_67 => ?_) (fun c_67 => ?_)
          · refine lv_iload_n (pc := 76) hx hb dX4_doSetHour_76 rfl (lv_at hl 0 rfl) ?_
            exact z_iret (pc := 77) hx hb hr hlk hQ hz dX4_doSetHour_77 (by simp only [hourR, if_neg c_4, if_neg c_17, if_neg c_32, if_neg c_47, if_neg c_67, hnk]) (by simp only [hourC, if_neg c_4, if_neg c_17, if_neg c_32, if_neg c_47, if_neg c_67, hnk])
          · refine lv_sipush (v := 240) (pc := 70) hx hb dX4_doSetHour_70 (by decide) ?_
            refine lv_goto (tgt := 77) (pc := 73) hx hb dX4_doSetHour_73 (by decide) ?_
            exact z_iret (pc := 77) hx hb hr hlk hQ hz dX4_doSetHour_77 (by simp only [hourR, if_neg c_4, if_neg c_17, if_neg c_32, if_neg c_47, if_pos c_67, hnk]) (by simp only [hourC, if_neg c_4, if_neg c_17, if_neg c_32, if_neg c_47, if_pos c_67, hnk])
        · refine lv_aload_n (pc := 50) hx hb dX4_doSetHour_50 rfl (lv_at hl 1 rfl) ?_
          refine lv_iload_n (pc := 51) hx hb dX4_doSetHour_51 rfl (lv_at hl 2 rfl) ?_
          refine lv_bipush (v := 6) (pc := 52) hx hb dX4_doSetHour_52 (by decide) ?_
          refine lv_iconst (v := 0) (pc := 54) hx hb dX4_doSetHour_54 (by decide) ?_
          refine z_runV (pc := 55) (As := [.int (nI k), .int 6, .int 0]) (rest := []) (ws1 := mm ca a f h (u2 (u2 c k 4 hour) k 6 0) hi sn be tx ti) ⟨hx, hb, hml, hown, hts⟩ (k_X4_lay l G ca a f h (u2 c k 4 hour) hi sn be tx ti k 6 0 (by assumption) (by decide)) (cwV 3 hts (zgoodV zsub wq_4_13 wq_4_14 wq_4_15 wq_1_5 wq_4_16) rfl rfl rfl hdV_X4_lay ⟨Nat.le_of_ble_eq_true rfl, Nat.le_of_ble_eq_true rfl⟩) hz [] zp_all zp_all' rfl rfl rfl hl.1 (Nat.le_of_ble_eq_true rfl) (st1 := []) rfl dX4_doSetHour_55 ⟨Nat.zero_le _, Nat.zero_le _⟩ (fun H locs hz => ?_)
          refine lv_aload_n (pc := 58) hx hb dX4_doSetHour_58 rfl (lv_at hl 1 rfl) ?_
          refine lv_iload_n (pc := 59) hx hb dX4_doSetHour_59 rfl (lv_at hl 2 rfl) ?_
          refine lv_iconst (v := 5) (pc := 60) hx hb dX4_doSetHour_60 (by decide) ?_
          refine lv_iconst (v := 1) (pc := 61) hx hb dX4_doSetHour_61 (by decide) ?_
          refine z_runV (pc := 62) (As := [.int (nI k), .int 5, .int 1]) (rest := []) (ws1 := mm ca a f h (u2 (u2 (u2 c k 4 hour) k 6 0) k 5 1) hi sn be tx ti) ⟨hx, hb, hml, hown, hts⟩ (k_X4_lay l G ca a f h (u2 (u2 c k 4 hour) k 6 0) hi sn be tx ti k 5 1 (by assumption) (by decide)) (cwV 3 hts (zgoodV zsub wq_4_13 wq_4_14 wq_4_15 wq_1_5 wq_4_16) rfl rfl rfl hdV_X4_lay ⟨Nat.le_of_ble_eq_true rfl, Nat.le_of_ble_eq_true rfl⟩) hz [] zp_all zp_all' rfl rfl rfl hl.1 (Nat.le_of_ble_eq_true rfl) (st1 := []) rfl dX4_doSetHour_62 ⟨Nat.zero_le _, Nat.zero_le _⟩ (fun H locs hz => ?_)
          refine lv_iload_n (pc := 65) hx hb dX4_doSetHour_65 rfl (lv_at hl 0 rfl) ?_
          refine lv_iconst (v := -1) (pc := 66) hx hb dX4_doSetHour_66 (by decide) ?_
          refine lv_icmp_ne (pc := 67) (tgt := 76) hx hb dX4_doSetHour_67 (by decide) (fun c_67 => ?_) (fun c_67 => ?_)
          · refine lv_iload_n (pc := 76) hx hb dX4_doSetHour_76 rfl (lv_at hl 0 rfl) ?_
            exact z_iret (pc := 77) hx hb hr hlk hQ hz dX4_doSetHour_77 (by simp only [hourR, if_neg c_4, if_neg c_17, if_neg c_32, if_pos c_47, if_neg c_67, hnk]) (by simp only [hourC, if_neg c_4, if_neg c_17, if_neg c_32, if_pos c_47, if_neg c_67, hnk])
          · refine lv_sipush (v := 240) (pc := 70) hx hb dX4_doSetHour_70 (by decide) ?_
            refine lv_goto (tgt := 77) (pc := 73) hx hb dX4_doSetHour_73 (by decide) ?_
            exact z_iret (pc := 77) hx hb hr hlk hQ hz dX4_doSetHour_77 (by simp only [hourR, if_neg c_4, if_neg c_17, if_neg c_32, if_pos c_47, if_pos c_67, hnk]) (by simp only [hourC, if_neg c_4, if_neg c_17, if_neg c_32, if_pos c_47, if_pos c_67, hnk])
      · refine lv_bipush (v := -5) (pc := 35) hx hb dX4_doSetHour_35 (by decide) ?_
        exact z_iret (pc := 37) hx hb hr hlk hQ hz dX4_doSetHour_37 (by simp only [hourR, if_neg c_4, if_neg c_17, if_pos c_32, hnk]) (by simp only [hourC, if_neg c_4, if_neg c_17, if_pos c_32, hnk])
    · refine lv_bipush (v := -2) (pc := 20) hx hb dX4_doSetHour_20 (by decide) ?_
      exact z_iret (pc := 22) hx hb hr hlk hQ hz dX4_doSetHour_22 (by simp only [hourR, if_neg c_4, if_pos c_17, hnk]) (by simp only [hourC, if_neg c_4, if_pos c_17, hnk])
  · refine lv_iconst (v := -1) (pc := 7) hx hb dX4_doSetHour_7 (by decide) ?_
    exact z_iret (pc := 8) hx hb hr hlk hQ hz dX4_doSetHour_8 (by simp only [hourR, if_pos c_4]) (by simp only [hourC, if_pos c_4])

def rm_X4_doGuard : Room := { frames := 2, cells := 0, slots := 0, locals := 42 }
set_option maxRecDepth 20000 in
theorem hdV_X4_doGuard : yX4_doGuard.cls = RX4 ∧ yX4_doGuard.cls ≠ "java/lang/invoke/MethodHandle" ∧ yX4_doGuard.cls ≠ "java/lang/invoke/VarHandle" ∧ (parseMethodDescriptor yX4_doGuard.desc).map (fun d => d.parameters.length) = some 1 := by decide +kernel
set_option maxHeartbeats 4000000 in
set_option maxRecDepth 100000 in
theorem k_X4_doGuard (l : Launch) (G : va_G) (ca : Nat → ClassId) (a : Nat → Nat) (f h : Nat → Int32) (c : Nat → Nat → Int32) (hi sn be tx ti : Nat → Int32) (cup : Int32) : Zc l G ca yX4_doGuard (zws yX4_doGuard cX4_doGuard 2 (some .int)) rm_X4_doGuard [.ref (a 0), .int cup] (mm ca a f h c hi sn be tx ti) (some (.int (guardR c cup))) (mm ca a f h (guardC c cup) hi sn be tx ti) := by
  refine Zc.of (cc := cX4_doGuard) (maxL := 2) (ret := (some .int)) (by decide) rfl (Nat.le_of_ble_eq_true rfl) ?_
  intro pg ev s0 mt below meth cd A args Q ls hx hb hr hml hown hts hlk hQ hl hz
  have hl : lv_has ls 2 [(0, .ref (a 0)), (1, .int cup)] := hl
  refine lv_iload_n (pc := 0) hx hb dX4_doGuard_0 rfl (lv_at hl 1 rfl) ?_
  refine z_runS (pc := 1) (As := [.int cup]) (rest := []) (ws1 := mm ca a f h c hi sn be tx ti) ⟨hx, hb, hml, hown, hts⟩ (k_X4_isCup l G ca cup) (cwS 1 hts (zgoodS zsub wq_7_2 wq_7_3 wq_1_5 wq_7_4) rfl rfl rfl hdV_X4_isCup ⟨Nat.le_of_ble_eq_true rfl, Nat.le_of_ble_eq_true rfl⟩) hz (mm ca a f h c hi sn be tx ti) zp_no (List.Perm.refl _) rfl hl.1 (Nat.le_of_ble_eq_true rfl) (st1 := [.int (inF cup 0 7)]) rfl dX4_doGuard_1 ⟨Nat.zero_le _, Nat.zero_le _⟩ (fun H locs hz => ?_)
  refine lv_if_ne (pc := 4) (tgt := 9) hx hb dX4_doGuard_4 (by decide) (fun c_4 => ?_) (fun c_4 => ?_)
  · obtain ⟨k, hk, rfl⟩ := isCup_pos c_4
    have hnk : nn (nI k) = k := nn_nI (by omega)
    refine lv_aload_n (pc := 9) hx hb dX4_doGuard_9 rfl (lv_at hl 0 rfl) ?_
    refine lv_iload_n (pc := 10) hx hb dX4_doGuard_10 rfl (lv_at hl 1 rfl) ?_
    refine lv_iconst (v := 4) (pc := 11) hx hb dX4_doGuard_11 (by decide) ?_
    refine z_runV (pc := 12) (As := [.int (nI k), .int 4]) (rest := []) (ws1 := mm ca a f h c hi sn be tx ti) ⟨hx, hb, hml, hown, hts⟩ (k_X4_of l G ca a f h c hi sn be tx ti k 4 (by assumption) (by decide)) (cwV 2 hts (zgoodV zsub wq_7_11 wq_7_12 wq_7_13 wq_1_5 wq_7_14) rfl rfl rfl hdV_X4_of ⟨Nat.le_of_ble_eq_true rfl, Nat.le_of_ble_eq_true rfl⟩) hz [] zp_all zp_all' rfl rfl rfl hl.1 (Nat.le_of_ble_eq_true rfl) (st1 := [.int (c k 4)]) rfl dX4_doGuard_12 ⟨Nat.zero_le _, Nat.zero_le _⟩ (fun H locs hz => ?_)
    refine lv_iconst (v := -1) (pc := 15) hx hb dX4_doGuard_15 (by decide) ?_
    refine lv_icmp_ne (pc := 16) (tgt := 22) hx hb dX4_doGuard_16 (by decide) (fun c_16 => ?_) (fun c_16 => ?_)
    · refine lv_aload_n (pc := 22) hx hb dX4_doGuard_22 rfl (lv_at hl 0 rfl) ?_
      refine lv_iload_n (pc := 23) hx hb dX4_doGuard_23 rfl (lv_at hl 1 rfl) ?_
      refine lv_iconst (v := 5) (pc := 24) hx hb dX4_doGuard_24 (by decide) ?_
      refine lv_aload_n (pc := 25) hx hb dX4_doGuard_25 rfl (lv_at hl 0 rfl) ?_
      refine lv_iload_n (pc := 26) hx hb dX4_doGuard_26 rfl (lv_at hl 1 rfl) ?_
      refine lv_bipush (v := 6) (pc := 27) hx hb dX4_doGuard_27 (by decide) ?_
      refine z_runV (pc := 29) (As := [.int (nI k), .int 6]) (rest := [.int 5, .int (nI k), .ref (a 0)]) (ws1 := mm ca a f h c hi sn be tx ti) ⟨hx, hb, hml, hown, hts⟩ (k_X4_of l G ca a f h c hi sn be tx ti k 6 (by assumption) (by decide)) (cwV 2 hts (zgoodV zsub wq_7_11 wq_7_12 wq_7_13 wq_1_5 wq_7_14) rfl rfl rfl hdV_X4_of ⟨Nat.le_of_ble_eq_true rfl, Nat.le_of_ble_eq_true rfl⟩) hz [] zp_all zp_all' rfl rfl rfl hl.1 (Nat.le_of_ble_eq_true rfl) (st1 := [.int (c k 6), .int 5, .int (nI k), .ref (a 0)]) rfl dX4_doGuard_29 ⟨Nat.zero_le _, Nat.zero_le _⟩ (fun H locs hz => ?_)
      refine z_runV (pc := 32) (As := [.int (nI k), .int 5, .int (c k 6)]) (rest := []) (ws1 := mm ca a f h (u2 c k 5 (c k 6)) hi sn be tx ti) ⟨hx, hb, hml, hown, hts⟩ (k_X4_lay l G ca a f h c hi sn be tx ti k 5 (c k 6) (by assumption) (by decide)) (cwV 3 hts (zgoodV zsub wq_4_13 wq_4_14 wq_4_15 wq_1_5 wq_4_16) rfl rfl rfl hdV_X4_lay ⟨Nat.le_of_ble_eq_true rfl, Nat.le_of_ble_eq_true rfl⟩) hz [] zp_all zp_all' rfl rfl rfl hl.1 (Nat.le_of_ble_eq_true rfl) (st1 := []) rfl dX4_doGuard_32 ⟨Nat.zero_le _, Nat.zero_le _⟩ (fun H locs hz => ?_)
      refine lv_aload_n (pc := 35) hx hb dX4_doGuard_35 rfl (lv_at hl 0 rfl) ?_
      refine lv_iload_n (pc := 36) hx hb dX4_doGuard_36 rfl (lv_at hl 1 rfl) ?_
      refine lv_bipush (v := 6) (pc := 37) hx hb dX4_doGuard_37 (by decide) ?_
      refine lv_iconst (v := 1) (pc := 39) hx hb dX4_doGuard_39 (by decide) ?_
      refine lv_aload_n (pc := 40) hx hb dX4_doGuard_40 rfl (lv_at hl 0 rfl) ?_
      refine lv_iload_n (pc := 41) hx hb dX4_doGuard_41 rfl (lv_at hl 1 rfl) ?_
      refine lv_bipush (v := 6) (pc := 42) hx hb dX4_doGuard_42 (by decide) ?_
      refine z_runV (pc := 44) (As := [.int (nI k), .int 6]) (rest := [.int 1, .int 6, .int (nI k), .ref (a 0)]) (ws1 := mm ca a f h (u2 c k 5 (c k 6)) hi sn be tx ti) ⟨hx, hb, hml, hown, hts⟩ (k_X4_of l G ca a f h (u2 c k 5 (c k 6)) hi sn be tx ti k 6 (by assumption) (by decide)) (cwV 2 hts (zgoodV zsub wq_7_11 wq_7_12 wq_7_13 wq_1_5 wq_7_14) rfl rfl rfl hdV_X4_of ⟨Nat.le_of_ble_eq_true rfl, Nat.le_of_ble_eq_true rfl⟩) hz [] zp_all zp_all' rfl rfl rfl hl.1 (Nat.le_of_ble_eq_true rfl) (st1 := [.int ((u2 c k 5 (c k 6)) k 6), .int 1, .int 6, .int (nI k), .ref (a 0)]) rfl dX4_doGuard_44 ⟨Nat.zero_le _, Nat.zero_le _⟩ (fun H locs hz => ?_)
      rw [u2_nw (show (6 : Nat) ≠ 5 by decide)]
      refine lv_isub (pc := 47) hx hb dX4_doGuard_47 ?_
      refine z_runV (pc := 48) (As := [.int (nI k), .int 6, .int (1 - (c k 6))]) (rest := []) (ws1 := mm ca a f h (u2 (u2 c k 5 (c k 6)) k 6 (1 - (c k 6))) hi sn be tx ti) ⟨hx, hb, hml, hown, hts⟩ (k_X4_lay l G ca a f h (u2 c k 5 (c k 6)) hi sn be tx ti k 6 (1 - (c k 6)) (by assumption) (by decide)) (cwV 3 hts (zgoodV zsub wq_4_13 wq_4_14 wq_4_15 wq_1_5 wq_4_16) rfl rfl rfl hdV_X4_lay ⟨Nat.le_of_ble_eq_true rfl, Nat.le_of_ble_eq_true rfl⟩) hz [] zp_all zp_all' rfl rfl rfl hl.1 (Nat.le_of_ble_eq_true rfl) (st1 := []) rfl dX4_doGuard_48 ⟨Nat.zero_le _, Nat.zero_le _⟩ (fun H locs hz => ?_)
      refine lv_aload_n (pc := 51) hx hb dX4_doGuard_51 rfl (lv_at hl 0 rfl) ?_
      refine lv_iload_n (pc := 52) hx hb dX4_doGuard_52 rfl (lv_at hl 1 rfl) ?_
      refine lv_bipush (v := 6) (pc := 53) hx hb dX4_doGuard_53 (by decide) ?_
      refine z_runV (pc := 55) (As := [.int (nI k), .int 6]) (rest := []) (ws1 := mm ca a f h (u2 (u2 c k 5 (c k 6)) k 6 (1 - (c k 6))) hi sn be tx ti) ⟨hx, hb, hml, hown, hts⟩ (k_X4_of l G ca a f h (u2 (u2 c k 5 (c k 6)) k 6 (1 - (c k 6))) hi sn be tx ti k 6 (by assumption) (by decide)) (cwV 2 hts (zgoodV zsub wq_7_11 wq_7_12 wq_7_13 wq_1_5 wq_7_14) rfl rfl rfl hdV_X4_of ⟨Nat.le_of_ble_eq_true rfl, Nat.le_of_ble_eq_true rfl⟩) hz [] zp_all zp_all' rfl rfl rfl hl.1 (Nat.le_of_ble_eq_true rfl) (st1 := [.int ((u2 (u2 c k 5 (c k 6)) k 6 (1 - (c k 6))) k 6)]) rfl dX4_doGuard_55 ⟨Nat.zero_le _, Nat.zero_le _⟩ (fun H locs hz => ?_)
      refine z_top (y := 1 - c k 6) u2_s ?_
      exact z_iret (pc := 58) hx hb hr hlk hQ hz dX4_doGuard_58 (by simp only [guardR, if_neg c_4, if_neg c_16, hnk]) (by simp only [guardC, if_neg c_4, if_neg c_16, hnk])
    · refine lv_bipush (v := -4) (pc := 19) hx hb dX4_doGuard_19 (by decide) ?_
      exact z_iret (pc := 21) hx hb hr hlk hQ hz dX4_doGuard_21 (by simp only [guardR, if_neg c_4, if_pos c_16, hnk]) (by simp only [guardC, if_neg c_4, if_pos c_16, hnk])
  · refine lv_iconst (v := -1) (pc := 7) hx hb dX4_doGuard_7 (by decide) ?_
    exact z_iret (pc := 8) hx hb hr hlk hQ hz dX4_doGuard_8 (by simp only [guardR, if_pos c_4]) (by simp only [guardC, if_pos c_4])

def rm_X4_doFill : Room := { frames := 2, cells := 0, slots := 0, locals := 42 }
set_option maxRecDepth 20000 in
theorem hdV_X4_doFill : yX4_doFill.cls = RX4 ∧ yX4_doFill.cls ≠ "java/lang/invoke/MethodHandle" ∧ yX4_doFill.cls ≠ "java/lang/invoke/VarHandle" ∧ (parseMethodDescriptor yX4_doFill.desc).map (fun d => d.parameters.length) = some 2 := by decide +kernel
set_option maxHeartbeats 4000000 in
set_option maxRecDepth 100000 in
theorem k_X4_doFill (l : Launch) (G : va_G) (ca : Nat → ClassId) (a : Nat → Nat) (f h : Nat → Int32) (c : Nat → Nat → Int32) (hi sn be tx ti : Nat → Int32) (cup water : Int32) : Zc l G ca yX4_doFill (zws yX4_doFill cX4_doFill 3 (some .int)) rm_X4_doFill [.ref (a 0), .int cup, .int water] (mm ca a f h c hi sn be tx ti) (some (.int (fillR c cup water))) (mm ca a f (fillH h c cup water) (fillC c cup water) hi sn be tx ti) := by
  refine Zc.of (cc := cX4_doFill) (maxL := 3) (ret := (some .int)) (by decide) rfl (Nat.le_of_ble_eq_true rfl) ?_
  intro pg ev s0 mt below meth cd A args Q ls hx hb hr hml hown hts hlk hQ hl hz
  have L7 : (Cond.fieldLink RX4 7 "CupFountainModel" "s" "[I").before args s0 = true := hts _ (zsub _ wq_4_5)
  have hinX4 : ∀ w ∈ wsX40, w ∈ zws yX4_doFill cX4_doFill 3 (some .int) := fun w h => zsub w (wl_wsX40 w h)
  have hl : lv_has ls 3 [(0, .ref (a 0)), (1, .int cup), (2, .int water)] := hl
  refine lv_iload_n (pc := 0) hx hb dX4_doFill_0 rfl (lv_at hl 1 rfl) ?_
  refine z_runS (pc := 1) (As := [.int cup]) (rest := []) (ws1 := mm ca a f h c hi sn be tx ti) ⟨hx, hb, hml, hown, hts⟩ (k_X4_isCup l G ca cup) (cwS 1 hts (zgoodS zsub wq_7_2 wq_7_3 wq_1_5 wq_7_4) rfl rfl rfl hdV_X4_isCup ⟨Nat.le_of_ble_eq_true rfl, Nat.le_of_ble_eq_true rfl⟩) hz (mm ca a f h c hi sn be tx ti) zp_no (List.Perm.refl _) rfl hl.1 (Nat.le_of_ble_eq_true rfl) (st1 := [.int (inF cup 0 7)]) rfl dX4_doFill_1 ⟨Nat.zero_le _, Nat.zero_le _⟩ (fun H locs hz => ?_)
  refine lv_if_ne (pc := 4) (tgt := 9) hx hb dX4_doFill_4 (by decide) (fun c_4 => ?_) (fun c_4 => ?_)
  · obtain ⟨k, hk, rfl⟩ := isCup_pos c_4
    have hnk : nn (nI k) = k := nn_nI (by omega)
    refine lv_iload_n (pc := 9) hx hb dX4_doFill_9 rfl (lv_at hl 2 rfl) ?_
    refine lv_iconst (v := 1) (pc := 10) hx hb dX4_doFill_10 (by decide) ?_
    refine lv_bipush (v := 99) (pc := 11) hx hb dX4_doFill_11 (by decide) ?_
    refine z_runS (pc := 13) (As := [.int water, .int 1, .int 99]) (rest := []) (ws1 := mm ca a f h c hi sn be tx ti) ⟨hx, hb, hml, hown, hts⟩ (k_X4_in l G ca water 1 99) (cwS 3 hts (zgoodS zsub wq_7_5 wq_7_6 wq_1_5 wq_7_7) rfl rfl rfl hdV_X4_in ⟨Nat.le_of_ble_eq_true rfl, Nat.le_of_ble_eq_true rfl⟩) hz (mm ca a f h c hi sn be tx ti) zp_no (List.Perm.refl _) rfl hl.1 (Nat.le_of_ble_eq_true rfl) (st1 := [.int (inF water 1 99)]) rfl dX4_doFill_13 ⟨Nat.zero_le _, Nat.zero_le _⟩ (fun H locs hz => ?_)
    refine lv_if_ne (pc := 16) (tgt := 22) hx hb dX4_doFill_16 (by decide) (fun c_16 => ?_) (fun c_16 => ?_)
    · refine lv_aload_n (pc := 22) hx hb dX4_doFill_22 rfl (lv_at hl 0 rfl) ?_
      refine lv_iload_n (pc := 23) hx hb dX4_doFill_23 rfl (lv_at hl 1 rfl) ?_
      refine lv_iconst (v := 3) (pc := 24) hx hb dX4_doFill_24 (by decide) ?_
      refine z_runV (pc := 25) (As := [.int (nI k), .int 3]) (rest := []) (ws1 := mm ca a f h c hi sn be tx ti) ⟨hx, hb, hml, hown, hts⟩ (k_X4_of l G ca a f h c hi sn be tx ti k 3 (by assumption) (by decide)) (cwV 2 hts (zgoodV zsub wq_7_11 wq_7_12 wq_7_13 wq_1_5 wq_7_14) rfl rfl rfl hdV_X4_of ⟨Nat.le_of_ble_eq_true rfl, Nat.le_of_ble_eq_true rfl⟩) hz [] zp_all zp_all' rfl rfl rfl hl.1 (Nat.le_of_ble_eq_true rfl) (st1 := [.int (c k 3)]) rfl dX4_doFill_25 ⟨Nat.zero_le _, Nat.zero_le _⟩ (fun H locs hz => ?_)
      refine lv_iload_n (pc := 28) hx hb dX4_doFill_28 rfl (lv_at hl 2 rfl) ?_
      refine lv_iadd (pc := 29) hx hb dX4_doFill_29 ?_
      refine lv_sipush (v := 9999) (pc := 30) hx hb dX4_doFill_30 (by decide) ?_
      refine lv_icmp_le (pc := 33) (tgt := 39) hx hb dX4_doFill_33 (by decide) (fun c_33 => ?_) (fun c_33 => ?_)
      · refine lv_aload_n (pc := 39) hx hb dX4_doFill_39 rfl (lv_at hl 0 rfl) ?_
        refine lv_iload_n (pc := 40) hx hb dX4_doFill_40 rfl (lv_at hl 1 rfl) ?_
        refine lv_iconst (v := 3) (pc := 41) hx hb dX4_doFill_41 (by decide) ?_
        refine lv_aload_n (pc := 42) hx hb dX4_doFill_42 rfl (lv_at hl 0 rfl) ?_
        refine lv_iload_n (pc := 43) hx hb dX4_doFill_43 rfl (lv_at hl 1 rfl) ?_
        refine lv_iconst (v := 3) (pc := 44) hx hb dX4_doFill_44 (by decide) ?_
        refine z_runV (pc := 45) (As := [.int (nI k), .int 3]) (rest := [.int 3, .int (nI k), .ref (a 0)]) (ws1 := mm ca a f h c hi sn be tx ti) ⟨hx, hb, hml, hown, hts⟩ (k_X4_of l G ca a f h c hi sn be tx ti k 3 (by assumption) (by decide)) (cwV 2 hts (zgoodV zsub wq_7_11 wq_7_12 wq_7_13 wq_1_5 wq_7_14) rfl rfl rfl hdV_X4_of ⟨Nat.le_of_ble_eq_true rfl, Nat.le_of_ble_eq_true rfl⟩) hz [] zp_all zp_all' rfl rfl rfl hl.1 (Nat.le_of_ble_eq_true rfl) (st1 := [.int (c k 3), .int 3, .int (nI k), .ref (a 0)]) rfl dX4_doFill_45 ⟨Nat.zero_le _, Nat.zero_le _⟩ (fun H locs hz => ?_)
        refine lv_iload_n (pc := 48) hx hb dX4_doFill_48 rfl (lv_at hl 2 rfl) ?_
        refine lv_iadd (pc := 49) hx hb dX4_doFill_49 ?_
        refine z_runV (pc := 50) (As := [.int (nI k), .int 3, .int ((c k 3) + water)]) (rest := []) (ws1 := mm ca a f h (u2 c k 3 ((c k 3) + water)) hi sn be tx ti) ⟨hx, hb, hml, hown, hts⟩ (k_X4_lay l G ca a f h c hi sn be tx ti k 3 ((c k 3) + water) (by assumption) (by decide)) (cwV 3 hts (zgoodV zsub wq_4_13 wq_4_14 wq_4_15 wq_1_5 wq_4_16) rfl rfl rfl hdV_X4_lay ⟨Nat.le_of_ble_eq_true rfl, Nat.le_of_ble_eq_true rfl⟩) hz [] zp_all zp_all' rfl rfl rfl hl.1 (Nat.le_of_ble_eq_true rfl) (st1 := []) rfl dX4_doFill_50 ⟨Nat.zero_le _, Nat.zero_le _⟩ (fun H locs hz => ?_)
        refine lv_aload_n (pc := 53) hx hb dX4_doFill_53 rfl (lv_at hl 0 rfl) ?_
        refine z_get (own := RX4) (ref := "CupFountainModel") (C := RX4) (T := TX4) (N := 17) (ci := 4) (v := .ref (a 1)) (pc := 54) hx hb hts hinX4 hown hz 0 rfl rfl 0 (by decide) L7 rfl rfl dX4_doFill_54 ?_
        refine lv_iconst (v := 4) (pc := 57) hx hb dX4_doFill_57 (by decide) ?_
        refine lv_dup2_11 (pc := 58) hx hb dX4_doFill_58 rfl rfl ?_
        refine z_iald (x := h 4) (pc := 59) hx hb hz 1 rfl 4 rfl (by decide) (by decide) (enc_h (by decide)) dX4_doFill_59 ?_
        refine lv_iload_n (pc := 60) hx hb dX4_doFill_60 rfl (lv_at hl 2 rfl) ?_
        refine lv_iadd (pc := 61) hx hb dX4_doFill_61 ?_
        refine z_iast (ws1 := mm ca a f (upd h 4 ((h 4) + water)) (u2 c k 3 ((c k 3) + water)) hi sn be tx ti) (pc := 62) hx hb hz 1 rfl 4 rfl (by decide) (by decide) (by rw [enc_uh (by decide)]; rfl) dX4_doFill_62 (fun H locs hz => ?_)
        refine lv_aload_n (pc := 63) hx hb dX4_doFill_63 rfl (lv_at hl 0 rfl) ?_
        refine lv_iload_n (pc := 64) hx hb dX4_doFill_64 rfl (lv_at hl 1 rfl) ?_
        refine lv_iconst (v := 3) (pc := 65) hx hb dX4_doFill_65 (by decide) ?_
        refine z_runV (pc := 66) (As := [.int (nI k), .int 3]) (rest := []) (ws1 := mm ca a f (upd h 4 ((h 4) + water)) (u2 c k 3 ((c k 3) + water)) hi sn be tx ti) ⟨hx, hb, hml, hown, hts⟩ (k_X4_of l G ca a f (upd h 4 ((h 4) + water)) (u2 c k 3 ((c k 3) + water)) hi sn be tx ti k 3 (by assumption) (by decide)) (cwV 2 hts (zgoodV zsub wq_7_11 wq_7_12 wq_7_13 wq_1_5 wq_7_14) rfl rfl rfl hdV_X4_of ⟨Nat.le_of_ble_eq_true rfl, Nat.le_of_ble_eq_true rfl⟩) hz [] zp_all zp_all' rfl rfl rfl hl.1 (Nat.le_of_ble_eq_true rfl) (st1 := [.int ((u2 c k 3 ((c k 3) + water)) k 3)]) rfl dX4_doFill_66 ⟨Nat.zero_le _, Nat.zero_le _⟩ (fun H locs hz => ?_)
        refine z_top (y := c k 3 + water) u2_s ?_
        exact z_iret (pc := 69) hx hb hr hlk hQ hz dX4_doFill_69 (by simp only [fillR, if_neg c_4, if_neg c_16, if_pos c_33, hnk]) (by simp only [fillC, fillH, if_neg c_4, if_neg c_16, if_pos c_33, hnk])
      · refine lv_bipush (v := -3) (pc := 36) hx hb dX4_doFill_36 (by decide) ?_
        exact z_iret (pc := 38) hx hb hr hlk hQ hz dX4_doFill_38 (by simp only [fillR, if_neg c_4, if_neg c_16, if_neg c_33, hnk]) (by simp only [fillC, fillH, if_neg c_4, if_neg c_16, if_neg c_33, hnk])
    · refine lv_bipush (v := -2) (pc := 19) hx hb dX4_doFill_19 (by decide) ?_
      exact z_iret (pc := 21) hx hb hr hlk hQ hz dX4_doFill_21 (by simp only [fillR, if_neg c_4, if_pos c_16, hnk]) (by simp only [fillC, fillH, if_neg c_4, if_pos c_16, hnk])
  · refine lv_iconst (v := -1) (pc := 7) hx hb dX4_doFill_7 (by decide) ?_
    exact z_iret (pc := 8) hx hb hr hlk hQ hz dX4_doFill_8 (by simp only [fillR, if_pos c_4]) (by simp only [fillC, fillH, if_pos c_4])

def rm_X4_doSet : Room := { frames := 1, cells := 0, slots := 0, locals := 22 }
set_option maxRecDepth 20000 in
theorem hdV_X4_doSet : yX4_doSet.cls = RX4 ∧ yX4_doSet.cls ≠ "java/lang/invoke/MethodHandle" ∧ yX4_doSet.cls ≠ "java/lang/invoke/VarHandle" ∧ (parseMethodDescriptor yX4_doSet.desc).map (fun d => d.parameters.length) = some 2 := by decide +kernel
set_option maxHeartbeats 4000000 in
set_option maxRecDepth 100000 in
theorem k_X4_doSet (l : Launch) (G : va_G) (ca : Nat → ClassId) (a : Nat → Nat) (f h : Nat → Int32) (c : Nat → Nat → Int32) (hi sn be tx ti : Nat → Int32) (which value : Int32) : Zc l G ca yX4_doSet (zws yX4_doSet cX4_doSet 4 (some .int)) rm_X4_doSet [.ref (a 0), .int which, .int value] (mm ca a f h c hi sn be tx ti) (some (.int (putR h which value))) (mm ca a f (putH h which value) c hi sn be tx ti) := by
  refine Zc.of (cc := cX4_doSet) (maxL := 4) (ret := (some .int)) (by decide) rfl (Nat.le_of_ble_eq_true rfl) ?_
  intro pg ev s0 mt below meth cd A args Q ls hx hb hr hml hown hts hlk hQ hl hz
  have L7 : (Cond.fieldLink RX4 7 "CupFountainModel" "s" "[I").before args s0 = true := hts _ (zsub _ wq_4_5)
  have hinX4 : ∀ w ∈ wsX40, w ∈ zws yX4_doSet cX4_doSet 4 (some .int) := fun w h => zsub w (wl_wsX40 w h)
  have hl : lv_has ls 4 [(0, .ref (a 0)), (1, .int which), (2, .int value)] := hl
  refine lv_iload_n (pc := 0) hx hb dX4_doSet_0 rfl (lv_at hl 1 rfl) ?_
  refine lv_iconst (v := 0) (pc := 1) hx hb dX4_doSet_1 (by decide) ?_
  refine lv_iconst (v := 2) (pc := 2) hx hb dX4_doSet_2 (by decide) ?_
  refine z_runS (pc := 3) (As := [.int which, .int 0, .int 2]) (rest := []) (ws1 := mm ca a f h c hi sn be tx ti) ⟨hx, hb, hml, hown, hts⟩ (k_X4_in l G ca which 0 2) (cwS 3 hts (zgoodS zsub wq_7_5 wq_7_6 wq_1_5 wq_7_7) rfl rfl rfl hdV_X4_in ⟨Nat.le_of_ble_eq_true rfl, Nat.le_of_ble_eq_true rfl⟩) hz (mm ca a f h c hi sn be tx ti) zp_no (List.Perm.refl _) rfl hl.1 (Nat.le_of_ble_eq_true rfl) (st1 := [.int (inF which 0 2)]) rfl dX4_doSet_3 ⟨Nat.zero_le _, Nat.zero_le _⟩ (fun H locs hz => ?_)
  refine lv_if_ne (pc := 6) (tgt := 11) hx hb dX4_doSet_6 (by decide) (fun c_6 => ?_) (fun c_6 => ?_)
  · obtain ⟨j, hj, rfl⟩ := i32_nI (n := 2) (Or.inl rfl) rfl (by decide) (inF_ne c_6)
    have hnk : nn (nI j) = j := nn_nI (by omega)
    refine lv_iload_n (pc := 11) hx hb dX4_doSet_11 rfl (lv_at hl 2 rfl) ?_
    refine lv_iload_n (pc := 12) hx hb dX4_doSet_12 rfl (lv_at hl 1 rfl) ?_
    refine lv_iconst (v := 2) (pc := 13) hx hb dX4_doSet_13 (by decide) ?_
    have J1 : ∀ (H : Heap) (locs : List Loc) (ls : Array Slot), zw G ca A s0.heap s0 (mm ca a f h c hi sn be tx ti) H locs → lv_has ls 4 [(0, .ref (a 0)), (1, .int (nI j)), (2, .int value)] → W pg l ev rm_X4_doSet s0 mt args below meth cd H locs 0 0 Q (F0 mt 22 ls [.int (if nI j = 2 then 1 else 0), .int value]) := by
      intro H locs ls hz hl
      refine lv_iload_n (pc := 22) hx hb dX4_doSet_22 rfl (lv_at hl 1 rfl) ?_
      refine lv_iconst (v := 2) (pc := 23) hx hb dX4_doSet_23 (by decide) ?_
      have J2 : ∀ (H : Heap) (locs : List Loc) (ls : Array Slot), zw G ca A s0.heap s0 (mm ca a f h c hi sn be tx ti) H locs → lv_has ls 4 [(0, .ref (a 0)), (1, .int (nI j)), (2, .int value)] → W pg l ev rm_X4_doSet s0 mt args below meth cd H locs 0 0 Q (F0 mt 35 ls [.int (if nI j = 2 then 240 else 99), .int (if nI j = 2 then 1 else 0), .int value]) := by
        intro H locs ls hz hl
        refine z_runS (pc := 35) (As := [.int value, .int (if nI j = 2 then 1 else 0), .int (if nI j = 2 then 240 else 99)]) (rest := []) (ws1 := mm ca a f h c hi sn be tx ti) ⟨hx, hb, hml, hown, hts⟩ (k_X4_in l G ca value (if nI j = 2 then 1 else 0) (if nI j = 2 then 240 else 99)) (cwS 3 hts (zgoodS zsub wq_7_5 wq_7_6 wq_1_5 wq_7_7) rfl rfl rfl hdV_X4_in ⟨Nat.le_of_ble_eq_true rfl, Nat.le_of_ble_eq_true rfl⟩) hz (mm ca a f h c hi sn be tx ti) zp_no (List.Perm.refl _) rfl hl.1 (Nat.le_of_ble_eq_true rfl) (st1 := [.int (inF value (if nI j = 2 then 1 else 0) (if nI j = 2 then 240 else 99))]) rfl dX4_doSet_35 ⟨Nat.zero_le _, Nat.zero_le _⟩ (fun H locs hz => ?_)
        refine lv_if_ne (pc := 38) (tgt := 44) hx hb dX4_doSet_38 (by decide) (fun c_38 => ?_) (fun c_38 => ?_)
        · refine lv_aload_n (pc := 44) hx hb dX4_doSet_44 rfl (lv_at hl 0 rfl) ?_
          refine z_get (own := RX4) (ref := "CupFountainModel") (C := RX4) (T := TX4) (N := 17) (ci := 4) (v := .ref (a 1)) (pc := 45) hx hb hts hinX4 hown hz 0 rfl rfl 0 (by decide) L7 rfl rfl dX4_doSet_45 ?_
          refine lv_iconst (v := 5) (pc := 48) hx hb dX4_doSet_48 (by decide) ?_
          refine lv_iload_n (pc := 49) hx hb dX4_doSet_49 rfl (lv_at hl 1 rfl) ?_
          refine lv_iadd (pc := 50) hx hb dX4_doSet_50 ?_
          refine z_iald (x := h (5 + j)) (pc := 51) hx hb hz 1 rfl (5 + j) (nI_add 5 j) (by omega) (by decide) (enc_h (by omega)) dX4_doSet_51 ?_
          refine lv_istore_n (lv' := [(3, .int (h (5 + j))), (0, .ref (a 0)), (1, .int (nI j)), (2, .int value)]) (pc := 52) hx hb dX4_doSet_52 rfl hl (by decide) rfl (fun ls hl => ?_)
          refine lv_aload_n (pc := 53) hx hb dX4_doSet_53 rfl (lv_at hl 1 rfl) ?_
          refine z_get (own := RX4) (ref := "CupFountainModel") (C := RX4) (T := TX4) (N := 17) (ci := 4) (v := .ref (a 1)) (pc := 54) hx hb hts hinX4 hown hz 0 rfl rfl 0 (by decide) L7 rfl rfl dX4_doSet_54 ?_
          refine lv_iconst (v := 5) (pc := 57) hx hb dX4_doSet_57 (by decide) ?_
          refine lv_iload_n (pc := 58) hx hb dX4_doSet_58 rfl (lv_at hl 2 rfl) ?_
          refine lv_iadd (pc := 59) hx hb dX4_doSet_59 ?_
          refine lv_iload_n (pc := 60) hx hb dX4_doSet_60 rfl (lv_at hl 3 rfl) ?_
          refine z_iast (ws1 := mm ca a f (upd h (5 + j) value) c hi sn be tx ti) (pc := 61) hx hb hz 1 rfl (5 + j) (nI_add 5 j) (by omega) (by decide) (by rw [enc_uh (by omega)]; rfl) dX4_doSet_61 (fun H locs hz => ?_)
          refine lv_iload_n (pc := 62) hx hb dX4_doSet_62 rfl (lv_at hl 0 rfl) ?_
          refine lv_iload_n (pc := 63) hx hb dX4_doSet_63 rfl (lv_at hl 3 rfl) ?_
          refine lv_icmp_ne (pc := 64) (tgt := 72) hx hb dX4_doSet_64 (by decide) (fun c_64 => ?_) (fun c_64 => ?_)
          · refine lv_iload_n (pc := 72) hx hb dX4_doSet_72 rfl (lv_at hl 0 rfl) ?_
            exact z_iret (pc := 73) hx hb hr hlk hQ hz dX4_doSet_73 (by simp only [putR, if_neg c_6, if_neg c_38, if_neg c_64, hnk]) (by simp only [putH, if_neg c_6, if_neg c_38, if_neg c_64, hnk])
          · refine lv_bipush (v := -5) (pc := 67) hx hb dX4_doSet_67 (by decide) ?_
            refine lv_goto (tgt := 73) (pc := 69) hx hb dX4_doSet_69 (by decide) ?_
            exact z_iret (pc := 73) hx hb hr hlk hQ hz dX4_doSet_73 (by simp only [putR, if_neg c_6, if_neg c_38, if_pos c_64, hnk]) (by simp only [putH, if_neg c_6, if_neg c_38, if_pos c_64, hnk])
        · refine lv_bipush (v := -2) (pc := 41) hx hb dX4_doSet_41 (by decide) ?_
          exact z_iret (pc := 43) hx hb hr hlk hQ hz dX4_doSet_43 (by simp only [putR, if_neg c_6, if_pos c_38, hnk]) (by simp only [putH, if_neg c_6, if_pos c_38, hnk])
      refine lv_icmp_ne (pc := 24) (tgt := 33) hx hb dX4_doSet_24 (by decide) (fun c_24 => ?_) (fun c_24 => ?_)
      · refine lv_bipush (v := 99) (pc := 33) hx hb dX4_doSet_33 (by decide) ?_
        exact z_top (by simp only [if_neg c_24]) (J2 _ _ _ hz (lv_sub hl [0, 1, 2] rfl))
      · refine lv_sipush (v := 240) (pc := 27) hx hb dX4_doSet_27 (by decide) ?_
        refine lv_goto (tgt := 35) (pc := 30) hx hb dX4_doSet_30 (by decide) ?_
        exact z_top (by simp only [if_pos c_24]) (J2 _ _ _ hz (lv_sub hl [0, 1, 2] rfl))
    refine lv_icmp_ne (pc := 14) (tgt := 21) hx hb dX4_doSet_14 (by decide) (fun c_14 => ?_) (fun c_14 => ?_)
    · refine lv_iconst (v := 0) (pc := 21) hx hb dX4_doSet_21 (by decide) ?_
      exact z_top (by simp only [if_neg c_14]) (J1 _ _ _ hz (lv_sub hl [0, 1, 2] rfl))
    · refine lv_iconst (v := 1) (pc := 17) hx hb dX4_doSet_17 (by decide) ?_
      refine lv_goto (tgt := 22) (pc := 18) hx hb dX4_doSet_18 (by decide) ?_
      exact z_top (by simp only [if_pos c_14]) (J1 _ _ _ hz (lv_sub hl [0, 1, 2] rfl))
  · refine lv_iconst (v := -1) (pc := 9) hx hb dX4_doSet_9 (by decide) ?_
    exact z_iret (pc := 10) hx hb hr hlk hQ hz dX4_doSet_10 (by simp only [putR, if_pos c_6]) (by simp only [putH, if_pos c_6])

def rm_X4_doPass : Room := { frames := 4, cells := 0, slots := 0, locals := 96 }
set_option maxRecDepth 20000 in
theorem hdV_X4_doPass : yX4_doPass.cls = RX4 ∧ yX4_doPass.cls ≠ "java/lang/invoke/MethodHandle" ∧ yX4_doPass.cls ≠ "java/lang/invoke/VarHandle" ∧ (parseMethodDescriptor yX4_doPass.desc).map (fun d => d.parameters.length) = some 1 := by decide +kernel
set_option maxHeartbeats 4000000 in
set_option maxRecDepth 100000 in
theorem k_X4_doPass (l : Launch) (G : va_G) (ca : Nat → ClassId) (a : Nat → Nat) (f h : Nat → Int32) (c : Nat → Nat → Int32) (hi sn be tx ti : Nat → Int32) (ticks : Int32) (hok : okP (h, c)) : Zc l G ca yX4_doPass (zws yX4_doPass cX4_doPass 4 (some .int)) rm_X4_doPass [.ref (a 0), .int ticks] (mm ca a f h c hi sn be tx ti) (some (.int (passR (h, c) ticks))) (mm ca a f ((tkN (h, c) (passN (h, c) ticks)).1) ((tkN (h, c) (passN (h, c) ticks)).2) hi sn be tx (tkT (h, c) ti (passN (h, c) ticks))) := by
  refine Zc.of (cc := cX4_doPass) (maxL := 4) (ret := (some .int)) (by decide) rfl (Nat.le_of_ble_eq_true rfl) ?_
  intro pg ev s0 mt below meth cd A args Q ls hx hb hr hml hown hts hlk hQ hl hz
  have L7 : (Cond.fieldLink RX4 7 "CupFountainModel" "s" "[I").before args s0 = true := hts _ (zsub _ wq_4_5)
  have hinX4 : ∀ w ∈ wsX40, w ∈ zws yX4_doPass cX4_doPass 4 (some .int) := fun w h => zsub w (wl_wsX40 w h)
  have hl : lv_has ls 4 [(0, .ref (a 0)), (1, .int ticks)] := hl
  refine lv_iload_n (pc := 0) hx hb dX4_doPass_0 rfl (lv_at hl 1 rfl) ?_
  refine lv_iconst (v := 1) (pc := 1) hx hb dX4_doPass_1 (by decide) ?_
  refine lv_bipush (v := 99) (pc := 2) hx hb dX4_doPass_2 (by decide) ?_
  refine z_runS (pc := 4) (As := [.int ticks, .int 1, .int 99]) (rest := []) (ws1 := mm ca a f h c hi sn be tx ti) ⟨hx, hb, hml, hown, hts⟩ (k_X4_in l G ca ticks 1 99) (cwS 3 hts (zgoodS zsub wq_7_5 wq_7_6 wq_1_5 wq_7_7) rfl rfl rfl hdV_X4_in ⟨Nat.le_of_ble_eq_true rfl, Nat.le_of_ble_eq_true rfl⟩) hz (mm ca a f h c hi sn be tx ti) zp_no (List.Perm.refl _) rfl hl.1 (Nat.le_of_ble_eq_true rfl) (st1 := [.int (inF ticks 1 99)]) rfl dX4_doPass_4 ⟨Nat.zero_le _, Nat.zero_le _⟩ (fun H locs hz => ?_)
  refine lv_if_ne (pc := 7) (tgt := 13) hx hb dX4_doPass_7 (by decide) (fun c_7 => ?_) (fun c_7 => ?_)
  · obtain ⟨n, hn, rfl⟩ := i32_nI (n := 99) (Or.inr rfl) rfl (by decide) (inF_ne c_7)
    have hnk : nn (nI n) = n := nn_nI (by omega)
    refine lv_aload_n (pc := 13) hx hb dX4_doPass_13 rfl (lv_at hl 0 rfl) ?_
    refine z_get (own := RX4) (ref := "CupFountainModel") (C := RX4) (T := TX4) (N := 17) (ci := 4) (v := .ref (a 1)) (pc := 14) hx hb hts hinX4 hown hz 0 rfl rfl 0 (by decide) L7 rfl rfl dX4_doPass_14 ?_
    refine lv_iconst (v := 0) (pc := 17) hx hb dX4_doPass_17 (by decide) ?_
    refine z_iald (x := h 0) (pc := 18) hx hb hz 1 rfl 0 rfl (by decide) (by decide) (enc_h (by decide)) dX4_doPass_18 ?_
    refine lv_iload_n (pc := 19) hx hb dX4_doPass_19 rfl (lv_at hl 1 rfl) ?_
    refine lv_iadd (pc := 20) hx hb dX4_doPass_20 ?_
    refine lv_ldc (own := RX4) (v := 99999) (pc := 21) hx hb hown (hts _ (zsub _ wq_14_8)) dX4_doPass_21 ?_
    refine lv_icmp_le (pc := 23) (tgt := 29) hx hb dX4_doPass_23 (by decide) (fun c_23 => ?_) (fun c_23 => ?_)
    · refine lv_aload_n (pc := 29) hx hb dX4_doPass_29 rfl (lv_at hl 0 rfl) ?_
      refine lv_bipush (v := 8) (pc := 30) hx hb dX4_doPass_30 (by decide) ?_
      refine z_runV (pc := 32) (As := [.int 8]) (rest := []) (ws1 := mm ca a f h c hi sn be tx ti) ⟨hx, hb, hml, hown, hts⟩ (k_X4_sumOf l G ca a f h c hi sn be tx ti 8 (by decide)) (cwV 1 hts (zgoodV zsub wq_14_9 wq_14_10 wq_14_11 wq_1_5 wq_14_12) rfl rfl rfl hdV_X4_sumOf ⟨Nat.le_of_ble_eq_true rfl, Nat.le_of_ble_eq_true rfl⟩) hz [] zp_all zp_all' rfl rfl rfl hl.1 (Nat.le_of_ble_eq_true rfl) (st1 := [.int (sumF c 8 8)]) rfl dX4_doPass_32 ⟨Nat.zero_le _, Nat.zero_le _⟩ (fun H locs hz => ?_)
      refine lv_istore_n (lv' := [(2, .int (sumF c 8 8)), (0, .ref (a 0)), (1, .int (nI n))]) (pc := 35) hx hb dX4_doPass_35 rfl hl (by decide) rfl (fun ls hl => ?_)
      refine lv_iconst (v := 0) (pc := 36) hx hb dX4_doPass_36 (by decide) ?_
      refine lv_istore_n (lv' := [(3, .int 0), (2, .int (sumF c 8 8)), (0, .ref (a 0)), (1, .int (nI n))]) (pc := 37) hx hb dX4_doPass_37 rfl hl (by decide) rfl (fun ls hl => ?_)
      have loop1 : ∀ cnt i : Nat, i + cnt = n → ∀ (H : Heap) (locs : List Loc) (ls : Array Slot), zw G ca A s0.heap s0 (mm ca a f ((tkN (h, c) i).1) ((tkN (h, c) i).2) hi sn be tx (tkT (h, c) ti i)) H locs → lv_has ls 4 [(3, .int (nI i)), (2, .int (sumF c 8 8)), (0, .ref (a 0)), (1, .int (nI n))] → W pg l ev rm_X4_doPass s0 mt args below meth cd H locs 0 0 Q (F0 mt 38 ls []) := by
        intro cnt
        induction cnt with
        | zero =>
          intro i hk9 H locs ls hz hl
          obtain rfl : n = i := by omega
          refine lv_iload_n (pc := 38) hx hb dX4_doPass_38 rfl (lv_at hl 0 rfl) ?_
          refine lv_iload_n (pc := 39) hx hb dX4_doPass_39 rfl (lv_at hl 3 rfl) ?_
          refine lv_icmp_ge (pc := 40) (tgt := 53) hx hb dX4_doPass_40 (by decide) (fun c_40 => ?_) (fun c9 => absurd (nI_le (Nat.le_refl _) (by omega)) c9)
          refine lv_aload_n (pc := 53) hx hb dX4_doPass_53 rfl (lv_at hl 2 rfl) ?_
          refine lv_bipush (v := 8) (pc := 54) hx hb dX4_doPass_54 (by decide) ?_
          refine z_runV (pc := 56) (As := [.int 8]) (rest := []) (ws1 := mm ca a f ((tkN (h, c) n).1) ((tkN (h, c) n).2) hi sn be tx (tkT (h, c) ti n)) ⟨hx, hb, hml, hown, hts⟩ (k_X4_sumOf l G ca a f ((tkN (h, c) n).1) ((tkN (h, c) n).2) hi sn be tx (tkT (h, c) ti n) 8 (by decide)) (cwV 1 hts (zgoodV zsub wq_14_9 wq_14_10 wq_14_11 wq_1_5 wq_14_12) rfl rfl rfl hdV_X4_sumOf ⟨Nat.le_of_ble_eq_true rfl, Nat.le_of_ble_eq_true rfl⟩) hz [] zp_all zp_all' rfl rfl rfl hl.1 (Nat.le_of_ble_eq_true rfl) (st1 := [.int (sumF ((tkN (h, c) n).2) 8 8)]) rfl dX4_doPass_56 ⟨Nat.zero_le _, Nat.zero_le _⟩ (fun H locs hz => ?_)
          refine lv_iload_n (pc := 59) hx hb dX4_doPass_59 rfl (lv_at hl 1 rfl) ?_
          refine lv_isub (pc := 60) hx hb dX4_doPass_60 ?_
          exact z_iret (pc := 61) hx hb hr hlk hQ hz dX4_doPass_61 (by simp only [passR, if_neg c_7, if_pos c_23, if_pos c_40, hnk]) (by simp only [passN, tkN_0, tkT_0, if_neg c_7, if_pos c_23, if_pos c_40, hnk])
        | succ cnt ih =>
          intro i hk9 H locs ls hz hl
          have hk : i < n := by omega
          refine lv_iload_n (pc := 38) hx hb dX4_doPass_38 rfl (lv_at hl 0 rfl) ?_
          refine lv_iload_n (pc := 39) hx hb dX4_doPass_39 rfl (lv_at hl 3 rfl) ?_
          refine lv_icmp_ge (pc := 40) (tgt := 53) hx hb dX4_doPass_40 (by decide) (fun c9 => absurd c9 (nI_ge hk (by omega))) (fun c_40 => ?_)
          refine lv_aload_n (pc := 43) hx hb dX4_doPass_43 rfl (lv_at hl 2 rfl) ?_
          refine z_runV (pc := 44) (As := []) (rest := []) (ws1 := mm ca a f ((tkN (h, c) (i + 1)).1) ((tkN (h, c) (i + 1)).2) hi sn be tx (tkT (h, c) ti (i + 1))) ⟨hx, hb, hml, hown, hts⟩ (k_X4_tick l G ca a f ((tkN (h, c) i).1) ((tkN (h, c) i).2) hi sn be tx (tkT (h, c) ti i) (hok.ticks i)) (cwV 0 hts (zgoodV zsub wq_14_13 wq_14_14 wq_14_15 wq_1_5 wq_14_16) rfl rfl rfl hdV_X4_tick ⟨Nat.le_of_ble_eq_true rfl, Nat.le_of_ble_eq_true rfl⟩) hz [] zp_all (by rw [List.append_nil]; exact List.Perm.refl _) rfl rfl rfl hl.1 (Nat.le_of_ble_eq_true rfl) (st1 := []) rfl dX4_doPass_44 ⟨Nat.zero_le _, Nat.zero_le _⟩ (fun H locs hz => ?_)
          refine lv_iinc (v := nI (i + 1)) (lv' := [(3, .int (nI (i + 1))), (2, .int (sumF c 8 8)), (0, .ref (a 0)), (1, .int (nI n))]) (pc := 47) hx hb dX4_doPass_47 hl (k := 0) rfl (nI_add i 1) (by decide) rfl (fun ls hl => ?_)
          refine lv_goto (tgt := 38) (pc := 50) hx hb dX4_doPass_50 (by decide) ?_
          exact ih (i + 1) (by omega) _ _ _ hz (lv_sub hl [0, 1, 2, 3] rfl)
      exact loop1 n 0 (by omega) _ _ _ (hz.as (by rw [tkN_0, tkT_0])) (lv_sub hl [0, 1, 2, 3] rfl)
    · refine lv_bipush (v := -3) (pc := 26) hx hb dX4_doPass_26 (by decide) ?_
      exact z_iret (pc := 28) hx hb hr hlk hQ hz dX4_doPass_28 (by simp only [passR, if_neg c_7, if_neg c_23, hnk]) (by simp only [passN, tkN_0, tkT_0, if_neg c_7, if_neg c_23, hnk])
  · refine lv_bipush (v := -2) (pc := 10) hx hb dX4_doPass_10 (by decide) ?_
    exact z_iret (pc := 12) hx hb hr hlk hQ hz dX4_doPass_12 (by simp only [passR, if_pos c_7]) (by simp only [passN, tkN_0, tkT_0, if_pos c_7])
