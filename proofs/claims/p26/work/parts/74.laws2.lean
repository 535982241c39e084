def rm_L_starves : Room := { frames := 5, cells := 0, slots := 0, locals := 115 }
set_option maxRecDepth 20000 in
theorem hdV_L_starves : yL_starves.cls = RL ∧ yL_starves.cls ≠ "java/lang/invoke/MethodHandle" ∧ yL_starves.cls ≠ "java/lang/invoke/VarHandle" ∧ (parseMethodDescriptor yL_starves.desc).map (fun d => d.parameters.length) = some 1 := by decide +kernel
set_option maxHeartbeats 4000000 in
set_option maxRecDepth 100000 in
theorem k_L_starves (l : Launch) (G : va_G) (ca : Nat → ClassId) (o : Nat) (w : va_W) (p : HC) (K : Option HC) (hF : FW ca o p K w) {F : Nat} (hP : PI F p) : Zw l G ca yL_starves (zws yL_starves cL_starves 4 (some .boolean)) rm_L_starves [.ref o] w ((some (.int 1))) (fun w1 => FW ca o p K w1) 0 0 := by
  refine Zw.of (cc := cL_starves) (maxL := 4) (ret := (some .boolean)) (by decide) rfl (Nat.le_of_ble_eq_true rfl) ?_
  intro pg ev s0 mt below meth cd A args Q ls hx hb hr hml hown hts hlk hQ hl hz
  have hl : lv_has ls 4 [(0, .ref o)] := hl
  obtain ⟨fs0, tl0, ew⟩ := hF.h1
  have hci := hP.1.1
  refine lv_aload_n (pc := 0) hx hb dL_starves_0 rfl (lv_at hl 0 rfl) ?_
  obtain ⟨w1, z1, hF1⟩ := f_starving (l := l) (G := G) hF hci 
  obtain ⟨fsw1, tlw1, ew1⟩ := hF1.h1
  refine z_runV (pc := 1) (As := []) (rest := []) (ws1 := w1) ⟨hx, hb, hml, hown, hts⟩ (z1) (cwV 0 hts (zgoodV zsub wq_11_5 wq_11_6 wq_11_7 wq_1_2 wq_11_8) rfl rfl rfl hdV_X3_starving ⟨Nat.le_of_ble_eq_true rfl, Nat.le_of_ble_eq_true rfl⟩) hz [] zp_all zp_all' ew rfl rfl hl.1 (Nat.le_of_ble_eq_true rfl) (st1 := [.int (kst3 (kN5 p) p)]) rfl dL_starves_1 ⟨Nat.le_of_ble_eq_true rfl, Nat.le_of_ble_eq_true rfl⟩ (fun H locs hz => ?_)
  refine z_top (y := stF p 8) (starve_eq hP.1.1 hP.1.ti) ?_
  rcases sv_cases p with ⟨es, hno⟩ | ⟨c, hc8, es, ec, hno⟩
  · refine z_top (y := -5) es ?_
    refine lv_istore_n (lv' := [(1, .int (-5)), (0, .ref o)]) (pc := 4) hx hb dL_starves_4 rfl hl (by decide) rfl (fun ls hl => ?_)
    refine lv_iload_n (pc := 5) hx hb dL_starves_5 rfl (lv_at hl 0 rfl) ?_
    refine lv_bipush (v := -5) (pc := 6) hx hb dL_starves_6 (by decide) ?_
    refine lv_icmp_eq (pc := 8) (tgt := 21) hx hb dL_starves_8 (by decide) (fun c_8 => ?_) (fun c9 => absurd rfl c9)
    refine lv_iconst (v := 1) (pc := 21) hx hb dL_starves_21 (by decide) ?_
    refine lv_goto (tgt := 26) (pc := 22) hx hb dL_starves_22 (by decide) ?_
    refine lv_istore_n (lv' := [(2, .int 1), (1, .int (-5)), (0, .ref o)]) (pc := 26) hx hb dL_starves_26 rfl hl (by decide) rfl (fun ls hl => ?_)
    refine lv_iconst (v := 0) (pc := 27) hx hb dL_starves_27 (by decide) ?_
    refine lv_istore_n (lv' := [(3, .int 0), (2, .int 1), (1, .int (-5)), (0, .ref o)]) (pc := 28) hx hb dL_starves_28 rfl hl (by decide) rfl (fun ls hl => ?_)
    have loop1 : ∀ cnt k : Nat, k + cnt = 8 → ∀ (w : va_W) , FW ca o p K w → ∀ (H : Heap) (locs : List Loc) (ls : Array Slot), zw G ca A s0.heap s0 w H locs → lv_has ls 4 [(3, .int (nI k)), (2, .int 1), (1, .int (-5)), (0, .ref o)] → W pg l ev rm_L_starves s0 mt args below meth cd H locs 0 0 Q (F0 mt 29 ls []) := by
      intro cnt
      induction cnt with
      | zero =>
        intro k hk9 w  hF  H locs ls hz hl
        obtain rfl : 8 = k := by omega
        obtain ⟨fs0, tl0, ew⟩ := hF.h1
        refine lv_iload_n (pc := 29) hx hb dL_starves_29 rfl (lv_at hl 0 rfl) ?_
        refine lv_iload_n (pc := 30) hx hb dL_starves_30 rfl (lv_at hl 2 rfl) ?_
        refine lv_if_ge (pc := 31) (tgt := 39) hx hb dL_starves_31 (by decide) (fun c9 => absurd c9 (by decide)) (fun c_31 => ?_)
        refine lv_bipush (v := 8) (pc := 34) hx hb dL_starves_34 (by decide) ?_
        refine lv_goto (tgt := 40) (pc := 36) hx hb dL_starves_36 (by decide) ?_
        refine lv_icmp_ge (pc := 40) (tgt := 67) hx hb dL_starves_40 (by decide) (fun c_40 => ?_) (fun c9 => absurd (Int32.le_refl _) c9)
        refine lv_iload_n (pc := 67) hx hb dL_starves_67 rfl (lv_at hl 1 rfl) ?_
        exact z_zretW (pc := 68) hx hb hr hlk hQ hz (Nat.le_of_ble_eq_true rfl) (Nat.le_of_ble_eq_true rfl) rfl dL_starves_68 (by rfl) (hF)
      | succ cnt ih =>
        intro k hk9 w  hF  H locs ls hz hl
        have hk : k < 8 := by omega
        obtain ⟨fs0, tl0, ew⟩ := hF.h1
        have hpos := ut_pos (hno k (by omega))
        refine lv_iload_n (pc := 29) hx hb dL_starves_29 rfl (lv_at hl 0 rfl) ?_
        refine lv_iload_n (pc := 30) hx hb dL_starves_30 rfl (lv_at hl 2 rfl) ?_
        refine lv_if_ge (pc := 31) (tgt := 39) hx hb dL_starves_31 (by decide) (fun c9 => absurd c9 (by decide)) (fun c_31 => ?_)
        refine lv_bipush (v := 8) (pc := 34) hx hb dL_starves_34 (by decide) ?_
        refine lv_goto (tgt := 40) (pc := 36) hx hb dL_starves_36 (by decide) ?_
        refine lv_icmp_ge (pc := 40) (tgt := 67) hx hb dL_starves_40 (by decide) (fun c9 => absurd c9 (nI_ge hk (by omega))) (fun c_40 => ?_)
        refine lv_iload_n (pc := 43) hx hb dL_starves_43 rfl (lv_at hl 1 rfl) ?_
        refine lv_if_eq (pc := 44) (tgt := 67) hx hb dL_starves_44 (by decide) (fun c9 => absurd c9 i10) (fun c_44 => ?_)
        refine lv_aload_n (pc := 47) hx hb dL_starves_47 rfl (lv_at hl 3 rfl) ?_
        refine lv_iload_n (pc := 48) hx hb dL_starves_48 rfl (lv_at hl 0 rfl) ?_
        obtain ⟨w2, z2, hF2⟩ := f_tipsIn (l := l) (G := G) hF hci (nI k)
        obtain ⟨fsw2, tlw2, ew2⟩ := hF2.h1
        refine z_runV (pc := 49) (As := [.int (nI k)]) (rest := []) (ws1 := w2) ⟨hx, hb, hml, hown, hts⟩ (z2) (cwV 1 hts (zgoodV zsub wq_20_6 wq_20_7 wq_20_8 wq_1_2 wq_20_9) rfl rfl rfl hdV_X3_tipsIn ⟨Nat.le_of_ble_eq_true rfl, Nat.le_of_ble_eq_true rfl⟩) hz [] zp_all zp_all' ew rfl rfl hl.1 (Nat.le_of_ble_eq_true rfl) (st1 := [.int (ktiR p (nI k))]) rfl dL_starves_49 ⟨Nat.le_of_ble_eq_true rfl, Nat.le_of_ble_eq_true rfl⟩ (fun H locs hz => ?_)
        refine z_top (y := utF p k 500 0) (ti_k hP (by omega)) ?_
        refine lv_if_le (pc := 52) (tgt := 59) hx hb dL_starves_52 (by decide) (fun c9 => absurd c9 hpos) (fun c_52 => ?_)
        refine lv_iconst (v := 1) (pc := 55) hx hb dL_starves_55 (by decide) ?_
        refine lv_goto (tgt := 60) (pc := 56) hx hb dL_starves_56 (by decide) ?_
        refine lv_istore_n (lv' := [(2, .int 1), (3, .int (nI k)), (1, .int (-5)), (0, .ref o)]) (pc := 60) hx hb dL_starves_60 rfl hl (by decide) rfl (fun ls hl => ?_)
        refine lv_iinc (v := nI (k + 1)) (lv' := [(3, .int (nI (k + 1))), (2, .int 1), (1, .int (-5)), (0, .ref o)]) (pc := 61) hx hb dL_starves_61 hl (k := 1) rfl (nI_add k 1) (by decide) rfl (fun ls hl => ?_)
        refine lv_goto (tgt := 29) (pc := 64) hx hb dL_starves_64 (by decide) ?_
        exact ih (k + 1) (by omega) w2  hF2  _ _ _ hz (lv_sub hl [0, 1, 2, 3] rfl)
    exact loop1 8 0 (by omega) w1  hF1  _ _ _ hz (lv_sub hl [0, 1, 2, 3] rfl)
  · refine z_top (y := nI c) es ?_
    refine lv_istore_n (lv' := [(1, .int (nI c)), (0, .ref o)]) (pc := 4) hx hb dL_starves_4 rfl hl (by decide) rfl (fun ls hl => ?_)
    refine lv_iload_n (pc := 5) hx hb dL_starves_5 rfl (lv_at hl 0 rfl) ?_
    refine lv_bipush (v := -5) (pc := 6) hx hb dL_starves_6 (by decide) ?_
    refine lv_icmp_eq (pc := 8) (tgt := 21) hx hb dL_starves_8 (by decide) (fun c9 => absurd c9 (nI_n5 (by omega))) (fun c_8 => ?_)
    refine lv_aload_n (pc := 11) hx hb dL_starves_11 rfl (lv_at hl 1 rfl) ?_
    refine lv_iload_n (pc := 12) hx hb dL_starves_12 rfl (lv_at hl 0 rfl) ?_
    obtain ⟨w3, z3, hF3⟩ := f_tipsIn (l := l) (G := G) hF1 hci (nI c)
    obtain ⟨fsw3, tlw3, ew3⟩ := hF3.h1
    refine z_runV (pc := 13) (As := [.int (nI c)]) (rest := []) (ws1 := w3) ⟨hx, hb, hml, hown, hts⟩ (z3) (cwV 1 hts (zgoodV zsub wq_20_6 wq_20_7 wq_20_8 wq_1_2 wq_20_9) rfl rfl rfl hdV_X3_tipsIn ⟨Nat.le_of_ble_eq_true rfl, Nat.le_of_ble_eq_true rfl⟩) hz [] zp_all zp_all' ew1 rfl rfl hl.1 (Nat.le_of_ble_eq_true rfl) (st1 := [.int (ktiR p (nI c))]) rfl dL_starves_13 ⟨Nat.le_of_ble_eq_true rfl, Nat.le_of_ble_eq_true rfl⟩ (fun H locs hz => ?_)
    refine z_top (y := -5) ((ti_k hP hc8).trans ec) ?_
    refine lv_bipush (v := -5) (pc := 16) hx hb dL_starves_16 (by decide) ?_
    refine lv_icmp_ne (pc := 18) (tgt := 25) hx hb dL_starves_18 (by decide) (fun c9 => absurd rfl c9) (fun c_18 => ?_)
    refine lv_iconst (v := 1) (pc := 21) hx hb dL_starves_21 (by decide) ?_
    refine lv_goto (tgt := 26) (pc := 22) hx hb dL_starves_22 (by decide) ?_
    refine lv_istore_n (lv' := [(2, .int 1), (1, .int (nI c)), (0, .ref o)]) (pc := 26) hx hb dL_starves_26 rfl hl (by decide) rfl (fun ls hl => ?_)
    refine lv_iconst (v := 0) (pc := 27) hx hb dL_starves_27 (by decide) ?_
    refine lv_istore_n (lv' := [(3, .int 0), (2, .int 1), (1, .int (nI c)), (0, .ref o)]) (pc := 28) hx hb dL_starves_28 rfl hl (by decide) rfl (fun ls hl => ?_)
    have loop2 : ∀ cnt k : Nat, k + cnt = c → ∀ (w : va_W) , FW ca o p K w → ∀ (H : Heap) (locs : List Loc) (ls : Array Slot), zw G ca A s0.heap s0 w H locs → lv_has ls 4 [(3, .int (nI k)), (2, .int 1), (1, .int (nI c)), (0, .ref o)] → W pg l ev rm_L_starves s0 mt args below meth cd H locs 0 0 Q (F0 mt 29 ls []) := by
      intro cnt
      induction cnt with
      | zero =>
        intro k hk9 w  hF  H locs ls hz hl
        obtain rfl : c = k := by omega
        obtain ⟨fs0, tl0, ew⟩ := hF.h1
        refine lv_iload_n (pc := 29) hx hb dL_starves_29 rfl (lv_at hl 0 rfl) ?_
        refine lv_iload_n (pc := 30) hx hb dL_starves_30 rfl (lv_at hl 2 rfl) ?_
        refine lv_if_ge (pc := 31) (tgt := 39) hx hb dL_starves_31 (by decide) (fun c_31 => ?_) (fun c9 => absurd (nI_0le (by omega)) c9)
        refine lv_iload_n (pc := 39) hx hb dL_starves_39 rfl (lv_at hl 2 rfl) ?_
        refine lv_icmp_ge (pc := 40) (tgt := 67) hx hb dL_starves_40 (by decide) (fun c_40 => ?_) (fun c9 => absurd (Int32.le_refl _) c9)
        refine lv_iload_n (pc := 67) hx hb dL_starves_67 rfl (lv_at hl 1 rfl) ?_
        exact z_zretW (pc := 68) hx hb hr hlk hQ hz (Nat.le_of_ble_eq_true rfl) (Nat.le_of_ble_eq_true rfl) rfl dL_starves_68 (by rfl) (hF)
      | succ cnt ih =>
        intro k hk9 w  hF  H locs ls hz hl
        have hk : k < c := by omega
        obtain ⟨fs0, tl0, ew⟩ := hF.h1
        have hpos := ut_pos (hno k (by omega))
        refine lv_iload_n (pc := 29) hx hb dL_starves_29 rfl (lv_at hl 0 rfl) ?_
        refine lv_iload_n (pc := 30) hx hb dL_starves_30 rfl (lv_at hl 2 rfl) ?_
        refine lv_if_ge (pc := 31) (tgt := 39) hx hb dL_starves_31 (by decide) (fun c_31 => ?_) (fun c9 => absurd (nI_0le (by omega)) c9)
        refine lv_iload_n (pc := 39) hx hb dL_starves_39 rfl (lv_at hl 2 rfl) ?_
        refine lv_icmp_ge (pc := 40) (tgt := 67) hx hb dL_starves_40 (by decide) (fun c9 => absurd c9 (nI_ge hk (by omega))) (fun c_40 => ?_)
        refine lv_iload_n (pc := 43) hx hb dL_starves_43 rfl (lv_at hl 1 rfl) ?_
        refine lv_if_eq (pc := 44) (tgt := 67) hx hb dL_starves_44 (by decide) (fun c9 => absurd c9 i10) (fun c_44 => ?_)
        refine lv_aload_n (pc := 47) hx hb dL_starves_47 rfl (lv_at hl 3 rfl) ?_
        refine lv_iload_n (pc := 48) hx hb dL_starves_48 rfl (lv_at hl 0 rfl) ?_
        obtain ⟨w4, z4, hF4⟩ := f_tipsIn (l := l) (G := G) hF hci (nI k)
        obtain ⟨fsw4, tlw4, ew4⟩ := hF4.h1
        refine z_runV (pc := 49) (As := [.int (nI k)]) (rest := []) (ws1 := w4) ⟨hx, hb, hml, hown, hts⟩ (z4) (cwV 1 hts (zgoodV zsub wq_20_6 wq_20_7 wq_20_8 wq_1_2 wq_20_9) rfl rfl rfl hdV_X3_tipsIn ⟨Nat.le_of_ble_eq_true rfl, Nat.le_of_ble_eq_true rfl⟩) hz [] zp_all zp_all' ew rfl rfl hl.1 (Nat.le_of_ble_eq_true rfl) (st1 := [.int (ktiR p (nI k))]) rfl dL_starves_49 ⟨Nat.le_of_ble_eq_true rfl, Nat.le_of_ble_eq_true rfl⟩ (fun H locs hz => ?_)
        refine z_top (y := utF p k 500 0) (ti_k hP (by omega)) ?_
        refine lv_if_le (pc := 52) (tgt := 59) hx hb dL_starves_52 (by decide) (fun c9 => absurd c9 hpos) (fun c_52 => ?_)
        refine lv_iconst (v := 1) (pc := 55) hx hb dL_starves_55 (by decide) ?_
        refine lv_goto (tgt := 60) (pc := 56) hx hb dL_starves_56 (by decide) ?_
        refine lv_istore_n (lv' := [(2, .int 1), (3, .int (nI k)), (1, .int (nI c)), (0, .ref o)]) (pc := 60) hx hb dL_starves_60 rfl hl (by decide) rfl (fun ls hl => ?_)
        refine lv_iinc (v := nI (k + 1)) (lv' := [(3, .int (nI (k + 1))), (2, .int 1), (1, .int (nI c)), (0, .ref o)]) (pc := 61) hx hb dL_starves_61 hl (k := 1) rfl (nI_add k 1) (by decide) rfl (fun ls hl => ?_)
        refine lv_goto (tgt := 29) (pc := 64) hx hb dL_starves_64 (by decide) ?_
        exact ih (k + 1) (by omega) w4  hF4  _ _ _ hz (lv_sub hl [0, 1, 2, 3] rfl)
    exact loop2 c 0 (by omega) w3  hF3  _ _ _ hz (lv_sub hl [0, 1, 2, 3] rfl)
