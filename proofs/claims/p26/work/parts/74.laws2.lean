def rm_L_starves : Room := { frames := 5, cells := 0, slots := 0, locals := 115 }
set_option maxRecDepth 20000 in
theorem hdV_L_starves : yL_starves.cls = RL ∧ yL_starves.cls ≠ "java/lang/invoke/MethodHandle" ∧ yL_starves.cls ≠ "java/lang/invoke/VarHandle" ∧ (parseMethodDescriptor yL_starves.desc).map (fun d => d.parameters.length) = some 1 := by decide +kernel
set_option maxHeartbeats 4000000 in
set_option maxRecDepth 100000 in
theorem k_L_starves (l : Launch) (G : va_G) (ca : Nat → ClassId) (o : Nat) (w : va_W) (p : HC) (K : Option HC) (hF : FW ca o p K w) {F : Nat} (hP : PI F p) : Zw l G ca yL_starves (zws yL_starves cL_starves 4 (some .boolean)) rm_L_starves [.ref o] w ((some (.int 1))) (fun w1 => FW ca o p K w1) 0 0 := by
  refine Zw.of (cc := cL_starves) (maxL := 4) (ret := (some .boolean)) (by decide) rfl (Nat.le_of_ble_eq_true rfl) ?_
  intro pg ev s0 mt below meth cd A args Q ls hx hb hr hml hown hts hlk hQ hl hz
  have hl : lv_has ls 4 [(0, .ref o)] := hl
  obtain ⟨fs0, tl0, ew⟩ := hF.h1
  have hci := hP.1.1
  refine lv_aload_n (pc := 0) hx hb dL_starves_0 rfl (lv_at hl 0 rfl) ?_
  obtain ⟨w1, z1, hF1⟩ := f_starving (l := l) (G := G) hF hci 
  obtain ⟨fsw1, tlw1, ew1⟩ := hF1.h1
  refine z_runV (pc := 1) (As := []) (rest := []) (ws1 := w1) ⟨hx, hb, hml, hown, hts⟩ (z1) (cwV 0 hts (zgoodV zsub wq_11_5 wq_11_6 wq_11_7 wq_1_2 wq_11_8) rfl rfl rfl hdV_X3_starving ⟨Nat.le_of_ble_eq_true rfl, Nat.le_of_ble_eq_true rfl⟩) hz [] zp_all zp_all' ew rfl rfl hl.1 (Nat.le_of_ble_eq_true rfl) (st1 := [.int (kst3 (kN5 p) p)]) rfl dL_starves_1 ⟨Nat.le_of_ble_eq_true rfl, Nat.le_of_ble_eq_true rfl⟩ (fun H locs hz => ?_)
  refine z_top (y := stF p 8) (starve_eq hP.1.1 hP.1.ti) ?_
  rcases sv_cases p with ⟨es, hno⟩ | ⟨c, hc8, es, ec, hno⟩
  · refine z_top (y := -5) es ?_
    refine lv_istore_n (lv' := [(1, .int (-5)), (0, .ref o)]) (pc := 4) hx hb dL_starves_4 rfl hl (by decide) rfl (fun ls hl => ?_)
    refine lv_iload_n (pc := 5) hx hb dL_starves_5 rfl (lv_at hl 0 rfl) ?_
    refine lv_bipush (v := -5) (pc := 6) hx hb dL_starves_6 (by decide) ?_
    refine lv_icmp_eq (pc := 8) (tgt := 21) hx hb dL_starves_8 (by decide) (fun c_8 => ?_) (fun c9 => absurd rfl c9)
    refine lv_iconst (v := 1) (pc := 21) hx hb dL_starves_21 (by decide) ?_
    refine lv_goto (tgt := 26) (pc := 22) hx hb dL_starves_22 (by decide) ?_
    refine lv_istore_n (lv' := [(2, .int 1), (1, .int (-5)), (0, .ref o)]) (pc := 26) hx hb dL_starves_26 rfl hl (by decide) rfl (fun ls hl => ?_)
    refine lv_iconst (v := 0) (pc := 27) hx hb dL_starves_27 (by decide) ?_
    refine lv_istore_n (lv' := [(3, .int 0), (2, .int 1), (1, .int (-5)), (0, .ref o)]) (pc := 28) hx hb dL_starves_28 rfl hl (by decide) rfl (fun ls hl => ?_)
    have loop1 : ∀ cnt k : Nat, k + cnt = 8 → ∀ (w : va_W) , FW ca o p K w → ∀ (H : Heap) (locs : List Loc) (ls : Array Slot), zw G ca A s0.heap s0 w H locs → lv_has ls 4 [(3, .int (nI k)), (2, .int 1), (1, .int (-5)), (0, .ref o)] → W pg l ev rm_L_starves s0 mt args below meth cd H locs 0 0 Q (F0 mt 29 ls []) := by
      intro cnt
      induction cnt with
      | zero =>
        intro k hk9 w  hF  H locs ls hz hl
        obtain rfl : 8 = k := by omega
        obtain ⟨fs0, tl0, ew⟩ := hF.h1
        refine lv_iload_n (pc := 29) hx hb dL_starves_29 rfl (lv_at hl 0 rfl) ?_
        refine lv_iload_n (pc := 30) hx hb dL_starves_30 rfl (lv_at hl 2 rfl) ?_
        refine lv_if_ge (pc := 31) (tgt := 39) hx hb dL_starves_31 (by decide) (fun c9 => absurd c9 (by decide)) (fun c_31 => ?_)
        refine lv_bipush (v := 8) (pc := 34) hx hb dL_starves_34 (by decide) ?_
        refine lv_goto (tgt := 40) (pc := 36) hx hb dL_starves_36 (by decide) ?_
        refine lv_icmp_ge (pc := 40) (tgt := 67) hx hb dL_starves_40 (by decide) (fun c_40 => ?_) (fun c9 => absurd (Int32.le_refl _) c9)
        refine lv_iload_n (pc := 67) hx hb dL_starves_67 rfl (lv_at hl 1 rfl) ?_
        exact z_zretW (pc := 68) hx hb hr hlk hQ hz (Nat.le_of_ble_eq_true rfl) (Nat.le_of_ble_eq_true rfl) rfl dL_starves_68 (by rfl) (hF)
      | succ cnt ih =>
        intro k hk9 w  hF  H locs ls hz hl
        have hk : k < 8 := by omega
        obtain ⟨fs0, tl0, ew⟩ := hF.h1
        have hpos := ut_pos (hno k (by omega))
        refine lv_iload_n (pc := 29) hx hb dL_starves_29 rfl (lv_at hl 0 rfl) ?_
        refine lv_iload_n (pc := 30) hx hb dL_starves_30 rfl (lv_at hl 2 rfl) ?_
        refine lv_if_ge (pc := 31) (tgt := 39) hx hb dL_starves_31 (by decide) (fun c9 => absurd c9 (by decide)) (fun c_31 => ?_)
        refine lv_bipush (v := 8) (pc := 34) hx hb dL_starves_34 (by decide) ?_
        refine lv_goto (tgt := 40) (pc := 36) hx hb dL_starves_36 (by decide) ?_
        refine lv_icmp_ge (pc := 40) (tgt := 67) hx hb dL_starves_40 (by decide) (fun c9 => absurd c9 (nI_ge hk (by decide))) (fun c_40 => ?_)
        refine lv_iload_n (pc := 43) hx hb dL_starves_43 rfl (lv_at hl 1 rfl) ?_
        refine lv_if_eq (pc := 44) (tgt := 67) hx hb dL_starves_44 (by decide) (fun c9 => absurd c9 i10) (fun c_44 => ?_)
        refine lv_aload_n (pc := 47) hx hb dL_starves_47 rfl (lv_at hl 3 rfl) ?_
        refine lv_iload_n (pc := 48) hx hb dL_starves_48 rfl (lv_at hl 0 rfl) ?_
        obtain ⟨w2, z2, hF2⟩ := f_tipsIn (l := l) (G := G) hF hci (nI k)
        obtain ⟨fsw2, tlw2, ew2⟩ := hF2.h1
        refine z_runV (pc := 49) (As := [.int (nI k)]) (rest := []) (ws1 := w2) ⟨hx, hb, hml, hown, hts⟩ (z2) (cwV 1 hts (zgoodV zsub wq_20_6 wq_20_7 wq_20_8 wq_1_2 wq_20_9) rfl rfl rfl hdV_X3_tipsIn ⟨Nat.le_of_ble_eq_true rfl, Nat.le_of_ble_eq_true rfl⟩) hz [] zp_all zp_all' ew rfl rfl hl.1 (Nat.le_of_ble_eq_true rfl) (st1 := [.int (ktiR p (nI k))]) rfl dL_starves_49 ⟨Nat.le_of_ble_eq_true rfl, Nat.le_of_ble_eq_true rfl⟩ (fun H locs hz => ?_)
        refine z_top (y := utF p k 500 0) (ti_k hP (by omega)) ?_
        refine lv_if_le (pc := 52) (tgt := 59) hx hb dL_starves_52 (by decide) (fun c9 => absurd c9 hpos) (fun c_52 => ?_)
        refine lv_iconst (v := 1) (pc := 55) hx hb dL_starves_55 (by decide) ?_
        refine lv_goto (tgt := 60) (pc := 56) hx hb dL_starves_56 (by decide) ?_
        refine lv_istore_n (lv' := [(2, .int 1), (3, .int (nI k)), (1, .int (-5)), (0, .ref o)]) (pc := 60) hx hb dL_starves_60 rfl hl (by decide) rfl (fun ls hl => ?_)
        refine lv_iinc (v := nI (k + 1)) (lv' := [(3, .int (nI (k + 1))), (2, .int 1), (1, .int (-5)), (0, .ref o)]) (pc := 61) hx hb dL_starves_61 hl (k := 1) rfl (nI_add k 1) (by decide) rfl (fun ls hl => ?_)
        refine lv_goto (tgt := 29) (pc := 64) hx hb dL_starves_64 (by decide) ?_
        exact ih (k + 1) (by omega) w2  hF2  _ _ _ hz (lv_sub hl [0, 1, 2, 3] rfl)
    exact loop1 8 0 (by omega) w1  hF1  _ _ _ hz (lv_sub hl [0, 1, 2, 3] rfl)
  · refine z_top (y := nI c) es ?_
    refine lv_istore_n (lv' := [(1, .int (nI c)), (0, .ref o)]) (pc := 4) hx hb dL_starves_4 rfl hl (by decide) rfl (fun ls hl => ?_)
    refine lv_iload_n (pc := 5) hx hb dL_starves_5 rfl (lv_at hl 0 rfl) ?_
    refine lv_bipush (v := -5) (pc := 6) hx hb dL_starves_6 (by decide) ?_
    refine lv_icmp_eq (pc := 8) (tgt := 21) hx hb dL_starves_8 (by decide) (fun c9 => absurd c9 (nI_n5 (by omega))) (fun c_8 => ?_)
    refine lv_aload_n (pc := 11) hx hb dL_starves_11 rfl (lv_at hl 1 rfl) ?_
    refine lv_iload_n (pc := 12) hx hb dL_starves_12 rfl (lv_at hl 0 rfl) ?_
    obtain ⟨w3, z3, hF3⟩ := f_tipsIn (l := l) (G := G) hF1 hci (nI c)
    obtain ⟨fsw3, tlw3, ew3⟩ := hF3.h1
    refine z_runV (pc := 13) (As := [.int (nI c)]) (rest := []) (ws1 := w3) ⟨hx, hb, hml, hown, hts⟩ (z3) (cwV 1 hts (zgoodV zsub wq_20_6 wq_20_7 wq_20_8 wq_1_2 wq_20_9) rfl rfl rfl hdV_X3_tipsIn ⟨Nat.le_of_ble_eq_true rfl, Nat.le_of_ble_eq_true rfl⟩) hz [] zp_all zp_all' ew1 rfl rfl hl.1 (Nat.le_of_ble_eq_true rfl) (st1 := [.int (ktiR p (nI c))]) rfl dL_starves_13 ⟨Nat.le_of_ble_eq_true rfl, Nat.le_of_ble_eq_true rfl⟩ (fun H locs hz => ?_)
    refine z_top (y := -5) ((ti_k hP hc8).trans ec) ?_
    refine lv_bipush (v := -5) (pc := 16) hx hb dL_starves_16 (by decide) ?_
    refine lv_icmp_ne (pc := 18) (tgt := 25) hx hb dL_starves_18 (by decide) (fun c9 => absurd rfl c9) (fun c_18 => ?_)
    refine lv_iconst (v := 1) (pc := 21) hx hb dL_starves_21 (by decide) ?_
    refine lv_goto (tgt := 26) (pc := 22) hx hb dL_starves_22 (by decide) ?_
    refine lv_istore_n (lv' := [(2, .int 1), (1, .int (nI c)), (0, .ref o)]) (pc := 26) hx hb dL_starves_26 rfl hl (by decide) rfl (fun ls hl => ?_)
    refine lv_iconst (v := 0) (pc := 27) hx hb dL_starves_27 (by decide) ?_
    refine lv_istore_n (lv' := [(3, .int 0), (2, .int 1), (1, .int (nI c)), (0, .ref o)]) (pc := 28) hx hb dL_starves_28 rfl hl (by decide) rfl (fun ls hl => ?_)
    have loop2 : ∀ cnt k : Nat, k + cnt = c → ∀ (w : va_W) , FW ca o p K w → ∀ (H : Heap) (locs : List Loc) (ls : Array Slot), zw G ca A s0.heap s0 w H locs → lv_has ls 4 [(3, .int (nI k)), (2, .int 1), (1, .int (nI c)), (0, .ref o)] → W pg l ev rm_L_starves s0 mt args below meth cd H locs 0 0 Q (F0 mt 29 ls []) := by
      intro cnt
      induction cnt with
      | zero =>
        intro k hk9 w  hF  H locs ls hz hl
        obtain rfl : c = k := by omega
        obtain ⟨fs0, tl0, ew⟩ := hF.h1
        refine lv_iload_n (pc := 29) hx hb dL_starves_29 rfl (lv_at hl 0 rfl) ?_
        refine lv_iload_n (pc := 30) hx hb dL_starves_30 rfl (lv_at hl 2 rfl) ?_
        refine lv_if_ge (pc := 31) (tgt := 39) hx hb dL_starves_31 (by decide) (fun c_31 => ?_) (fun c9 => absurd (nI_0le (by omega)) c9)
        refine lv_iload_n (pc := 39) hx hb dL_starves_39 rfl (lv_at hl 2 rfl) ?_
        refine lv_icmp_ge (pc := 40) (tgt := 67) hx hb dL_starves_40 (by decide) (fun c_40 => ?_) (fun c9 => absurd (Int32.le_refl _) c9)
        refine lv_iload_n (pc := 67) hx hb dL_starves_67 rfl (lv_at hl 1 rfl) ?_
        exact z_zretW (pc := 68) hx hb hr hlk hQ hz (Nat.le_of_ble_eq_true rfl) (Nat.le_of_ble_eq_true rfl) rfl dL_starves_68 (by rfl) (hF)
      | succ cnt ih =>
        intro k hk9 w  hF  H locs ls hz hl
        have hk : k < c := by omega
        obtain ⟨fs0, tl0, ew⟩ := hF.h1
        have hpos := ut_pos (hno k (by omega))
        refine lv_iload_n (pc := 29) hx hb dL_starves_29 rfl (lv_at hl 0 rfl) ?_
        refine lv_iload_n (pc := 30) hx hb dL_starves_30 rfl (lv_at hl 2 rfl) ?_
        refine lv_if_ge (pc := 31) (tgt := 39) hx hb dL_starves_31 (by decide) (fun c_31 => ?_) (fun c9 => absurd (nI_0le (by omega)) c9)
        refine lv_iload_n (pc := 39) hx hb dL_starves_39 rfl (lv_at hl 2 rfl) ?_
        refine lv_icmp_ge (pc := 40) (tgt := 67) hx hb dL_starves_40 (by decide) (fun c9 => absurd c9 (nI_ge hk (by omega))) (fun c_40 => ?_)
        refine lv_iload_n (pc := 43) hx hb dL_starves_43 rfl (lv_at hl 1 rfl) ?_
        refine lv_if_eq (pc := 44) (tgt := 67) hx hb dL_starves_44 (by decide) (fun c9 => absurd c9 i10) (fun c_44 => ?_)
        refine lv_aload_n (pc := 47) hx hb dL_starves_47 rfl (lv_at hl 3 rfl) ?_
        refine lv_iload_n (pc := 48) hx hb dL_starves_48 rfl (lv_at hl 0 rfl) ?_
        obtain ⟨w4, z4, hF4⟩ := f_tipsIn (l := l) (G := G) hF hci (nI k)
        obtain ⟨fsw4, tlw4, ew4⟩ := hF4.h1
        refine z_runV (pc := 49) (As := [.int (nI k)]) (rest := []) (ws1 := w4) ⟨hx, hb, hml, hown, hts⟩ (z4) (cwV 1 hts (zgoodV zsub wq_20_6 wq_20_7 wq_20_8 wq_1_2 wq_20_9) rfl rfl rfl hdV_X3_tipsIn ⟨Nat.le_of_ble_eq_true rfl, Nat.le_of_ble_eq_true rfl⟩) hz [] zp_all zp_all' ew rfl rfl hl.1 (Nat.le_of_ble_eq_true rfl) (st1 := [.int (ktiR p (nI k))]) rfl dL_starves_49 ⟨Nat.le_of_ble_eq_true rfl, Nat.le_of_ble_eq_true rfl⟩ (fun H locs hz => ?_)
        refine z_top (y := utF p k 500 0) (ti_k hP (by omega)) ?_
        refine lv_if_le (pc := 52) (tgt := 59) hx hb dL_starves_52 (by decide) (fun c9 => absurd c9 hpos) (fun c_52 => ?_)
        refine lv_iconst (v := 1) (pc := 55) hx hb dL_starves_55 (by decide) ?_
        refine lv_goto (tgt := 60) (pc := 56) hx hb dL_starves_56 (by decide) ?_
        refine lv_istore_n (lv' := [(2, .int 1), (3, .int (nI k)), (1, .int (nI c)), (0, .ref o)]) (pc := 60) hx hb dL_starves_60 rfl hl (by decide) rfl (fun ls hl => ?_)
        refine lv_iinc (v := nI (k + 1)) (lv' := [(3, .int (nI (k + 1))), (2, .int 1), (1, .int (nI c)), (0, .ref o)]) (pc := 61) hx hb dL_starves_61 hl (k := 1) rfl (nI_add k 1) (by decide) rfl (fun ls hl => ?_)
        refine lv_goto (tgt := 29) (pc := 64) hx hb dL_starves_64 (by decide) ?_
        exact ih (k + 1) (by omega) w4  hF4  _ _ _ hz (lv_sub hl [0, 1, 2, 3] rfl)
    exact loop2 c 0 (by omega) w3  hF3  _ _ _ hz (lv_sub hl [0, 1, 2, 3] rfl)

def rm_L_waits : Room := { frames := 6, cells := 0, slots := 0, locals := 137 }
set_option maxRecDepth 20000 in
theorem hdV_L_waits : yL_waits.cls = RL ∧ yL_waits.cls ≠ "java/lang/invoke/MethodHandle" ∧ yL_waits.cls ≠ "java/lang/invoke/VarHandle" ∧ (parseMethodDescriptor yL_waits.desc).map (fun d => d.parameters.length) = some 2 := by decide +kernel
set_option maxHeartbeats 4000000 in
set_option maxRecDepth 100000 in
theorem k_L_waits (l : Launch) (G : va_G) (ca : Nat → ClassId) (o : Nat) (w : va_W) (p : HC) (K : Option HC) (hF : FW ca o p K w) {F : Nat} (hP : PI F p) {k : Nat} (hk : k < 8) (hF26 : F < 2 ^ 26) {t0 : Nat} (ht0 : p.1 0 = nI t0) (ht5 : t0 + 501 ≤ 99999) : Zw l G ca yL_waits (zws yL_waits cL_waits 9 (some .boolean)) rm_L_waits [.ref o, .int (nI k)] w ((some (.int 1))) (fun w1 => FW ca o p (some p) w1) 0 0 := by
  refine Zw.of (cc := cL_waits) (maxL := 9) (ret := (some .boolean)) (by decide) rfl (Nat.le_of_ble_eq_true rfl) ?_
  intro pg ev s0 mt below meth cd A args Q ls hx hb hr hml hown hts hlk hQ hl hz
  have hl : lv_has ls 9 [(0, .ref o), (1, .int (nI k))] := hl
  obtain ⟨fs0, tl0, ew⟩ := hF.h1
  have hci := hP.1.1
  refine lv_aload_n (pc := 0) hx hb dL_waits_0 rfl (lv_at hl 0 rfl) ?_
  refine lv_iload_n (pc := 1) hx hb dL_waits_1 rfl (lv_at hl 1 rfl) ?_
  obtain ⟨w1, z1, hF1⟩ := f_tipsIn (l := l) (G := G) hF hci (nI k)
  obtain ⟨fsw1, tlw1, ew1⟩ := hF1.h1
  refine z_runV (pc := 2) (As := [.int (nI k)]) (rest := []) (ws1 := w1) ⟨hx, hb, hml, hown, hts⟩ (z1) (cwV 1 hts (zgoodV zsub wq_20_6 wq_20_7 wq_20_8 wq_1_2 wq_20_9) rfl rfl rfl hdV_X3_tipsIn ⟨Nat.le_of_ble_eq_true rfl, Nat.le_of_ble_eq_true rfl⟩) hz [] zp_all zp_all' ew rfl rfl hl.1 (Nat.le_of_ble_eq_true rfl) (st1 := [.int (ktiR p (nI k))]) rfl dL_waits_2 ⟨Nat.le_of_ble_eq_true rfl, Nat.le_of_ble_eq_true rfl⟩ (fun H locs hz => ?_)
  refine z_top (y := utF p k 500 0) (ti_k hP hk) ?_
  rcases ut_first p k with ⟨eu, eh⟩ | ⟨j, hj5, eu, htz, ht1⟩
  · obtain ⟨c9, es9, hc9⟩ : ∃ c9, stF p 8 = nI c9 ∧ c9 ≤ k := by
      rcases sv_cases p with ⟨_, hno⟩ | ⟨c, hc8, es, ec, hno⟩
      · exact absurd eu (hno k hk)
      · exact ⟨c, es, Nat.le_of_not_lt (fun z => hno k z eu)⟩
    have es9 := (starve_eq hP.1.1 hP.1.ti).trans es9
    refine z_top (y := -5) eu ?_
    refine lv_istore_n (lv' := [(2, .int (-5)), (0, .ref o), (1, .int (nI k))]) (pc := 5) hx hb dL_waits_5 rfl hl (by decide) rfl (fun ls hl => ?_)
    refine lv_aload_n (pc := 6) hx hb dL_waits_6 rfl (lv_at hl 1 rfl) ?_
    refine lv_iload_n (pc := 7) hx hb dL_waits_7 rfl (lv_at hl 2 rfl) ?_
    obtain ⟨w2, z2, hF2⟩ := f_tipsAt (l := l) (G := G) hF1 hci (nI k)
    obtain ⟨fsw2, tlw2, ew2⟩ := hF2.h1
    refine z_runV (pc := 8) (As := [.int (nI k)]) (rest := []) (ws1 := w2) ⟨hx, hb, hml, hown, hts⟩ (z2) (cwV 1 hts (zgoodV zsub wq_21_4 wq_21_5 wq_21_6 wq_1_2 wq_21_7) rfl rfl rfl hdV_X3_tipsAt ⟨Nat.le_of_ble_eq_true rfl, Nat.le_of_ble_eq_true rfl⟩) hz [] zp_all zp_all' ew1 rfl rfl hl.1 (Nat.le_of_ble_eq_true rfl) (st1 := [.int (khoR p (nI k))]) rfl dL_waits_8 ⟨Nat.le_of_ble_eq_true rfl, Nat.le_of_ble_eq_true rfl⟩ (fun H locs hz => ?_)
    refine z_top (y := hotF p k) (ho_k hP hk) ?_
    refine lv_istore_n (lv' := [(3, .int (hotF p k)), (2, .int (-5)), (0, .ref o), (1, .int (nI k))]) (pc := 11) hx hb dL_waits_11 rfl hl (by decide) rfl (fun ls hl => ?_)
    refine lv_aload_n (pc := 12) hx hb dL_waits_12 rfl (lv_at hl 2 rfl) ?_
    obtain ⟨w3, z3, hF3⟩ := f_keep (l := l) (G := G) hF2 hci 
    obtain ⟨fsw3, tlw3, ew3⟩ := hF3.h1
    refine z_runV (pc := 13) (As := []) (rest := []) (ws1 := w3) ⟨hx, hb, hml, hown, hts⟩ (z3) (cwV 0 hts (zgoodV zsub wq_22_0 wq_22_1 wq_22_2 wq_1_2 wq_22_3) rfl rfl rfl hdV_X3_keep ⟨Nat.le_of_ble_eq_true rfl, Nat.le_of_ble_eq_true rfl⟩) hz [] zp_all zp_all' ew2 rfl rfl hl.1 (Nat.le_of_ble_eq_true rfl) (st1 := [.int (p.1 0)]) rfl dL_waits_13 ⟨Nat.le_of_ble_eq_true rfl, Nat.le_of_ble_eq_true rfl⟩ (fun H locs hz => ?_)
    refine lv_istore (lv' := [(4, .int (p.1 0)), (3, .int (hotF p k)), (2, .int (-5)), (0, .ref o), (1, .int (nI k))]) (pc := 16) hx hb dL_waits_16 hl (by decide) rfl (fun ls hl => ?_)
    refine lv_aload_n (pc := 18) hx hb dL_waits_18 rfl (lv_at hl 3 rfl) ?_
    refine lv_iload_n (pc := 19) hx hb dL_waits_19 rfl (lv_at hl 4 rfl) ?_
    refine lv_bipush (v := 8) (pc := 20) hx hb dL_waits_20 (by decide) ?_
    refine z_runV (pc := 22) (As := [.int (nI k), .int 8]) (rest := []) (ws1 := w3) ⟨hx, hb, hml, hown, hts⟩ (f_cw (l := l) (G := G) hF3 hci hk (w9 := 8) (by decide) (by decide)) (cwV 2 hts (zgoodV zsub wq_7_7 wq_7_8 wq_7_9 wq_1_2 wq_7_10) rfl rfl rfl hdV_X3_cup ⟨Nat.le_of_ble_eq_true rfl, Nat.le_of_ble_eq_true rfl⟩) hz [] zp_all zp_all' ew3 rfl rfl hl.1 (Nat.le_of_ble_eq_true rfl) (st1 := [.int (p.2 k 8)]) rfl dL_waits_22 ⟨Nat.le_of_ble_eq_true rfl, Nat.le_of_ble_eq_true rfl⟩ (fun H locs hz => ?_)
    refine lv_istore (lv' := [(5, .int (p.2 k 8)), (4, .int (p.1 0)), (3, .int (hotF p k)), (2, .int (-5)), (0, .ref o), (1, .int (nI k))]) (pc := 25) hx hb dL_waits_25 hl (by decide) rfl (fun ls hl => ?_)
    refine lv_aload_n (pc := 27) hx hb dL_waits_27 rfl (lv_at hl 4 rfl) ?_
    refine lv_bipush (v := 12) (pc := 28) hx hb dL_waits_28 (by decide) ?_
    refine z_runV (pc := 30) (As := [.int 12]) (rest := []) (ws1 := w3) ⟨hx, hb, hml, hown, hts⟩ (f_count (l := l) (G := G) hF3 hci (x := 12) (by decide) (by decide)) (cwV 1 hts (zgoodV zsub wq_8_11 wq_9_0 wq_9_1 wq_1_2 wq_9_2) rfl rfl rfl hdV_X3_count ⟨Nat.le_of_ble_eq_true rfl, Nat.le_of_ble_eq_true rfl⟩) hz [] zp_all zp_all' ew3 rfl rfl hl.1 (Nat.le_of_ble_eq_true rfl) (st1 := [.int (stellR p 12)]) rfl dL_waits_30 ⟨Nat.le_of_ble_eq_true rfl, Nat.le_of_ble_eq_true rfl⟩ (fun H locs hz => ?_)
    refine z_top (y := p.1 7) rfl ?_
    refine lv_istore (lv' := [(6, .int (p.1 7)), (5, .int (p.2 k 8)), (4, .int (p.1 0)), (3, .int (hotF p k)), (2, .int (-5)), (0, .ref o), (1, .int (nI k))]) (pc := 33) hx hb dL_waits_33 hl (by decide) rfl (fun ls hl => ?_)
    refine lv_iload_n (pc := 35) hx hb dL_waits_35 rfl (lv_at hl 4 rfl) ?_
    refine lv_if_ge (pc := 36) (tgt := 72) hx hb dL_waits_36 (by decide) (fun c9 => absurd c9 (by decide)) (fun c_36 => ?_)
    refine lv_iload_n (pc := 39) hx hb dL_waits_39 rfl (lv_at hl 4 rfl) ?_
    refine lv_bipush (v := -5) (pc := 40) hx hb dL_waits_40 (by decide) ?_
    refine lv_icmp_ne (pc := 42) (tgt := 70) hx hb dL_waits_42 (by decide) (fun c9 => absurd rfl c9) (fun c_42 => ?_)
    refine lv_iload_n (pc := 45) hx hb dL_waits_45 rfl (lv_at hl 3 rfl) ?_
    refine lv_bipush (v := -5) (pc := 46) hx hb dL_waits_46 (by decide) ?_
    refine lv_icmp_ne (pc := 48) (tgt := 70) hx hb dL_waits_48 (by decide) (fun c9 => absurd eh c9) (fun c_48 => ?_)
    refine lv_aload_n (pc := 51) hx hb dL_waits_51 rfl (lv_at hl 5 rfl) ?_
    obtain ⟨w4, z4, hF4⟩ := f_starving (l := l) (G := G) hF3 hci 
    obtain ⟨fsw4, tlw4, ew4⟩ := hF4.h1
    refine z_runV (pc := 52) (As := []) (rest := []) (ws1 := w4) ⟨hx, hb, hml, hown, hts⟩ (z4) (cwV 0 hts (zgoodV zsub wq_11_5 wq_11_6 wq_11_7 wq_1_2 wq_11_8) rfl rfl rfl hdV_X3_starving ⟨Nat.le_of_ble_eq_true rfl, Nat.le_of_ble_eq_true rfl⟩) hz [] zp_all zp_all' ew3 rfl rfl hl.1 (Nat.le_of_ble_eq_true rfl) (st1 := [.int (kst3 (kN5 p) p)]) rfl dL_waits_52 ⟨Nat.le_of_ble_eq_true rfl, Nat.le_of_ble_eq_true rfl⟩ (fun H locs hz => ?_)
    refine z_top (y := nI c9) es9 ?_
    refine lv_if_lt (pc := 55) (tgt := 70) hx hb dL_waits_55 (by decide) (fun c9 => absurd c9 (Int32.not_lt.mpr (nI_0le (by omega)))) (fun c_55 => ?_)
    refine lv_aload_n (pc := 58) hx hb dL_waits_58 rfl (lv_at hl 5 rfl) ?_
    obtain ⟨w5, z5, hF5⟩ := f_starving (l := l) (G := G) hF4 hci 
    obtain ⟨fsw5, tlw5, ew5⟩ := hF5.h1
    refine z_runV (pc := 59) (As := []) (rest := []) (ws1 := w5) ⟨hx, hb, hml, hown, hts⟩ (z5) (cwV 0 hts (zgoodV zsub wq_11_5 wq_11_6 wq_11_7 wq_1_2 wq_11_8) rfl rfl rfl hdV_X3_starving ⟨Nat.le_of_ble_eq_true rfl, Nat.le_of_ble_eq_true rfl⟩) hz [] zp_all zp_all' ew4 rfl rfl hl.1 (Nat.le_of_ble_eq_true rfl) (st1 := [.int (kst3 (kN5 p) p)]) rfl dL_waits_59 ⟨Nat.le_of_ble_eq_true rfl, Nat.le_of_ble_eq_true rfl⟩ (fun H locs hz => ?_)
    refine z_top (y := nI c9) es9 ?_
    refine lv_iload_n (pc := 62) hx hb dL_waits_62 rfl (lv_at hl 6 rfl) ?_
    refine lv_icmp_gt (pc := 63) (tgt := 70) hx hb dL_waits_63 (by decide) (fun c9 => absurd c9 (Int32.not_lt.mpr (nI_le hc9 (by omega)))) (fun c_63 => ?_)
    refine lv_iconst (v := 1) (pc := 66) hx hb dL_waits_66 (by decide) ?_
    refine lv_goto (tgt := 71) (pc := 67) hx hb dL_waits_67 (by decide) ?_
    exact z_zretW (pc := 71) hx hb hr hlk hQ hz (Nat.le_of_ble_eq_true rfl) (Nat.le_of_ble_eq_true rfl) rfl dL_waits_71 (by rfl) (hF5)
  · have hPj := hP.ticks hF26 ht0 j (by omega)
    have hcj := hPj.1.1
    have etj : (tkN p j).1 0 = nI (t0 + j) := by rw [tkN0, ht0, nI_add]
    have htj : ¬ tg (tkN p j) k 0 = 0 := ht1
    have hho := hot_hr eu hj5
    have h1p := pass_n hPj etj (n := 1) (by omega) (by decide) (by decide)
    have hcj1 : CI (tkN (tkN p j) 1) := hcj.ticks 1
    have hp1 : ¬ kS (tkN p j) 1 ≤ 0 := by
      rw [kS_1 hcj]
      obtain ⟨m9, h91, h92, h93⟩ := nT_pos (hour := hourP (tkN p j)) (p := springP (tkN p j)) (k := k) htj 8 hk (Nat.le_refl _)
      rw [h93]
      exact nI_ge (a := 0) (by omega) (by omega)
    have ht8 : (tkN (tkN p j) 1).2 k 8 = p.2 k 8 + 1 := by
      show (tickP (tkN p j)).2 k 8 = _
      rw [tick8 _ hk, same8 hk j htz, tg_one htj]
    refine z_top (y := nI (j + 1)) eu ?_
    refine lv_istore_n (lv' := [(2, .int (nI (j + 1))), (0, .ref o), (1, .int (nI k))]) (pc := 5) hx hb dL_waits_5 rfl hl (by decide) rfl (fun ls hl => ?_)
    refine lv_aload_n (pc := 6) hx hb dL_waits_6 rfl (lv_at hl 1 rfl) ?_
    refine lv_iload_n (pc := 7) hx hb dL_waits_7 rfl (lv_at hl 2 rfl) ?_
    obtain ⟨w6, z6, hF6⟩ := f_tipsAt (l := l) (G := G) hF1 hci (nI k)
    obtain ⟨fsw6, tlw6, ew6⟩ := hF6.h1
    refine z_runV (pc := 8) (As := [.int (nI k)]) (rest := []) (ws1 := w6) ⟨hx, hb, hml, hown, hts⟩ (z6) (cwV 1 hts (zgoodV zsub wq_21_4 wq_21_5 wq_21_6 wq_1_2 wq_21_7) rfl rfl rfl hdV_X3_tipsAt ⟨Nat.le_of_ble_eq_true rfl, Nat.le_of_ble_eq_true rfl⟩) hz [] zp_all zp_all' ew1 rfl rfl hl.1 (Nat.le_of_ble_eq_true rfl) (st1 := [.int (khoR p (nI k))]) rfl dL_waits_8 ⟨Nat.le_of_ble_eq_true rfl, Nat.le_of_ble_eq_true rfl⟩ (fun H locs hz => ?_)
    refine z_top (y := hotF p k) (ho_k hP hk) ?_
    refine lv_istore_n (lv' := [(3, .int (hotF p k)), (2, .int (nI (j + 1))), (0, .ref o), (1, .int (nI k))]) (pc := 11) hx hb dL_waits_11 rfl hl (by decide) rfl (fun ls hl => ?_)
    refine lv_aload_n (pc := 12) hx hb dL_waits_12 rfl (lv_at hl 2 rfl) ?_
    obtain ⟨w7, z7, hF7⟩ := f_keep (l := l) (G := G) hF6 hci 
    obtain ⟨fsw7, tlw7, ew7⟩ := hF7.h1
    refine z_runV (pc := 13) (As := []) (rest := []) (ws1 := w7) ⟨hx, hb, hml, hown, hts⟩ (z7) (cwV 0 hts (zgoodV zsub wq_22_0 wq_22_1 wq_22_2 wq_1_2 wq_22_3) rfl rfl rfl hdV_X3_keep ⟨Nat.le_of_ble_eq_true rfl, Nat.le_of_ble_eq_true rfl⟩) hz [] zp_all zp_all' ew6 rfl rfl hl.1 (Nat.le_of_ble_eq_true rfl) (st1 := [.int (p.1 0)]) rfl dL_waits_13 ⟨Nat.le_of_ble_eq_true rfl, Nat.le_of_ble_eq_true rfl⟩ (fun H locs hz => ?_)
    refine lv_istore (lv' := [(4, .int (p.1 0)), (3, .int (hotF p k)), (2, .int (nI (j + 1))), (0, .ref o), (1, .int (nI k))]) (pc := 16) hx hb dL_waits_16 hl (by decide) rfl (fun ls hl => ?_)
    refine lv_aload_n (pc := 18) hx hb dL_waits_18 rfl (lv_at hl 3 rfl) ?_
    refine lv_iload_n (pc := 19) hx hb dL_waits_19 rfl (lv_at hl 4 rfl) ?_
    refine lv_bipush (v := 8) (pc := 20) hx hb dL_waits_20 (by decide) ?_
    refine z_runV (pc := 22) (As := [.int (nI k), .int 8]) (rest := []) (ws1 := w7) ⟨hx, hb, hml, hown, hts⟩ (f_cw (l := l) (G := G) hF7 hci hk (w9 := 8) (by decide) (by decide)) (cwV 2 hts (zgoodV zsub wq_7_7 wq_7_8 wq_7_9 wq_1_2 wq_7_10) rfl rfl rfl hdV_X3_cup ⟨Nat.le_of_ble_eq_true rfl, Nat.le_of_ble_eq_true rfl⟩) hz [] zp_all zp_all' ew7 rfl rfl hl.1 (Nat.le_of_ble_eq_true rfl) (st1 := [.int (p.2 k 8)]) rfl dL_waits_22 ⟨Nat.le_of_ble_eq_true rfl, Nat.le_of_ble_eq_true rfl⟩ (fun H locs hz => ?_)
    refine lv_istore (lv' := [(5, .int (p.2 k 8)), (4, .int (p.1 0)), (3, .int (hotF p k)), (2, .int (nI (j + 1))), (0, .ref o), (1, .int (nI k))]) (pc := 25) hx hb dL_waits_25 hl (by decide) rfl (fun ls hl => ?_)
    refine lv_aload_n (pc := 27) hx hb dL_waits_27 rfl (lv_at hl 4 rfl) ?_
    refine lv_bipush (v := 12) (pc := 28) hx hb dL_waits_28 (by decide) ?_
    refine z_runV (pc := 30) (As := [.int 12]) (rest := []) (ws1 := w7) ⟨hx, hb, hml, hown, hts⟩ (f_count (l := l) (G := G) hF7 hci (x := 12) (by decide) (by decide)) (cwV 1 hts (zgoodV zsub wq_8_11 wq_9_0 wq_9_1 wq_1_2 wq_9_2) rfl rfl rfl hdV_X3_count ⟨Nat.le_of_ble_eq_true rfl, Nat.le_of_ble_eq_true rfl⟩) hz [] zp_all zp_all' ew7 rfl rfl hl.1 (Nat.le_of_ble_eq_true rfl) (st1 := [.int (stellR p 12)]) rfl dL_waits_30 ⟨Nat.le_of_ble_eq_true rfl, Nat.le_of_ble_eq_true rfl⟩ (fun H locs hz => ?_)
    refine z_top (y := p.1 7) rfl ?_
    refine lv_istore (lv' := [(6, .int (p.1 7)), (5, .int (p.2 k 8)), (4, .int (p.1 0)), (3, .int (hotF p k)), (2, .int (nI (j + 1))), (0, .ref o), (1, .int (nI k))]) (pc := 33) hx hb dL_waits_33 hl (by decide) rfl (fun ls hl => ?_)
    refine lv_iload_n (pc := 35) hx hb dL_waits_35 rfl (lv_at hl 4 rfl) ?_
    refine lv_if_ge (pc := 36) (tgt := 72) hx hb dL_waits_36 (by decide) (fun c_36 => ?_) (fun c9 => absurd (nI_0le (by omega)) c9)
    refine lv_iload_n (pc := 72) hx hb dL_waits_72 rfl (lv_at hl 4 rfl) ?_
    refine lv_iconst (v := 1) (pc := 73) hx hb dL_waits_73 (by decide) ?_
    refine lv_isub (pc := 74) hx hb dL_waits_74 ?_
    refine z_top (y := nI j) (nI_pred j) ?_
    refine lv_istore (lv' := [(7, .int (nI j)), (6, .int (p.1 7)), (5, .int (p.2 k 8)), (4, .int (p.1 0)), (3, .int (hotF p k)), (2, .int (nI (j + 1))), (0, .ref o), (1, .int (nI k))]) (pc := 75) hx hb dL_waits_75 hl (by decide) rfl (fun ls hl => ?_)
    have loop1 : ∀ cnt i : Nat, i + cnt = ((j + 98) / 99) → ∀ (w : va_W) , FW ca o (tkN p (mW j i)) (some p) w → ∀ (H : Heap) (locs : List Loc) (ls : Array Slot), zw G ca A s0.heap s0 w H locs → lv_has ls 9 [(7, .int (nI (j - mW j i))), (6, .int (p.1 7)), (5, .int (p.2 k 8)), (4, .int (p.1 0)), (3, .int (hotF p k)), (2, .int (nI (j + 1))), (0, .ref o), (1, .int (nI k))] → W pg l ev rm_L_waits s0 mt args below meth cd H locs 0 0 Q (F0 mt 77 ls []) := by
      intro cnt
      induction cnt with
      | zero =>
        intro i hk9 w  hF  H locs ls hz hl
        obtain rfl : (j + 98) / 99 = i := by omega
        obtain ⟨fs0, tl0, ew⟩ := hF.h1
        have hmj : mW j ((j + 98) / 99) = j := by unfold mW; omega
        rw [hmj] at hF hl
        rw [Nat.sub_self] at hl
        refine lv_iload (pc := 77) hx hb dL_waits_77 (lv_at hl 0 rfl) ?_
        refine lv_if_le (pc := 79) (tgt := 131) hx hb dL_waits_79 (by decide) (fun c_79 => ?_) (fun c9 => absurd (Int32.le_refl _) c9)
        refine lv_iload_n (pc := 131) hx hb dL_waits_131 rfl (lv_at hl 4 rfl) ?_
        refine lv_iload (pc := 132) hx hb dL_waits_132 (lv_at hl 3 rfl) ?_
        refine lv_iload_n (pc := 134) hx hb dL_waits_134 rfl (lv_at hl 5 rfl) ?_
        refine lv_iadd (pc := 135) hx hb dL_waits_135 ?_
        refine lv_iconst (v := 1) (pc := 136) hx hb dL_waits_136 (by decide) ?_
        refine lv_isub (pc := 137) hx hb dL_waits_137 ?_
        refine lv_iload (pc := 138) hx hb dL_waits_138 (lv_at hl 1 rfl) ?_
        refine lv_irem (pc := 140) hx hb dL_waits_140 hci.ok.1 ?_
        refine lv_icmp_ne (pc := 141) (tgt := 195) hx hb dL_waits_141 (by decide) (fun c9 => absurd hho.2 c9) (fun c_141 => ?_)
        refine lv_aload_n (pc := 144) hx hb dL_waits_144 rfl (lv_at hl 6 rfl) ?_
        refine lv_iconst (v := 1) (pc := 145) hx hb dL_waits_145 (by decide) ?_
        refine z_runV (pc := 146) (As := [.int 1]) (rest := []) (ws1 := w) ⟨hx, hb, hml, hown, hts⟩ (f_count (l := l) (G := G) hF hcj (x := 1) (by decide) (by decide)) (cwV 1 hts (zgoodV zsub wq_8_11 wq_9_0 wq_9_1 wq_1_2 wq_9_2) rfl rfl rfl hdV_X3_count ⟨Nat.le_of_ble_eq_true rfl, Nat.le_of_ble_eq_true rfl⟩) hz [] zp_all zp_all' ew rfl rfl hl.1 (Nat.le_of_ble_eq_true rfl) (st1 := [.int (stellR (tkN p j) 1)]) rfl dL_waits_146 ⟨Nat.le_of_ble_eq_true rfl, Nat.le_of_ble_eq_true rfl⟩ (fun H locs hz => ?_)
        refine z_top (y := hourP (tkN p j)) (hour_eq hcj) ?_
        refine lv_iload_n (pc := 149) hx hb dL_waits_149 rfl (lv_at hl 4 rfl) ?_
        refine lv_icmp_ne (pc := 150) (tgt := 195) hx hb dL_waits_150 (by decide) (fun c9 => absurd hho.1.symm c9) (fun c_150 => ?_)
        refine lv_aload_n (pc := 153) hx hb dL_waits_153 rfl (lv_at hl 6 rfl) ?_
        refine lv_iload_n (pc := 154) hx hb dL_waits_154 rfl (lv_at hl 7 rfl) ?_
        obtain ⟨w8, z8, hF8⟩ := f_tipsIn (l := l) (G := G) hF hcj (nI k)
        obtain ⟨fsw8, tlw8, ew8⟩ := hF8.h1
        refine z_runV (pc := 155) (As := [.int (nI k)]) (rest := []) (ws1 := w8) ⟨hx, hb, hml, hown, hts⟩ (z8) (cwV 1 hts (zgoodV zsub wq_20_6 wq_20_7 wq_20_8 wq_1_2 wq_20_9) rfl rfl rfl hdV_X3_tipsIn ⟨Nat.le_of_ble_eq_true rfl, Nat.le_of_ble_eq_true rfl⟩) hz [] zp_all zp_all' ew rfl rfl hl.1 (Nat.le_of_ble_eq_true rfl) (st1 := [.int (ktiR (tkN p j) (nI k))]) rfl dL_waits_155 ⟨Nat.le_of_ble_eq_true rfl, Nat.le_of_ble_eq_true rfl⟩ (fun H locs hz => ?_)
        refine z_top (y := 1) ((ti_k hPj hk).trans (ut_one htj)) ?_
        refine lv_iconst (v := 1) (pc := 158) hx hb dL_waits_158 (by decide) ?_
        refine lv_icmp_ne (pc := 159) (tgt := 195) hx hb dL_waits_159 (by decide) (fun c9 => absurd rfl c9) (fun c_159 => ?_)
        refine lv_aload_n (pc := 162) hx hb dL_waits_162 rfl (lv_at hl 6 rfl) ?_
        refine lv_iconst (v := 1) (pc := 163) hx hb dL_waits_163 (by decide) ?_
        obtain ⟨w9, z9, hF9⟩ := f_pass (l := l) (G := G) hF8 hcj 1
        obtain ⟨fsw9, tlw9, ew9⟩ := hF9.h1
        refine z_runV (pc := 164) (As := [.int 1]) (rest := []) (ws1 := w9) ⟨hx, hb, hml, hown, hts⟩ (z9) (cwV 1 hts (zgoodV zsub wq_18_0 wq_18_1 wq_18_2 wq_1_2 wq_18_3) rfl rfl rfl hdV_X3_pass ⟨Nat.le_of_ble_eq_true rfl, Nat.le_of_ble_eq_true rfl⟩) hz [] zp_all zp_all' ew8 rfl rfl hl.1 (Nat.le_of_ble_eq_true rfl) (st1 := [.int (kpassR (tkN p j) 1)]) rfl dL_waits_164 ⟨Nat.le_of_ble_eq_true rfl, Nat.le_of_ble_eq_true rfl⟩ (fun H locs hz => ?_)
        rw [show kN (tkN p j) (passN (tkN p j) 1) = tkN (tkN p j) 1 from h1p.1] at hF9
        refine z_top (y := kS (tkN p j) 1) h1p.2 ?_
        refine lv_if_le (pc := 167) (tgt := 195) hx hb dL_waits_167 (by decide) (fun c9 => absurd c9 hp1) (fun c_167 => ?_)
        refine lv_aload_n (pc := 170) hx hb dL_waits_170 rfl (lv_at hl 6 rfl) ?_
        refine lv_iload_n (pc := 171) hx hb dL_waits_171 rfl (lv_at hl 7 rfl) ?_
        refine lv_bipush (v := 8) (pc := 172) hx hb dL_waits_172 (by decide) ?_
        refine z_runV (pc := 174) (As := [.int (nI k), .int 8]) (rest := []) (ws1 := w9) ⟨hx, hb, hml, hown, hts⟩ (f_cw (l := l) (G := G) hF9 hcj1 hk (w9 := 8) (by decide) (by decide)) (cwV 2 hts (zgoodV zsub wq_7_7 wq_7_8 wq_7_9 wq_1_2 wq_7_10) rfl rfl rfl hdV_X3_cup ⟨Nat.le_of_ble_eq_true rfl, Nat.le_of_ble_eq_true rfl⟩) hz [] zp_all zp_all' ew9 rfl rfl hl.1 (Nat.le_of_ble_eq_true rfl) (st1 := [.int ((tkN (tkN p j) 1).2 k 8)]) rfl dL_waits_174 ⟨Nat.le_of_ble_eq_true rfl, Nat.le_of_ble_eq_true rfl⟩ (fun H locs hz => ?_)
        refine lv_iload (pc := 177) hx hb dL_waits_177 (lv_at hl 2 rfl) ?_
        refine lv_iconst (v := 1) (pc := 179) hx hb dL_waits_179 (by decide) ?_
        refine lv_iadd (pc := 180) hx hb dL_waits_180 ?_
        refine lv_icmp_ne (pc := 181) (tgt := 195) hx hb dL_waits_181 (by decide) (fun c9 => absurd ht8 c9) (fun c_181 => ?_)
        refine lv_iload_n (pc := 184) hx hb dL_waits_184 rfl (lv_at hl 5 rfl) ?_
        refine lv_sipush (v := 500) (pc := 185) hx hb dL_waits_185 (by decide) ?_
        refine lv_icmp_gt (pc := 188) (tgt := 195) hx hb dL_waits_188 (by decide) (fun c9 => absurd c9 (Int32.not_lt.mpr (nI_le (b := 500) (by omega) (by decide)))) (fun c_188 => ?_)
        refine lv_iconst (v := 1) (pc := 191) hx hb dL_waits_191 (by decide) ?_
        refine lv_goto (tgt := 196) (pc := 192) hx hb dL_waits_192 (by decide) ?_
        refine lv_istore (lv' := [(8, .int 1), (7, .int (nI 0)), (6, .int (p.1 7)), (5, .int (p.2 k 8)), (4, .int (p.1 0)), (3, .int (hotF p k)), (2, .int (nI (j + 1))), (0, .ref o), (1, .int (nI k))]) (pc := 196) hx hb dL_waits_196 hl (by decide) rfl (fun ls hl => ?_)
        refine lv_iload (pc := 198) hx hb dL_waits_198 (lv_at hl 0 rfl) ?_
        refine lv_if_eq (pc := 200) (tgt := 216) hx hb dL_waits_200 (by decide) (fun c9 => absurd c9 i10) (fun c_200 => ?_)
        refine lv_aload_n (pc := 203) hx hb dL_waits_203 rfl (lv_at hl 7 rfl) ?_
        obtain ⟨w10, z10, hF10⟩ := f_restore (l := l) (G := G) hF9 hcj1 hci 
        obtain ⟨fsw10, tlw10, ew10⟩ := hF10.h1
        refine z_runV (pc := 204) (As := []) (rest := []) (ws1 := w10) ⟨hx, hb, hml, hown, hts⟩ (z10) (cwV 0 hts (zgoodV zsub wq_22_4 wq_22_5 wq_22_6 wq_1_2 wq_22_7) rfl rfl rfl hdV_X3_restore ⟨Nat.le_of_ble_eq_true rfl, Nat.le_of_ble_eq_true rfl⟩) hz [] zp_all zp_all' ew9 rfl rfl hl.1 (Nat.le_of_ble_eq_true rfl) (st1 := [.int (p.1 0)]) rfl dL_waits_204 ⟨Nat.le_of_ble_eq_true rfl, Nat.le_of_ble_eq_true rfl⟩ (fun H locs hz => ?_)
        refine lv_iload (pc := 207) hx hb dL_waits_207 (lv_at hl 4 rfl) ?_
        refine lv_icmp_ne (pc := 209) (tgt := 216) hx hb dL_waits_209 (by decide) (fun c9 => absurd rfl c9) (fun c_209 => ?_)
        refine lv_iconst (v := 1) (pc := 212) hx hb dL_waits_212 (by decide) ?_
        refine lv_goto (tgt := 217) (pc := 213) hx hb dL_waits_213 (by decide) ?_
        exact z_zretW (pc := 217) hx hb hr hlk hQ hz (Nat.le_of_ble_eq_true rfl) (Nat.le_of_ble_eq_true rfl) rfl dL_waits_217 (by rfl) (hF10)
      | succ cnt ih =>
        intro i hk9 w  hF  H locs ls hz hl
        have hki : i < (j + 98) / 99 := by omega
        obtain ⟨fs0, tl0, ew⟩ := hF.h1
        have hq := mW_s (j := j) (i := i) (by omega)
        have hPi := hP.ticks hF26 ht0 (mW j i) (by omega)
        have eti : (tkN p (mW j i)).1 0 = nI (t0 + mW j i) := by rw [tkN0, ht0, nI_add]
        have hpa := pass_n hPi eti (n := mW j (i + 1) - mW j i) (by omega) hq.1 hq.2.1
        have hlp : ¬ nI (j - mW j i) ≤ 0 := nI_ge (a := 0) (by omega) (by omega)
        have hkp : 0 ≤ kS (tkN p (mW j i)) (mW j (i + 1) - mW j i) := by obtain ⟨m9, h91, h92⟩ := kS_nat hPi.1.1 (mW j (i + 1) - mW j i); rw [h92]; exact nI_0le (by omega)
        have hsm : (tkN p (mW j (i + 1))).2 k 8 = p.2 k 8 := same8 hk _ (fun i9 h9 => htz i9 (by omega))
        have hciN := (hP.ticks hF26 ht0 (mW j (i + 1)) (by omega)).1.1
        refine lv_iload (pc := 77) hx hb dL_waits_77 (lv_at hl 0 rfl) ?_
        refine lv_if_le (pc := 79) (tgt := 131) hx hb dL_waits_79 (by decide) (fun c9 => absurd c9 hlp) (fun c_79 => ?_)
        refine lv_iload (pc := 82) hx hb dL_waits_82 (lv_at hl 0 rfl) ?_
        refine lv_bipush (v := 99) (pc := 84) hx hb dL_waits_84 (by decide) ?_
        have J2 : ∀ (H : Heap) (locs : List Loc) (ls : Array Slot), zw G ca A s0.heap s0 w H locs → lv_has ls 9 [(7, .int (nI (j - mW j i))), (6, .int (p.1 7)), (5, .int (p.2 k 8)), (4, .int (p.1 0)), (3, .int (hotF p k)), (2, .int (nI (j + 1))), (0, .ref o), (1, .int (nI k))] → W pg l ev rm_L_waits s0 mt args below meth cd H locs 0 0 Q (F0 mt 96 ls [.int (nI (mW j (i + 1) - mW j i))]) := by
          intro H locs ls hz hl
          refine lv_istore (lv' := [(8, .int (nI (mW j (i + 1) - mW j i))), (7, .int (nI (j - mW j i))), (6, .int (p.1 7)), (5, .int (p.2 k 8)), (4, .int (p.1 0)), (3, .int (hotF p k)), (2, .int (nI (j + 1))), (0, .ref o), (1, .int (nI k))]) (pc := 96) hx hb dL_waits_96 hl (by decide) rfl (fun ls hl => ?_)
          refine lv_aload_n (pc := 98) hx hb dL_waits_98 rfl (lv_at hl 7 rfl) ?_
          refine lv_iload (pc := 99) hx hb dL_waits_99 (lv_at hl 0 rfl) ?_
          obtain ⟨w11, z11, hF11⟩ := f_pass (l := l) (G := G) hF (hP.ticks hF26 ht0 (mW j i) (by have := Nat.min_le_right (99 * i) j; unfold mW; omega)).1.1 (nI (mW j (i + 1) - mW j i))
          obtain ⟨fsw11, tlw11, ew11⟩ := hF11.h1
          refine z_runV (pc := 101) (As := [.int (nI (mW j (i + 1) - mW j i))]) (rest := []) (ws1 := w11) ⟨hx, hb, hml, hown, hts⟩ (z11) (cwV 1 hts (zgoodV zsub wq_18_0 wq_18_1 wq_18_2 wq_1_2 wq_18_3) rfl rfl rfl hdV_X3_pass ⟨Nat.le_of_ble_eq_true rfl, Nat.le_of_ble_eq_true rfl⟩) hz [] zp_all zp_all' ew rfl rfl hl.1 (Nat.le_of_ble_eq_true rfl) (st1 := [.int (kpassR (tkN p (mW j i)) (nI (mW j (i + 1) - mW j i)))]) rfl dL_waits_101 ⟨Nat.le_of_ble_eq_true rfl, Nat.le_of_ble_eq_true rfl⟩ (fun H locs hz => ?_)
          rw [hpa.1, tkN_add, hq.2.2.1] at hF11
          refine z_top (y := kS (tkN p (mW j i)) (mW j (i + 1) - mW j i)) hpa.2 ?_
          refine lv_if_lt (pc := 104) (tgt := 119) hx hb dL_waits_104 (by decide) (fun c9 => absurd c9 (Int32.not_lt.mpr hkp)) (fun c_104 => ?_)
          refine lv_aload_n (pc := 107) hx hb dL_waits_107 rfl (lv_at hl 7 rfl) ?_
          refine lv_iload_n (pc := 108) hx hb dL_waits_108 rfl (lv_at hl 8 rfl) ?_
          refine lv_bipush (v := 8) (pc := 109) hx hb dL_waits_109 (by decide) ?_
          refine z_runV (pc := 111) (As := [.int (nI k), .int 8]) (rest := []) (ws1 := w11) ⟨hx, hb, hml, hown, hts⟩ (f_cw (l := l) (G := G) hF11 hciN hk (w9 := 8) (by decide) (by decide)) (cwV 2 hts (zgoodV zsub wq_7_7 wq_7_8 wq_7_9 wq_1_2 wq_7_10) rfl rfl rfl hdV_X3_cup ⟨Nat.le_of_ble_eq_true rfl, Nat.le_of_ble_eq_true rfl⟩) hz [] zp_all zp_all' ew11 rfl rfl hl.1 (Nat.le_of_ble_eq_true rfl) (st1 := [.int ((tkN p (mW j (i + 1))).2 k 8)]) rfl dL_waits_111 ⟨Nat.le_of_ble_eq_true rfl, Nat.le_of_ble_eq_true rfl⟩ (fun H locs hz => ?_)
          refine lv_iload (pc := 114) hx hb dL_waits_114 (lv_at hl 3 rfl) ?_
          refine lv_icmp_eq (pc := 116) (tgt := 121) hx hb dL_waits_116 (by decide) (fun c_116 => ?_) (fun c9 => absurd hsm c9)
          refine lv_iload (pc := 121) hx hb dL_waits_121 (lv_at hl 1 rfl) ?_
          refine lv_iload (pc := 123) hx hb dL_waits_123 (lv_at hl 0 rfl) ?_
          refine lv_isub (pc := 125) hx hb dL_waits_125 ?_
          refine z_top (y := nI (j - mW j (i + 1))) (by rw [nI_subI (by omega)]; congr 1; omega) ?_
          refine lv_istore (lv' := [(7, .int (nI (j - mW j (i + 1)))), (8, .int (nI (mW j (i + 1) - mW j i))), (6, .int (p.1 7)), (5, .int (p.2 k 8)), (4, .int (p.1 0)), (3, .int (hotF p k)), (2, .int (nI (j + 1))), (0, .ref o), (1, .int (nI k))]) (pc := 126) hx hb dL_waits_126 hl (by decide) rfl (fun ls hl => ?_)
          refine lv_goto (tgt := 77) (pc := 128) hx hb dL_waits_128 (by decide) ?_
          exact ih (i + 1) (by omega) w11  hF11  _ _ _ hz (lv_sub hl [0, 2, 3, 4, 5, 6, 7, 8] rfl)
        refine lv_icmp_le (pc := 86) (tgt := 94) hx hb dL_waits_86 (by decide) (fun c_86 => ?_) (fun c_86 => ?_)
        · refine lv_iload (pc := 94) hx hb dL_waits_94 (lv_at hl 0 rfl) ?_
          exact z_top (by rw [hq.2.2.2.2.2.1 ((nI_leI (b := 99) (by omega) (by decide)).mp c_86)]) (J2 _ _ _ hz (lv_sub hl [0, 1, 2, 3, 4, 5, 6, 7] rfl))
        · refine lv_bipush (v := 99) (pc := 89) hx hb dL_waits_89 (by decide) ?_
          refine lv_goto (tgt := 96) (pc := 91) hx hb dL_waits_91 (by decide) ?_
          exact z_top (by rw [hq.2.2.2.2.2.2 (fun q9 => c_86 (nI_le (b := 99) q9 (by decide)))]; rfl) (J2 _ _ _ hz (lv_sub hl [0, 1, 2, 3, 4, 5, 6, 7] rfl))
    exact loop1 ((j + 98) / 99) 0 (by omega) w7  (by rw [show mW j 0 = 0 by unfold mW; omega]; exact hF7)  _ _ _ hz (by rw [show mW j 0 = 0 by unfold mW; omega]; exact lv_sub hl [0, 1, 2, 3, 4, 5, 6, 7] rfl)
