def rm_X3_ticksTillTip : Room := { frames := 3, cells := 0, slots := 0, locals := 70 }
set_option maxRecDepth 20000 in
theorem hdV_X3_ticksTillTip : yX3_ticksTillTip.cls = RX3 ∧ yX3_ticksTillTip.cls ≠ "java/lang/invoke/MethodHandle" ∧ yX3_ticksTillTip.cls ≠ "java/lang/invoke/VarHandle" ∧ (parseMethodDescriptor yX3_ticksTillTip.desc).map (fun d => d.parameters.length) = some 1 := by decide +kernel
set_option maxHeartbeats 4000000 in
set_option maxRecDepth 100000 in
theorem k_X3_ticksTillTip (l : Launch) (G : va_G) (ca : Nat → ClassId) (o pa : Nat) (f : Nat → Int32) (sa : Nat → Nat → Nat) (sp : Nat → HC) (sz : Nat → Nat → Int32) (q : Nat → Nat) (g tx kd wh nu : Nat → Int32) (cup : Int32) (hnx1 : nxP (sp 1)) : Zc l G ca yX3_ticksTillTip (zws yX3_ticksTillTip cX3_ticksTillTip 5 (some .int)) rm_X3_ticksTillTip [.ref o, .int cup] (wF ca o pa f sa sp sz q g tx kd wh nu) (some (.int (ktiR (sp 1) cup))) (wF ca o pa f sa (va_up sp 1 (kN (sp 1) (ktiN (sp 1) cup))) (va_up sz 1 (zTk (sp 1) (sz 1) (ktiN (sp 1) cup))) q g tx kd wh nu) := by
  refine Zc.of (cc := cX3_ticksTillTip) (maxL := 5) (ret := (some .int)) (by decide) rfl (Nat.le_of_ble_eq_true rfl) ?_
  intro pg ev s0 mt below meth cd A args Q ls hx hb hr hml hown hts hlk hQ hl hz
  have L122 : (Cond.fieldLink RX3 122 "CupFountain$Cup" "tips" "I").before args s0 = true := hts _ (zsub _ wq_11_9)
  have L16 : (Cond.fieldLink RX3 16 "CupFountain" "ahead" "LCupFountain$State;").before args s0 = true := hts _ (zsub _ wq_2_1)
  have hinX0 : ∀ w ∈ wsX00, w ∈ zws yX3_ticksTillTip cX3_ticksTillTip 5 (some .int) := fun w h => zsub w (wl_wsX00 w h)
  have hinX3 : ∀ w ∈ wsX30, w ∈ zws yX3_ticksTillTip cX3_ticksTillTip 5 (some .int) := fun w h => zsub w (wl_wsX30 w h)
  have hl : lv_has ls 5 [(0, .ref o), (1, .int cup)] := hl
  by_cases hcup : inF cup 0 7 = 0
  · refine lv_aload_n (pc := 0) hx hb dX3_ticksTillTip_0 rfl (lv_at hl 0 rfl) ?_
    refine z_get (own := RX3) (ref := "CupFountain") (C := RX3) (T := TX3) (N := 10) (ci := 3) (v := .ref (sa 1 0)) (pc := 1) hx hb hts hinX3 hown hz 0 rfl rfl 1 (by decide) L16 rfl rfl dX3_ticksTillTip_1 ?_
    refine lv_iload_n (pc := 4) hx hb dX3_ticksTillTip_4 rfl (lv_at hl 1 rfl) ?_
    refine z_runV (pc := 5) (As := [.int cup]) (rest := []) (ws1 := wF ca o pa f sa sp sz q g tx kd wh nu) ⟨hx, hb, hml, hown, hts⟩ (k_X2_find_n l G ca (sa 1) ((sp 1).1) ((sp 1).2) (sz 1) cup hcup) (cwV 1 hts (zgoodV zsub wq_7_11 wq_8_0 wq_8_1 wq_1_11 wq_8_2) rfl rfl rfl hdV_X2_find ⟨Nat.le_of_ble_eq_true rfl, Nat.le_of_ble_eq_true rfl⟩) hz (wFr ca o pa f (pfS sa) sa sp sz q g tx kd wh nu 1) (wF_pm (sp := sp) (sz := sz) (i := 1) (by decide)) (wF_pm (sp := sp) (sz := sz) (i := 1) (by decide)).symm rfl rfl rfl hl.1 (Nat.le_of_ble_eq_true rfl) (st1 := [.null]) rfl dX3_ticksTillTip_5 ⟨Nat.zero_le _, Nat.zero_le _⟩ (fun H locs hz => ?_)
    refine lv_astore_nN (lv' := [(2, .null), (0, .ref o), (1, .int cup)]) (pc := 8) hx hb dX3_ticksTillTip_8 rfl hl (by decide) rfl (fun ls hl => ?_)
    refine lv_aload_nN (pc := 9) hx hb dX3_ticksTillTip_9 rfl (lv_at hl 0 rfl) ?_
    refine lv_ifnonnullN (pc := 10) hx hb dX3_ticksTillTip_10 ?_
    refine lv_iconst (v := -1) (pc := 13) hx hb dX3_ticksTillTip_13 (by decide) ?_
    exact z_iret (pc := 14) hx hb hr hlk hQ hz dX3_ticksTillTip_14 (by simp only [ktiR, if_pos hcup]) (by simp only [ktiN, if_pos hcup, kN, zTk, vup_id])
  · obtain ⟨k, hk, rfl⟩ := isCup_pos hcup
    have hnk : nn (nI k) = k := nn_nI (by omega)
    have hk0 : k < 8 := hk
    refine lv_aload_n (pc := 0) hx hb dX3_ticksTillTip_0 rfl (lv_at hl 0 rfl) ?_
    refine z_get (own := RX3) (ref := "CupFountain") (C := RX3) (T := TX3) (N := 10) (ci := 3) (v := .ref (sa 1 0)) (pc := 1) hx hb hts hinX3 hown hz 0 rfl rfl 1 (by decide) L16 rfl rfl dX3_ticksTillTip_1 ?_
    refine lv_iload_n (pc := 4) hx hb dX3_ticksTillTip_4 rfl (lv_at hl 1 rfl) ?_
    refine z_runV (pc := 5) (As := [.int (nI k)]) (rest := []) (ws1 := wF ca o pa f sa sp sz q g tx kd wh nu) ⟨hx, hb, hml, hown, hts⟩ (k_X2_find_r l G ca (sa 1) ((sp 1).1) ((sp 1).2) (sz 1) k hk0) (cwV 1 hts (zgoodV zsub wq_7_11 wq_8_0 wq_8_1 wq_1_11 wq_8_2) rfl rfl rfl hdV_X2_find ⟨Nat.le_of_ble_eq_true rfl, Nat.le_of_ble_eq_true rfl⟩) hz (wFr ca o pa f (pfS sa) sa sp sz q g tx kd wh nu 1) (wF_pm (sp := sp) (sz := sz) (i := 1) (by decide)) (wF_pm (sp := sp) (sz := sz) (i := 1) (by decide)).symm rfl rfl rfl hl.1 (Nat.le_of_ble_eq_true rfl) (st1 := [.ref (sa 1 (2 + k))]) rfl dX3_ticksTillTip_5 ⟨Nat.zero_le _, Nat.zero_le _⟩ (fun H locs hz => ?_)
    refine lv_astore_n (lv' := [(2, .ref (sa 1 (2 + k))), (0, .ref o), (1, .int (nI k))]) (pc := 8) hx hb dX3_ticksTillTip_8 rfl hl (by decide) rfl (fun ls hl => ?_)
    refine lv_aload_n (pc := 9) hx hb dX3_ticksTillTip_9 rfl (lv_at hl 0 rfl) ?_
    refine lv_ifnonnull (tgt := 15) (pc := 10) hx hb dX3_ticksTillTip_10 (by decide) ?_
    refine lv_aload_n (pc := 15) hx hb dX3_ticksTillTip_15 rfl (lv_at hl 0 rfl) ?_
    refine z_getm (own := RX3) (ref := "CupFountain$Cup") (C := RX0) (T := TX0) (N := 13) (ci := 0) (v := .int (((sp 1).2) k 8)) (pc := 16) hx hb hts hinX0 hown hz (wF_mcup (i := 1) (k := k) (by decide) hk0) rfl 8 (by decide) L122 rfl rfl dX3_ticksTillTip_16 ?_
    refine lv_istore_n (lv' := [(3, .int (((sp 1).2) k 8)), (2, .ref (sa 1 (2 + k))), (0, .ref o), (1, .int (nI k))]) (pc := 19) hx hb dX3_ticksTillTip_19 rfl hl (by decide) rfl (fun ls hl => ?_)
    refine lv_iconst (v := 1) (pc := 20) hx hb dX3_ticksTillTip_20 (by decide) ?_
    refine lv_istore (lv' := [(4, .int 1), (3, .int (((sp 1).2) k 8)), (2, .ref (sa 1 (2 + k))), (0, .ref o), (1, .int (nI k))]) (pc := 21) hx hb dX3_ticksTillTip_21 hl (by decide) rfl (fun ls hl => ?_)
    have loop1 : ∀ cnt i : Nat, i + cnt = 500 → ∀ (H : Heap) (locs : List Loc) (ls : Array Slot), zw G ca A s0.heap s0 (wF ca o pa f sa (va_up sp 1 (kN (sp 1) i)) (va_up sz 1 (zTk (sp 1) (sz 1) i)) q g tx kd wh nu) H locs → lv_has ls 5 [(4, .int (nI (i + 1))), (3, .int ((sp 1).2 k 8)), (2, .ref (sa 1 (2 + k))), (0, .ref o), (1, .int (nI k))] → kuX (sp 1) k = kuF (sp 1) k cnt i → kuY (sp 1) k = kuN (sp 1) k cnt i → W pg l ev rm_X3_ticksTillTip s0 mt args below meth cd H locs 0 0 Q (F0 mt 23 ls []) := by
      intro cnt
      induction cnt with
      | zero =>
        intro i hk9 H locs ls hz hl hR hN
        obtain rfl : 500 = i := by omega
        refine lv_iload (pc := 23) hx hb dX3_ticksTillTip_23 (lv_at hl 0 rfl) ?_
        refine lv_sipush (v := 500) (pc := 25) hx hb dX3_ticksTillTip_25 (by decide) ?_
        refine lv_icmp_gt (pc := 28) (tgt := 56) hx hb dX3_ticksTillTip_28 (by decide) (fun c_28 => ?_) (fun c9 => absurd (by decide) c9)
        refine lv_bipush (v := -5) (pc := 56) hx hb dX3_ticksTillTip_56 (by decide) ?_
        exact z_iret (pc := 58) hx hb hr hlk hQ hz dX3_ticksTillTip_58 (by simp only [ktiR, if_neg hcup, hnk]; rw [hR]; simp only [kuF]) (by simp only [ktiN, if_neg hcup, hnk]; rw [hN]; simp only [kuN] <;> rfl)
      | succ cnt ih =>
        intro i hk9 H locs ls hz hl hR hN
        have hk : i < 500 := by omega
        have hi : i < 500 := hk
        clear hk
        refine lv_iload (pc := 23) hx hb dX3_ticksTillTip_23 (lv_at hl 0 rfl) ?_
        refine lv_sipush (v := 500) (pc := 25) hx hb dX3_ticksTillTip_25 (by decide) ?_
        refine lv_icmp_gt (pc := 28) (tgt := 56) hx hb dX3_ticksTillTip_28 (by decide) (fun c9 => absurd c9 (nI_nlt (a := 500) (by omega) (by decide))) (fun c_28 => ?_)
        refine lv_aload_n (pc := 31) hx hb dX3_ticksTillTip_31 rfl (lv_at hl 3 rfl) ?_
        refine z_get (own := RX3) (ref := "CupFountain") (C := RX3) (T := TX3) (N := 10) (ci := 3) (v := .ref (sa 1 0)) (pc := 32) hx hb hts hinX3 hown hz 0 rfl rfl 1 (by decide) L16 rfl rfl dX3_ticksTillTip_32 ?_
        refine z_runV (pc := 35) (As := []) (rest := []) (ws1 := wF ca o pa f sa (va_up sp 1 ((kN (sp 1) (i + 1)).1, (kN (sp 1) (i + 1)).2)) (va_up sz 1 (rqX (kN (sp 1) i) (zTk (sp 1) (sz 1) i))) q g tx kd wh nu) ⟨hx, hb, hml, hown, hts⟩ (k_X2_tickOnce l G ca (sa 1) ((kN (sp 1) i).1) ((kN (sp 1) i).2) (zTk (sp 1) (sz 1) i) (hnx1.ticks i)) (cwV 0 hts (zgoodV zsub wq_20_4 wq_12_11 wq_13_0 wq_1_11 wq_13_1) rfl rfl rfl hdV_X2_tickOnce ⟨Nat.le_of_ble_eq_true rfl, Nat.le_of_ble_eq_true rfl⟩) hz (wFr ca o pa f (pfS sa) sa (va_up sp 1 (kN (sp 1) i)) (va_up sz 1 (zTk (sp 1) (sz 1) i)) q g tx kd wh nu 1) (wF_pm (sp := (va_up sp 1 (kN (sp 1) i))) (sz := (va_up sz 1 (zTk (sp 1) (sz 1) i))) (i := 1) (by decide)) (wF_pm1 (sp := (va_up sp 1 (kN (sp 1) i))) (sz := (va_up sz 1 (zTk (sp 1) (sz 1) i))) (sp' := (va_up sp 1 ((kN (sp 1) (i + 1)).1, (kN (sp 1) (i + 1)).2))) (sz' := (va_up sz 1 (rqX (kN (sp 1) i) (zTk (sp 1) (sz 1) i)))) (i := 1) (by decide) (fun j h9 => by simp only [vup_n h9]) (fun j h9 => by first | rfl | simp only [vup_n h9])) rfl rfl rfl hl.1 (Nat.le_of_ble_eq_true rfl) (st1 := [.int (ktips (kN (sp 1) i))]) rfl dX3_ticksTillTip_35 ⟨Nat.zero_le _, Nat.zero_le _⟩ (fun H locs hz => ?_)
        refine lv_pop (pc := 38) hx hb dX3_ticksTillTip_38 rfl ?_
        refine lv_aload_n (pc := 39) hx hb dX3_ticksTillTip_39 rfl (lv_at hl 2 rfl) ?_
        refine z_getm (own := RX3) (ref := "CupFountain$Cup") (C := RX0) (T := TX0) (N := 13) (ci := 0) (v := .int (((kN (sp 1) (i + 1)).2) k 8)) (pc := 40) hx hb hts hinX0 hown hz (wF_mcup (i := 1) (k := k) (by decide) hk0) rfl 8 (by decide) L122 rfl rfl dX3_ticksTillTip_40 ?_
        refine lv_iload_n (pc := 43) hx hb dX3_ticksTillTip_43 rfl (lv_at hl 1 rfl) ?_
        refine lv_icmp_le (pc := 44) (tgt := 50) hx hb dX3_ticksTillTip_44 (by decide) (fun c_44 => ?_) (fun c_44 => ?_)
        · refine lv_iinc (v := nI (i + 1 + 1)) (lv' := [(4, .int (nI (i + 1 + 1))), (3, .int ((sp 1).2 k 8)), (2, .ref (sa 1 (2 + k))), (0, .ref o), (1, .int (nI k))]) (pc := 50) hx hb dX3_ticksTillTip_50 hl (k := 0) rfl (nI_add (i + 1) 1) (by decide) rfl (fun ls hl => ?_)
          refine lv_goto (tgt := 23) (pc := 53) hx hb dX3_ticksTillTip_53 (by decide) ?_
          exact ih (i + 1) (by omega) _ _ _ (hz.as (by rfl)) (lv_sub hl [0, 1, 2, 3, 4] rfl) (hR.trans (by rw [kuF, if_pos c_44])) (hN.trans (by rw [kuN, if_pos c_44]))
        · refine lv_iload (pc := 47) hx hb dX3_ticksTillTip_47 (lv_at hl 0 rfl) ?_
          exact z_iret (pc := 49) hx hb hr hlk hQ hz dX3_ticksTillTip_49 (by simp only [ktiR, if_neg hcup, hnk]; rw [hR]; simp only [kuF, if_neg c_44]) (by simp only [ktiN, if_neg hcup, hnk]; rw [hN]; simp only [kuN, if_neg c_44] <;> rfl)
    exact loop1 500 0 (by omega) _ _ _ (hz.as (show _ = wF ca o pa f sa (va_up sp 1 (kN (sp 1) 0)) (va_up sz 1 (zTk (sp 1) (sz 1) 0)) q g tx kd wh nu from by rw [show kN (sp 1) 0 = sp 1 from rfl, show zTk (sp 1) (sz 1) 0 = sz 1 from rfl, vup_id, vup_id])) (lv_sub hl [0, 1, 2, 3, 4] rfl) (kuX_d _ _) (kuY_d _ _)

def rm_X3_hourOfTip : Room := { frames := 4, cells := 0, slots := 0, locals := 94 }
set_option maxRecDepth 20000 in
theorem hdV_X3_hourOfTip : yX3_hourOfTip.cls = RX3 ∧ yX3_hourOfTip.cls ≠ "java/lang/invoke/MethodHandle" ∧ yX3_hourOfTip.cls ≠ "java/lang/invoke/VarHandle" ∧ (parseMethodDescriptor yX3_hourOfTip.desc).map (fun d => d.parameters.length) = some 1 := by decide +kernel
set_option maxHeartbeats 4000000 in
set_option maxRecDepth 100000 in
theorem k_X3_hourOfTip (l : Launch) (G : va_G) (ca : Nat → ClassId) (o pa : Nat) (f : Nat → Int32) (sa : Nat → Nat → Nat) (sp : Nat → HC) (sz : Nat → Nat → Int32) (q : Nat → Nat) (g tx kd wh nu : Nat → Int32) (cup : Int32) (hnx1 : nxP (sp 1)) : Zc l G ca yX3_hourOfTip (zws yX3_hourOfTip cX3_hourOfTip 3 (some .int)) rm_X3_hourOfTip [.ref o, .int cup] (wF ca o pa f sa sp sz q g tx kd wh nu) (some (.int (khoR (sp 1) cup))) (wF ca o pa f sa (va_up sp 1 (kN (sp 1) (ktiN (sp 1) cup))) (va_up sz 1 (zTk (sp 1) (sz 1) (ktiN (sp 1) cup))) q g tx kd wh nu) := by
  refine Zc.of (cc := cX3_hourOfTip) (maxL := 3) (ret := (some .int)) (by decide) rfl (Nat.le_of_ble_eq_true rfl) ?_
  intro pg ev s0 mt below meth cd A args Q ls hx hb hr hml hown hts hlk hQ hl hz
  have L107 : (Cond.fieldLink RX3 107 "CupFountain$State" "tick" "I").before args s0 = true := hts _ (zsub _ wq_20_2)
  have L16 : (Cond.fieldLink RX3 16 "CupFountain" "ahead" "LCupFountain$State;").before args s0 = true := hts _ (zsub _ wq_2_1)
  have hinX2 : ∀ w ∈ wsX20, w ∈ zws yX3_hourOfTip cX3_hourOfTip 3 (some .int) := fun w h => zsub w (wl_wsX20 w h)
  have hinX3 : ∀ w ∈ wsX30, w ∈ zws yX3_hourOfTip cX3_hourOfTip 3 (some .int) := fun w h => zsub w (wl_wsX30 w h)
  have hl : lv_has ls 3 [(0, .ref o), (1, .int cup)] := hl
  refine lv_aload_n (pc := 0) hx hb dX3_hourOfTip_0 rfl (lv_at hl 0 rfl) ?_
  refine lv_iload_n (pc := 1) hx hb dX3_hourOfTip_1 rfl (lv_at hl 1 rfl) ?_
  refine z_runV (pc := 2) (As := [.int cup]) (rest := []) (ws1 := wF ca o pa f sa (va_up sp 1 (kN (sp 1) (ktiN (sp 1) cup))) (va_up sz 1 (zTk (sp 1) (sz 1) (ktiN (sp 1) cup))) q g tx kd wh nu) ⟨hx, hb, hml, hown, hts⟩ (k_X3_ticksTillTip l G ca o pa f sa sp sz q g tx kd wh nu cup hnx1) (cwV 1 hts (zgoodV zsub wq_20_10 wq_20_11 wq_21_0 wq_1_2 wq_21_1) rfl rfl rfl hdV_X3_ticksTillTip ⟨Nat.le_of_ble_eq_true rfl, Nat.le_of_ble_eq_true rfl⟩) hz [] zp_all zp_all' rfl rfl rfl hl.1 (Nat.le_of_ble_eq_true rfl) (st1 := [.int (ktiR (sp 1) cup)]) rfl dX3_hourOfTip_2 ⟨Nat.zero_le _, Nat.zero_le _⟩ (fun H locs hz => ?_)
  refine lv_istore_n (lv' := [(2, .int (ktiR (sp 1) cup)), (0, .ref o), (1, .int cup)]) (pc := 5) hx hb dX3_hourOfTip_5 rfl hl (by decide) rfl (fun ls hl => ?_)
  refine lv_iload_n (pc := 6) hx hb dX3_hourOfTip_6 rfl (lv_at hl 0 rfl) ?_
  refine lv_if_ge (pc := 7) (tgt := 14) hx hb dX3_hourOfTip_7 (by decide) (fun c_7 => ?_) (fun c_7 => ?_)
  · refine lv_aload_n (pc := 14) hx hb dX3_hourOfTip_14 rfl (lv_at hl 1 rfl) ?_
    refine z_get (own := RX3) (ref := "CupFountain") (C := RX3) (T := TX3) (N := 10) (ci := 3) (v := .ref (sa 1 0)) (pc := 15) hx hb hts hinX3 hown hz 0 rfl rfl 1 (by decide) L16 rfl rfl dX3_hourOfTip_15 ?_
    refine lv_aload_n (pc := 18) hx hb dX3_hourOfTip_18 rfl (lv_at hl 1 rfl) ?_
    refine z_get (own := RX3) (ref := "CupFountain") (C := RX3) (T := TX3) (N := 10) (ci := 3) (v := .ref (sa 1 0)) (pc := 19) hx hb hts hinX3 hown hz 0 rfl rfl 1 (by decide) L16 rfl rfl dX3_hourOfTip_19 ?_
    refine z_getm (own := RX3) (ref := "CupFountain$State") (C := RX2) (T := TX2) (N := 9) (ci := 2) (v := .int ((kN (sp 1) (ktiN (sp 1) cup)).1 0)) (pc := 22) hx hb hts hinX2 hown hz (wF_mst (i := 1) (by decide)) rfl 1 (by decide) L107 rfl rfl dX3_hourOfTip_22 ?_
    refine lv_iconst (v := 1) (pc := 25) hx hb dX3_hourOfTip_25 (by decide) ?_
    refine lv_isub (pc := 26) hx hb dX3_hourOfTip_26 ?_
    refine z_runV (pc := 27) (As := [.int (((kN (sp 1) (ktiN (sp 1) cup)).1 0) - 1)]) (rest := []) (ws1 := wF ca o pa f sa (va_up sp 1 (kN (sp 1) (ktiN (sp 1) cup))) (va_up sz 1 (zTk (sp 1) (sz 1) (ktiN (sp 1) cup))) q g tx kd wh nu) ⟨hx, hb, hml, hown, hts⟩ (k_X2_hourOf l G ca (sa 1) ((kN (sp 1) (ktiN (sp 1) cup)).1) ((kN (sp 1) (ktiN (sp 1) cup)).2) (zTk (sp 1) (sz 1) (ktiN (sp 1) cup)) (((kN (sp 1) (ktiN (sp 1) cup)).1 0) - 1)) (cwV 1 hts (zgoodV zsub wq_20_5 wq_9_9 wq_9_10 wq_1_11 wq_9_11) rfl rfl rfl hdV_X2_hourOf ⟨Nat.le_of_ble_eq_true rfl, Nat.le_of_ble_eq_true rfl⟩) hz (wFr ca o pa f (pfS sa) sa (va_up sp 1 (kN (sp 1) (ktiN (sp 1) cup))) (va_up sz 1 (zTk (sp 1) (sz 1) (ktiN (sp 1) cup))) q g tx kd wh nu 1) (wF_pm (sp := (va_up sp 1 (kN (sp 1) (ktiN (sp 1) cup)))) (sz := (va_up sz 1 (zTk (sp 1) (sz 1) (ktiN (sp 1) cup)))) (i := 1) (by decide)) (wF_pm (sp := (va_up sp 1 (kN (sp 1) (ktiN (sp 1) cup)))) (sz := (va_up sz 1 (zTk (sp 1) (sz 1) (ktiN (sp 1) cup)))) (i := 1) (by decide)).symm rfl rfl rfl hl.1 (Nat.le_of_ble_eq_true rfl) (st1 := [.int (hoR ((kN (sp 1) (ktiN (sp 1) cup)).1) (((kN (sp 1) (ktiN (sp 1) cup)).1 0) - 1))]) rfl dX3_hourOfTip_27 ⟨Nat.zero_le _, Nat.zero_le _⟩ (fun H locs hz => ?_)
    exact z_iret (pc := 30) hx hb hr hlk hQ hz dX3_hourOfTip_30 (by simp only [khoR, if_pos c_7]) (by rfl)
  · refine lv_iload_n (pc := 10) hx hb dX3_hourOfTip_10 rfl (lv_at hl 0 rfl) ?_
    refine lv_goto (tgt := 30) (pc := 11) hx hb dX3_hourOfTip_11 (by decide) ?_
    exact z_iret (pc := 30) hx hb hr hlk hQ hz dX3_hourOfTip_30 (by simp only [khoR, if_neg c_7]) (by rfl)

def rm_X3_tipsIn : Room := { frames := 4, cells := 0, slots := 0, locals := 94 }
set_option maxRecDepth 20000 in
theorem hdV_X3_tipsIn : yX3_tipsIn.cls = RX3 ∧ yX3_tipsIn.cls ≠ "java/lang/invoke/MethodHandle" ∧ yX3_tipsIn.cls ≠ "java/lang/invoke/VarHandle" ∧ (parseMethodDescriptor yX3_tipsIn.desc).map (fun d => d.parameters.length) = some 1 := by decide +kernel
set_option maxHeartbeats 4000000 in
set_option maxRecDepth 100000 in
theorem k_X3_tipsIn (l : Launch) (G : va_G) (ca : Nat → ClassId) (o pa : Nat) (f : Nat → Int32) (sa : Nat → Nat → Nat) (sp : Nat → HC) (sz : Nat → Nat → Int32) (q : Nat → Nat) (g tx kd wh nu : Nat → Int32) (cup : Int32) (hbb0 : bbP (sp 0)) (hnx0 : nxP (sp 0)) : Zc l G ca yX3_tipsIn (zws yX3_tipsIn cX3_tipsIn 2 (some .int)) rm_X3_tipsIn [.ref o, .int cup] (wF ca o pa f sa sp sz q g tx kd wh nu) (some (.int (ktiR (sp 0) cup))) (wF ca o pa f sa (va_up sp 1 (kN (sp 0) (ktiN (sp 0) cup))) (va_up sz 1 (zTk (sp 0) (sz 1) (ktiN (sp 0) cup))) q g tx kd wh nu) := by
  refine Zc.of (cc := cX3_tipsIn) (maxL := 2) (ret := (some .int)) (by decide) rfl (Nat.le_of_ble_eq_true rfl) ?_
  intro pg ev s0 mt below meth cd A args Q ls hx hb hr hml hown hts hlk hQ hl hz
  have L10 : (Cond.fieldLink RX3 10 "CupFountain" "now" "LCupFountain$State;").before args s0 = true := hts _ (zsub _ wq_2_0)
  have L16 : (Cond.fieldLink RX3 16 "CupFountain" "ahead" "LCupFountain$State;").before args s0 = true := hts _ (zsub _ wq_2_1)
  have hinX3 : ∀ w ∈ wsX30, w ∈ zws yX3_tipsIn cX3_tipsIn 2 (some .int) := fun w h => zsub w (wl_wsX30 w h)
  have hl : lv_has ls 2 [(0, .ref o), (1, .int cup)] := hl
  refine lv_aload_n (pc := 0) hx hb dX3_tipsIn_0 rfl (lv_at hl 0 rfl) ?_
  refine z_get (own := RX3) (ref := "CupFountain") (C := RX3) (T := TX3) (N := 10) (ci := 3) (v := .ref (sa 1 0)) (pc := 1) hx hb hts hinX3 hown hz 0 rfl rfl 1 (by decide) L16 rfl rfl dX3_tipsIn_1 ?_
  refine lv_aload_n (pc := 4) hx hb dX3_tipsIn_4 rfl (lv_at hl 0 rfl) ?_
  refine z_get (own := RX3) (ref := "CupFountain") (C := RX3) (T := TX3) (N := 10) (ci := 3) (v := .ref (sa 0 0)) (pc := 5) hx hb hts hinX3 hown hz 0 rfl rfl 0 (by decide) L10 rfl rfl dX3_tipsIn_5 ?_
  refine z_runV (pc := 8) (As := [.ref (sa 0 0)]) (rest := []) (ws1 := wF ca o pa f sa (va_up sp 1 (sp 0)) sz q g tx kd wh nu) ⟨hx, hb, hml, hown, hts⟩ (k_X2_copyFrom l G ca (sa 1) (sa 0) ((sp 1).1) ((sp 0).1) ((sp 1).2) ((sp 0).2) (sz 1) (sz 0) hbb0) (cwV 1 hts (zgoodV zsub wq_11_10 wq_11_11 wq_12_0 wq_1_11 wq_12_1) rfl rfl rfl hdV_X2_copyFrom ⟨Nat.le_of_ble_eq_true rfl, Nat.le_of_ble_eq_true rfl⟩) hz (wFr2 ca o pa f (pfS sa) sa sp sz q g tx kd wh nu 1 0) (wF_pm2 (sp := sp) (sz := sz) (i := 1) (j := 0) (by decide) (by decide) (by decide)) (wF_pm3 (sp := sp) (sz := sz) (i := 1) (j := 0) (by decide) (by decide) (by decide)) rfl rfl rfl hl.1 (Nat.le_of_ble_eq_true rfl) (st1 := []) rfl dX3_tipsIn_8 ⟨Nat.zero_le _, Nat.zero_le _⟩ (fun H locs hz => ?_)
  refine lv_aload_n (pc := 11) hx hb dX3_tipsIn_11 rfl (lv_at hl 0 rfl) ?_
  refine lv_iload_n (pc := 12) hx hb dX3_tipsIn_12 rfl (lv_at hl 1 rfl) ?_
  refine z_runV (pc := 13) (As := [.int cup]) (rest := []) (ws1 := wF ca o pa f sa (va_up (va_up sp 1 (sp 0)) 1 (kN ((va_up sp 1 (sp 0)) 1) (ktiN ((va_up sp 1 (sp 0)) 1) cup))) (va_up sz 1 (zTk ((va_up sp 1 (sp 0)) 1) (sz 1) (ktiN ((va_up sp 1 (sp 0)) 1) cup))) q g tx kd wh nu) ⟨hx, hb, hml, hown, hts⟩ (k_X3_ticksTillTip l G ca o pa f sa (va_up sp 1 (sp 0)) sz q g tx kd wh nu cup hnx0) (cwV 1 hts (zgoodV zsub wq_20_10 wq_20_11 wq_21_0 wq_1_2 wq_21_1) rfl rfl rfl hdV_X3_ticksTillTip ⟨Nat.le_of_ble_eq_true rfl, Nat.le_of_ble_eq_true rfl⟩) hz [] zp_all zp_all' rfl rfl rfl hl.1 (Nat.le_of_ble_eq_true rfl) (st1 := [.int (ktiR (sp 0) cup)]) rfl dX3_tipsIn_13 ⟨Nat.zero_le _, Nat.zero_le _⟩ (fun H locs hz => ?_)
  have hz := hz.as (show _ = wF ca o pa f sa (va_up sp 1 (kN (sp 0) (ktiN (sp 0) cup))) (va_up sz 1 (zTk (sp 0) (sz 1) (ktiN (sp 0) cup))) q g tx kd wh nu from by first | (rw [vup_up]; done) | (rw [vup_up]; rfl))
  exact z_iret (pc := 16) hx hb hr hlk hQ hz dX3_tipsIn_16 (by rfl) (by rfl)

def rm_X3_tipsAt : Room := { frames := 5, cells := 0, slots := 0, locals := 116 }
set_option maxRecDepth 20000 in
theorem hdV_X3_tipsAt : yX3_tipsAt.cls = RX3 ∧ yX3_tipsAt.cls ≠ "java/lang/invoke/MethodHandle" ∧ yX3_tipsAt.cls ≠ "java/lang/invoke/VarHandle" ∧ (parseMethodDescriptor yX3_tipsAt.desc).map (fun d => d.parameters.length) = some 1 := by decide +kernel
set_option maxHeartbeats 4000000 in
set_option maxRecDepth 100000 in
theorem k_X3_tipsAt (l : Launch) (G : va_G) (ca : Nat → ClassId) (o pa : Nat) (f : Nat → Int32) (sa : Nat → Nat → Nat) (sp : Nat → HC) (sz : Nat → Nat → Int32) (q : Nat → Nat) (g tx kd wh nu : Nat → Int32) (cup : Int32) (hbb0 : bbP (sp 0)) (hnx0 : nxP (sp 0)) : Zc l G ca yX3_tipsAt (zws yX3_tipsAt cX3_tipsAt 2 (some .int)) rm_X3_tipsAt [.ref o, .int cup] (wF ca o pa f sa sp sz q g tx kd wh nu) (some (.int (khoR (sp 0) cup))) (wF ca o pa f sa (va_up sp 1 (kN (sp 0) (ktiN (sp 0) cup))) (va_up sz 1 (zTk (sp 0) (sz 1) (ktiN (sp 0) cup))) q g tx kd wh nu) := by
  refine Zc.of (cc := cX3_tipsAt) (maxL := 2) (ret := (some .int)) (by decide) rfl (Nat.le_of_ble_eq_true rfl) ?_
  intro pg ev s0 mt below meth cd A args Q ls hx hb hr hml hown hts hlk hQ hl hz
  have L10 : (Cond.fieldLink RX3 10 "CupFountain" "now" "LCupFountain$State;").before args s0 = true := hts _ (zsub _ wq_2_0)
  have L16 : (Cond.fieldLink RX3 16 "CupFountain" "ahead" "LCupFountain$State;").before args s0 = true := hts _ (zsub _ wq_2_1)
  have hinX3 : ∀ w ∈ wsX30, w ∈ zws yX3_tipsAt cX3_tipsAt 2 (some .int) := fun w h => zsub w (wl_wsX30 w h)
  have hl : lv_has ls 2 [(0, .ref o), (1, .int cup)] := hl
  refine lv_aload_n (pc := 0) hx hb dX3_tipsAt_0 rfl (lv_at hl 0 rfl) ?_
  refine z_get (own := RX3) (ref := "CupFountain") (C := RX3) (T := TX3) (N := 10) (ci := 3) (v := .ref (sa 1 0)) (pc := 1) hx hb hts hinX3 hown hz 0 rfl rfl 1 (by decide) L16 rfl rfl dX3_tipsAt_1 ?_
  refine lv_aload_n (pc := 4) hx hb dX3_tipsAt_4 rfl (lv_at hl 0 rfl) ?_
  refine z_get (own := RX3) (ref := "CupFountain") (C := RX3) (T := TX3) (N := 10) (ci := 3) (v := .ref (sa 0 0)) (pc := 5) hx hb hts hinX3 hown hz 0 rfl rfl 0 (by decide) L10 rfl rfl dX3_tipsAt_5 ?_
  refine z_runV (pc := 8) (As := [.ref (sa 0 0)]) (rest := []) (ws1 := wF ca o pa f sa (va_up sp 1 (sp 0)) sz q g tx kd wh nu) ⟨hx, hb, hml, hown, hts⟩ (k_X2_copyFrom l G ca (sa 1) (sa 0) ((sp 1).1) ((sp 0).1) ((sp 1).2) ((sp 0).2) (sz 1) (sz 0) hbb0) (cwV 1 hts (zgoodV zsub wq_11_10 wq_11_11 wq_12_0 wq_1_11 wq_12_1) rfl rfl rfl hdV_X2_copyFrom ⟨Nat.le_of_ble_eq_true rfl, Nat.le_of_ble_eq_true rfl⟩) hz (wFr2 ca o pa f (pfS sa) sa sp sz q g tx kd wh nu 1 0) (wF_pm2 (sp := sp) (sz := sz) (i := 1) (j := 0) (by decide) (by decide) (by decide)) (wF_pm3 (sp := sp) (sz := sz) (i := 1) (j := 0) (by decide) (by decide) (by decide)) rfl rfl rfl hl.1 (Nat.le_of_ble_eq_true rfl) (st1 := []) rfl dX3_tipsAt_8 ⟨Nat.zero_le _, Nat.zero_le _⟩ (fun H locs hz => ?_)
  refine lv_aload_n (pc := 11) hx hb dX3_tipsAt_11 rfl (lv_at hl 0 rfl) ?_
  refine lv_iload_n (pc := 12) hx hb dX3_tipsAt_12 rfl (lv_at hl 1 rfl) ?_
  refine z_runV (pc := 13) (As := [.int cup]) (rest := []) (ws1 := wF ca o pa f sa (va_up (va_up sp 1 (sp 0)) 1 (kN ((va_up sp 1 (sp 0)) 1) (ktiN ((va_up sp 1 (sp 0)) 1) cup))) (va_up sz 1 (zTk ((va_up sp 1 (sp 0)) 1) (sz 1) (ktiN ((va_up sp 1 (sp 0)) 1) cup))) q g tx kd wh nu) ⟨hx, hb, hml, hown, hts⟩ (k_X3_hourOfTip l G ca o pa f sa (va_up sp 1 (sp 0)) sz q g tx kd wh nu cup hnx0) (cwV 1 hts (zgoodV zsub wq_21_8 wq_21_9 wq_21_10 wq_1_2 wq_21_11) rfl rfl rfl hdV_X3_hourOfTip ⟨Nat.le_of_ble_eq_true rfl, Nat.le_of_ble_eq_true rfl⟩) hz [] zp_all zp_all' rfl rfl rfl hl.1 (Nat.le_of_ble_eq_true rfl) (st1 := [.int (khoR (sp 0) cup)]) rfl dX3_tipsAt_13 ⟨Nat.zero_le _, Nat.zero_le _⟩ (fun H locs hz => ?_)
  have hz := hz.as (show _ = wF ca o pa f sa (va_up sp 1 (kN (sp 0) (ktiN (sp 0) cup))) (va_up sz 1 (zTk (sp 0) (sz 1) (ktiN (sp 0) cup))) q g tx kd wh nu from by first | (rw [vup_up]; done) | (rw [vup_up]; rfl))
  exact z_iret (pc := 16) hx hb hr hlk hQ hz dX3_tipsAt_16 (by rfl) (by rfl)

def rm_X3_starving : Room := { frames := 4, cells := 0, slots := 0, locals := 93 }
set_option maxRecDepth 20000 in
theorem hdV_X3_starving : yX3_starving.cls = RX3 ∧ yX3_starving.cls ≠ "java/lang/invoke/MethodHandle" ∧ yX3_starving.cls ≠ "java/lang/invoke/VarHandle" ∧ (parseMethodDescriptor yX3_starving.desc).map (fun d => d.parameters.length) = some 0 := by decide +kernel
set_option maxHeartbeats 4000000 in
set_option maxRecDepth 100000 in
theorem k_X3_starving (l : Launch) (G : va_G) (ca : Nat → ClassId) (o pa : Nat) (f : Nat → Int32) (sa : Nat → Nat → Nat) (sp : Nat → HC) (sz : Nat → Nat → Int32) (q : Nat → Nat) (g tx kd wh nu : Nat → Int32) (hbb0 : bbP (sp 0)) (hnx0 : nxP (sp 0)) : Zc l G ca yX3_starving (zws yX3_starving cX3_starving 2 (some .int)) rm_X3_starving [.ref o] (wF ca o pa f sa sp sz q g tx kd wh nu) (some (.int (kst3 (kN5 (sp 0)) (sp 0)))) (wF ca o pa f sa (va_up sp 1 (kN5 (sp 0))) (va_up sz 1 (zN5 (sp 0) (sz 1))) q g tx kd wh nu) := by
  refine Zc.of (cc := cX3_starving) (maxL := 2) (ret := (some .int)) (by decide) rfl (Nat.le_of_ble_eq_true rfl) ?_
  intro pg ev s0 mt below meth cd A args Q ls hx hb hr hml hown hts hlk hQ hl hz
  have L10 : (Cond.fieldLink RX3 10 "CupFountain" "now" "LCupFountain$State;").before args s0 = true := hts _ (zsub _ wq_2_0)
  have L122 : (Cond.fieldLink RX3 122 "CupFountain$Cup" "tips" "I").before args s0 = true := hts _ (zsub _ wq_11_9)
  have L146 : (Cond.fieldLink RX3 146 "CupFountain$State" "cups" "[LCupFountain$Cup;").before args s0 = true := hts _ (zsub _ wq_7_5)
  have L16 : (Cond.fieldLink RX3 16 "CupFountain" "ahead" "LCupFountain$State;").before args s0 = true := hts _ (zsub _ wq_2_1)
  have hinX0 : ∀ w ∈ wsX00, w ∈ zws yX3_starving cX3_starving 2 (some .int) := fun w h => zsub w (wl_wsX00 w h)
  have hinX2 : ∀ w ∈ wsX20, w ∈ zws yX3_starving cX3_starving 2 (some .int) := fun w h => zsub w (wl_wsX20 w h)
  have hinX3 : ∀ w ∈ wsX30, w ∈ zws yX3_starving cX3_starving 2 (some .int) := fun w h => zsub w (wl_wsX30 w h)
  have hl : lv_has ls 2 [(0, .ref o)] := hl
  refine lv_aload_n (pc := 0) hx hb dX3_starving_0 rfl (lv_at hl 0 rfl) ?_
  refine z_get (own := RX3) (ref := "CupFountain") (C := RX3) (T := TX3) (N := 10) (ci := 3) (v := .ref (sa 1 0)) (pc := 1) hx hb hts hinX3 hown hz 0 rfl rfl 1 (by decide) L16 rfl rfl dX3_starving_1 ?_
  refine lv_aload_n (pc := 4) hx hb dX3_starving_4 rfl (lv_at hl 0 rfl) ?_
  refine z_get (own := RX3) (ref := "CupFountain") (C := RX3) (T := TX3) (N := 10) (ci := 3) (v := .ref (sa 0 0)) (pc := 5) hx hb hts hinX3 hown hz 0 rfl rfl 0 (by decide) L10 rfl rfl dX3_starving_5 ?_
  refine z_runV (pc := 8) (As := [.ref (sa 0 0)]) (rest := []) (ws1 := wF ca o pa f sa (va_up sp 1 (sp 0)) sz q g tx kd wh nu) ⟨hx, hb, hml, hown, hts⟩ (k_X2_copyFrom l G ca (sa 1) (sa 0) ((sp 1).1) ((sp 0).1) ((sp 1).2) ((sp 0).2) (sz 1) (sz 0) hbb0) (cwV 1 hts (zgoodV zsub wq_11_10 wq_11_11 wq_12_0 wq_1_11 wq_12_1) rfl rfl rfl hdV_X2_copyFrom ⟨Nat.le_of_ble_eq_true rfl, Nat.le_of_ble_eq_true rfl⟩) hz (wFr2 ca o pa f (pfS sa) sa sp sz q g tx kd wh nu 1 0) (wF_pm2 (sp := sp) (sz := sz) (i := 1) (j := 0) (by decide) (by decide) (by decide)) (wF_pm3 (sp := sp) (sz := sz) (i := 1) (j := 0) (by decide) (by decide) (by decide)) rfl rfl rfl hl.1 (Nat.le_of_ble_eq_true rfl) (st1 := []) rfl dX3_starving_8 ⟨Nat.zero_le _, Nat.zero_le _⟩ (fun H locs hz => ?_)
  refine lv_aload_n (pc := 11) hx hb dX3_starving_11 rfl (lv_at hl 0 rfl) ?_
  refine z_get (own := RX3) (ref := "CupFountain") (C := RX3) (T := TX3) (N := 10) (ci := 3) (v := .ref (sa 1 0)) (pc := 12) hx hb hts hinX3 hown hz 0 rfl rfl 1 (by decide) L16 rfl rfl dX3_starving_12 ?_
  refine lv_sipush (v := 500) (pc := 15) hx hb dX3_starving_15 (by decide) ?_
  obtain ⟨N5, hN5⟩ : ∃ N : Nat, N = 500 := ⟨_, rfl⟩
  refine z_top (y := nI N5) (by rw [hN5]; rfl) ?_
  refine z_runV (pc := 18) (As := [.int (nI N5)]) (rest := []) (ws1 := wF ca o pa f sa (va_up sp 1 ((kN ((sp 0).1, (sp 0).2) N5).1, (kN ((sp 0).1, (sp 0).2) N5).2)) (va_up sz 1 (zTk ((sp 0).1, (sp 0).2) (sz 1) N5)) q g tx kd wh nu) ⟨hx, hb, hml, hown, hts⟩ (k_X2_tickOn l G ca (sa 1) ((sp 0).1) ((sp 0).2) (sz 1) N5 (by omega) hnx0) (cwV 1 hts (zgoodV zsub wq_12_6 wq_12_7 wq_12_8 wq_1_11 wq_12_9) rfl rfl rfl hdV_X2_tickOn ⟨Nat.le_of_ble_eq_true rfl, Nat.le_of_ble_eq_true rfl⟩) hz (wFr ca o pa f (pfS sa) sa (va_up sp 1 (sp 0)) sz q g tx kd wh nu 1) (wF_pm (sp := (va_up sp 1 (sp 0))) (sz := sz) (i := 1) (by decide)) (wF_pm1 (sp := (va_up sp 1 (sp 0))) (sz := sz) (sp' := (va_up sp 1 ((kN ((sp 0).1, (sp 0).2) N5).1, (kN ((sp 0).1, (sp 0).2) N5).2))) (sz' := (va_up sz 1 (zTk ((sp 0).1, (sp 0).2) (sz 1) N5))) (i := 1) (by decide) (fun j h9 => by simp only [vup_n h9]) (fun j h9 => by first | rfl | simp only [vup_n h9])) rfl rfl rfl hl.1 (Nat.le_of_ble_eq_true rfl) (st1 := [.int (kS ((sp 0).1, (sp 0).2) N5)]) rfl dX3_starving_18 ⟨Nat.zero_le _, Nat.zero_le _⟩ (fun H locs hz => ?_)
  refine lv_pop (pc := 21) hx hb dX3_starving_21 rfl ?_
  have hz := hz.as (show _ = wF ca o pa f sa (va_up sp 1 (kN5 (sp 0))) (va_up sz 1 (zN5 (sp 0) (sz 1))) q g tx kd wh nu from by rw [kN5_d, zN5_d, ← hN5])
  refine lv_iconst (v := 0) (pc := 22) hx hb dX3_starving_22 (by decide) ?_
  refine lv_istore_n (lv' := [(1, .int 0), (0, .ref o)]) (pc := 23) hx hb dX3_starving_23 rfl hl (by decide) rfl (fun ls hl => ?_)
  have loop1 : ∀ cnt k : Nat, k + cnt = 8 → ∀ (H : Heap) (locs : List Loc) (ls : Array Slot), zw G ca A s0.heap s0 (wF ca o pa f sa (va_up sp 1 (kN5 (sp 0))) (va_up sz 1 (zN5 (sp 0) (sz 1))) q g tx kd wh nu) H locs → lv_has ls 2 [(1, .int (nI k)), (0, .ref o)] → kst3 (kN5 (sp 0)) (sp 0) = kst2 (kN5 (sp 0)) (sp 0) cnt k → W pg l ev rm_X3_starving s0 mt args below meth cd H locs 0 0 Q (F0 mt 24 ls []) := by
    intro cnt
    induction cnt with
    | zero =>
      intro k hk9 H locs ls hz hl hR
      obtain rfl : 8 = k := by omega
      refine lv_iload_n (pc := 24) hx hb dX3_starving_24 rfl (lv_at hl 0 rfl) ?_
      refine lv_bipush (v := 8) (pc := 25) hx hb dX3_starving_25 (by decide) ?_
      refine lv_icmp_ge (pc := 27) (tgt := 65) hx hb dX3_starving_27 (by decide) (fun c_27 => ?_) (fun c9 => absurd (by decide) c9)
      refine lv_bipush (v := -5) (pc := 65) hx hb dX3_starving_65 (by decide) ?_
      exact z_iret (pc := 67) hx hb hr hlk hQ hz dX3_starving_67 (by rw [hR]; simp only [kst2]) (by rfl)
    | succ cnt ih =>
      intro k hk9 H locs ls hz hl hR
      have hk : k < 8 := by omega
      refine lv_iload_n (pc := 24) hx hb dX3_starving_24 rfl (lv_at hl 0 rfl) ?_
      refine lv_bipush (v := 8) (pc := 25) hx hb dX3_starving_25 (by decide) ?_
      refine lv_icmp_ge (pc := 27) (tgt := 65) hx hb dX3_starving_27 (by decide) (fun c9 => absurd c9 (nI_ge hk (by decide))) (fun c_27 => ?_)
      refine lv_aload_n (pc := 30) hx hb dX3_starving_30 rfl (lv_at hl 1 rfl) ?_
      refine z_get (own := RX3) (ref := "CupFountain") (C := RX3) (T := TX3) (N := 10) (ci := 3) (v := .ref (sa 1 0)) (pc := 31) hx hb hts hinX3 hown hz 0 rfl rfl 1 (by decide) L16 rfl rfl dX3_starving_31 ?_
      refine z_getm (own := RX3) (ref := "CupFountain$State") (C := RX2) (T := TX2) (N := 9) (ci := 2) (v := .ref (sa 1 1)) (pc := 34) hx hb hts hinX2 hown hz (wF_mst (i := 1) (by decide)) rfl 0 (by decide) L146 rfl rfl dX3_starving_34 ?_
      refine lv_iload_n (pc := 37) hx hb dX3_starving_37 rfl (lv_at hl 0 rfl) ?_
      refine z_aaldm (pc := 38) hx hb hz 3 (wF_marr (i := 1) (by decide)) rfl k rfl hk (by decide) rfl dX3_starving_38 ?_
      refine z_getm (own := RX3) (ref := "CupFountain$Cup") (C := RX0) (T := TX0) (N := 13) (ci := 0) (v := .int (((kN5 (sp 0)).2) k 8)) (pc := 39) hx hb hts hinX0 hown hz (wF_mcup (i := 1) (k := k) (by decide) (by assumption)) rfl 8 (by decide) L122 rfl rfl dX3_starving_39 ?_
      refine lv_aload_n (pc := 42) hx hb dX3_starving_42 rfl (lv_at hl 1 rfl) ?_
      refine z_get (own := RX3) (ref := "CupFountain") (C := RX3) (T := TX3) (N := 10) (ci := 3) (v := .ref (sa 0 0)) (pc := 43) hx hb hts hinX3 hown hz 0 rfl rfl 0 (by decide) L10 rfl rfl dX3_starving_43 ?_
      refine z_getm (own := RX3) (ref := "CupFountain$State") (C := RX2) (T := TX2) (N := 9) (ci := 2) (v := .ref (sa 0 1)) (pc := 46) hx hb hts hinX2 hown hz (wF_mst (i := 0) (by decide)) rfl 0 (by decide) L146 rfl rfl dX3_starving_46 ?_
      refine lv_iload_n (pc := 49) hx hb dX3_starving_49 rfl (lv_at hl 0 rfl) ?_
      refine z_aaldm (pc := 50) hx hb hz 3 (wF_marr (i := 0) (by decide)) rfl k rfl hk (by decide) rfl dX3_starving_50 ?_
      refine z_getm (own := RX3) (ref := "CupFountain$Cup") (C := RX0) (T := TX0) (N := 13) (ci := 0) (v := .int (((sp 0).2) k 8)) (pc := 51) hx hb hts hinX0 hown hz (wF_mcup (i := 0) (k := k) (by decide) (by assumption)) rfl 8 (by decide) L122 rfl rfl dX3_starving_51 ?_
      refine lv_icmp_ne (pc := 54) (tgt := 59) hx hb dX3_starving_54 (by decide) (fun c_54 => ?_) (fun c_54 => ?_)
      · refine lv_iinc (v := nI (k + 1)) (lv' := [(1, .int (nI (k + 1))), (0, .ref o)]) (pc := 59) hx hb dX3_starving_59 hl (k := 0) rfl (nI_add k 1) (by decide) rfl (fun ls hl => ?_)
        refine lv_goto (tgt := 24) (pc := 62) hx hb dX3_starving_62 (by decide) ?_
        exact ih (k + 1) (by omega) _ _ _ hz (lv_sub hl [0, 1] rfl) (hR.trans (by rw [kst2, if_neg c_54]))
      · refine lv_iload_n (pc := 57) hx hb dX3_starving_57 rfl (lv_at hl 0 rfl) ?_
        exact z_iret (pc := 58) hx hb hr hlk hQ hz dX3_starving_58 (by rw [hR]; simp only [kst2, if_pos c_54]) (by rfl)
  exact loop1 8 0 (by omega) _ _ _ hz (lv_sub hl [0, 1] rfl) (kst3_d _ _)

def rm_X3_bestSize : Room := { frames := 3, cells := 0, slots := 0, locals := 70 }
set_option maxRecDepth 20000 in
theorem hdV_X3_bestSize : yX3_bestSize.cls = RX3 ∧ yX3_bestSize.cls ≠ "java/lang/invoke/MethodHandle" ∧ yX3_bestSize.cls ≠ "java/lang/invoke/VarHandle" ∧ (parseMethodDescriptor yX3_bestSize.desc).map (fun d => d.parameters.length) = some 1 := by decide +kernel
set_option maxHeartbeats 4000000 in
set_option maxRecDepth 100000 in
theorem k_X3_bestSize (l : Launch) (G : va_G) (ca : Nat → ClassId) (o pa : Nat) (f : Nat → Int32) (sa : Nat → Nat → Nat) (sp : Nat → HC) (sz : Nat → Nat → Int32) (q : Nat → Nat) (g tx kd wh nu : Nat → Int32) (cup : Int32) (hci : CI (sp 0)) : Zc l G ca yX3_bestSize (zws yX3_bestSize cX3_bestSize 6 (some .int)) rm_X3_bestSize [.ref o, .int cup] (wF ca o pa f sa sp sz q g tx kd wh nu) (some (.int (kbeR (sp 0) cup))) (wF ca o pa f sa (va_up sp 1 (kbeP (sp 0) cup)) (va_up sz 1 (kbeZ (sp 0) cup (sz 1))) q g tx kd wh nu) := by
  refine Zc.of (cc := cX3_bestSize) (maxL := 6) (ret := (some .int)) (by decide) rfl (Nat.le_of_ble_eq_true rfl) ?_
  intro pg ev s0 mt below meth cd A args Q ls hx hb hr hml hown hts hlk hQ hl hz
  have L10 : (Cond.fieldLink RX3 10 "CupFountain" "now" "LCupFountain$State;").before args s0 = true := hts _ (zsub _ wq_2_0)
  have L107 : (Cond.fieldLink RX3 107 "CupFountain$State" "tick" "I").before args s0 = true := hts _ (zsub _ wq_20_2)
  have L128 : (Cond.fieldLink RX3 128 "CupFountain$Cup" "hour" "I").before args s0 = true := hts _ (zsub _ wq_20_1)
  have L150 : (Cond.fieldLink RX3 150 "CupFountain$Cup" "size" "I").before args s0 = true := hts _ (zsub _ wq_23_2)
  have L153 : (Cond.fieldLink RX3 153 "CupFountain$Cup" "ready" "I").before args s0 = true := hts _ (zsub _ wq_23_3)
  have L16 : (Cond.fieldLink RX3 16 "CupFountain" "ahead" "LCupFountain$State;").before args s0 = true := hts _ (zsub _ wq_2_1)
  have hinX0 : ∀ w ∈ wsX00, w ∈ zws yX3_bestSize cX3_bestSize 6 (some .int) := fun w h => zsub w (wl_wsX00 w h)
  have hinX2 : ∀ w ∈ wsX20, w ∈ zws yX3_bestSize cX3_bestSize 6 (some .int) := fun w h => zsub w (wl_wsX20 w h)
  have hinX3 : ∀ w ∈ wsX30, w ∈ zws yX3_bestSize cX3_bestSize 6 (some .int) := fun w h => zsub w (wl_wsX30 w h)
  have hl : lv_has ls 6 [(0, .ref o), (1, .int cup)] := hl
  by_cases hcup : inF cup 0 7 = 0
  · refine lv_aload_n (pc := 0) hx hb dX3_bestSize_0 rfl (lv_at hl 0 rfl) ?_
    refine z_get (own := RX3) (ref := "CupFountain") (C := RX3) (T := TX3) (N := 10) (ci := 3) (v := .ref (sa 1 0)) (pc := 1) hx hb hts hinX3 hown hz 0 rfl rfl 1 (by decide) L16 rfl rfl dX3_bestSize_1 ?_
    refine lv_aload_n (pc := 4) hx hb dX3_bestSize_4 rfl (lv_at hl 0 rfl) ?_
    refine z_get (own := RX3) (ref := "CupFountain") (C := RX3) (T := TX3) (N := 10) (ci := 3) (v := .ref (sa 0 0)) (pc := 5) hx hb hts hinX3 hown hz 0 rfl rfl 0 (by decide) L10 rfl rfl dX3_bestSize_5 ?_
    refine z_runV (pc := 8) (As := [.ref (sa 0 0)]) (rest := []) (ws1 := wF ca o pa f sa (va_up sp 1 (sp 0)) sz q g tx kd wh nu) ⟨hx, hb, hml, hown, hts⟩ (k_X2_copyFrom l G ca (sa 1) (sa 0) ((sp 1).1) ((sp 0).1) ((sp 1).2) ((sp 0).2) (sz 1) (sz 0) hci.bb) (cwV 1 hts (zgoodV zsub wq_11_10 wq_11_11 wq_12_0 wq_1_11 wq_12_1) rfl rfl rfl hdV_X2_copyFrom ⟨Nat.le_of_ble_eq_true rfl, Nat.le_of_ble_eq_true rfl⟩) hz (wFr2 ca o pa f (pfS sa) sa sp sz q g tx kd wh nu 1 0) (wF_pm2 (sp := sp) (sz := sz) (i := 1) (j := 0) (by decide) (by decide) (by decide)) (wF_pm3 (sp := sp) (sz := sz) (i := 1) (j := 0) (by decide) (by decide) (by decide)) rfl rfl rfl hl.1 (Nat.le_of_ble_eq_true rfl) (st1 := []) rfl dX3_bestSize_8 ⟨Nat.zero_le _, Nat.zero_le _⟩ (fun H locs hz => ?_)
    refine lv_aload_n (pc := 11) hx hb dX3_bestSize_11 rfl (lv_at hl 0 rfl) ?_
    refine z_get (own := RX3) (ref := "CupFountain") (C := RX3) (T := TX3) (N := 10) (ci := 3) (v := .ref (sa 1 0)) (pc := 12) hx hb hts hinX3 hown hz 0 rfl rfl 1 (by decide) L16 rfl rfl dX3_bestSize_12 ?_
    refine lv_iload_n (pc := 15) hx hb dX3_bestSize_15 rfl (lv_at hl 1 rfl) ?_
    refine z_runV (pc := 16) (As := [.int cup]) (rest := []) (ws1 := wF ca o pa f sa (va_up sp 1 (sp 0)) sz q g tx kd wh nu) ⟨hx, hb, hml, hown, hts⟩ (k_X2_find_n l G ca (sa 1) ((sp 0).1) ((sp 0).2) (sz 1) cup hcup) (cwV 1 hts (zgoodV zsub wq_7_11 wq_8_0 wq_8_1 wq_1_11 wq_8_2) rfl rfl rfl hdV_X2_find ⟨Nat.le_of_ble_eq_true rfl, Nat.le_of_ble_eq_true rfl⟩) hz (wFr ca o pa f (pfS sa) sa (va_up sp 1 (sp 0)) sz q g tx kd wh nu 1) (wF_pm (sp := (va_up sp 1 (sp 0))) (sz := sz) (i := 1) (by decide)) (wF_pm (sp := (va_up sp 1 (sp 0))) (sz := sz) (i := 1) (by decide)).symm rfl rfl rfl hl.1 (Nat.le_of_ble_eq_true rfl) (st1 := [.null]) rfl dX3_bestSize_16 ⟨Nat.zero_le _, Nat.zero_le _⟩ (fun H locs hz => ?_)
    refine lv_astore_nN (lv' := [(2, .null), (0, .ref o), (1, .int cup)]) (pc := 19) hx hb dX3_bestSize_19 rfl hl (by decide) rfl (fun ls hl => ?_)
    refine lv_aload_nN (pc := 20) hx hb dX3_bestSize_20 rfl (lv_at hl 0 rfl) ?_
    refine lv_ifnonnullN (pc := 21) hx hb dX3_bestSize_21 ?_
    refine lv_iconst (v := -1) (pc := 24) hx hb dX3_bestSize_24 (by decide) ?_
    exact z_iret (pc := 25) hx hb hr hlk hQ hz dX3_bestSize_25 (by simp only [kbeR, if_pos hcup]) (by simp only [kbeP, kbeZ, if_pos hcup, vup_id])
  · obtain ⟨k, hk, rfl⟩ := isCup_pos hcup
    have hnk : nn (nI k) = k := nn_nI (by omega)
    have hk0 : k < 8 := hk
    refine lv_aload_n (pc := 0) hx hb dX3_bestSize_0 rfl (lv_at hl 0 rfl) ?_
    refine z_get (own := RX3) (ref := "CupFountain") (C := RX3) (T := TX3) (N := 10) (ci := 3) (v := .ref (sa 1 0)) (pc := 1) hx hb hts hinX3 hown hz 0 rfl rfl 1 (by decide) L16 rfl rfl dX3_bestSize_1 ?_
    refine lv_aload_n (pc := 4) hx hb dX3_bestSize_4 rfl (lv_at hl 0 rfl) ?_
    refine z_get (own := RX3) (ref := "CupFountain") (C := RX3) (T := TX3) (N := 10) (ci := 3) (v := .ref (sa 0 0)) (pc := 5) hx hb hts hinX3 hown hz 0 rfl rfl 0 (by decide) L10 rfl rfl dX3_bestSize_5 ?_
    refine z_runV (pc := 8) (As := [.ref (sa 0 0)]) (rest := []) (ws1 := wF ca o pa f sa (va_up sp 1 (sp 0)) sz q g tx kd wh nu) ⟨hx, hb, hml, hown, hts⟩ (k_X2_copyFrom l G ca (sa 1) (sa 0) ((sp 1).1) ((sp 0).1) ((sp 1).2) ((sp 0).2) (sz 1) (sz 0) hci.bb) (cwV 1 hts (zgoodV zsub wq_11_10 wq_11_11 wq_12_0 wq_1_11 wq_12_1) rfl rfl rfl hdV_X2_copyFrom ⟨Nat.le_of_ble_eq_true rfl, Nat.le_of_ble_eq_true rfl⟩) hz (wFr2 ca o pa f (pfS sa) sa sp sz q g tx kd wh nu 1 0) (wF_pm2 (sp := sp) (sz := sz) (i := 1) (j := 0) (by decide) (by decide) (by decide)) (wF_pm3 (sp := sp) (sz := sz) (i := 1) (j := 0) (by decide) (by decide) (by decide)) rfl rfl rfl hl.1 (Nat.le_of_ble_eq_true rfl) (st1 := []) rfl dX3_bestSize_8 ⟨Nat.zero_le _, Nat.zero_le _⟩ (fun H locs hz => ?_)
    refine lv_aload_n (pc := 11) hx hb dX3_bestSize_11 rfl (lv_at hl 0 rfl) ?_
    refine z_get (own := RX3) (ref := "CupFountain") (C := RX3) (T := TX3) (N := 10) (ci := 3) (v := .ref (sa 1 0)) (pc := 12) hx hb hts hinX3 hown hz 0 rfl rfl 1 (by decide) L16 rfl rfl dX3_bestSize_12 ?_
    refine lv_iload_n (pc := 15) hx hb dX3_bestSize_15 rfl (lv_at hl 1 rfl) ?_
    refine z_runV (pc := 16) (As := [.int (nI k)]) (rest := []) (ws1 := wF ca o pa f sa (va_up sp 1 (sp 0)) sz q g tx kd wh nu) ⟨hx, hb, hml, hown, hts⟩ (k_X2_find_r l G ca (sa 1) ((sp 0).1) ((sp 0).2) (sz 1) k hk0) (cwV 1 hts (zgoodV zsub wq_7_11 wq_8_0 wq_8_1 wq_1_11 wq_8_2) rfl rfl rfl hdV_X2_find ⟨Nat.le_of_ble_eq_true rfl, Nat.le_of_ble_eq_true rfl⟩) hz (wFr ca o pa f (pfS sa) sa (va_up sp 1 (sp 0)) sz q g tx kd wh nu 1) (wF_pm (sp := (va_up sp 1 (sp 0))) (sz := sz) (i := 1) (by decide)) (wF_pm (sp := (va_up sp 1 (sp 0))) (sz := sz) (i := 1) (by decide)).symm rfl rfl rfl hl.1 (Nat.le_of_ble_eq_true rfl) (st1 := [.ref (sa 1 (2 + k))]) rfl dX3_bestSize_16 ⟨Nat.zero_le _, Nat.zero_le _⟩ (fun H locs hz => ?_)
    refine lv_astore_n (lv' := [(2, .ref (sa 1 (2 + k))), (0, .ref o), (1, .int (nI k))]) (pc := 19) hx hb dX3_bestSize_19 rfl hl (by decide) rfl (fun ls hl => ?_)
    refine lv_aload_n (pc := 20) hx hb dX3_bestSize_20 rfl (lv_at hl 0 rfl) ?_
    refine lv_ifnonnull (tgt := 26) (pc := 21) hx hb dX3_bestSize_21 (by decide) ?_
    refine lv_aload_n (pc := 26) hx hb dX3_bestSize_26 rfl (lv_at hl 0 rfl) ?_
    refine z_getm (own := RX3) (ref := "CupFountain$Cup") (C := RX0) (T := TX0) (N := 13) (ci := 0) (v := .int (((sp 0).2) k 4)) (pc := 27) hx hb hts hinX0 hown hz (wF_mcup (i := 1) (k := k) (by decide) hk0) rfl 4 (by decide) L128 rfl rfl dX3_bestSize_27 ?_
    refine lv_iconst (v := -1) (pc := 30) hx hb dX3_bestSize_30 (by decide) ?_
    refine lv_icmp_ne (pc := 31) (tgt := 37) hx hb dX3_bestSize_31 (by decide) (fun c_31 => ?_) (fun c_31 => ?_)
    · refine lv_aload_n (pc := 37) hx hb dX3_bestSize_37 rfl (lv_at hl 0 rfl) ?_
      refine lv_bipush (v := 100) (pc := 38) hx hb dX3_bestSize_38 (by decide) ?_
      have hz := (hz.perm (wF_pmc (sp := (va_up sp 1 (sp 0))) (i := 1) (k := k) (by decide) hk0)).as (show _ = wC (sa 1 (2 + k)) ((sp 0).2 k) (sz 1 k) ++ (wSr ca (sa 1) (sp 0).1 (sp 0).2 (sz 1) k ++ wFr ca o pa f (pfS sa) sa (va_up sp 1 (sp 0)) sz q g tx kd wh nu 1) from rfl)
      refine z_put (own := RX3) (ref := "CupFountain$Cup") (C := RX0) (T := TX0) (N := 13) (ci := 0) (v := .int 100) (ws1 := wC (sa 1 (2 + k)) (upd ((sp 0).2 k) 0 100) (sz 1 k) ++ (wSr ca (sa 1) (sp 0).1 (sp 0).2 (sz 1) k ++ wFr ca o pa f (pfS sa) sa (va_up sp 1 (sp 0)) sz q g tx kd wh nu 1)) (pc := 40) hx hb hts hinX0 tyX0 tyX0_ok nmX0 hown hz 0 rfl rfl 0 (by decide) L150 rfl rfl rfl rfl (Nat.le_of_ble_eq_true rfl) rfl dX3_bestSize_40 (fun H locs hz => ?_)
      have hz := hz.perm (wF_pmc1 (sp := (va_up sp 1 (sp 0))) (sp' := (va_up sp 1 (bz (sp 0) k))) (sz := sz) (i := 1) (k := k) (r := upd ((sp 0).2 k) 0 100) (by decide) hk0 (fun j h9 => by simp only [vup_n h9]) rfl up_u2.symm)
      have hz := hz.as (show _ = wF ca o pa f sa (va_up sp 1 (bz (sp 0) k)) sz q g tx kd wh nu from rfl)
      refine lv_iconst (v := 0) (pc := 43) hx hb dX3_bestSize_43 (by decide) ?_
      refine lv_istore_n (lv' := [(3, .int 0), (2, .ref (sa 1 (2 + k))), (0, .ref o), (1, .int (nI k))]) (pc := 44) hx hb dX3_bestSize_44 rfl hl (by decide) rfl (fun ls hl => ?_)
      refine lv_iconst (v := 0) (pc := 45) hx hb dX3_bestSize_45 (by decide) ?_
      refine lv_istore (lv' := [(4, .int 0), (3, .int 0), (2, .ref (sa 1 (2 + k))), (0, .ref o), (1, .int (nI k))]) (pc := 46) hx hb dX3_bestSize_46 hl (by decide) rfl (fun ls hl => ?_)
      have loop1 : ∀ cnt i : Nat, i + cnt = 500 → ∀ (H : Heap) (locs : List Loc) (ls : Array Slot), zw G ca A s0.heap s0 (wF ca o pa f sa (va_up sp 1 (kN (bz (sp 0) k) i)) (va_up sz 1 (zTk (bz (sp 0) k) (sz 1) i)) q g tx kd wh nu) H locs → lv_has ls 6 [(4, .int (nI i)), (3, .int (kgF (bz (sp 0) k) k i)), (2, .ref (sa 1 (2 + k))), (0, .ref o), (1, .int (nI k))] → kvX (bz (sp 0) k) k = kvF (bz (sp 0) k) k cnt i → kvY (bz (sp 0) k) k = kvN (bz (sp 0) k) k cnt i → W pg l ev rm_X3_bestSize s0 mt args below meth cd H locs 0 0 Q (F0 mt 48 ls []) := by
        intro cnt
        induction cnt with
        | zero =>
          intro i hk9 H locs ls hz hl hR hN
          obtain rfl : 500 = i := by omega
          refine lv_iload (pc := 48) hx hb dX3_bestSize_48 (lv_at hl 0 rfl) ?_
          refine lv_sipush (v := 500) (pc := 50) hx hb dX3_bestSize_50 (by decide) ?_
          refine lv_icmp_ge (pc := 53) (tgt := 130) hx hb dX3_bestSize_53 (by decide) (fun c_53 => ?_) (fun c9 => absurd (by decide) c9)
          refine lv_bipush (v := -5) (pc := 130) hx hb dX3_bestSize_130 (by decide) ?_
          exact z_iret (pc := 132) hx hb hr hlk hQ hz dX3_bestSize_132 (by simp only [kbeR, if_neg hcup, hnk, if_neg c_31]; rw [hR]; simp only [kvF] <;> rfl) (by simp only [kbeP, kbeZ, if_neg hcup, hnk, if_neg c_31]; rw [hN]; simp only [kvN] <;> rfl)
        | succ cnt ih =>
          intro i hk9 H locs ls hz hl hR hN
          have hk : i < 500 := by omega
          have hi : i < 500 := hk
          clear hk
          refine lv_iload (pc := 48) hx hb dX3_bestSize_48 (lv_at hl 0 rfl) ?_
          refine lv_sipush (v := 500) (pc := 50) hx hb dX3_bestSize_50 (by decide) ?_
          refine lv_icmp_ge (pc := 53) (tgt := 130) hx hb dX3_bestSize_53 (by decide) (fun c9 => absurd c9 (nI_ge hi (by decide))) (fun c_53 => ?_)
          refine lv_iload_n (pc := 56) hx hb dX3_bestSize_56 rfl (lv_at hl 1 rfl) ?_
          refine lv_bipush (v := 99) (pc := 57) hx hb dX3_bestSize_57 (by decide) ?_
          refine lv_icmp_ge (pc := 59) (tgt := 130) hx hb dX3_bestSize_59 (by decide) (fun c_59 => ?_) (fun c_59 => ?_)
          · refine lv_bipush (v := -5) (pc := 130) hx hb dX3_bestSize_130 (by decide) ?_
            exact z_iret (pc := 132) hx hb hr hlk hQ hz dX3_bestSize_132 (by simp only [kbeR, if_neg hcup, hnk, if_neg c_31]; rw [hR]; simp only [kvF, if_pos c_59] <;> rfl) (by simp only [kbeP, kbeZ, if_neg hcup, hnk, if_neg c_31]; rw [hN]; simp only [kvN, if_pos c_59] <;> rfl)
          · refine lv_aload_n (pc := 62) hx hb dX3_bestSize_62 rfl (lv_at hl 3 rfl) ?_
            refine z_get (own := RX3) (ref := "CupFountain") (C := RX3) (T := TX3) (N := 10) (ci := 3) (v := .ref (sa 1 0)) (pc := 63) hx hb hts hinX3 hown hz 0 rfl rfl 1 (by decide) L16 rfl rfl dX3_bestSize_63 ?_
            refine lv_aload_n (pc := 66) hx hb dX3_bestSize_66 rfl (lv_at hl 3 rfl) ?_
            refine z_get (own := RX3) (ref := "CupFountain") (C := RX3) (T := TX3) (N := 10) (ci := 3) (v := .ref (sa 1 0)) (pc := 67) hx hb hts hinX3 hown hz 0 rfl rfl 1 (by decide) L16 rfl rfl dX3_bestSize_67 ?_
            refine z_getm (own := RX3) (ref := "CupFountain$State") (C := RX2) (T := TX2) (N := 9) (ci := 2) (v := .int ((kN (bz (sp 0) k) i).1 0)) (pc := 70) hx hb hts hinX2 hown hz (wF_mst (i := 1) (by decide)) rfl 1 (by decide) L107 rfl rfl dX3_bestSize_70 ?_
            refine z_runV (pc := 73) (As := [.int ((kN (bz (sp 0) k) i).1 0)]) (rest := []) (ws1 := wF ca o pa f sa (va_up sp 1 (kN (bz (sp 0) k) i)) (va_up sz 1 (zTk (bz (sp 0) k) (sz 1) i)) q g tx kd wh nu) ⟨hx, hb, hml, hown, hts⟩ (k_X2_hourOf l G ca (sa 1) ((kN (bz (sp 0) k) i).1) ((kN (bz (sp 0) k) i).2) (zTk (bz (sp 0) k) (sz 1) i) ((kN (bz (sp 0) k) i).1 0)) (cwV 1 hts (zgoodV zsub wq_20_5 wq_9_9 wq_9_10 wq_1_11 wq_9_11) rfl rfl rfl hdV_X2_hourOf ⟨Nat.le_of_ble_eq_true rfl, Nat.le_of_ble_eq_true rfl⟩) hz (wFr ca o pa f (pfS sa) sa (va_up sp 1 (kN (bz (sp 0) k) i)) (va_up sz 1 (zTk (bz (sp 0) k) (sz 1) i)) q g tx kd wh nu 1) (wF_pm (sp := (va_up sp 1 (kN (bz (sp 0) k) i))) (sz := (va_up sz 1 (zTk (bz (sp 0) k) (sz 1) i))) (i := 1) (by decide)) (wF_pm (sp := (va_up sp 1 (kN (bz (sp 0) k) i))) (sz := (va_up sz 1 (zTk (bz (sp 0) k) (sz 1) i))) (i := 1) (by decide)).symm rfl rfl rfl hl.1 (Nat.le_of_ble_eq_true rfl) (st1 := [.int (hoR ((kN (bz (sp 0) k) i).1) ((kN (bz (sp 0) k) i).1 0))]) rfl dX3_bestSize_73 ⟨Nat.zero_le _, Nat.zero_le _⟩ (fun H locs hz => ?_)
            refine lv_aload_n (pc := 76) hx hb dX3_bestSize_76 rfl (lv_at hl 2 rfl) ?_
            refine z_getm (own := RX3) (ref := "CupFountain$Cup") (C := RX0) (T := TX0) (N := 13) (ci := 0) (v := .int (((kN (bz (sp 0) k) i).2) k 4)) (pc := 77) hx hb hts hinX0 hown hz (wF_mcup (i := 1) (k := k) (by decide) hk0) rfl 4 (by decide) L128 rfl rfl dX3_bestSize_77 ?_
            have J2 : ∀ (H : Heap) (locs : List Loc) (ls : Array Slot), zw G ca A s0.heap s0 (wF ca o pa f sa (va_up sp 1 (kN (bz (sp 0) k) i)) (va_up sz 1 (zTk (bz (sp 0) k) (sz 1) i)) q g tx kd wh nu) H locs → lv_has ls 6 [(4, .int (nI i)), (3, .int (kgF (bz (sp 0) k) k i)), (2, .ref (sa 1 (2 + k))), (0, .ref o), (1, .int (nI k))] → W pg l ev rm_X3_bestSize s0 mt args below meth cd H locs 0 0 Q (F0 mt 88 ls [.int (if hoR (kN (bz (sp 0) k) i).1 ((kN (bz (sp 0) k) i).1 0) = (kN (bz (sp 0) k) i).2 k 4 then 1 else 0)]) := by
              intro H locs ls hz hl
              refine lv_istore (lv' := [(5, .int (if hoR (kN (bz (sp 0) k) i).1 ((kN (bz (sp 0) k) i).1 0) = (kN (bz (sp 0) k) i).2 k 4 then 1 else 0)), (4, .int (nI i)), (3, .int (kgF (bz (sp 0) k) k i)), (2, .ref (sa 1 (2 + k))), (0, .ref o), (1, .int (nI k))]) (pc := 88) hx hb dX3_bestSize_88 hl (by decide) rfl (fun ls hl => ?_)
              refine lv_aload_n (pc := 90) hx hb dX3_bestSize_90 rfl (lv_at hl 4 rfl) ?_
              refine z_get (own := RX3) (ref := "CupFountain") (C := RX3) (T := TX3) (N := 10) (ci := 3) (v := .ref (sa 1 0)) (pc := 91) hx hb hts hinX3 hown hz 0 rfl rfl 1 (by decide) L16 rfl rfl dX3_bestSize_91 ?_
              refine z_runV (pc := 94) (As := []) (rest := []) (ws1 := wF ca o pa f sa (va_up sp 1 ((kN (bz (sp 0) k) (i + 1)).1, (kN (bz (sp 0) k) (i + 1)).2)) (va_up sz 1 (rqX (kN (bz (sp 0) k) i) (zTk (bz (sp 0) k) (sz 1) i))) q g tx kd wh nu) ⟨hx, hb, hml, hown, hts⟩ (k_X2_tickOnce l G ca (sa 1) ((kN (bz (sp 0) k) i).1) ((kN (bz (sp 0) k) i).2) (zTk (bz (sp 0) k) (sz 1) i) ((hci.bz k).nx.ticks i)) (cwV 0 hts (zgoodV zsub wq_20_4 wq_12_11 wq_13_0 wq_1_11 wq_13_1) rfl rfl rfl hdV_X2_tickOnce ⟨Nat.le_of_ble_eq_true rfl, Nat.le_of_ble_eq_true rfl⟩) hz (wFr ca o pa f (pfS sa) sa (va_up sp 1 (kN (bz (sp 0) k) i)) (va_up sz 1 (zTk (bz (sp 0) k) (sz 1) i)) q g tx kd wh nu 1) (wF_pm (sp := (va_up sp 1 (kN (bz (sp 0) k) i))) (sz := (va_up sz 1 (zTk (bz (sp 0) k) (sz 1) i))) (i := 1) (by decide)) (wF_pm1 (sp := (va_up sp 1 (kN (bz (sp 0) k) i))) (sz := (va_up sz 1 (zTk (bz (sp 0) k) (sz 1) i))) (sp' := (va_up sp 1 ((kN (bz (sp 0) k) (i + 1)).1, (kN (bz (sp 0) k) (i + 1)).2))) (sz' := (va_up sz 1 (rqX (kN (bz (sp 0) k) i) (zTk (bz (sp 0) k) (sz 1) i)))) (i := 1) (by decide) (fun j h9 => by simp only [vup_n h9]) (fun j h9 => by first | rfl | simp only [vup_n h9])) rfl rfl rfl hl.1 (Nat.le_of_ble_eq_true rfl) (st1 := [.int (ktips (kN (bz (sp 0) k) i))]) rfl dX3_bestSize_94 ⟨Nat.zero_le _, Nat.zero_le _⟩ (fun H locs hz => ?_)
              refine lv_pop (pc := 97) hx hb dX3_bestSize_97 rfl ?_
              refine lv_iload (pc := 98) hx hb dX3_bestSize_98 (lv_at hl 0 rfl) ?_
              refine lv_if_eq (pc := 100) (tgt := 115) hx hb dX3_bestSize_100 (by decide) (fun c_100 => ?_) (fun c_100 => ?_)
              · have e9 : ¬ hoR (kN (bz (sp 0) k) i).1 ((kN (bz (sp 0) k) i).1 0) = (kN (bz (sp 0) k) i).2 k 4 := fun q => by rw [if_pos q] at c_100; exact absurd c_100 i10
                refine lv_iload_n (pc := 115) hx hb dX3_bestSize_115 rfl (lv_at hl 2 rfl) ?_
                refine lv_aload_n (pc := 116) hx hb dX3_bestSize_116 rfl (lv_at hl 3 rfl) ?_
                refine z_getm (own := RX3) (ref := "CupFountain$Cup") (C := RX0) (T := TX0) (N := 13) (ci := 0) (v := .int ((rqX (kN (bz (sp 0) k) i) (zTk (bz (sp 0) k) (sz 1) i)) k)) (pc := 117) hx hb hts hinX0 hown hz (wF_mcup (i := 1) (k := k) (by decide) hk0) rfl 12 (by decide) L153 rfl rfl dX3_bestSize_117 ?_
                refine z_top (y := rqF (kN (bz (sp 0) k) i) k) (rqX_k hk0) ?_
                refine va_mmax (own := RX3) (pc := 120) hx hb (by rw [hml]; exact hl.1.symm) hown (hts _ (zsub _ wq_23_4)) (hts _ (zsub _ wq_23_5)) (hts _ (zsub _ wq_14_3)) (hts _ (zsub _ wq_23_6)) (Nat.le_of_ble_eq_true rfl) (Nat.le_of_ble_eq_true rfl) (Nat.zero_le _) (Nat.zero_le _) dX3_bestSize_120 ?_
                refine z_top (y := kgF (bz (sp 0) k) k (i + 1)) rfl ?_
                refine lv_istore_n (lv' := [(3, .int (kgF (bz (sp 0) k) k (i + 1))), (5, .int (if hoR (kN (bz (sp 0) k) i).1 ((kN (bz (sp 0) k) i).1 0) = (kN (bz (sp 0) k) i).2 k 4 then 1 else 0)), (4, .int (nI i)), (2, .ref (sa 1 (2 + k))), (0, .ref o), (1, .int (nI k))]) (pc := 123) hx hb dX3_bestSize_123 rfl hl (by decide) rfl (fun ls hl => ?_)
                refine lv_iinc (v := nI (i + 1)) (lv' := [(4, .int (nI (i + 1))), (3, .int (kgF (bz (sp 0) k) k (i + 1))), (5, .int (if hoR (kN (bz (sp 0) k) i).1 ((kN (bz (sp 0) k) i).1 0) = (kN (bz (sp 0) k) i).2 k 4 then 1 else 0)), (2, .ref (sa 1 (2 + k))), (0, .ref o), (1, .int (nI k))]) (pc := 124) hx hb dX3_bestSize_124 hl (k := 2) rfl (nI_add i 1) (by decide) rfl (fun ls hl => ?_)
                refine lv_goto (tgt := 48) (pc := 127) hx hb dX3_bestSize_127 (by decide) ?_
                exact ih (i + 1) (by omega) _ _ _ (hz.as (by rfl)) (lv_sub hl [0, 1, 3, 4, 5] rfl) (hR.trans (by first | rw [kvF, if_neg c_59, if_neg e9] | rw [kvF, if_neg c_59, if_pos e9, if_pos c_108])) (hN.trans (by first | rw [kvN, if_neg c_59, if_neg e9] | rw [kvN, if_neg c_59, if_pos e9, if_pos c_108]))
              · have e9 : hoR (kN (bz (sp 0) k) i).1 ((kN (bz (sp 0) k) i).1 0) = (kN (bz (sp 0) k) i).2 k 4 := Classical.byContradiction (fun q => c_100 (if_neg q))
                refine lv_aload_n (pc := 103) hx hb dX3_bestSize_103 rfl (lv_at hl 3 rfl) ?_
                refine z_getm (own := RX3) (ref := "CupFountain$Cup") (C := RX0) (T := TX0) (N := 13) (ci := 0) (v := .int ((rqX (kN (bz (sp 0) k) i) (zTk (bz (sp 0) k) (sz 1) i)) k)) (pc := 104) hx hb hts hinX0 hown hz (wF_mcup (i := 1) (k := k) (by decide) hk0) rfl 12 (by decide) L153 rfl rfl dX3_bestSize_104 ?_
                refine z_top (y := rqF (kN (bz (sp 0) k) i) k) (rqX_k hk0) ?_
                refine lv_iload_n (pc := 107) hx hb dX3_bestSize_107 rfl (lv_at hl 2 rfl) ?_
                refine lv_icmp_le (pc := 108) (tgt := 115) hx hb dX3_bestSize_108 (by decide) (fun c_108 => ?_) (fun c_108 => ?_)
                · refine lv_iload_n (pc := 115) hx hb dX3_bestSize_115 rfl (lv_at hl 2 rfl) ?_
                  refine lv_aload_n (pc := 116) hx hb dX3_bestSize_116 rfl (lv_at hl 3 rfl) ?_
                  refine z_getm (own := RX3) (ref := "CupFountain$Cup") (C := RX0) (T := TX0) (N := 13) (ci := 0) (v := .int ((rqX (kN (bz (sp 0) k) i) (zTk (bz (sp 0) k) (sz 1) i)) k)) (pc := 117) hx hb hts hinX0 hown hz (wF_mcup (i := 1) (k := k) (by decide) hk0) rfl 12 (by decide) L153 rfl rfl dX3_bestSize_117 ?_
                  refine z_top (y := rqF (kN (bz (sp 0) k) i) k) (rqX_k hk0) ?_
                  refine va_mmax (own := RX3) (pc := 120) hx hb (by rw [hml]; exact hl.1.symm) hown (hts _ (zsub _ wq_23_4)) (hts _ (zsub _ wq_23_5)) (hts _ (zsub _ wq_14_3)) (hts _ (zsub _ wq_23_6)) (Nat.le_of_ble_eq_true rfl) (Nat.le_of_ble_eq_true rfl) (Nat.zero_le _) (Nat.zero_le _) dX3_bestSize_120 ?_
                  refine z_top (y := kgF (bz (sp 0) k) k (i + 1)) rfl ?_
                  refine lv_istore_n (lv' := [(3, .int (kgF (bz (sp 0) k) k (i + 1))), (5, .int (if hoR (kN (bz (sp 0) k) i).1 ((kN (bz (sp 0) k) i).1 0) = (kN (bz (sp 0) k) i).2 k 4 then 1 else 0)), (4, .int (nI i)), (2, .ref (sa 1 (2 + k))), (0, .ref o), (1, .int (nI k))]) (pc := 123) hx hb dX3_bestSize_123 rfl hl (by decide) rfl (fun ls hl => ?_)
                  refine lv_iinc (v := nI (i + 1)) (lv' := [(4, .int (nI (i + 1))), (3, .int (kgF (bz (sp 0) k) k (i + 1))), (5, .int (if hoR (kN (bz (sp 0) k) i).1 ((kN (bz (sp 0) k) i).1 0) = (kN (bz (sp 0) k) i).2 k 4 then 1 else 0)), (2, .ref (sa 1 (2 + k))), (0, .ref o), (1, .int (nI k))]) (pc := 124) hx hb dX3_bestSize_124 hl (k := 2) rfl (nI_add i 1) (by decide) rfl (fun ls hl => ?_)
                  refine lv_goto (tgt := 48) (pc := 127) hx hb dX3_bestSize_127 (by decide) ?_
                  exact ih (i + 1) (by omega) _ _ _ (hz.as (by rfl)) (lv_sub hl [0, 1, 3, 4, 5] rfl) (hR.trans (by first | rw [kvF, if_neg c_59, if_neg e9] | rw [kvF, if_neg c_59, if_pos e9, if_pos c_108])) (hN.trans (by first | rw [kvN, if_neg c_59, if_neg e9] | rw [kvN, if_neg c_59, if_pos e9, if_pos c_108]))
                · refine lv_iload_n (pc := 111) hx hb dX3_bestSize_111 rfl (lv_at hl 2 rfl) ?_
                  refine lv_iconst (v := 1) (pc := 112) hx hb dX3_bestSize_112 (by decide) ?_
                  refine lv_iadd (pc := 113) hx hb dX3_bestSize_113 ?_
                  exact z_iret (pc := 114) hx hb hr hlk hQ hz dX3_bestSize_114 (by simp only [kbeR, if_neg hcup, hnk, if_neg c_31]; rw [hR]; simp only [kvF, if_neg c_59, if_pos e9, if_neg c_108] <;> rfl) (by simp only [kbeP, kbeZ, if_neg hcup, hnk, if_neg c_31]; rw [hN]; simp only [kvN, if_neg c_59, if_pos e9, if_neg c_108] <;> rfl)
            refine lv_icmp_ne (pc := 80) (tgt := 87) hx hb dX3_bestSize_80 (by decide) (fun c_80 => ?_) (fun c_80 => ?_)
            · refine lv_iconst (v := 0) (pc := 87) hx hb dX3_bestSize_87 (by decide) ?_
              exact z_top (by rw [if_neg c_80]) (J2 _ _ _ hz (lv_sub hl [0, 1, 2, 3, 4] rfl))
            · refine lv_iconst (v := 1) (pc := 83) hx hb dX3_bestSize_83 (by decide) ?_
              refine lv_goto (tgt := 88) (pc := 84) hx hb dX3_bestSize_84 (by decide) ?_
              exact z_top (by rw [if_pos c_80]) (J2 _ _ _ hz (lv_sub hl [0, 1, 2, 3, 4] rfl))
      exact loop1 500 0 (by omega) _ _ _ (hz.as (show _ = wF ca o pa f sa (va_up sp 1 (kN (bz (sp 0) k) 0)) (va_up sz 1 (zTk (bz (sp 0) k) (sz 1) 0)) q g tx kd wh nu from by rw [show kN (bz (sp 0) k) 0 = (bz (sp 0) k) from rfl, show zTk (bz (sp 0) k) (sz 1) 0 = sz 1 from rfl, vup_id (s := sz)])) (lv_sub hl [0, 1, 2, 3, 4] rfl) (kvX_d _ _) (kvY_d _ _)
    · refine lv_bipush (v := -4) (pc := 34) hx hb dX3_bestSize_34 (by decide) ?_
      exact z_iret (pc := 36) hx hb hr hlk hQ hz dX3_bestSize_36 (by simp only [kbeR, if_neg hcup, hnk, if_pos c_31]) (by simp only [kbeP, kbeZ, if_neg hcup, hnk, if_pos c_31, vup_id])

def rm_X3_ifTicks : Room := { frames := 4, cells := 0, slots := 0, locals := 93 }
set_option maxRecDepth 20000 in
theorem hdV_X3_ifTicks : yX3_ifTicks.cls = RX3 ∧ yX3_ifTicks.cls ≠ "java/lang/invoke/MethodHandle" ∧ yX3_ifTicks.cls ≠ "java/lang/invoke/VarHandle" ∧ (parseMethodDescriptor yX3_ifTicks.desc).map (fun d => d.parameters.length) = some 2 := by decide +kernel
set_option maxHeartbeats 4000000 in
set_option maxRecDepth 100000 in
theorem k_X3_ifTicks (l : Launch) (G : va_G) (ca : Nat → ClassId) (o pa : Nat) (f : Nat → Int32) (sa : Nat → Nat → Nat) (sp : Nat → HC) (sz : Nat → Nat → Int32) (q : Nat → Nat) (g tx kd wh nu : Nat → Int32) (ticks what : Int32) (hci : CI (sp 0)) : Zc l G ca yX3_ifTicks (zws yX3_ifTicks cX3_ifTicks 4 (some .int)) rm_X3_ifTicks [.ref o, .int ticks, .int what] (wF ca o pa f sa sp sz q g tx kd wh nu) (some (.int (kifR (sp 0) ticks what))) (wF ca o pa f sa (va_up sp 1 (kifP (sp 0) ticks what (sp 1))) (va_up sz 1 (kifZ (sp 0) ticks what (sz 1))) q g tx kd wh nu) := by
  refine Zc.of (cc := cX3_ifTicks) (maxL := 4) (ret := (some .int)) (by decide) rfl (Nat.le_of_ble_eq_true rfl) ?_
  intro pg ev s0 mt below meth cd A args Q ls hx hb hr hml hown hts hlk hQ hl hz
  have L10 : (Cond.fieldLink RX3 10 "CupFountain" "now" "LCupFountain$State;").before args s0 = true := hts _ (zsub _ wq_2_0)
  have L16 : (Cond.fieldLink RX3 16 "CupFountain" "ahead" "LCupFountain$State;").before args s0 = true := hts _ (zsub _ wq_2_1)
  have hinX3 : ∀ w ∈ wsX30, w ∈ zws yX3_ifTicks cX3_ifTicks 4 (some .int) := fun w h => zsub w (wl_wsX30 w h)
  have hl : lv_has ls 4 [(0, .ref o), (1, .int ticks), (2, .int what)] := hl
  refine lv_iload_n (pc := 0) hx hb dX3_ifTicks_0 rfl (lv_at hl 1 rfl) ?_
  refine lv_iconst (v := 1) (pc := 1) hx hb dX3_ifTicks_1 (by decide) ?_
  refine lv_sipush (v := 500) (pc := 2) hx hb dX3_ifTicks_2 (by decide) ?_
  refine z_runS (pc := 5) (As := [.int ticks, .int 1, .int 500]) (rest := []) (ws1 := wF ca o pa f sa sp sz q g tx kd wh nu) ⟨hx, hb, hml, hown, hts⟩ (k_X3_isWithin l G ca ticks 1 500) (cwS 3 hts (zgoodS zsub wq_17_8 wq_17_9 wq_1_2 wq_17_10) rfl rfl rfl hdV_X3_isWithin ⟨Nat.le_of_ble_eq_true rfl, Nat.le_of_ble_eq_true rfl⟩) hz (wF ca o pa f sa sp sz q g tx kd wh nu) zp_no (List.Perm.refl _) rfl hl.1 (Nat.le_of_ble_eq_true rfl) (st1 := [.int (inF ticks 1 500)]) rfl dX3_ifTicks_5 ⟨Nat.zero_le _, Nat.zero_le _⟩ (fun H locs hz => ?_)
  refine lv_if_eq (pc := 8) (tgt := 20) hx hb dX3_ifTicks_8 (by decide) (fun c_8 => ?_) (fun c_8 => ?_)
  · refine lv_bipush (v := -2) (pc := 20) hx hb dX3_ifTicks_20 (by decide) ?_
    exact z_iret (pc := 22) hx hb hr hlk hQ hz dX3_ifTicks_22 (by simp only [kifR, if_pos c_8]) (by simp only [kifP, kifZ, if_pos c_8, vup_id])
  · refine lv_iload_n (pc := 11) hx hb dX3_ifTicks_11 rfl (lv_at hl 2 rfl) ?_
    refine lv_iconst (v := 0) (pc := 12) hx hb dX3_ifTicks_12 (by decide) ?_
    refine lv_iconst (v := 3) (pc := 13) hx hb dX3_ifTicks_13 (by decide) ?_
    refine z_runS (pc := 14) (As := [.int what, .int 0, .int 3]) (rest := []) (ws1 := wF ca o pa f sa sp sz q g tx kd wh nu) ⟨hx, hb, hml, hown, hts⟩ (k_X3_isWithin l G ca what 0 3) (cwS 3 hts (zgoodS zsub wq_17_8 wq_17_9 wq_1_2 wq_17_10) rfl rfl rfl hdV_X3_isWithin ⟨Nat.le_of_ble_eq_true rfl, Nat.le_of_ble_eq_true rfl⟩) hz (wF ca o pa f sa sp sz q g tx kd wh nu) zp_no (List.Perm.refl _) rfl hl.1 (Nat.le_of_ble_eq_true rfl) (st1 := [.int (inF what 0 3)]) rfl dX3_ifTicks_14 ⟨Nat.zero_le _, Nat.zero_le _⟩ (fun H locs hz => ?_)
    refine lv_if_ne (pc := 17) (tgt := 23) hx hb dX3_ifTicks_17 (by decide) (fun c_17 => ?_) (fun c_17 => ?_)
    · obtain ⟨n5, hn5, rfl⟩ := i32_nI (n := 500) (Or.inr rfl) rfl (by decide) (inF_ne c_8)
      have hnn : nn (nI n5) = n5 := nn_nI (by omega)
      refine lv_aload_n (pc := 23) hx hb dX3_ifTicks_23 rfl (lv_at hl 0 rfl) ?_
      refine z_get (own := RX3) (ref := "CupFountain") (C := RX3) (T := TX3) (N := 10) (ci := 3) (v := .ref (sa 1 0)) (pc := 24) hx hb hts hinX3 hown hz 0 rfl rfl 1 (by decide) L16 rfl rfl dX3_ifTicks_24 ?_
      refine lv_aload_n (pc := 27) hx hb dX3_ifTicks_27 rfl (lv_at hl 0 rfl) ?_
      refine z_get (own := RX3) (ref := "CupFountain") (C := RX3) (T := TX3) (N := 10) (ci := 3) (v := .ref (sa 0 0)) (pc := 28) hx hb hts hinX3 hown hz 0 rfl rfl 0 (by decide) L10 rfl rfl dX3_ifTicks_28 ?_
      refine z_runV (pc := 31) (As := [.ref (sa 0 0)]) (rest := []) (ws1 := wF ca o pa f sa (va_up sp 1 (sp 0)) sz q g tx kd wh nu) ⟨hx, hb, hml, hown, hts⟩ (k_X2_copyFrom l G ca (sa 1) (sa 0) ((sp 1).1) ((sp 0).1) ((sp 1).2) ((sp 0).2) (sz 1) (sz 0) hci.bb) (cwV 1 hts (zgoodV zsub wq_11_10 wq_11_11 wq_12_0 wq_1_11 wq_12_1) rfl rfl rfl hdV_X2_copyFrom ⟨Nat.le_of_ble_eq_true rfl, Nat.le_of_ble_eq_true rfl⟩) hz (wFr2 ca o pa f (pfS sa) sa sp sz q g tx kd wh nu 1 0) (wF_pm2 (sp := sp) (sz := sz) (i := 1) (j := 0) (by decide) (by decide) (by decide)) (wF_pm3 (sp := sp) (sz := sz) (i := 1) (j := 0) (by decide) (by decide) (by decide)) rfl rfl rfl hl.1 (Nat.le_of_ble_eq_true rfl) (st1 := []) rfl dX3_ifTicks_31 ⟨Nat.zero_le _, Nat.zero_le _⟩ (fun H locs hz => ?_)
      refine lv_aload_n (pc := 34) hx hb dX3_ifTicks_34 rfl (lv_at hl 0 rfl) ?_
      refine z_get (own := RX3) (ref := "CupFountain") (C := RX3) (T := TX3) (N := 10) (ci := 3) (v := .ref (sa 1 0)) (pc := 35) hx hb hts hinX3 hown hz 0 rfl rfl 1 (by decide) L16 rfl rfl dX3_ifTicks_35 ?_
      refine lv_iload_n (pc := 38) hx hb dX3_ifTicks_38 rfl (lv_at hl 1 rfl) ?_
      refine z_runV (pc := 39) (As := [.int (nI n5)]) (rest := []) (ws1 := wF ca o pa f sa (va_up sp 1 ((kN ((sp 0).1, (sp 0).2) n5).1, (kN ((sp 0).1, (sp 0).2) n5).2)) (va_up sz 1 (zTk ((sp 0).1, (sp 0).2) (sz 1) n5)) q g tx kd wh nu) ⟨hx, hb, hml, hown, hts⟩ (k_X2_tickOn l G ca (sa 1) ((sp 0).1) ((sp 0).2) (sz 1) n5 (by omega) hci.nx) (cwV 1 hts (zgoodV zsub wq_12_6 wq_12_7 wq_12_8 wq_1_11 wq_12_9) rfl rfl rfl hdV_X2_tickOn ⟨Nat.le_of_ble_eq_true rfl, Nat.le_of_ble_eq_true rfl⟩) hz (wFr ca o pa f (pfS sa) sa (va_up sp 1 (sp 0)) sz q g tx kd wh nu 1) (wF_pm (sp := (va_up sp 1 (sp 0))) (sz := sz) (i := 1) (by decide)) (wF_pm1 (sp := (va_up sp 1 (sp 0))) (sz := sz) (sp' := (va_up sp 1 ((kN ((sp 0).1, (sp 0).2) n5).1, (kN ((sp 0).1, (sp 0).2) n5).2))) (sz' := (va_up sz 1 (zTk ((sp 0).1, (sp 0).2) (sz 1) n5))) (i := 1) (by decide) (fun j h9 => by simp only [vup_n h9]) (fun j h9 => by first | rfl | simp only [vup_n h9])) rfl rfl rfl hl.1 (Nat.le_of_ble_eq_true rfl) (st1 := [.int (kS ((sp 0).1, (sp 0).2) n5)]) rfl dX3_ifTicks_39 ⟨Nat.zero_le _, Nat.zero_le _⟩ (fun H locs hz => ?_)
      refine lv_pop (pc := 42) hx hb dX3_ifTicks_42 rfl ?_
      refine lv_iload_n (pc := 43) hx hb dX3_ifTicks_43 rfl (lv_at hl 2 rfl) ?_
      refine lv_iconst (v := 3) (pc := 44) hx hb dX3_ifTicks_44 (by decide) ?_
      have J1 : ∀ (H : Heap) (locs : List Loc) (ls : Array Slot), zw G ca A s0.heap s0 (wF ca o pa f sa (va_up sp 1 ((kN ((sp 0).1, (sp 0).2) n5).1, (kN ((sp 0).1, (sp 0).2) n5).2)) (va_up sz 1 (zTk ((sp 0).1, (sp 0).2) (sz 1) n5)) q g tx kd wh nu) H locs → lv_has ls 4 [(0, .ref o), (1, .int (nI n5)), (2, .int what)] → W pg l ev rm_X3_ifTicks s0 mt args below meth cd H locs 0 0 Q (F0 mt 57 ls [.int (if what = 3 then 8 else 9 + what)]) := by
        intro H locs ls hz hl
        refine lv_istore_n (lv' := [(3, .int (if what = 3 then 8 else 9 + what)), (0, .ref o), (1, .int (nI n5)), (2, .int what)]) (pc := 57) hx hb dX3_ifTicks_57 rfl hl (by decide) rfl (fun ls hl => ?_)
        refine lv_aload_n (pc := 58) hx hb dX3_ifTicks_58 rfl (lv_at hl 1 rfl) ?_
        refine z_get (own := RX3) (ref := "CupFountain") (C := RX3) (T := TX3) (N := 10) (ci := 3) (v := .ref (sa 1 0)) (pc := 59) hx hb hts hinX3 hown hz 0 rfl rfl 1 (by decide) L16 rfl rfl dX3_ifTicks_59 ?_
        refine lv_iload_n (pc := 62) hx hb dX3_ifTicks_62 rfl (lv_at hl 0 rfl) ?_
        refine z_runV (pc := 63) (As := [.int (if what = 3 then 8 else 9 + what)]) (rest := []) (ws1 := wF ca o pa f sa (va_up sp 1 ((kN ((sp 0).1, (sp 0).2) n5).1, (kN ((sp 0).1, (sp 0).2) n5).2)) (va_up sz 1 (zTk ((sp 0).1, (sp 0).2) (sz 1) n5)) q g tx kd wh nu) ⟨hx, hb, hml, hown, hts⟩ (k_X2_sumOf l G ca (sa 1) ((kN ((sp 0).1, (sp 0).2) n5).1) ((kN ((sp 0).1, (sp 0).2) n5).2) (zTk ((sp 0).1, (sp 0).2) (sz 1) n5) (if what = 3 then 8 else 9 + what) (hci.kn n5).bb) (cwV 1 hts (zgoodV zsub wq_17_11 wq_10_1 wq_10_2 wq_1_11 wq_10_3) rfl rfl rfl hdV_X2_sumOf ⟨Nat.le_of_ble_eq_true rfl, Nat.le_of_ble_eq_true rfl⟩) hz (wFr ca o pa f (pfS sa) sa (va_up sp 1 ((kN ((sp 0).1, (sp 0).2) n5).1, (kN ((sp 0).1, (sp 0).2) n5).2)) (va_up sz 1 (zTk ((sp 0).1, (sp 0).2) (sz 1) n5)) q g tx kd wh nu 1) (wF_pm (sp := (va_up sp 1 ((kN ((sp 0).1, (sp 0).2) n5).1, (kN ((sp 0).1, (sp 0).2) n5).2))) (sz := (va_up sz 1 (zTk ((sp 0).1, (sp 0).2) (sz 1) n5))) (i := 1) (by decide)) (wF_pm (sp := (va_up sp 1 ((kN ((sp 0).1, (sp 0).2) n5).1, (kN ((sp 0).1, (sp 0).2) n5).2))) (sz := (va_up sz 1 (zTk ((sp 0).1, (sp 0).2) (sz 1) n5))) (i := 1) (by decide)).symm rfl rfl rfl hl.1 (Nat.le_of_ble_eq_true rfl) (st1 := [.int (tsF ((kN ((sp 0).1, (sp 0).2) n5).2) (if what = 3 then 8 else 9 + what) 8)]) rfl dX3_ifTicks_63 ⟨Nat.zero_le _, Nat.zero_le _⟩ (fun H locs hz => ?_)
        refine lv_aload_n (pc := 66) hx hb dX3_ifTicks_66 rfl (lv_at hl 1 rfl) ?_
        refine z_get (own := RX3) (ref := "CupFountain") (C := RX3) (T := TX3) (N := 10) (ci := 3) (v := .ref (sa 0 0)) (pc := 67) hx hb hts hinX3 hown hz 0 rfl rfl 0 (by decide) L10 rfl rfl dX3_ifTicks_67 ?_
        refine lv_iload_n (pc := 70) hx hb dX3_ifTicks_70 rfl (lv_at hl 0 rfl) ?_
        refine z_runV (pc := 71) (As := [.int (if what = 3 then 8 else 9 + what)]) (rest := [.int (tsF ((kN ((sp 0).1, (sp 0).2) n5).2) (if what = 3 then 8 else 9 + what) 8)]) (ws1 := wF ca o pa f sa (va_up sp 1 ((kN ((sp 0).1, (sp 0).2) n5).1, (kN ((sp 0).1, (sp 0).2) n5).2)) (va_up sz 1 (zTk ((sp 0).1, (sp 0).2) (sz 1) n5)) q g tx kd wh nu) ⟨hx, hb, hml, hown, hts⟩ (k_X2_sumOf l G ca (sa 0) ((sp 0).1) ((sp 0).2) (sz 0) (if what = 3 then 8 else 9 + what) hci.bb) (cwV 1 hts (zgoodV zsub wq_17_11 wq_10_1 wq_10_2 wq_1_11 wq_10_3) rfl rfl rfl hdV_X2_sumOf ⟨Nat.le_of_ble_eq_true rfl, Nat.le_of_ble_eq_true rfl⟩) hz (wFr ca o pa f (pfS sa) sa (va_up sp 1 ((kN ((sp 0).1, (sp 0).2) n5).1, (kN ((sp 0).1, (sp 0).2) n5).2)) (va_up sz 1 (zTk ((sp 0).1, (sp 0).2) (sz 1) n5)) q g tx kd wh nu 0) (wF_pm (sp := (va_up sp 1 ((kN ((sp 0).1, (sp 0).2) n5).1, (kN ((sp 0).1, (sp 0).2) n5).2))) (sz := (va_up sz 1 (zTk ((sp 0).1, (sp 0).2) (sz 1) n5))) (i := 0) (by decide)) (wF_pm (sp := (va_up sp 1 ((kN ((sp 0).1, (sp 0).2) n5).1, (kN ((sp 0).1, (sp 0).2) n5).2))) (sz := (va_up sz 1 (zTk ((sp 0).1, (sp 0).2) (sz 1) n5))) (i := 0) (by decide)).symm rfl rfl rfl hl.1 (Nat.le_of_ble_eq_true rfl) (st1 := [.int (tsF ((sp 0).2) (if what = 3 then 8 else 9 + what) 8), .int (tsF ((kN ((sp 0).1, (sp 0).2) n5).2) (if what = 3 then 8 else 9 + what) 8)]) rfl dX3_ifTicks_71 ⟨Nat.zero_le _, Nat.zero_le _⟩ (fun H locs hz => ?_)
        refine lv_isub (pc := 74) hx hb dX3_ifTicks_74 ?_
        exact z_iret (pc := 75) hx hb hr hlk hQ hz dX3_ifTicks_75 (by simp only [kifR, if_neg c_8, if_neg c_17, kifX, hnn]) (by simp only [kifP, kifZ, if_neg c_8, if_neg c_17, hnn])
      refine lv_icmp_ne (pc := 45) (tgt := 53) hx hb dX3_ifTicks_45 (by decide) (fun c_45 => ?_) (fun c_45 => ?_)
      · refine lv_bipush (v := 9) (pc := 53) hx hb dX3_ifTicks_53 (by decide) ?_
        refine lv_iload_n (pc := 55) hx hb dX3_ifTicks_55 rfl (lv_at hl 2 rfl) ?_
        refine lv_iadd (pc := 56) hx hb dX3_ifTicks_56 ?_
        exact z_top (by rw [if_neg c_45]) (J1 _ _ _ hz (lv_sub hl [0, 1, 2] rfl))
      · refine lv_bipush (v := 8) (pc := 48) hx hb dX3_ifTicks_48 (by decide) ?_
        refine lv_goto (tgt := 57) (pc := 50) hx hb dX3_ifTicks_50 (by decide) ?_
        exact z_top (by rw [if_pos c_45]) (J1 _ _ _ hz (lv_sub hl [0, 1, 2] rfl))
    · refine lv_bipush (v := -2) (pc := 20) hx hb dX3_ifTicks_20 (by decide) ?_
      exact z_iret (pc := 22) hx hb hr hlk hQ hz dX3_ifTicks_22 (by simp only [kifR, if_neg c_8, if_pos c_17]) (by simp only [kifP, kifZ, if_neg c_8, if_pos c_17, vup_id])

def rm_X3_highest : Room := { frames := 0, cells := 0, slots := 0, locals := 0 }
set_option maxRecDepth 20000 in
theorem hdV_X3_highest : yX3_highest.cls = RX3 ∧ yX3_highest.cls ≠ "java/lang/invoke/MethodHandle" ∧ yX3_highest.cls ≠ "java/lang/invoke/VarHandle" ∧ (parseMethodDescriptor yX3_highest.desc).map (fun d => d.parameters.length) = some 0 := by decide +kernel
set_option maxHeartbeats 4000000 in
set_option maxRecDepth 100000 in
theorem k_X3_highest (l : Launch) (G : va_G) (ca : Nat → ClassId) (o pa : Nat) (f : Nat → Int32) (sa : Nat → Nat → Nat) (sp : Nat → HC) (sz : Nat → Nat → Int32) (q : Nat → Nat) (g tx kd wh nu : Nat → Int32) : Zc l G ca yX3_highest (zws yX3_highest cX3_highest 4 (some .int)) rm_X3_highest [.ref o] (wF ca o pa f sa sp sz q g tx kd wh nu) (some (.int (khX (sp 0).2))) (wF ca o pa f sa sp sz q g tx kd wh nu) := by
  refine Zc.of (cc := cX3_highest) (maxL := 4) (ret := (some .int)) (by decide) rfl (Nat.le_of_ble_eq_true rfl) ?_
  intro pg ev s0 mt below meth cd A args Q ls hx hb hr hml hown hts hlk hQ hl hz
  have L10 : (Cond.fieldLink RX3 10 "CupFountain" "now" "LCupFountain$State;").before args s0 = true := hts _ (zsub _ wq_2_0)
  have L146 : (Cond.fieldLink RX3 146 "CupFountain$State" "cups" "[LCupFountain$Cup;").before args s0 = true := hts _ (zsub _ wq_7_5)
  have L164 : (Cond.fieldLink RX3 164 "CupFountain$Cup" "jet" "I").before args s0 = true := hts _ (zsub _ wq_7_6)
  have hinX0 : ∀ w ∈ wsX00, w ∈ zws yX3_highest cX3_highest 4 (some .int) := fun w h => zsub w (wl_wsX00 w h)
  have hinX2 : ∀ w ∈ wsX20, w ∈ zws yX3_highest cX3_highest 4 (some .int) := fun w h => zsub w (wl_wsX20 w h)
  have hinX3 : ∀ w ∈ wsX30, w ∈ zws yX3_highest cX3_highest 4 (some .int) := fun w h => zsub w (wl_wsX30 w h)
  have hl : lv_has ls 4 [(0, .ref o)] := hl
  refine lv_bipush (v := -5) (pc := 0) hx hb dX3_highest_0 (by decide) ?_
  refine lv_istore_n (lv' := [(1, .int (-5)), (0, .ref o)]) (pc := 2) hx hb dX3_highest_2 rfl hl (by decide) rfl (fun ls hl => ?_)
  refine lv_iconst (v := 0) (pc := 3) hx hb dX3_highest_3 (by decide) ?_
  refine lv_istore_n (lv' := [(2, .int 0), (1, .int (-5)), (0, .ref o)]) (pc := 4) hx hb dX3_highest_4 rfl hl (by decide) rfl (fun ls hl => ?_)
  refine lv_iconst (v := 0) (pc := 5) hx hb dX3_highest_5 (by decide) ?_
  refine lv_istore_n (lv' := [(3, .int 0), (2, .int 0), (1, .int (-5)), (0, .ref o)]) (pc := 6) hx hb dX3_highest_6 rfl hl (by decide) rfl (fun ls hl => ?_)
  have loop1 : ∀ cnt k : Nat, k + cnt = 8 → ∀ (H : Heap) (locs : List Loc) (ls : Array Slot), zw G ca A s0.heap s0 (wF ca o pa f sa sp sz q g tx kd wh nu) H locs → lv_has ls 4 [(1, .int ((khF (sp 0).2 k).1)), (2, .int ((khF (sp 0).2 k).2)), (3, .int (nI k)), (0, .ref o)] → W pg l ev rm_X3_highest s0 mt args below meth cd H locs 0 0 Q (F0 mt 7 ls []) := by
    intro cnt
    induction cnt with
    | zero =>
      intro k hk9 H locs ls hz hl
      obtain rfl : 8 = k := by omega
      refine lv_iload_n (pc := 7) hx hb dX3_highest_7 rfl (lv_at hl 2 rfl) ?_
      refine lv_bipush (v := 8) (pc := 8) hx hb dX3_highest_8 (by decide) ?_
      refine lv_icmp_ge (pc := 10) (tgt := 50) hx hb dX3_highest_10 (by decide) (fun c_10 => ?_) (fun c9 => absurd (by decide) c9)
      refine lv_iload_n (pc := 50) hx hb dX3_highest_50 rfl (lv_at hl 0 rfl) ?_
      exact z_iret (pc := 51) hx hb hr hlk hQ hz dX3_highest_51 (by rw [khX_d]) (by rfl)
    | succ cnt ih =>
      intro k hk9 H locs ls hz hl
      have hk : k < 8 := by omega
      refine lv_iload_n (pc := 7) hx hb dX3_highest_7 rfl (lv_at hl 2 rfl) ?_
      refine lv_bipush (v := 8) (pc := 8) hx hb dX3_highest_8 (by decide) ?_
      refine lv_icmp_ge (pc := 10) (tgt := 50) hx hb dX3_highest_10 (by decide) (fun c9 => absurd c9 (nI_ge hk (by decide))) (fun c_10 => ?_)
      refine lv_aload_n (pc := 13) hx hb dX3_highest_13 rfl (lv_at hl 3 rfl) ?_
      refine z_get (own := RX3) (ref := "CupFountain") (C := RX3) (T := TX3) (N := 10) (ci := 3) (v := .ref (sa 0 0)) (pc := 14) hx hb hts hinX3 hown hz 0 rfl rfl 0 (by decide) L10 rfl rfl dX3_highest_14 ?_
      refine z_getm (own := RX3) (ref := "CupFountain$State") (C := RX2) (T := TX2) (N := 9) (ci := 2) (v := .ref (sa 0 1)) (pc := 17) hx hb hts hinX2 hown hz (wF_mst (i := 0) (by decide)) rfl 0 (by decide) L146 rfl rfl dX3_highest_17 ?_
      refine lv_iload_n (pc := 20) hx hb dX3_highest_20 rfl (lv_at hl 2 rfl) ?_
      refine z_aaldm (pc := 21) hx hb hz 3 (wF_marr (i := 0) (by decide)) rfl k rfl hk (by decide) rfl dX3_highest_21 ?_
      refine z_getm (own := RX3) (ref := "CupFountain$Cup") (C := RX0) (T := TX0) (N := 13) (ci := 0) (v := .int (((sp 0).2) k 7)) (pc := 22) hx hb hts hinX0 hown hz (wF_mcup (i := 0) (k := k) (by decide) (by assumption)) rfl 7 (by decide) L164 rfl rfl dX3_highest_22 ?_
      refine lv_iload_n (pc := 25) hx hb dX3_highest_25 rfl (lv_at hl 1 rfl) ?_
      refine lv_icmp_le (pc := 26) (tgt := 44) hx hb dX3_highest_26 (by decide) (fun c_26 => ?_) (fun c_26 => ?_)
      · have hl : lv_has ls 4 [(1, .int ((khF (sp 0).2 (k + 1)).1)), (2, .int ((khF (sp 0).2 (k + 1)).2)), (3, .int (nI k)), (0, .ref o)] := by simp only [khF, if_pos c_26]; exact lv_sub hl [0, 1, 2, 3] rfl
        refine lv_iinc (v := nI (k + 1)) (lv' := [(3, .int (nI (k + 1))), (1, .int ((khF (sp 0).2 (k + 1)).1)), (2, .int ((khF (sp 0).2 (k + 1)).2)), (0, .ref o)]) (pc := 44) hx hb dX3_highest_44 hl (k := 2) rfl (nI_add k 1) (by decide) rfl (fun ls hl => ?_)
        refine lv_goto (tgt := 7) (pc := 47) hx hb dX3_highest_47 (by decide) ?_
        exact ih (k + 1) (by omega) _ _ _ hz (lv_sub hl [1, 2, 0, 3] rfl)
      · refine lv_iload_n (pc := 29) hx hb dX3_highest_29 rfl (lv_at hl 2 rfl) ?_
        refine lv_istore_n (lv' := [(1, .int (nI k)), (2, .int ((khF (sp 0).2 k).2)), (3, .int (nI k)), (0, .ref o)]) (pc := 30) hx hb dX3_highest_30 rfl hl (by decide) rfl (fun ls hl => ?_)
        refine lv_aload_n (pc := 31) hx hb dX3_highest_31 rfl (lv_at hl 3 rfl) ?_
        refine z_get (own := RX3) (ref := "CupFountain") (C := RX3) (T := TX3) (N := 10) (ci := 3) (v := .ref (sa 0 0)) (pc := 32) hx hb hts hinX3 hown hz 0 rfl rfl 0 (by decide) L10 rfl rfl dX3_highest_32 ?_
        refine z_getm (own := RX3) (ref := "CupFountain$State") (C := RX2) (T := TX2) (N := 9) (ci := 2) (v := .ref (sa 0 1)) (pc := 35) hx hb hts hinX2 hown hz (wF_mst (i := 0) (by decide)) rfl 0 (by decide) L146 rfl rfl dX3_highest_35 ?_
        refine lv_iload_n (pc := 38) hx hb dX3_highest_38 rfl (lv_at hl 2 rfl) ?_
        refine z_aaldm (pc := 39) hx hb hz 3 (wF_marr (i := 0) (by decide)) rfl k rfl hk (by decide) rfl dX3_highest_39 ?_
        refine z_getm (own := RX3) (ref := "CupFountain$Cup") (C := RX0) (T := TX0) (N := 13) (ci := 0) (v := .int (((sp 0).2) k 7)) (pc := 40) hx hb hts hinX0 hown hz (wF_mcup (i := 0) (k := k) (by decide) (by assumption)) rfl 7 (by decide) L164 rfl rfl dX3_highest_40 ?_
        refine lv_istore_n (lv' := [(2, .int (((sp 0).2) k 7)), (1, .int (nI k)), (3, .int (nI k)), (0, .ref o)]) (pc := 43) hx hb dX3_highest_43 rfl hl (by decide) rfl (fun ls hl => ?_)
        have hl : lv_has ls 4 [(1, .int ((khF (sp 0).2 (k + 1)).1)), (2, .int ((khF (sp 0).2 (k + 1)).2)), (3, .int (nI k)), (0, .ref o)] := by simp only [khF, if_neg c_26]; exact lv_sub hl [1, 0, 2, 3] rfl
        refine lv_iinc (v := nI (k + 1)) (lv' := [(3, .int (nI (k + 1))), (1, .int ((khF (sp 0).2 (k + 1)).1)), (2, .int ((khF (sp 0).2 (k + 1)).2)), (0, .ref o)]) (pc := 44) hx hb dX3_highest_44 hl (k := 2) rfl (nI_add k 1) (by decide) rfl (fun ls hl => ?_)
        refine lv_goto (tgt := 7) (pc := 47) hx hb dX3_highest_47 (by decide) ?_
        exact ih (k + 1) (by omega) _ _ _ hz (lv_sub hl [1, 2, 0, 3] rfl)
  exact loop1 8 0 (by omega) _ _ _ hz (lv_sub hl [2, 1, 0, 3] rfl)

def rm_X3_count : Room := { frames := 4, cells := 0, slots := 0, locals := 85 }
set_option maxRecDepth 20000 in
theorem hdV_X3_count : yX3_count.cls = RX3 ∧ yX3_count.cls ≠ "java/lang/invoke/MethodHandle" ∧ yX3_count.cls ≠ "java/lang/invoke/VarHandle" ∧ (parseMethodDescriptor yX3_count.desc).map (fun d => d.parameters.length) = some 1 := by decide +kernel
set_option maxHeartbeats 4000000 in
set_option maxRecDepth 100000 in
theorem k_X3_count (l : Launch) (G : va_G) (ca : Nat → ClassId) (o pa : Nat) (f : Nat → Int32) (sa : Nat → Nat → Nat) (sp : Nat → HC) (sz : Nat → Nat → Int32) (q : Nat → Nat) (g tx kd wh nu : Nat → Int32) (kp ln : Nat) (hf6 : f 6 = nI kp) (hg1 : g 1 = nI ln) (hbb0 : bbP (sp 0)) (x : Int32) : Zc l G ca yX3_count (zws yX3_count cX3_count 2 (some .int)) rm_X3_count [.ref o, .int x] (wF ca o pa f sa sp sz q g tx kd wh nu) (some (.int (kcntR (sp 0) kp ln x))) (wF ca o pa f sa sp sz q g tx kd wh nu) := by
  refine Zc.of (cc := cX3_count) (maxL := 2) (ret := (some .int)) (by decide) rfl (Nat.le_of_ble_eq_true rfl) ?_
  intro pg ev s0 mt below meth cd A args Q ls hx hb hr hml hown hts hlk hQ hl hz
  have L10 : (Cond.fieldLink RX3 10 "CupFountain" "now" "LCupFountain$State;").before args s0 = true := hts _ (zsub _ wq_2_0)
  have L167 : (Cond.fieldLink RX3 167 "CupFountain$Plan" "length" "I").before args s0 = true := hts _ (zsub _ wq_9_3)
  have L32 : (Cond.fieldLink RX3 32 "CupFountain" "plan" "LCupFountain$Plan;").before args s0 = true := hts _ (zsub _ wq_2_8)
  have L36 : (Cond.fieldLink RX3 36 "CupFountain" "pastCount" "I").before args s0 = true := hts _ (zsub _ wq_2_9)
  have hinX1 : ∀ w ∈ wsX10, w ∈ zws yX3_count cX3_count 2 (some .int) := fun w h => zsub w (wl_wsX10 w h)
  have hinX3 : ∀ w ∈ wsX30, w ∈ zws yX3_count cX3_count 2 (some .int) := fun w h => zsub w (wl_wsX30 w h)
  have hl : lv_has ls 2 [(0, .ref o), (1, .int x)] := hl
  refine lv_iload_n (pc := 0) hx hb dX3_count_0 rfl (lv_at hl 1 rfl) ?_
  by_cases h_13 : x = 13
  · refine lv_lookup (off := 27) (tgt := 28) (pc := 1) hx hb dX3_count_1 (by decide) (by rw [h_13]; decide) (by decide) ?_
    refine lv_aload_n (pc := 28) hx hb dX3_count_28 rfl (lv_at hl 0 rfl) ?_
    refine z_get (own := RX3) (ref := "CupFountain") (C := RX3) (T := TX3) (N := 10) (ci := 3) (v := .int (f 6)) (pc := 29) hx hb hts hinX3 hown hz 0 rfl rfl 6 (by decide) L36 rfl rfl dX3_count_29 ?_
    refine z_top (y := nI kp) hf6 ?_
    exact z_iret (pc := 32) hx hb hr hlk hQ hz dX3_count_32 (by simp only [kcntR, if_pos h_13]) (by rfl)
  by_cases h_14 : x = 14
  · refine lv_lookup (off := 32) (tgt := 33) (pc := 1) hx hb dX3_count_1 (by decide) (by rw [h_14]; decide) (by decide) ?_
    refine lv_aload_n (pc := 33) hx hb dX3_count_33 rfl (lv_at hl 0 rfl) ?_
    refine z_get (own := RX3) (ref := "CupFountain") (C := RX3) (T := TX3) (N := 10) (ci := 3) (v := .ref (q 0)) (pc := 34) hx hb hts hinX3 hown hz 0 rfl rfl 5 (by decide) L32 rfl rfl dX3_count_34 ?_
    refine z_getm (own := RX3) (ref := "CupFountain$Plan") (C := RX1) (T := TX1) (N := 7) (ci := 1) (v := .int (g 1)) (pc := 37) hx hb hts hinX1 hown hz wF_mpl rfl 1 (by decide) L167 rfl rfl dX3_count_37 ?_
    refine z_top (y := nI ln) hg1 ?_
    exact z_iret (pc := 40) hx hb hr hlk hQ hz dX3_count_40 (by simp only [kcntR, if_neg h_13, if_pos h_14]) (by rfl)
  refine lv_lookup (off := 40) (tgt := 41) (pc := 1) hx hb dX3_count_1 (by decide) ((lv_osw h_13 (k := 13) rfl).trans ((lv_osw h_14 (k := 14) rfl).trans (rfl))) (by decide) ?_
  refine lv_aload_n (pc := 41) hx hb dX3_count_41 rfl (lv_at hl 0 rfl) ?_
  refine z_get (own := RX3) (ref := "CupFountain") (C := RX3) (T := TX3) (N := 10) (ci := 3) (v := .ref (sa 0 0)) (pc := 42) hx hb hts hinX3 hown hz 0 rfl rfl 0 (by decide) L10 rfl rfl dX3_count_42 ?_
  refine lv_iload_n (pc := 45) hx hb dX3_count_45 rfl (lv_at hl 1 rfl) ?_
  refine z_runV (pc := 46) (As := [.int x]) (rest := []) (ws1 := wF ca o pa f sa sp sz q g tx kd wh nu) ⟨hx, hb, hml, hown, hts⟩ (k_X2_tell l G ca (sa 0) ((sp 0).1) ((sp 0).2) (sz 0) x hbb0) (cwV 1 hts (zgoodV zsub wq_9_4 wq_9_5 wq_9_6 wq_1_11 wq_9_7) rfl rfl rfl hdV_X2_tell ⟨Nat.le_of_ble_eq_true rfl, Nat.le_of_ble_eq_true rfl⟩) hz (wFr ca o pa f (pfS sa) sa sp sz q g tx kd wh nu 0) (wF_pm (sp := sp) (sz := sz) (i := 0) (by decide)) (wF_pm (sp := sp) (sz := sz) (i := 0) (by decide)).symm rfl rfl rfl hl.1 (Nat.le_of_ble_eq_true rfl) (st1 := [.int (stellR ((sp 0).1, (sp 0).2) x)]) rfl dX3_count_46 ⟨Nat.zero_le _, Nat.zero_le _⟩ (fun H locs hz => ?_)
  exact z_iret (pc := 49) hx hb hr hlk hQ hz dX3_count_49 (by simp only [kcntR, if_neg h_13, if_neg h_14]) (by rfl)

def rm_X3_cup : Room := { frames := 2, cells := 0, slots := 0, locals := 41 }
set_option maxRecDepth 20000 in
theorem hdV_X3_cup : yX3_cup.cls = RX3 ∧ yX3_cup.cls ≠ "java/lang/invoke/MethodHandle" ∧ yX3_cup.cls ≠ "java/lang/invoke/VarHandle" ∧ (parseMethodDescriptor yX3_cup.desc).map (fun d => d.parameters.length) = some 2 := by decide +kernel
set_option maxHeartbeats 4000000 in
set_option maxRecDepth 100000 in
theorem k_X3_cup (l : Launch) (G : va_G) (ca : Nat → ClassId) (o pa : Nat) (f : Nat → Int32) (sa : Nat → Nat → Nat) (sp : Nat → HC) (sz : Nat → Nat → Int32) (q : Nat → Nat) (g tx kd wh nu : Nat → Int32) (cup what : Int32) (hbb0 : bbP (sp 0)) : Zc l G ca yX3_cup (zws yX3_cup cX3_cup 4 (some .int)) rm_X3_cup [.ref o, .int cup, .int what] (wF ca o pa f sa sp sz q g tx kd wh nu) (some (.int (kcupR (sp 0).2 cup what))) (wF ca o pa f sa sp sz q g tx kd wh nu) := by
  refine Zc.of (cc := cX3_cup) (maxL := 4) (ret := (some .int)) (by decide) rfl (Nat.le_of_ble_eq_true rfl) ?_
  intro pg ev s0 mt below meth cd A args Q ls hx hb hr hml hown hts hlk hQ hl hz
  have L10 : (Cond.fieldLink RX3 10 "CupFountain" "now" "LCupFountain$State;").before args s0 = true := hts _ (zsub _ wq_2_0)
  have hinX3 : ∀ w ∈ wsX30, w ∈ zws yX3_cup cX3_cup 4 (some .int) := fun w h => zsub w (wl_wsX30 w h)
  have hl : lv_has ls 4 [(0, .ref o), (1, .int cup), (2, .int what)] := hl
  by_cases hcup : inF cup 0 7 = 0
  · refine lv_aload_n (pc := 0) hx hb dX3_cup_0 rfl (lv_at hl 0 rfl) ?_
    refine z_get (own := RX3) (ref := "CupFountain") (C := RX3) (T := TX3) (N := 10) (ci := 3) (v := .ref (sa 0 0)) (pc := 1) hx hb hts hinX3 hown hz 0 rfl rfl 0 (by decide) L10 rfl rfl dX3_cup_1 ?_
    refine lv_iload_n (pc := 4) hx hb dX3_cup_4 rfl (lv_at hl 1 rfl) ?_
    refine z_runV (pc := 5) (As := [.int cup]) (rest := []) (ws1 := wF ca o pa f sa sp sz q g tx kd wh nu) ⟨hx, hb, hml, hown, hts⟩ (k_X2_find_n l G ca (sa 0) ((sp 0).1) ((sp 0).2) (sz 0) cup hcup) (cwV 1 hts (zgoodV zsub wq_7_11 wq_8_0 wq_8_1 wq_1_11 wq_8_2) rfl rfl rfl hdV_X2_find ⟨Nat.le_of_ble_eq_true rfl, Nat.le_of_ble_eq_true rfl⟩) hz (wFr ca o pa f (pfS sa) sa sp sz q g tx kd wh nu 0) (wF_pm (sp := sp) (sz := sz) (i := 0) (by decide)) (wF_pm (sp := sp) (sz := sz) (i := 0) (by decide)).symm rfl rfl rfl hl.1 (Nat.le_of_ble_eq_true rfl) (st1 := [.null]) rfl dX3_cup_5 ⟨Nat.zero_le _, Nat.zero_le _⟩ (fun H locs hz => ?_)
    refine lv_astore_nN (lv' := [(3, .null), (0, .ref o), (1, .int cup), (2, .int what)]) (pc := 8) hx hb dX3_cup_8 rfl hl (by decide) rfl (fun ls hl => ?_)
    refine lv_aload_nN (pc := 9) hx hb dX3_cup_9 rfl (lv_at hl 0 rfl) ?_
    refine lv_ifnonnullN (pc := 10) hx hb dX3_cup_10 ?_
    refine lv_iconst (v := -1) (pc := 13) hx hb dX3_cup_13 (by decide) ?_
    refine lv_goto (tgt := 22) (pc := 14) hx hb dX3_cup_14 (by decide) ?_
    exact z_iret (pc := 22) hx hb hr hlk hQ hz dX3_cup_22 (by simp only [kcupR, if_pos hcup]) (by rfl)
  · obtain ⟨k, hk, rfl⟩ := isCup_pos hcup
    have hnk : nn (nI k) = k := nn_nI (by omega)
    have hk0 : k < 8 := hk
    refine lv_aload_n (pc := 0) hx hb dX3_cup_0 rfl (lv_at hl 0 rfl) ?_
    refine z_get (own := RX3) (ref := "CupFountain") (C := RX3) (T := TX3) (N := 10) (ci := 3) (v := .ref (sa 0 0)) (pc := 1) hx hb hts hinX3 hown hz 0 rfl rfl 0 (by decide) L10 rfl rfl dX3_cup_1 ?_
    refine lv_iload_n (pc := 4) hx hb dX3_cup_4 rfl (lv_at hl 1 rfl) ?_
    refine z_runV (pc := 5) (As := [.int (nI k)]) (rest := []) (ws1 := wF ca o pa f sa sp sz q g tx kd wh nu) ⟨hx, hb, hml, hown, hts⟩ (k_X2_find_r l G ca (sa 0) ((sp 0).1) ((sp 0).2) (sz 0) k hk0) (cwV 1 hts (zgoodV zsub wq_7_11 wq_8_0 wq_8_1 wq_1_11 wq_8_2) rfl rfl rfl hdV_X2_find ⟨Nat.le_of_ble_eq_true rfl, Nat.le_of_ble_eq_true rfl⟩) hz (wFr ca o pa f (pfS sa) sa sp sz q g tx kd wh nu 0) (wF_pm (sp := sp) (sz := sz) (i := 0) (by decide)) (wF_pm (sp := sp) (sz := sz) (i := 0) (by decide)).symm rfl rfl rfl hl.1 (Nat.le_of_ble_eq_true rfl) (st1 := [.ref (sa 0 (2 + k))]) rfl dX3_cup_5 ⟨Nat.zero_le _, Nat.zero_le _⟩ (fun H locs hz => ?_)
    refine lv_astore_n (lv' := [(3, .ref (sa 0 (2 + k))), (0, .ref o), (1, .int (nI k)), (2, .int what)]) (pc := 8) hx hb dX3_cup_8 rfl hl (by decide) rfl (fun ls hl => ?_)
    refine lv_aload_n (pc := 9) hx hb dX3_cup_9 rfl (lv_at hl 0 rfl) ?_
    refine lv_ifnonnull (tgt := 17) (pc := 10) hx hb dX3_cup_10 (by decide) ?_
    refine lv_aload_n (pc := 17) hx hb dX3_cup_17 rfl (lv_at hl 0 rfl) ?_
    refine lv_iload_n (pc := 18) hx hb dX3_cup_18 rfl (lv_at hl 3 rfl) ?_
    refine z_runV (pc := 19) (As := [.int what]) (rest := []) (ws1 := wF ca o pa f sa sp sz q g tx kd wh nu) ⟨hx, hb, hml, hown, hts⟩ (k_X0_tell l G ca (sa 0 (2 + k)) (((sp 0).2) k) ((sz 0) k) what (hbb0 k hk0).1 (hbb0 k hk0).2) (cwV 1 hts (zgoodV zsub wq_8_3 wq_8_4 wq_8_5 wq_4_4 wq_8_6) rfl rfl rfl hdV_X0_tell ⟨Nat.le_of_ble_eq_true rfl, Nat.le_of_ble_eq_true rfl⟩) hz (wSr ca (sa 0) ((sp 0).1) ((sp 0).2) (sz 0) k ++ wFr ca o pa f (pfS sa) sa sp sz q g tx kd wh nu 0) (wF_pmc (i := 0) (k := k) (by decide) hk0) (wF_pmc (i := 0) (k := k) (by decide) hk0).symm rfl rfl rfl hl.1 (Nat.le_of_ble_eq_true rfl) (st1 := [.int (tellR (((sp 0).2) k) what)]) rfl dX3_cup_19 ⟨Nat.zero_le _, Nat.zero_le _⟩ (fun H locs hz => ?_)
    exact z_iret (pc := 22) hx hb hr hlk hQ hz dX3_cup_22 (by simp only [kcupR, if_neg hcup, hnk]) (by rfl)

def rm_X3_reason : Room := { frames := 3, cells := 0, slots := 0, locals := 70 }
set_option maxRecDepth 20000 in
theorem hdV_X3_reason : yX3_reason.cls = RX3 ∧ yX3_reason.cls ≠ "java/lang/invoke/MethodHandle" ∧ yX3_reason.cls ≠ "java/lang/invoke/VarHandle" ∧ (parseMethodDescriptor yX3_reason.desc).map (fun d => d.parameters.length) = some 1 := by decide +kernel
set_option maxHeartbeats 4000000 in
set_option maxRecDepth 100000 in
theorem k_X3_reason (l : Launch) (G : va_G) (ca : Nat → ClassId) (o pa : Nat) (f : Nat → Int32) (sa : Nat → Nat → Nat) (sp : Nat → HC) (sz : Nat → Nat → Int32) (q : Nat → Nat) (g tx kd wh nu : Nat → Int32) (cup : Int32) (hbb0 : bbP (sp 0)) (hnx0 : nxP (sp 0)) : Zc l G ca yX3_reason (zws yX3_reason cX3_reason 4 (some .int)) rm_X3_reason [.ref o, .int cup] (wF ca o pa f sa sp sz q g tx kd wh nu) (some (.int (kreR (sp 0) cup))) (wF ca o pa f sa (va_up sp 1 (kreP (sp 0) cup (sp 1))) (va_up sz 1 (kreZ (sp 0) cup (sz 1))) q g tx kd wh nu) := by
  refine Zc.of (cc := cX3_reason) (maxL := 4) (ret := (some .int)) (by decide) rfl (Nat.le_of_ble_eq_true rfl) ?_
  intro pg ev s0 mt below meth cd A args Q ls hx hb hr hml hown hts hlk hQ hl hz
  have L10 : (Cond.fieldLink RX3 10 "CupFountain" "now" "LCupFountain$State;").before args s0 = true := hts _ (zsub _ wq_2_0)
  have L107 : (Cond.fieldLink RX3 107 "CupFountain$State" "tick" "I").before args s0 = true := hts _ (zsub _ wq_20_2)
  have L122 : (Cond.fieldLink RX3 122 "CupFountain$Cup" "tips" "I").before args s0 = true := hts _ (zsub _ wq_11_9)
  have L125 : (Cond.fieldLink RX3 125 "CupFountain$Cup" "guarded" "Z").before args s0 = true := hts _ (zsub _ wq_20_0)
  have L128 : (Cond.fieldLink RX3 128 "CupFountain$Cup" "hour" "I").before args s0 = true := hts _ (zsub _ wq_20_1)
  have L134 : (Cond.fieldLink RX3 134 "CupFountain$Cup" "open" "Z").before args s0 = true := hts _ (zsub _ wq_20_3)
  have L16 : (Cond.fieldLink RX3 16 "CupFountain" "ahead" "LCupFountain$State;").before args s0 = true := hts _ (zsub _ wq_2_1)
  have hinX0 : ∀ w ∈ wsX00, w ∈ zws yX3_reason cX3_reason 4 (some .int) := fun w h => zsub w (wl_wsX00 w h)
  have hinX2 : ∀ w ∈ wsX20, w ∈ zws yX3_reason cX3_reason 4 (some .int) := fun w h => zsub w (wl_wsX20 w h)
  have hinX3 : ∀ w ∈ wsX30, w ∈ zws yX3_reason cX3_reason 4 (some .int) := fun w h => zsub w (wl_wsX30 w h)
  have hl : lv_has ls 4 [(0, .ref o), (1, .int cup)] := hl
  by_cases hcup : inF cup 0 7 = 0
  · refine lv_aload_n (pc := 0) hx hb dX3_reason_0 rfl (lv_at hl 0 rfl) ?_
    refine z_get (own := RX3) (ref := "CupFountain") (C := RX3) (T := TX3) (N := 10) (ci := 3) (v := .ref (sa 0 0)) (pc := 1) hx hb hts hinX3 hown hz 0 rfl rfl 0 (by decide) L10 rfl rfl dX3_reason_1 ?_
    refine lv_iload_n (pc := 4) hx hb dX3_reason_4 rfl (lv_at hl 1 rfl) ?_
    refine z_runV (pc := 5) (As := [.int cup]) (rest := []) (ws1 := wF ca o pa f sa sp sz q g tx kd wh nu) ⟨hx, hb, hml, hown, hts⟩ (k_X2_find_n l G ca (sa 0) ((sp 0).1) ((sp 0).2) (sz 0) cup hcup) (cwV 1 hts (zgoodV zsub wq_7_11 wq_8_0 wq_8_1 wq_1_11 wq_8_2) rfl rfl rfl hdV_X2_find ⟨Nat.le_of_ble_eq_true rfl, Nat.le_of_ble_eq_true rfl⟩) hz (wFr ca o pa f (pfS sa) sa sp sz q g tx kd wh nu 0) (wF_pm (sp := sp) (sz := sz) (i := 0) (by decide)) (wF_pm (sp := sp) (sz := sz) (i := 0) (by decide)).symm rfl rfl rfl hl.1 (Nat.le_of_ble_eq_true rfl) (st1 := [.null]) rfl dX3_reason_5 ⟨Nat.zero_le _, Nat.zero_le _⟩ (fun H locs hz => ?_)
    refine lv_astore_nN (lv' := [(2, .null), (0, .ref o), (1, .int cup)]) (pc := 8) hx hb dX3_reason_8 rfl hl (by decide) rfl (fun ls hl => ?_)
    refine lv_aload_nN (pc := 9) hx hb dX3_reason_9 rfl (lv_at hl 0 rfl) ?_
    refine lv_ifnonnullN (pc := 10) hx hb dX3_reason_10 ?_
    refine lv_iconst (v := -1) (pc := 13) hx hb dX3_reason_13 (by decide) ?_
    exact z_iret (pc := 14) hx hb hr hlk hQ hz dX3_reason_14 (by simp only [kreR, if_pos hcup]) (by simp only [kreP, kreZ, if_pos hcup, vup_id])
  · obtain ⟨k, hk, rfl⟩ := isCup_pos hcup
    have hnk : nn (nI k) = k := nn_nI (by omega)
    have hk0 : k < 8 := hk
    refine lv_aload_n (pc := 0) hx hb dX3_reason_0 rfl (lv_at hl 0 rfl) ?_
    refine z_get (own := RX3) (ref := "CupFountain") (C := RX3) (T := TX3) (N := 10) (ci := 3) (v := .ref (sa 0 0)) (pc := 1) hx hb hts hinX3 hown hz 0 rfl rfl 0 (by decide) L10 rfl rfl dX3_reason_1 ?_
    refine lv_iload_n (pc := 4) hx hb dX3_reason_4 rfl (lv_at hl 1 rfl) ?_
    refine z_runV (pc := 5) (As := [.int (nI k)]) (rest := []) (ws1 := wF ca o pa f sa sp sz q g tx kd wh nu) ⟨hx, hb, hml, hown, hts⟩ (k_X2_find_r l G ca (sa 0) ((sp 0).1) ((sp 0).2) (sz 0) k hk0) (cwV 1 hts (zgoodV zsub wq_7_11 wq_8_0 wq_8_1 wq_1_11 wq_8_2) rfl rfl rfl hdV_X2_find ⟨Nat.le_of_ble_eq_true rfl, Nat.le_of_ble_eq_true rfl⟩) hz (wFr ca o pa f (pfS sa) sa sp sz q g tx kd wh nu 0) (wF_pm (sp := sp) (sz := sz) (i := 0) (by decide)) (wF_pm (sp := sp) (sz := sz) (i := 0) (by decide)).symm rfl rfl rfl hl.1 (Nat.le_of_ble_eq_true rfl) (st1 := [.ref (sa 0 (2 + k))]) rfl dX3_reason_5 ⟨Nat.zero_le _, Nat.zero_le _⟩ (fun H locs hz => ?_)
    refine lv_astore_n (lv' := [(2, .ref (sa 0 (2 + k))), (0, .ref o), (1, .int (nI k))]) (pc := 8) hx hb dX3_reason_8 rfl hl (by decide) rfl (fun ls hl => ?_)
    refine lv_aload_n (pc := 9) hx hb dX3_reason_9 rfl (lv_at hl 0 rfl) ?_
    refine lv_ifnonnull (tgt := 15) (pc := 10) hx hb dX3_reason_10 (by decide) ?_
    refine lv_aload_n (pc := 15) hx hb dX3_reason_15 rfl (lv_at hl 1 rfl) ?_
    refine z_get (own := RX3) (ref := "CupFountain") (C := RX3) (T := TX3) (N := 10) (ci := 3) (v := .ref (sa 1 0)) (pc := 16) hx hb hts hinX3 hown hz 0 rfl rfl 1 (by decide) L16 rfl rfl dX3_reason_16 ?_
    refine lv_aload_n (pc := 19) hx hb dX3_reason_19 rfl (lv_at hl 1 rfl) ?_
    refine z_get (own := RX3) (ref := "CupFountain") (C := RX3) (T := TX3) (N := 10) (ci := 3) (v := .ref (sa 0 0)) (pc := 20) hx hb hts hinX3 hown hz 0 rfl rfl 0 (by decide) L10 rfl rfl dX3_reason_20 ?_
    refine z_runV (pc := 23) (As := [.ref (sa 0 0)]) (rest := []) (ws1 := wF ca o pa f sa (va_up sp 1 (sp 0)) sz q g tx kd wh nu) ⟨hx, hb, hml, hown, hts⟩ (k_X2_copyFrom l G ca (sa 1) (sa 0) ((sp 1).1) ((sp 0).1) ((sp 1).2) ((sp 0).2) (sz 1) (sz 0) hbb0) (cwV 1 hts (zgoodV zsub wq_11_10 wq_11_11 wq_12_0 wq_1_11 wq_12_1) rfl rfl rfl hdV_X2_copyFrom ⟨Nat.le_of_ble_eq_true rfl, Nat.le_of_ble_eq_true rfl⟩) hz (wFr2 ca o pa f (pfS sa) sa sp sz q g tx kd wh nu 1 0) (wF_pm2 (sp := sp) (sz := sz) (i := 1) (j := 0) (by decide) (by decide) (by decide)) (wF_pm3 (sp := sp) (sz := sz) (i := 1) (j := 0) (by decide) (by decide) (by decide)) rfl rfl rfl hl.1 (Nat.le_of_ble_eq_true rfl) (st1 := []) rfl dX3_reason_23 ⟨Nat.zero_le _, Nat.zero_le _⟩ (fun H locs hz => ?_)
    refine lv_aload_n (pc := 26) hx hb dX3_reason_26 rfl (lv_at hl 1 rfl) ?_
    refine z_get (own := RX3) (ref := "CupFountain") (C := RX3) (T := TX3) (N := 10) (ci := 3) (v := .ref (sa 1 0)) (pc := 27) hx hb hts hinX3 hown hz 0 rfl rfl 1 (by decide) L16 rfl rfl dX3_reason_27 ?_
    refine z_runV (pc := 30) (As := []) (rest := []) (ws1 := wF ca o pa f sa (va_up sp 1 ((kTick (sp 0)).1, (kTick (sp 0)).2)) (va_up sz 1 (rqX (sp 0) (sz 1))) q g tx kd wh nu) ⟨hx, hb, hml, hown, hts⟩ (k_X2_tickOnce l G ca (sa 1) ((sp 0).1) ((sp 0).2) (sz 1) hnx0) (cwV 0 hts (zgoodV zsub wq_20_4 wq_12_11 wq_13_0 wq_1_11 wq_13_1) rfl rfl rfl hdV_X2_tickOnce ⟨Nat.le_of_ble_eq_true rfl, Nat.le_of_ble_eq_true rfl⟩) hz (wFr ca o pa f (pfS sa) sa (va_up sp 1 (sp 0)) sz q g tx kd wh nu 1) (wF_pm (sp := (va_up sp 1 (sp 0))) (sz := sz) (i := 1) (by decide)) (wF_pm1 (sp := (va_up sp 1 (sp 0))) (sz := sz) (sp' := (va_up sp 1 ((kTick (sp 0)).1, (kTick (sp 0)).2))) (sz' := (va_up sz 1 (rqX (sp 0) (sz 1)))) (i := 1) (by decide) (fun j h9 => by simp only [vup_n h9]) (fun j h9 => by first | rfl | simp only [vup_n h9])) rfl rfl rfl hl.1 (Nat.le_of_ble_eq_true rfl) (st1 := [.int (ktips (sp 0))]) rfl dX3_reason_30 ⟨Nat.zero_le _, Nat.zero_le _⟩ (fun H locs hz => ?_)
    refine lv_pop (pc := 33) hx hb dX3_reason_33 rfl ?_
    refine lv_aload_n (pc := 34) hx hb dX3_reason_34 rfl (lv_at hl 1 rfl) ?_
    refine z_get (own := RX3) (ref := "CupFountain") (C := RX3) (T := TX3) (N := 10) (ci := 3) (v := .ref (sa 1 0)) (pc := 35) hx hb hts hinX3 hown hz 0 rfl rfl 1 (by decide) L16 rfl rfl dX3_reason_35 ?_
    refine lv_iload_n (pc := 38) hx hb dX3_reason_38 rfl (lv_at hl 2 rfl) ?_
    refine z_runV (pc := 39) (As := [.int (nI k)]) (rest := []) (ws1 := wF ca o pa f sa (va_up sp 1 ((kTick (sp 0)).1, (kTick (sp 0)).2)) (va_up sz 1 (rqX (sp 0) (sz 1))) q g tx kd wh nu) ⟨hx, hb, hml, hown, hts⟩ (k_X2_find_r l G ca (sa 1) ((kTick (sp 0)).1) ((kTick (sp 0)).2) (rqX (sp 0) (sz 1)) k hk0) (cwV 1 hts (zgoodV zsub wq_7_11 wq_8_0 wq_8_1 wq_1_11 wq_8_2) rfl rfl rfl hdV_X2_find ⟨Nat.le_of_ble_eq_true rfl, Nat.le_of_ble_eq_true rfl⟩) hz (wFr ca o pa f (pfS sa) sa (va_up sp 1 ((kTick (sp 0)).1, (kTick (sp 0)).2)) (va_up sz 1 (rqX (sp 0) (sz 1))) q g tx kd wh nu 1) (wF_pm (sp := (va_up sp 1 ((kTick (sp 0)).1, (kTick (sp 0)).2))) (sz := (va_up sz 1 (rqX (sp 0) (sz 1)))) (i := 1) (by decide)) (wF_pm (sp := (va_up sp 1 ((kTick (sp 0)).1, (kTick (sp 0)).2))) (sz := (va_up sz 1 (rqX (sp 0) (sz 1)))) (i := 1) (by decide)).symm rfl rfl rfl hl.1 (Nat.le_of_ble_eq_true rfl) (st1 := [.ref (sa 1 (2 + k))]) rfl dX3_reason_39 ⟨Nat.zero_le _, Nat.zero_le _⟩ (fun H locs hz => ?_)
    refine lv_astore_n (lv' := [(3, .ref (sa 1 (2 + k))), (2, .ref (sa 0 (2 + k))), (0, .ref o), (1, .int (nI k))]) (pc := 42) hx hb dX3_reason_42 rfl hl (by decide) rfl (fun ls hl => ?_)
    refine lv_aload_n (pc := 43) hx hb dX3_reason_43 rfl (lv_at hl 0 rfl) ?_
    refine lv_ifnull (pc := 44) hx hb dX3_reason_44 ?_
    refine lv_aload_n (pc := 47) hx hb dX3_reason_47 rfl (lv_at hl 0 rfl) ?_
    refine z_getm (own := RX3) (ref := "CupFountain$Cup") (C := RX0) (T := TX0) (N := 13) (ci := 0) (v := .int (((kTick (sp 0)).2) k 8)) (pc := 48) hx hb hts hinX0 hown hz (wF_mcup (i := 1) (k := k) (by decide) hk0) rfl 8 (by decide) L122 rfl rfl dX3_reason_48 ?_
    refine lv_aload_n (pc := 51) hx hb dX3_reason_51 rfl (lv_at hl 1 rfl) ?_
    refine z_getm (own := RX3) (ref := "CupFountain$Cup") (C := RX0) (T := TX0) (N := 13) (ci := 0) (v := .int (((sp 0).2) k 8)) (pc := 52) hx hb hts hinX0 hown hz (wF_mcup (i := 0) (k := k) (by decide) hk0) rfl 8 (by decide) L122 rfl rfl dX3_reason_52 ?_
    refine lv_icmp_le (pc := 55) (tgt := 60) hx hb dX3_reason_55 (by decide) (fun c_55 => ?_) (fun c_55 => ?_)
    · refine lv_aload_n (pc := 60) hx hb dX3_reason_60 rfl (lv_at hl 1 rfl) ?_
      refine z_getm (own := RX3) (ref := "CupFountain$Cup") (C := RX0) (T := TX0) (N := 13) (ci := 0) (v := .int (((sp 0).2) k 6)) (pc := 61) hx hb hts hinX0 hown hz (wF_mcup (i := 0) (k := k) (by decide) hk0) rfl 6 (by decide) L125 rfl rfl dX3_reason_61 ?_
      refine lv_if_eq (pc := 64) (tgt := 94) hx hb dX3_reason_64 (by decide) (fun c_64 => ?_) (fun c_64 => ?_)
      · refine lv_aload_n (pc := 94) hx hb dX3_reason_94 rfl (lv_at hl 1 rfl) ?_
        refine z_getm (own := RX3) (ref := "CupFountain$Cup") (C := RX0) (T := TX0) (N := 13) (ci := 0) (v := .int (((sp 0).2) k 5)) (pc := 95) hx hb hts hinX0 hown hz (wF_mcup (i := 0) (k := k) (by decide) hk0) rfl 5 (by decide) L134 rfl rfl dX3_reason_95 ?_
        refine lv_if_eq (pc := 98) (tgt := 105) hx hb dX3_reason_98 (by decide) (fun c_98 => ?_) (fun c_98 => ?_)
        · refine lv_iconst (v := 2) (pc := 105) hx hb dX3_reason_105 (by decide) ?_
          exact z_iret (pc := 106) hx hb hr hlk hQ hz dX3_reason_106 (by simp only [kreR, if_neg hcup, if_pos c_55, if_pos c_64, if_pos c_98, hnk]) (by simp only [kreP, kreZ, if_neg hcup])
        · refine lv_iconst (v := 3) (pc := 101) hx hb dX3_reason_101 (by decide) ?_
          refine lv_goto (tgt := 106) (pc := 102) hx hb dX3_reason_102 (by decide) ?_
          exact z_iret (pc := 106) hx hb hr hlk hQ hz dX3_reason_106 (by simp only [kreR, if_neg hcup, if_pos c_55, if_pos c_64, if_neg c_98, hnk]) (by simp only [kreP, kreZ, if_neg hcup])
      · refine lv_aload_n (pc := 67) hx hb dX3_reason_67 rfl (lv_at hl 1 rfl) ?_
        refine z_getm (own := RX3) (ref := "CupFountain$Cup") (C := RX0) (T := TX0) (N := 13) (ci := 0) (v := .int (((sp 0).2) k 4)) (pc := 68) hx hb hts hinX0 hown hz (wF_mcup (i := 0) (k := k) (by decide) hk0) rfl 4 (by decide) L128 rfl rfl dX3_reason_68 ?_
        refine lv_aload_n (pc := 71) hx hb dX3_reason_71 rfl (lv_at hl 2 rfl) ?_
        refine z_get (own := RX3) (ref := "CupFountain") (C := RX3) (T := TX3) (N := 10) (ci := 3) (v := .ref (sa 0 0)) (pc := 72) hx hb hts hinX3 hown hz 0 rfl rfl 0 (by decide) L10 rfl rfl dX3_reason_72 ?_
        refine lv_aload_n (pc := 75) hx hb dX3_reason_75 rfl (lv_at hl 2 rfl) ?_
        refine z_get (own := RX3) (ref := "CupFountain") (C := RX3) (T := TX3) (N := 10) (ci := 3) (v := .ref (sa 0 0)) (pc := 76) hx hb hts hinX3 hown hz 0 rfl rfl 0 (by decide) L10 rfl rfl dX3_reason_76 ?_
        refine z_getm (own := RX3) (ref := "CupFountain$State") (C := RX2) (T := TX2) (N := 9) (ci := 2) (v := .int ((sp 0).1 0)) (pc := 79) hx hb hts hinX2 hown hz (wF_mst (i := 0) (by decide)) rfl 1 (by decide) L107 rfl rfl dX3_reason_79 ?_
        refine z_runV (pc := 82) (As := [.int ((sp 0).1 0)]) (rest := [.int (((sp 0).2) k 4)]) (ws1 := wF ca o pa f sa (va_up sp 1 ((kTick (sp 0)).1, (kTick (sp 0)).2)) (va_up sz 1 (rqX (sp 0) (sz 1))) q g tx kd wh nu) ⟨hx, hb, hml, hown, hts⟩ (k_X2_hourOf l G ca (sa 0) ((sp 0).1) ((sp 0).2) (sz 0) ((sp 0).1 0)) (cwV 1 hts (zgoodV zsub wq_20_5 wq_9_9 wq_9_10 wq_1_11 wq_9_11) rfl rfl rfl hdV_X2_hourOf ⟨Nat.le_of_ble_eq_true rfl, Nat.le_of_ble_eq_true rfl⟩) hz (wFr ca o pa f (pfS sa) sa (va_up sp 1 ((kTick (sp 0)).1, (kTick (sp 0)).2)) (va_up sz 1 (rqX (sp 0) (sz 1))) q g tx kd wh nu 0) (wF_pm (sp := (va_up sp 1 ((kTick (sp 0)).1, (kTick (sp 0)).2))) (sz := (va_up sz 1 (rqX (sp 0) (sz 1)))) (i := 0) (by decide)) (wF_pm (sp := (va_up sp 1 ((kTick (sp 0)).1, (kTick (sp 0)).2))) (sz := (va_up sz 1 (rqX (sp 0) (sz 1)))) (i := 0) (by decide)).symm rfl rfl rfl hl.1 (Nat.le_of_ble_eq_true rfl) (st1 := [.int (hoR ((sp 0).1) ((sp 0).1 0)), .int (((sp 0).2) k 4)]) rfl dX3_reason_82 ⟨Nat.zero_le _, Nat.zero_le _⟩ (fun H locs hz => ?_)
        refine lv_icmp_ne (pc := 85) (tgt := 92) hx hb dX3_reason_85 (by decide) (fun c_85 => ?_) (fun c_85 => ?_)
        · refine lv_iconst (v := 1) (pc := 92) hx hb dX3_reason_92 (by decide) ?_
          exact z_iret (pc := 93) hx hb hr hlk hQ hz dX3_reason_93 (by simp only [kreR, if_neg hcup, if_pos c_55, if_neg c_64, if_neg c_85, hnk]) (by simp only [kreP, kreZ, if_neg hcup])
        · refine lv_iconst (v := 3) (pc := 88) hx hb dX3_reason_88 (by decide) ?_
          refine lv_goto (tgt := 93) (pc := 89) hx hb dX3_reason_89 (by decide) ?_
          exact z_iret (pc := 93) hx hb hr hlk hQ hz dX3_reason_93 (by simp only [kreR, if_neg hcup, if_pos c_55, if_neg c_64, if_pos c_85, hnk]) (by simp only [kreP, kreZ, if_neg hcup])
    · refine lv_iconst (v := 0) (pc := 58) hx hb dX3_reason_58 (by decide) ?_
      exact z_iret (pc := 59) hx hb hr hlk hQ hz dX3_reason_59 (by simp only [kreR, if_neg hcup, if_neg c_55, hnk]) (by simp only [kreP, kreZ, if_neg hcup])
