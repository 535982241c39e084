def rm_X3_dropOldest : Room := { frames := 0, cells := 0, slots := 0, locals := 0 }
set_option maxRecDepth 20000 in
theorem hdV_X3_dropOldest : yX3_dropOldest.cls = RX3 ∧ yX3_dropOldest.cls ≠ "java/lang/invoke/MethodHandle" ∧ yX3_dropOldest.cls ≠ "java/lang/invoke/VarHandle" ∧ (parseMethodDescriptor yX3_dropOldest.desc).map (fun d => d.parameters.length) = some 0 := by decide +kernel
set_option maxHeartbeats 4000000 in
set_option maxRecDepth 100000 in
theorem k_X3_dropOldest (l : Launch) (G : va_G) (ca : Nat → ClassId) (o pa : Nat) (f : Nat → Int32) (sa : Nat → Nat → Nat) (sp : Nat → HC) (sz : Nat → Nat → Int32) (q : Nat → Nat) (g tx kd wh nu : Nat → Int32) : Zc l G ca yX3_dropOldest (zws yX3_dropOldest cX3_dropOldest 3 none) rm_X3_dropOldest [.ref o] (wF ca o pa f sa sp sz q g tx kd wh nu) none (wF ca o pa (upd f 6 3) (rot sa) (rot sp) (rot sz) q g tx kd wh nu) := by
  refine Zc.of (cc := cX3_dropOldest) (maxL := 3) (ret := none) (by decide) rfl (Nat.le_of_ble_eq_true rfl) ?_
  intro pg ev s0 mt below meth cd A args Q ls hx hb hr hml hown hts hlk hQ hl hz
  have L25 : (Cond.fieldLink RX3 25 "CupFountain" "past" "[LCupFountain$State;").before args s0 = true := hts _ (zsub _ wq_2_4)
  have L36 : (Cond.fieldLink RX3 36 "CupFountain" "pastCount" "I").before args s0 = true := hts _ (zsub _ wq_2_9)
  have hinX3 : ∀ w ∈ wsX30, w ∈ zws yX3_dropOldest cX3_dropOldest 3 none := fun w h => zsub w (wl_wsX30 w h)
  have hl : lv_has ls 3 [(0, .ref o)] := hl
  refine lv_aload_n (pc := 0) hx hb dX3_dropOldest_0 rfl (lv_at hl 0 rfl) ?_
  refine z_get (own := RX3) (ref := "CupFountain") (C := RX3) (T := TX3) (N := 10) (ci := 3) (v := .ref pa) (pc := 1) hx hb hts hinX3 hown hz 0 rfl rfl 4 (by decide) L25 rfl rfl dX3_dropOldest_1 ?_
  refine lv_iconst (v := 0) (pc := 4) hx hb dX3_dropOldest_4 (by decide) ?_
  refine z_aald (pc := 5) hx hb hz 1 4 rfl rfl 0 rfl (by decide) (by decide) rfl dX3_dropOldest_5 ?_
  refine lv_astore_n (lv' := [(1, .ref (sa 4 0)), (0, .ref o)]) (pc := 6) hx hb dX3_dropOldest_6 rfl hl (by decide) rfl (fun ls hl => ?_)
  refine lv_iconst (v := 1) (pc := 7) hx hb dX3_dropOldest_7 (by decide) ?_
  refine lv_istore_n (lv' := [(2, .int 1), (1, .ref (sa 4 0)), (0, .ref o)]) (pc := 8) hx hb dX3_dropOldest_8 rfl hl (by decide) rfl (fun ls hl => ?_)
  have hl : lv_has ls 3 [(2, .int 1), (1, .ref (sa 4 0)), (0, .ref o)] := hl
  refine lv_iload_n (pc := 9) hx hb dX3_dropOldest_9 rfl (lv_at hl 0 rfl) ?_
  refine lv_iconst (v := 4) (pc := 10) hx hb dX3_dropOldest_10 (by decide) ?_
  refine lv_icmp_ge (pc := 11) (tgt := 34) hx hb dX3_dropOldest_11 (by decide) (fun c9 => absurd c9 (by decide)) (fun c_11 => ?_)
  refine lv_aload_n (pc := 14) hx hb dX3_dropOldest_14 rfl (lv_at hl 2 rfl) ?_
  refine z_get (own := RX3) (ref := "CupFountain") (C := RX3) (T := TX3) (N := 10) (ci := 3) (v := .ref pa) (pc := 15) hx hb hts hinX3 hown hz 0 rfl rfl 4 (by decide) L25 rfl rfl dX3_dropOldest_15 ?_
  refine lv_iload_n (pc := 18) hx hb dX3_dropOldest_18 rfl (lv_at hl 0 rfl) ?_
  refine lv_iconst (v := 1) (pc := 19) hx hb dX3_dropOldest_19 (by decide) ?_
  refine lv_isub (pc := 20) hx hb dX3_dropOldest_20 ?_
  refine z_top (y := 0) (by decide) ?_
  refine lv_aload_n (pc := 21) hx hb dX3_dropOldest_21 rfl (lv_at hl 2 rfl) ?_
  refine z_get (own := RX3) (ref := "CupFountain") (C := RX3) (T := TX3) (N := 10) (ci := 3) (v := .ref pa) (pc := 22) hx hb hts hinX3 hown hz 0 rfl rfl 4 (by decide) L25 rfl rfl dX3_dropOldest_22 ?_
  refine lv_iload_n (pc := 25) hx hb dX3_dropOldest_25 rfl (lv_at hl 0 rfl) ?_
  refine z_aald (pc := 26) hx hb hz 1 4 rfl rfl 1 rfl (by decide) (by decide) rfl dX3_dropOldest_26 ?_
  refine z_aastm (ci := 2) (ws1 := wFp ca o pa f (va_up (pfS sa) 0 (some (sa 5 0))) sa sp sz q g tx kd wh nu) (pc := 27) hx hb hz 1 4 rfl rfl (wF_mst (i := 5) (by decide)) rfl 0 rfl (by decide) (by decide) rfl dX3_dropOldest_27 (fun H locs hz => ?_)
  refine lv_iinc (v := 1 + 1) (lv' := [(2, .int (1 + 1)), (1, .ref (sa 4 0)), (0, .ref o)]) (pc := 28) hx hb dX3_dropOldest_28 hl (k := 0) rfl rfl (by decide) rfl (fun ls hl => ?_)
  refine lv_goto (tgt := 9) (pc := 31) hx hb dX3_dropOldest_31 (by decide) ?_
  have hl : lv_has ls 3 [(2, .int 2), (1, .ref (sa 4 0)), (0, .ref o)] := hl
  refine lv_iload_n (pc := 9) hx hb dX3_dropOldest_9 rfl (lv_at hl 0 rfl) ?_
  refine lv_iconst (v := 4) (pc := 10) hx hb dX3_dropOldest_10 (by decide) ?_
  refine lv_icmp_ge (pc := 11) (tgt := 34) hx hb dX3_dropOldest_11 (by decide) (fun c9 => absurd c9 (by decide)) (fun c_11 => ?_)
  refine lv_aload_n (pc := 14) hx hb dX3_dropOldest_14 rfl (lv_at hl 2 rfl) ?_
  refine z_get (own := RX3) (ref := "CupFountain") (C := RX3) (T := TX3) (N := 10) (ci := 3) (v := .ref pa) (pc := 15) hx hb hts hinX3 hown hz 0 rfl rfl 4 (by decide) L25 rfl rfl dX3_dropOldest_15 ?_
  refine lv_iload_n (pc := 18) hx hb dX3_dropOldest_18 rfl (lv_at hl 0 rfl) ?_
  refine lv_iconst (v := 1) (pc := 19) hx hb dX3_dropOldest_19 (by decide) ?_
  refine lv_isub (pc := 20) hx hb dX3_dropOldest_20 ?_
  refine z_top (y := 1) (by decide) ?_
  refine lv_aload_n (pc := 21) hx hb dX3_dropOldest_21 rfl (lv_at hl 2 rfl) ?_
  refine z_get (own := RX3) (ref := "CupFountain") (C := RX3) (T := TX3) (N := 10) (ci := 3) (v := .ref pa) (pc := 22) hx hb hts hinX3 hown hz 0 rfl rfl 4 (by decide) L25 rfl rfl dX3_dropOldest_22 ?_
  refine lv_iload_n (pc := 25) hx hb dX3_dropOldest_25 rfl (lv_at hl 0 rfl) ?_
  refine z_aald (pc := 26) hx hb hz 1 4 rfl rfl 2 rfl (by decide) (by decide) rfl dX3_dropOldest_26 ?_
  refine z_aastm (ci := 2) (ws1 := wFp ca o pa f (va_up (va_up (pfS sa) 0 (some (sa 5 0))) 1 (some (sa 6 0))) sa sp sz q g tx kd wh nu) (pc := 27) hx hb hz 1 4 rfl rfl (wF_mst (i := 6) (by decide)) rfl 1 rfl (by decide) (by decide) rfl dX3_dropOldest_27 (fun H locs hz => ?_)
  refine lv_iinc (v := 2 + 1) (lv' := [(2, .int (2 + 1)), (1, .ref (sa 4 0)), (0, .ref o)]) (pc := 28) hx hb dX3_dropOldest_28 hl (k := 0) rfl rfl (by decide) rfl (fun ls hl => ?_)
  refine lv_goto (tgt := 9) (pc := 31) hx hb dX3_dropOldest_31 (by decide) ?_
  have hl : lv_has ls 3 [(2, .int 3), (1, .ref (sa 4 0)), (0, .ref o)] := hl
  refine lv_iload_n (pc := 9) hx hb dX3_dropOldest_9 rfl (lv_at hl 0 rfl) ?_
  refine lv_iconst (v := 4) (pc := 10) hx hb dX3_dropOldest_10 (by decide) ?_
  refine lv_icmp_ge (pc := 11) (tgt := 34) hx hb dX3_dropOldest_11 (by decide) (fun c9 => absurd c9 (by decide)) (fun c_11 => ?_)
  refine lv_aload_n (pc := 14) hx hb dX3_dropOldest_14 rfl (lv_at hl 2 rfl) ?_
  refine z_get (own := RX3) (ref := "CupFountain") (C := RX3) (T := TX3) (N := 10) (ci := 3) (v := .ref pa) (pc := 15) hx hb hts hinX3 hown hz 0 rfl rfl 4 (by decide) L25 rfl rfl dX3_dropOldest_15 ?_
  refine lv_iload_n (pc := 18) hx hb dX3_dropOldest_18 rfl (lv_at hl 0 rfl) ?_
  refine lv_iconst (v := 1) (pc := 19) hx hb dX3_dropOldest_19 (by decide) ?_
  refine lv_isub (pc := 20) hx hb dX3_dropOldest_20 ?_
  refine z_top (y := 2) (by decide) ?_
  refine lv_aload_n (pc := 21) hx hb dX3_dropOldest_21 rfl (lv_at hl 2 rfl) ?_
  refine z_get (own := RX3) (ref := "CupFountain") (C := RX3) (T := TX3) (N := 10) (ci := 3) (v := .ref pa) (pc := 22) hx hb hts hinX3 hown hz 0 rfl rfl 4 (by decide) L25 rfl rfl dX3_dropOldest_22 ?_
  refine lv_iload_n (pc := 25) hx hb dX3_dropOldest_25 rfl (lv_at hl 0 rfl) ?_
  refine z_aald (pc := 26) hx hb hz 1 4 rfl rfl 3 rfl (by decide) (by decide) rfl dX3_dropOldest_26 ?_
  refine z_aastm (ci := 2) (ws1 := wFp ca o pa f (va_up (va_up (va_up (pfS sa) 0 (some (sa 5 0))) 1 (some (sa 6 0))) 2 (some (sa 7 0))) sa sp sz q g tx kd wh nu) (pc := 27) hx hb hz 1 4 rfl rfl (wF_mst (i := 7) (by decide)) rfl 2 rfl (by decide) (by decide) rfl dX3_dropOldest_27 (fun H locs hz => ?_)
  refine lv_iinc (v := 3 + 1) (lv' := [(2, .int (3 + 1)), (1, .ref (sa 4 0)), (0, .ref o)]) (pc := 28) hx hb dX3_dropOldest_28 hl (k := 0) rfl rfl (by decide) rfl (fun ls hl => ?_)
  refine lv_goto (tgt := 9) (pc := 31) hx hb dX3_dropOldest_31 (by decide) ?_
  have hl : lv_has ls 3 [(2, .int 4), (1, .ref (sa 4 0)), (0, .ref o)] := hl
  refine lv_iload_n (pc := 9) hx hb dX3_dropOldest_9 rfl (lv_at hl 0 rfl) ?_
  refine lv_iconst (v := 4) (pc := 10) hx hb dX3_dropOldest_10 (by decide) ?_
  refine lv_icmp_ge (pc := 11) (tgt := 34) hx hb dX3_dropOldest_11 (by decide) (fun c_11 => ?_) (fun c9 => absurd (by decide) c9)
  refine lv_aload_n (pc := 34) hx hb dX3_dropOldest_34 rfl (lv_at hl 2 rfl) ?_
  refine z_get (own := RX3) (ref := "CupFountain") (C := RX3) (T := TX3) (N := 10) (ci := 3) (v := .ref pa) (pc := 35) hx hb hts hinX3 hown hz 0 rfl rfl 4 (by decide) L25 rfl rfl dX3_dropOldest_35 ?_
  refine lv_iconst (v := 3) (pc := 38) hx hb dX3_dropOldest_38 (by decide) ?_
  refine lv_aload_n (pc := 39) hx hb dX3_dropOldest_39 rfl (lv_at hl 1 rfl) ?_
  refine z_aastm (ci := 2) (ws1 := wFp ca o pa f (va_up (va_up (va_up (va_up (pfS sa) 0 (some (sa 5 0))) 1 (some (sa 6 0))) 2 (some (sa 7 0))) 3 (some (sa 4 0))) sa sp sz q g tx kd wh nu) (pc := 40) hx hb hz 1 4 rfl rfl (wF_mst (i := 4) (by decide)) rfl 3 rfl (by decide) (by decide) rfl dX3_dropOldest_40 (fun H locs hz => ?_)
  have hz := (hz.cellq (g := pfS (rot sa)) 1 rfl (fun j hj => pf_rot j hj)).as (show _ = wFp ca o pa f (pfS (rot sa)) sa sp sz q g tx kd wh nu from rfl)
  have hz := hz.perm wF_rot
  refine lv_aload_n (pc := 41) hx hb dX3_dropOldest_41 rfl (lv_at hl 2 rfl) ?_
  refine lv_iconst (v := 3) (pc := 42) hx hb dX3_dropOldest_42 (by decide) ?_
  refine z_put (own := RX3) (ref := "CupFountain") (C := RX3) (T := TX3) (N := 10) (ci := 3) (v := .int 3) (ws1 := wF ca o pa (upd f 6 3) (rot sa) (rot sp) (rot sz) q g tx kd wh nu) (pc := 43) hx hb hts hinX3 tyX3 tyX3_ok nmX3 hown hz 0 rfl rfl 6 (by decide) L36 rfl rfl rfl rfl (Nat.le_of_ble_eq_true rfl) rfl dX3_dropOldest_43 (fun H locs hz => ?_)
  exact z_vret (pc := 46) hx hb hr hlk hQ hz dX3_dropOldest_46 rfl (by rfl)

def rm_X3_recorded : Room := { frames := 2, cells := 0, slots := 0, locals := 43 }
set_option maxRecDepth 20000 in
theorem hdV_X3_recorded : yX3_recorded.cls = RX3 ∧ yX3_recorded.cls ≠ "java/lang/invoke/MethodHandle" ∧ yX3_recorded.cls ≠ "java/lang/invoke/VarHandle" ∧ (parseMethodDescriptor yX3_recorded.desc).map (fun d => d.parameters.length) = some 1 := by decide +kernel
set_option maxHeartbeats 4000000 in
set_option maxRecDepth 100000 in
theorem k_X3_recorded (l : Launch) (G : va_G) (ca : Nat → ClassId) (o pa : Nat) (f : Nat → Int32) (sa : Nat → Nat → Nat) (sp : Nat → HC) (sz : Nat → Nat → Int32) (q : Nat → Nat) (g tx kd wh nu : Nat → Int32) (n : Nat) (hn : n ≤ 4) (hf6 : f 6 = nI n) (x : Int32) (hbb2 : bbP (sp 2)) : Zc l G ca yX3_recorded (zws yX3_recorded cX3_recorded 2 (some .int)) rm_X3_recorded [.ref o, .int x] (wF ca o pa f sa sp sz q g tx kd wh nu) (some (.int x)) (wF ca o pa (recFf f n x) (recSa sa n x) (recSp sp n x) (recSz sz n x) q g tx kd wh nu) := by
  refine Zc.of (cc := cX3_recorded) (maxL := 2) (ret := (some .int)) (by decide) rfl (Nat.le_of_ble_eq_true rfl) ?_
  intro pg ev s0 mt below meth cd A args Q ls hx hb hr hml hown hts hlk hQ hl hz
  have L19 : (Cond.fieldLink RX3 19 "CupFountain" "before" "LCupFountain$State;").before args s0 = true := hts _ (zsub _ wq_2_2)
  have L25 : (Cond.fieldLink RX3 25 "CupFountain" "past" "[LCupFountain$State;").before args s0 = true := hts _ (zsub _ wq_2_4)
  have L36 : (Cond.fieldLink RX3 36 "CupFountain" "pastCount" "I").before args s0 = true := hts _ (zsub _ wq_2_9)
  have hinX3 : ∀ w ∈ wsX30, w ∈ zws yX3_recorded cX3_recorded 2 (some .int) := fun w h => zsub w (wl_wsX30 w h)
  have hl : lv_has ls 2 [(0, .ref o), (1, .int x)] := hl
  refine lv_iload_n (pc := 0) hx hb dX3_recorded_0 rfl (lv_at hl 1 rfl) ?_
  refine lv_if_ge (pc := 1) (tgt := 6) hx hb dX3_recorded_1 (by decide) (fun c_1 => ?_) (fun c_1 => ?_)
  · refine lv_aload_n (pc := 6) hx hb dX3_recorded_6 rfl (lv_at hl 0 rfl) ?_
    refine z_get (own := RX3) (ref := "CupFountain") (C := RX3) (T := TX3) (N := 10) (ci := 3) (v := .int (f 6)) (pc := 7) hx hb hts hinX3 hown hz 0 rfl rfl 6 (by decide) L36 rfl rfl dX3_recorded_7 ?_
    refine lv_iconst (v := 4) (pc := 10) hx hb dX3_recorded_10 (by decide) ?_
    refine lv_icmp_lt (pc := 11) (tgt := 18) hx hb dX3_recorded_11 (by decide) (fun c_11 => ?_) (fun c_11 => ?_)
    · have h4 : ¬ n = 4 := by rw [hf6, show (4 : Int32) = nI 4 from rfl, nI_ltI (by omega) (by decide)] at c_11; omega
      refine lv_aload_n (pc := 18) hx hb dX3_recorded_18 rfl (lv_at hl 0 rfl) ?_
      refine z_get (own := RX3) (ref := "CupFountain") (C := RX3) (T := TX3) (N := 10) (ci := 3) (v := .ref pa) (pc := 19) hx hb hts hinX3 hown hz 0 rfl rfl 4 (by decide) L25 rfl rfl dX3_recorded_19 ?_
      refine lv_aload_n (pc := 22) hx hb dX3_recorded_22 rfl (lv_at hl 0 rfl) ?_
      refine z_get (own := RX3) (ref := "CupFountain") (C := RX3) (T := TX3) (N := 10) (ci := 3) (v := .int (f 6)) (pc := 23) hx hb hts hinX3 hown hz 0 rfl rfl 6 (by decide) L36 rfl rfl dX3_recorded_23 ?_
      have hn4 : n < 4 := by omega
      refine z_aald (pc := 26) hx hb hz 1 4 rfl rfl n hf6 (by omega) (by decide) rfl dX3_recorded_26 ?_
      refine lv_aload_n (pc := 27) hx hb dX3_recorded_27 rfl (lv_at hl 0 rfl) ?_
      refine z_get (own := RX3) (ref := "CupFountain") (C := RX3) (T := TX3) (N := 10) (ci := 3) (v := .ref (sa 2 0)) (pc := 28) hx hb hts hinX3 hown hz 0 rfl rfl 2 (by decide) L19 rfl rfl dX3_recorded_28 ?_
      refine z_runV (pc := 31) (As := [.ref (sa 2 0)]) (rest := []) (ws1 := wF ca o pa f sa (va_up sp (4 + n) (sp 2)) sz q g tx kd wh nu) ⟨hx, hb, hml, hown, hts⟩ (k_X2_copyFrom l G ca (sa (4 + n)) (sa 2) ((sp (4 + n)).1) ((sp 2).1) ((sp (4 + n)).2) ((sp 2).2) (sz (4 + n)) (sz 2) hbb2) (cwV 1 hts (zgoodV zsub wq_11_10 wq_11_11 wq_12_0 wq_1_11 wq_12_1) rfl rfl rfl hdV_X2_copyFrom ⟨Nat.le_of_ble_eq_true rfl, Nat.le_of_ble_eq_true rfl⟩) hz (wFr2 ca o pa f (pfS sa) sa sp sz q g tx kd wh nu (4 + n) 2) (wF_pm2 (sp := sp) (sz := sz) (i := 4 + n) (j := 2) (by omega) (by decide) (by omega)) (wF_pm3 (sp := sp) (sz := sz) (i := 4 + n) (j := 2) (by omega) (by decide) (by omega)) rfl rfl rfl hl.1 (Nat.le_of_ble_eq_true rfl) (st1 := []) rfl dX3_recorded_31 ⟨Nat.zero_le _, Nat.zero_le _⟩ (fun H locs hz => ?_)
      refine lv_aload_n (pc := 34) hx hb dX3_recorded_34 rfl (lv_at hl 0 rfl) ?_
      refine lv_dup (pc := 35) hx hb dX3_recorded_35 rfl ?_
      refine z_get (own := RX3) (ref := "CupFountain") (C := RX3) (T := TX3) (N := 10) (ci := 3) (v := .int (f 6)) (pc := 36) hx hb hts hinX3 hown hz 0 rfl rfl 6 (by decide) L36 rfl rfl dX3_recorded_36 ?_
      refine lv_iconst (v := 1) (pc := 39) hx hb dX3_recorded_39 (by decide) ?_
      refine lv_iadd (pc := 40) hx hb dX3_recorded_40 ?_
      refine z_top (y := nI (n + 1)) (by rw [hf6]; exact nI_1 n) ?_
      refine z_put (own := RX3) (ref := "CupFountain") (C := RX3) (T := TX3) (N := 10) (ci := 3) (v := .int (nI (n + 1))) (ws1 := wF ca o pa (upd f 6 (nI (n + 1))) sa (va_up sp (4 + n) (sp 2)) sz q g tx kd wh nu) (pc := 41) hx hb hts hinX3 tyX3 tyX3_ok nmX3 hown hz 0 rfl rfl 6 (by decide) L36 rfl rfl rfl rfl (Nat.le_of_ble_eq_true rfl) rfl dX3_recorded_41 (fun H locs hz => ?_)
      refine lv_iload_n (pc := 44) hx hb dX3_recorded_44 rfl (lv_at hl 1 rfl) ?_
      exact z_iret (pc := 45) hx hb hr hlk hQ hz dX3_recorded_45 (by rfl) (by simp only [recFf, recSa, recSp, recSz, if_neg (Int32.not_lt.mpr c_1), if_neg h4])
    · have h4 : n = 4 := by rw [hf6, show (4 : Int32) = nI 4 from rfl, nI_ltI (by omega) (by decide)] at c_11; omega
      refine lv_aload_n (pc := 14) hx hb dX3_recorded_14 rfl (lv_at hl 0 rfl) ?_
      refine z_runV (pc := 15) (As := []) (rest := []) (ws1 := wF ca o pa (upd f 6 3) (rot sa) (rot sp) (rot sz) q g tx kd wh nu) ⟨hx, hb, hml, hown, hts⟩ (k_X3_dropOldest l G ca o pa f sa sp sz q g tx kd wh nu) (cwV 0 hts (zgoodV zsub wq_19_2 wq_19_3 wq_19_4 wq_1_2 wq_19_5) rfl rfl rfl hdV_X3_dropOldest ⟨Nat.le_of_ble_eq_true rfl, Nat.le_of_ble_eq_true rfl⟩) hz [] zp_all zp_all' rfl rfl rfl hl.1 (Nat.le_of_ble_eq_true rfl) (st1 := []) rfl dX3_recorded_15 ⟨Nat.zero_le _, Nat.zero_le _⟩ (fun H locs hz => ?_)
      refine lv_aload_n (pc := 18) hx hb dX3_recorded_18 rfl (lv_at hl 0 rfl) ?_
      refine z_get (own := RX3) (ref := "CupFountain") (C := RX3) (T := TX3) (N := 10) (ci := 3) (v := .ref pa) (pc := 19) hx hb hts hinX3 hown hz 0 rfl rfl 4 (by decide) L25 rfl rfl dX3_recorded_19 ?_
      refine lv_aload_n (pc := 22) hx hb dX3_recorded_22 rfl (lv_at hl 0 rfl) ?_
      refine z_get (own := RX3) (ref := "CupFountain") (C := RX3) (T := TX3) (N := 10) (ci := 3) (v := .int 3) (pc := 23) hx hb hts hinX3 hown hz 0 rfl rfl 6 (by decide) L36 rfl rfl dX3_recorded_23 ?_
      refine z_aald (pc := 26) hx hb hz 1 4 rfl rfl 3 (by decide) (by omega) (by decide) rfl dX3_recorded_26 ?_
      refine lv_aload_n (pc := 27) hx hb dX3_recorded_27 rfl (lv_at hl 0 rfl) ?_
      refine z_get (own := RX3) (ref := "CupFountain") (C := RX3) (T := TX3) (N := 10) (ci := 3) (v := .ref ((rot sa) 2 0)) (pc := 28) hx hb hts hinX3 hown hz 0 rfl rfl 2 (by decide) L19 rfl rfl dX3_recorded_28 ?_
      refine z_runV (pc := 31) (As := [.ref ((rot sa) 2 0)]) (rest := []) (ws1 := wF ca o pa (upd f 6 3) (rot sa) (va_up (rot sp) 7 ((rot sp) 2)) (rot sz) q g tx kd wh nu) ⟨hx, hb, hml, hown, hts⟩ (k_X2_copyFrom l G ca ((rot sa) 7) ((rot sa) 2) (((rot sp) 7).1) (((rot sp) 2).1) (((rot sp) 7).2) (((rot sp) 2).2) ((rot sz) 7) ((rot sz) 2) hbb2) (cwV 1 hts (zgoodV zsub wq_11_10 wq_11_11 wq_12_0 wq_1_11 wq_12_1) rfl rfl rfl hdV_X2_copyFrom ⟨Nat.le_of_ble_eq_true rfl, Nat.le_of_ble_eq_true rfl⟩) hz (wFr2 ca o pa (upd f 6 3) (pfS (rot sa)) (rot sa) (rot sp) (rot sz) q g tx kd wh nu 7 2) (wF_pm2 (sp := (rot sp)) (sz := (rot sz)) (i := 7) (j := 2) (by decide) (by decide) (by decide)) (wF_pm3 (sp := (rot sp)) (sz := (rot sz)) (i := 7) (j := 2) (by decide) (by decide) (by decide)) rfl rfl rfl hl.1 (Nat.le_of_ble_eq_true rfl) (st1 := []) rfl dX3_recorded_31 ⟨Nat.zero_le _, Nat.zero_le _⟩ (fun H locs hz => ?_)
      refine lv_aload_n (pc := 34) hx hb dX3_recorded_34 rfl (lv_at hl 0 rfl) ?_
      refine lv_dup (pc := 35) hx hb dX3_recorded_35 rfl ?_
      refine z_get (own := RX3) (ref := "CupFountain") (C := RX3) (T := TX3) (N := 10) (ci := 3) (v := .int 3) (pc := 36) hx hb hts hinX3 hown hz 0 rfl rfl 6 (by decide) L36 rfl rfl dX3_recorded_36 ?_
      refine lv_iconst (v := 1) (pc := 39) hx hb dX3_recorded_39 (by decide) ?_
      refine lv_iadd (pc := 40) hx hb dX3_recorded_40 ?_
      refine z_top (y := nI 4) (by decide) ?_
      refine z_put (own := RX3) (ref := "CupFountain") (C := RX3) (T := TX3) (N := 10) (ci := 3) (v := .int (nI 4)) (ws1 := wF ca o pa (upd (upd f 6 3) 6 (nI 4)) (rot sa) (va_up (rot sp) 7 ((rot sp) 2)) (rot sz) q g tx kd wh nu) (pc := 41) hx hb hts hinX3 tyX3 tyX3_ok nmX3 hown hz 0 rfl rfl 6 (by decide) L36 rfl rfl rfl rfl (Nat.le_of_ble_eq_true rfl) rfl dX3_recorded_41 (fun H locs hz => ?_)
      refine lv_iload_n (pc := 44) hx hb dX3_recorded_44 rfl (lv_at hl 1 rfl) ?_
      exact z_iret (pc := 45) hx hb hr hlk hQ hz dX3_recorded_45 (by rfl) (by simp only [recFf, recSa, recSp, recSz, if_neg (Int32.not_lt.mpr c_1), if_pos h4]; rfl)
  · refine lv_iload_n (pc := 4) hx hb dX3_recorded_4 rfl (lv_at hl 1 rfl) ?_
    exact z_iret (pc := 5) hx hb hr hlk hQ hz dX3_recorded_5 (by rfl) (by simp only [recFf, recSa, recSp, recSz, if_pos (Int32.not_le.mp c_1)])

def rm_X3_setCup : Room := { frames := 3, cells := 0, slots := 0, locals := 69 }
set_option maxRecDepth 20000 in
theorem hdV_X3_setCup : yX3_setCup.cls = RX3 ∧ yX3_setCup.cls ≠ "java/lang/invoke/MethodHandle" ∧ yX3_setCup.cls ≠ "java/lang/invoke/VarHandle" ∧ (parseMethodDescriptor yX3_setCup.desc).map (fun d => d.parameters.length) = some 3 := by decide +kernel
set_option maxHeartbeats 4000000 in
set_option maxRecDepth 100000 in
theorem k_X3_setCup (l : Launch) (G : va_G) (ca : Nat → ClassId) (o pa : Nat) (f : Nat → Int32) (sa : Nat → Nat → Nat) (sp : Nat → HC) (sz : Nat → Nat → Int32) (q : Nat → Nat) (g tx kd wh nu : Nat → Int32) (n : Nat) (hn : n ≤ 4) (hf6 : f 6 = nI n) (hbb0 : bbP (sp 0)) (cup which value : Int32) : Zc l G ca yX3_setCup (zws yX3_setCup cX3_setCup 4 (some .int)) rm_X3_setCup [.ref o, .int cup, .int which, .int value] (wF ca o pa f sa sp sz q g tx kd wh nu) (some (.int (setR (sp 0).2 cup which value))) (wF ca o pa (recFf f n (setR (sp 0).2 cup which value)) (recSa sa n (setR (sp 0).2 cup which value)) (recSp (va_up (va_up sp 2 (sp 0)) 0 ((sp 0).1, setC (sp 0).2 cup which value)) n (setR (sp 0).2 cup which value)) (recSz sz n (setR (sp 0).2 cup which value)) q g tx kd wh nu) := by
  refine Zc.of (cc := cX3_setCup) (maxL := 4) (ret := (some .int)) (by decide) rfl (Nat.le_of_ble_eq_true rfl) ?_
  intro pg ev s0 mt below meth cd A args Q ls hx hb hr hml hown hts hlk hQ hl hz
  have L10 : (Cond.fieldLink RX3 10 "CupFountain" "now" "LCupFountain$State;").before args s0 = true := hts _ (zsub _ wq_2_0)
  have L19 : (Cond.fieldLink RX3 19 "CupFountain" "before" "LCupFountain$State;").before args s0 = true := hts _ (zsub _ wq_2_2)
  have hinX3 : ∀ w ∈ wsX30, w ∈ zws yX3_setCup cX3_setCup 4 (some .int) := fun w h => zsub w (wl_wsX30 w h)
  have hl : lv_has ls 4 [(0, .ref o), (1, .int cup), (2, .int which), (3, .int value)] := hl
  refine lv_aload_n (pc := 0) hx hb dX3_setCup_0 rfl (lv_at hl 0 rfl) ?_
  refine z_get (own := RX3) (ref := "CupFountain") (C := RX3) (T := TX3) (N := 10) (ci := 3) (v := .ref (sa 2 0)) (pc := 1) hx hb hts hinX3 hown hz 0 rfl rfl 2 (by decide) L19 rfl rfl dX3_setCup_1 ?_
  refine lv_aload_n (pc := 4) hx hb dX3_setCup_4 rfl (lv_at hl 0 rfl) ?_
  refine z_get (own := RX3) (ref := "CupFountain") (C := RX3) (T := TX3) (N := 10) (ci := 3) (v := .ref (sa 0 0)) (pc := 5) hx hb hts hinX3 hown hz 0 rfl rfl 0 (by decide) L10 rfl rfl dX3_setCup_5 ?_
  refine z_runV (pc := 8) (As := [.ref (sa 0 0)]) (rest := []) (ws1 := wF ca o pa f sa (va_up sp 2 (sp 0)) sz q g tx kd wh nu) ⟨hx, hb, hml, hown, hts⟩ (k_X2_copyFrom l G ca (sa 2) (sa 0) ((sp 2).1) ((sp 0).1) ((sp 2).2) ((sp 0).2) (sz 2) (sz 0) hbb0) (cwV 1 hts (zgoodV zsub wq_11_10 wq_11_11 wq_12_0 wq_1_11 wq_12_1) rfl rfl rfl hdV_X2_copyFrom ⟨Nat.le_of_ble_eq_true rfl, Nat.le_of_ble_eq_true rfl⟩) hz (wFr2 ca o pa f (pfS sa) sa sp sz q g tx kd wh nu 2 0) (wF_pm2 (sp := sp) (sz := sz) (i := 2) (j := 0) (by decide) (by decide) (by decide)) (wF_pm3 (sp := sp) (sz := sz) (i := 2) (j := 0) (by decide) (by decide) (by decide)) rfl rfl rfl hl.1 (Nat.le_of_ble_eq_true rfl) (st1 := []) rfl dX3_setCup_8 ⟨Nat.zero_le _, Nat.zero_le _⟩ (fun H locs hz => ?_)
  refine lv_aload_n (pc := 11) hx hb dX3_setCup_11 rfl (lv_at hl 0 rfl) ?_
  refine lv_aload_n (pc := 12) hx hb dX3_setCup_12 rfl (lv_at hl 0 rfl) ?_
  refine z_get (own := RX3) (ref := "CupFountain") (C := RX3) (T := TX3) (N := 10) (ci := 3) (v := .ref (sa 0 0)) (pc := 13) hx hb hts hinX3 hown hz 0 rfl rfl 0 (by decide) L10 rfl rfl dX3_setCup_13 ?_
  refine lv_iload_n (pc := 16) hx hb dX3_setCup_16 rfl (lv_at hl 1 rfl) ?_
  refine lv_iload_n (pc := 17) hx hb dX3_setCup_17 rfl (lv_at hl 2 rfl) ?_
  refine lv_iload_n (pc := 18) hx hb dX3_setCup_18 rfl (lv_at hl 3 rfl) ?_
  refine z_runV (pc := 19) (As := [.int cup, .int which, .int value]) (rest := [.ref o]) (ws1 := wF ca o pa f sa (va_up (va_up sp 2 (sp 0)) 0 ((sp 0).1, setC ((sp 0).2) cup which value)) sz q g tx kd wh nu) ⟨hx, hb, hml, hown, hts⟩ (k_X2_changeCup l G ca (sa 0) ((sp 0).1) ((sp 0).2) (sz 0) cup which value hbb0) (cwV 3 hts (zgoodV zsub wq_23_11 wq_24_0 wq_24_1 wq_1_11 wq_24_2) rfl rfl rfl hdV_X2_changeCup ⟨Nat.le_of_ble_eq_true rfl, Nat.le_of_ble_eq_true rfl⟩) hz (wFr ca o pa f (pfS sa) sa (va_up sp 2 (sp 0)) sz q g tx kd wh nu 0) (wF_pm (sp := (va_up sp 2 (sp 0))) (sz := sz) (i := 0) (by decide)) (wF_pm1 (sp := (va_up sp 2 (sp 0))) (sz := sz) (sp' := (va_up (va_up sp 2 (sp 0)) 0 ((sp 0).1, setC ((sp 0).2) cup which value))) (sz' := sz) (i := 0) (by decide) (fun j h9 => by simp only [vup_n h9]) (fun j h9 => by first | rfl | simp only [vup_n h9])) rfl rfl rfl hl.1 (Nat.le_of_ble_eq_true rfl) (st1 := [.int (setR ((sp 0).2) cup which value), .ref o]) rfl dX3_setCup_19 ⟨Nat.zero_le _, Nat.zero_le _⟩ (fun H locs hz => ?_)
  refine z_runV (pc := 22) (As := [.int (setR ((sp 0).2) cup which value)]) (rest := []) (ws1 := wF ca o pa (recFf f n (setR ((sp 0).2) cup which value)) (recSa sa n (setR ((sp 0).2) cup which value)) (recSp (va_up (va_up sp 2 (sp 0)) 0 ((sp 0).1, setC ((sp 0).2) cup which value)) n (setR ((sp 0).2) cup which value)) (recSz sz n (setR ((sp 0).2) cup which value)) q g tx kd wh nu) ⟨hx, hb, hml, hown, hts⟩ (k_X3_recorded l G ca o pa f sa (va_up (va_up sp 2 (sp 0)) 0 ((sp 0).1, setC ((sp 0).2) cup which value)) sz q g tx kd wh nu n hn hf6 (setR ((sp 0).2) cup which value) hbb0) (cwV 1 hts (zgoodV zsub wq_18_10 wq_18_11 wq_19_0 wq_1_2 wq_19_1) rfl rfl rfl hdV_X3_recorded ⟨Nat.le_of_ble_eq_true rfl, Nat.le_of_ble_eq_true rfl⟩) hz [] zp_all zp_all' rfl rfl rfl hl.1 (Nat.le_of_ble_eq_true rfl) (st1 := [.int (setR ((sp 0).2) cup which value)]) rfl dX3_setCup_22 ⟨Nat.zero_le _, Nat.zero_le _⟩ (fun H locs hz => ?_)
  exact z_iret (pc := 25) hx hb hr hlk hQ hz dX3_setCup_25 (by rfl) (by rfl)

def rm_X3_turnLock : Room := { frames := 3, cells := 0, slots := 0, locals := 64 }
set_option maxRecDepth 20000 in
theorem hdV_X3_turnLock : yX3_turnLock.cls = RX3 ∧ yX3_turnLock.cls ≠ "java/lang/invoke/MethodHandle" ∧ yX3_turnLock.cls ≠ "java/lang/invoke/VarHandle" ∧ (parseMethodDescriptor yX3_turnLock.desc).map (fun d => d.parameters.length) = some 1 := by decide +kernel
set_option maxHeartbeats 4000000 in
set_option maxRecDepth 100000 in
theorem k_X3_turnLock (l : Launch) (G : va_G) (ca : Nat → ClassId) (o pa : Nat) (f : Nat → Int32) (sa : Nat → Nat → Nat) (sp : Nat → HC) (sz : Nat → Nat → Int32) (q : Nat → Nat) (g tx kd wh nu : Nat → Int32) (n : Nat) (hn : n ≤ 4) (hf6 : f 6 = nI n) (hbb0 : bbP (sp 0)) (cup : Int32) : Zc l G ca yX3_turnLock (zws yX3_turnLock cX3_turnLock 2 (some .int)) rm_X3_turnLock [.ref o, .int cup] (wF ca o pa f sa sp sz q g tx kd wh nu) (some (.int (turnR (sp 0).2 cup))) (wF ca o pa (recFf f n (turnR (sp 0).2 cup)) (recSa sa n (turnR (sp 0).2 cup)) (recSp (va_up (va_up sp 2 (sp 0)) 0 ((sp 0).1, turnC (sp 0).2 cup)) n (turnR (sp 0).2 cup)) (recSz sz n (turnR (sp 0).2 cup)) q g tx kd wh nu) := by
  refine Zc.of (cc := cX3_turnLock) (maxL := 2) (ret := (some .int)) (by decide) rfl (Nat.le_of_ble_eq_true rfl) ?_
  intro pg ev s0 mt below meth cd A args Q ls hx hb hr hml hown hts hlk hQ hl hz
  have L10 : (Cond.fieldLink RX3 10 "CupFountain" "now" "LCupFountain$State;").before args s0 = true := hts _ (zsub _ wq_2_0)
  have L19 : (Cond.fieldLink RX3 19 "CupFountain" "before" "LCupFountain$State;").before args s0 = true := hts _ (zsub _ wq_2_2)
  have hinX3 : ∀ w ∈ wsX30, w ∈ zws yX3_turnLock cX3_turnLock 2 (some .int) := fun w h => zsub w (wl_wsX30 w h)
  have hl : lv_has ls 2 [(0, .ref o), (1, .int cup)] := hl
  refine lv_aload_n (pc := 0) hx hb dX3_turnLock_0 rfl (lv_at hl 0 rfl) ?_
  refine z_get (own := RX3) (ref := "CupFountain") (C := RX3) (T := TX3) (N := 10) (ci := 3) (v := .ref (sa 2 0)) (pc := 1) hx hb hts hinX3 hown hz 0 rfl rfl 2 (by decide) L19 rfl rfl dX3_turnLock_1 ?_
  refine lv_aload_n (pc := 4) hx hb dX3_turnLock_4 rfl (lv_at hl 0 rfl) ?_
  refine z_get (own := RX3) (ref := "CupFountain") (C := RX3) (T := TX3) (N := 10) (ci := 3) (v := .ref (sa 0 0)) (pc := 5) hx hb hts hinX3 hown hz 0 rfl rfl 0 (by decide) L10 rfl rfl dX3_turnLock_5 ?_
  refine z_runV (pc := 8) (As := [.ref (sa 0 0)]) (rest := []) (ws1 := wF ca o pa f sa (va_up sp 2 (sp 0)) sz q g tx kd wh nu) ⟨hx, hb, hml, hown, hts⟩ (k_X2_copyFrom l G ca (sa 2) (sa 0) ((sp 2).1) ((sp 0).1) ((sp 2).2) ((sp 0).2) (sz 2) (sz 0) hbb0) (cwV 1 hts (zgoodV zsub wq_11_10 wq_11_11 wq_12_0 wq_1_11 wq_12_1) rfl rfl rfl hdV_X2_copyFrom ⟨Nat.le_of_ble_eq_true rfl, Nat.le_of_ble_eq_true rfl⟩) hz (wFr2 ca o pa f (pfS sa) sa sp sz q g tx kd wh nu 2 0) (wF_pm2 (sp := sp) (sz := sz) (i := 2) (j := 0) (by decide) (by decide) (by decide)) (wF_pm3 (sp := sp) (sz := sz) (i := 2) (j := 0) (by decide) (by decide) (by decide)) rfl rfl rfl hl.1 (Nat.le_of_ble_eq_true rfl) (st1 := []) rfl dX3_turnLock_8 ⟨Nat.zero_le _, Nat.zero_le _⟩ (fun H locs hz => ?_)
  refine lv_aload_n (pc := 11) hx hb dX3_turnLock_11 rfl (lv_at hl 0 rfl) ?_
  refine lv_aload_n (pc := 12) hx hb dX3_turnLock_12 rfl (lv_at hl 0 rfl) ?_
  refine z_get (own := RX3) (ref := "CupFountain") (C := RX3) (T := TX3) (N := 10) (ci := 3) (v := .ref (sa 0 0)) (pc := 13) hx hb hts hinX3 hown hz 0 rfl rfl 0 (by decide) L10 rfl rfl dX3_turnLock_13 ?_
  refine lv_iload_n (pc := 16) hx hb dX3_turnLock_16 rfl (lv_at hl 1 rfl) ?_
  refine z_runV (pc := 17) (As := [.int cup]) (rest := [.ref o]) (ws1 := wF ca o pa f sa (va_up (va_up sp 2 (sp 0)) 0 ((sp 0).1, turnC ((sp 0).2) cup)) sz q g tx kd wh nu) ⟨hx, hb, hml, hown, hts⟩ (k_X2_changeLock l G ca (sa 0) ((sp 0).1) ((sp 0).2) (sz 0) cup hbb0) (cwV 1 hts (zgoodV zsub wq_25_1 wq_25_2 wq_25_3 wq_1_11 wq_25_4) rfl rfl rfl hdV_X2_changeLock ⟨Nat.le_of_ble_eq_true rfl, Nat.le_of_ble_eq_true rfl⟩) hz (wFr ca o pa f (pfS sa) sa (va_up sp 2 (sp 0)) sz q g tx kd wh nu 0) (wF_pm (sp := (va_up sp 2 (sp 0))) (sz := sz) (i := 0) (by decide)) (wF_pm1 (sp := (va_up sp 2 (sp 0))) (sz := sz) (sp' := (va_up (va_up sp 2 (sp 0)) 0 ((sp 0).1, turnC ((sp 0).2) cup))) (sz' := sz) (i := 0) (by decide) (fun j h9 => by simp only [vup_n h9]) (fun j h9 => by first | rfl | simp only [vup_n h9])) rfl rfl rfl hl.1 (Nat.le_of_ble_eq_true rfl) (st1 := [.int (turnR ((sp 0).2) cup), .ref o]) rfl dX3_turnLock_17 ⟨Nat.zero_le _, Nat.zero_le _⟩ (fun H locs hz => ?_)
  refine z_runV (pc := 20) (As := [.int (turnR ((sp 0).2) cup)]) (rest := []) (ws1 := wF ca o pa (recFf f n (turnR ((sp 0).2) cup)) (recSa sa n (turnR ((sp 0).2) cup)) (recSp (va_up (va_up sp 2 (sp 0)) 0 ((sp 0).1, turnC ((sp 0).2) cup)) n (turnR ((sp 0).2) cup)) (recSz sz n (turnR ((sp 0).2) cup)) q g tx kd wh nu) ⟨hx, hb, hml, hown, hts⟩ (k_X3_recorded l G ca o pa f sa (va_up (va_up sp 2 (sp 0)) 0 ((sp 0).1, turnC ((sp 0).2) cup)) sz q g tx kd wh nu n hn hf6 (turnR ((sp 0).2) cup) hbb0) (cwV 1 hts (zgoodV zsub wq_18_10 wq_18_11 wq_19_0 wq_1_2 wq_19_1) rfl rfl rfl hdV_X3_recorded ⟨Nat.le_of_ble_eq_true rfl, Nat.le_of_ble_eq_true rfl⟩) hz [] zp_all zp_all' rfl rfl rfl hl.1 (Nat.le_of_ble_eq_true rfl) (st1 := [.int (turnR ((sp 0).2) cup)]) rfl dX3_turnLock_20 ⟨Nat.zero_le _, Nat.zero_le _⟩ (fun H locs hz => ?_)
  exact z_iret (pc := 23) hx hb hr hlk hQ hz dX3_turnLock_23 (by rfl) (by rfl)

def rm_X3_setHour : Room := { frames := 3, cells := 0, slots := 0, locals := 64 }
set_option maxRecDepth 20000 in
theorem hdV_X3_setHour : yX3_setHour.cls = RX3 ∧ yX3_setHour.cls ≠ "java/lang/invoke/MethodHandle" ∧ yX3_setHour.cls ≠ "java/lang/invoke/VarHandle" ∧ (parseMethodDescriptor yX3_setHour.desc).map (fun d => d.parameters.length) = some 2 := by decide +kernel
set_option maxHeartbeats 4000000 in
set_option maxRecDepth 100000 in
theorem k_X3_setHour (l : Launch) (G : va_G) (ca : Nat → ClassId) (o pa : Nat) (f : Nat → Int32) (sa : Nat → Nat → Nat) (sp : Nat → HC) (sz : Nat → Nat → Int32) (q : Nat → Nat) (g tx kd wh nu : Nat → Int32) (n : Nat) (hn : n ≤ 4) (hf6 : f 6 = nI n) (hbb0 : bbP (sp 0)) (cup hour : Int32) : Zc l G ca yX3_setHour (zws yX3_setHour cX3_setHour 3 (some .int)) rm_X3_setHour [.ref o, .int cup, .int hour] (wF ca o pa f sa sp sz q g tx kd wh nu) (some (.int (hourR (sp 0).2 cup hour))) (wF ca o pa (recFf f n (hourR (sp 0).2 cup hour)) (recSa sa n (hourR (sp 0).2 cup hour)) (recSp (va_up (va_up sp 2 (sp 0)) 0 ((sp 0).1, hourC (sp 0).2 cup hour)) n (hourR (sp 0).2 cup hour)) (recSz sz n (hourR (sp 0).2 cup hour)) q g tx kd wh nu) := by
  refine Zc.of (cc := cX3_setHour) (maxL := 3) (ret := (some .int)) (by decide) rfl (Nat.le_of_ble_eq_true rfl) ?_
  intro pg ev s0 mt below meth cd A args Q ls hx hb hr hml hown hts hlk hQ hl hz
  have L10 : (Cond.fieldLink RX3 10 "CupFountain" "now" "LCupFountain$State;").before args s0 = true := hts _ (zsub _ wq_2_0)
  have L19 : (Cond.fieldLink RX3 19 "CupFountain" "before" "LCupFountain$State;").before args s0 = true := hts _ (zsub _ wq_2_2)
  have hinX3 : ∀ w ∈ wsX30, w ∈ zws yX3_setHour cX3_setHour 3 (some .int) := fun w h => zsub w (wl_wsX30 w h)
  have hl : lv_has ls 3 [(0, .ref o), (1, .int cup), (2, .int hour)] := hl
  refine lv_aload_n (pc := 0) hx hb dX3_setHour_0 rfl (lv_at hl 0 rfl) ?_
  refine z_get (own := RX3) (ref := "CupFountain") (C := RX3) (T := TX3) (N := 10) (ci := 3) (v := .ref (sa 2 0)) (pc := 1) hx hb hts hinX3 hown hz 0 rfl rfl 2 (by decide) L19 rfl rfl dX3_setHour_1 ?_
  refine lv_aload_n (pc := 4) hx hb dX3_setHour_4 rfl (lv_at hl 0 rfl) ?_
  refine z_get (own := RX3) (ref := "CupFountain") (C := RX3) (T := TX3) (N := 10) (ci := 3) (v := .ref (sa 0 0)) (pc := 5) hx hb hts hinX3 hown hz 0 rfl rfl 0 (by decide) L10 rfl rfl dX3_setHour_5 ?_
  refine z_runV (pc := 8) (As := [.ref (sa 0 0)]) (rest := []) (ws1 := wF ca o pa f sa (va_up sp 2 (sp 0)) sz q g tx kd wh nu) ⟨hx, hb, hml, hown, hts⟩ (k_X2_copyFrom l G ca (sa 2) (sa 0) ((sp 2).1) ((sp 0).1) ((sp 2).2) ((sp 0).2) (sz 2) (sz 0) hbb0) (cwV 1 hts (zgoodV zsub wq_11_10 wq_11_11 wq_12_0 wq_1_11 wq_12_1) rfl rfl rfl hdV_X2_copyFrom ⟨Nat.le_of_ble_eq_true rfl, Nat.le_of_ble_eq_true rfl⟩) hz (wFr2 ca o pa f (pfS sa) sa sp sz q g tx kd wh nu 2 0) (wF_pm2 (sp := sp) (sz := sz) (i := 2) (j := 0) (by decide) (by decide) (by decide)) (wF_pm3 (sp := sp) (sz := sz) (i := 2) (j := 0) (by decide) (by decide) (by decide)) rfl rfl rfl hl.1 (Nat.le_of_ble_eq_true rfl) (st1 := []) rfl dX3_setHour_8 ⟨Nat.zero_le _, Nat.zero_le _⟩ (fun H locs hz => ?_)
  refine lv_aload_n (pc := 11) hx hb dX3_setHour_11 rfl (lv_at hl 0 rfl) ?_
  refine lv_aload_n (pc := 12) hx hb dX3_setHour_12 rfl (lv_at hl 0 rfl) ?_
  refine z_get (own := RX3) (ref := "CupFountain") (C := RX3) (T := TX3) (N := 10) (ci := 3) (v := .ref (sa 0 0)) (pc := 13) hx hb hts hinX3 hown hz 0 rfl rfl 0 (by decide) L10 rfl rfl dX3_setHour_13 ?_
  refine lv_iload_n (pc := 16) hx hb dX3_setHour_16 rfl (lv_at hl 1 rfl) ?_
  refine lv_iload_n (pc := 17) hx hb dX3_setHour_17 rfl (lv_at hl 2 rfl) ?_
  refine z_runV (pc := 18) (As := [.int cup, .int hour]) (rest := [.ref o]) (ws1 := wF ca o pa f sa (va_up (va_up sp 2 (sp 0)) 0 ((sp 0).1, hourC ((sp 0).2) cup hour)) sz q g tx kd wh nu) ⟨hx, hb, hml, hown, hts⟩ (k_X2_changeHour l G ca (sa 0) ((sp 0).1) ((sp 0).2) (sz 0) cup hour hbb0) (cwV 2 hts (zgoodV zsub wq_25_9 wq_25_10 wq_25_11 wq_1_11 wq_26_0) rfl rfl rfl hdV_X2_changeHour ⟨Nat.le_of_ble_eq_true rfl, Nat.le_of_ble_eq_true rfl⟩) hz (wFr ca o pa f (pfS sa) sa (va_up sp 2 (sp 0)) sz q g tx kd wh nu 0) (wF_pm (sp := (va_up sp 2 (sp 0))) (sz := sz) (i := 0) (by decide)) (wF_pm1 (sp := (va_up sp 2 (sp 0))) (sz := sz) (sp' := (va_up (va_up sp 2 (sp 0)) 0 ((sp 0).1, hourC ((sp 0).2) cup hour))) (sz' := sz) (i := 0) (by decide) (fun j h9 => by simp only [vup_n h9]) (fun j h9 => by first | rfl | simp only [vup_n h9])) rfl rfl rfl hl.1 (Nat.le_of_ble_eq_true rfl) (st1 := [.int (hourR ((sp 0).2) cup hour), .ref o]) rfl dX3_setHour_18 ⟨Nat.zero_le _, Nat.zero_le _⟩ (fun H locs hz => ?_)
  refine z_runV (pc := 21) (As := [.int (hourR ((sp 0).2) cup hour)]) (rest := []) (ws1 := wF ca o pa (recFf f n (hourR ((sp 0).2) cup hour)) (recSa sa n (hourR ((sp 0).2) cup hour)) (recSp (va_up (va_up sp 2 (sp 0)) 0 ((sp 0).1, hourC ((sp 0).2) cup hour)) n (hourR ((sp 0).2) cup hour)) (recSz sz n (hourR ((sp 0).2) cup hour)) q g tx kd wh nu) ⟨hx, hb, hml, hown, hts⟩ (k_X3_recorded l G ca o pa f sa (va_up (va_up sp 2 (sp 0)) 0 ((sp 0).1, hourC ((sp 0).2) cup hour)) sz q g tx kd wh nu n hn hf6 (hourR ((sp 0).2) cup hour) hbb0) (cwV 1 hts (zgoodV zsub wq_18_10 wq_18_11 wq_19_0 wq_1_2 wq_19_1) rfl rfl rfl hdV_X3_recorded ⟨Nat.le_of_ble_eq_true rfl, Nat.le_of_ble_eq_true rfl⟩) hz [] zp_all zp_all' rfl rfl rfl hl.1 (Nat.le_of_ble_eq_true rfl) (st1 := [.int (hourR ((sp 0).2) cup hour)]) rfl dX3_setHour_21 ⟨Nat.zero_le _, Nat.zero_le _⟩ (fun H locs hz => ?_)
  exact z_iret (pc := 24) hx hb hr hlk hQ hz dX3_setHour_24 (by rfl) (by rfl)

def rm_X3_guard : Room := { frames := 3, cells := 0, slots := 0, locals := 64 }
set_option maxRecDepth 20000 in
theorem hdV_X3_guard : yX3_guard.cls = RX3 ∧ yX3_guard.cls ≠ "java/lang/invoke/MethodHandle" ∧ yX3_guard.cls ≠ "java/lang/invoke/VarHandle" ∧ (parseMethodDescriptor yX3_guard.desc).map (fun d => d.parameters.length) = some 1 := by decide +kernel
set_option maxHeartbeats 4000000 in
set_option maxRecDepth 100000 in
theorem k_X3_guard (l : Launch) (G : va_G) (ca : Nat → ClassId) (o pa : Nat) (f : Nat → Int32) (sa : Nat → Nat → Nat) (sp : Nat → HC) (sz : Nat → Nat → Int32) (q : Nat → Nat) (g tx kd wh nu : Nat → Int32) (n : Nat) (hn : n ≤ 4) (hf6 : f 6 = nI n) (hbb0 : bbP (sp 0)) (cup : Int32) : Zc l G ca yX3_guard (zws yX3_guard cX3_guard 2 (some .int)) rm_X3_guard [.ref o, .int cup] (wF ca o pa f sa sp sz q g tx kd wh nu) (some (.int (guardR (sp 0).2 cup))) (wF ca o pa (recFf f n (guardR (sp 0).2 cup)) (recSa sa n (guardR (sp 0).2 cup)) (recSp (va_up (va_up sp 2 (sp 0)) 0 ((sp 0).1, guardC (sp 0).2 cup)) n (guardR (sp 0).2 cup)) (recSz sz n (guardR (sp 0).2 cup)) q g tx kd wh nu) := by
  refine Zc.of (cc := cX3_guard) (maxL := 2) (ret := (some .int)) (by decide) rfl (Nat.le_of_ble_eq_true rfl) ?_
  intro pg ev s0 mt below meth cd A args Q ls hx hb hr hml hown hts hlk hQ hl hz
  have L10 : (Cond.fieldLink RX3 10 "CupFountain" "now" "LCupFountain$State;").before args s0 = true := hts _ (zsub _ wq_2_0)
  have L19 : (Cond.fieldLink RX3 19 "CupFountain" "before" "LCupFountain$State;").before args s0 = true := hts _ (zsub _ wq_2_2)
  have hinX3 : ∀ w ∈ wsX30, w ∈ zws yX3_guard cX3_guard 2 (some .int) := fun w h => zsub w (wl_wsX30 w h)
  have hl : lv_has ls 2 [(0, .ref o), (1, .int cup)] := hl
  refine lv_aload_n (pc := 0) hx hb dX3_guard_0 rfl (lv_at hl 0 rfl) ?_
  refine z_get (own := RX3) (ref := "CupFountain") (C := RX3) (T := TX3) (N := 10) (ci := 3) (v := .ref (sa 2 0)) (pc := 1) hx hb hts hinX3 hown hz 0 rfl rfl 2 (by decide) L19 rfl rfl dX3_guard_1 ?_
  refine lv_aload_n (pc := 4) hx hb dX3_guard_4 rfl (lv_at hl 0 rfl) ?_
  refine z_get (own := RX3) (ref := "CupFountain") (C := RX3) (T := TX3) (N := 10) (ci := 3) (v := .ref (sa 0 0)) (pc := 5) hx hb hts hinX3 hown hz 0 rfl rfl 0 (by decide) L10 rfl rfl dX3_guard_5 ?_
  refine z_runV (pc := 8) (As := [.ref (sa 0 0)]) (rest := []) (ws1 := wF ca o pa f sa (va_up sp 2 (sp 0)) sz q g tx kd wh nu) ⟨hx, hb, hml, hown, hts⟩ (k_X2_copyFrom l G ca (sa 2) (sa 0) ((sp 2).1) ((sp 0).1) ((sp 2).2) ((sp 0).2) (sz 2) (sz 0) hbb0) (cwV 1 hts (zgoodV zsub wq_11_10 wq_11_11 wq_12_0 wq_1_11 wq_12_1) rfl rfl rfl hdV_X2_copyFrom ⟨Nat.le_of_ble_eq_true rfl, Nat.le_of_ble_eq_true rfl⟩) hz (wFr2 ca o pa f (pfS sa) sa sp sz q g tx kd wh nu 2 0) (wF_pm2 (sp := sp) (sz := sz) (i := 2) (j := 0) (by decide) (by decide) (by decide)) (wF_pm3 (sp := sp) (sz := sz) (i := 2) (j := 0) (by decide) (by decide) (by decide)) rfl rfl rfl hl.1 (Nat.le_of_ble_eq_true rfl) (st1 := []) rfl dX3_guard_8 ⟨Nat.zero_le _, Nat.zero_le _⟩ (fun H locs hz => ?_)
  refine lv_aload_n (pc := 11) hx hb dX3_guard_11 rfl (lv_at hl 0 rfl) ?_
  refine lv_aload_n (pc := 12) hx hb dX3_guard_12 rfl (lv_at hl 0 rfl) ?_
  refine z_get (own := RX3) (ref := "CupFountain") (C := RX3) (T := TX3) (N := 10) (ci := 3) (v := .ref (sa 0 0)) (pc := 13) hx hb hts hinX3 hown hz 0 rfl rfl 0 (by decide) L10 rfl rfl dX3_guard_13 ?_
  refine lv_iload_n (pc := 16) hx hb dX3_guard_16 rfl (lv_at hl 1 rfl) ?_
  refine z_runV (pc := 17) (As := [.int cup]) (rest := [.ref o]) (ws1 := wF ca o pa f sa (va_up (va_up sp 2 (sp 0)) 0 ((sp 0).1, guardC ((sp 0).2) cup)) sz q g tx kd wh nu) ⟨hx, hb, hml, hown, hts⟩ (k_X2_changeGuard l G ca (sa 0) ((sp 0).1) ((sp 0).2) (sz 0) cup hbb0) (cwV 1 hts (zgoodV zsub wq_26_5 wq_26_6 wq_26_7 wq_1_11 wq_26_8) rfl rfl rfl hdV_X2_changeGuard ⟨Nat.le_of_ble_eq_true rfl, Nat.le_of_ble_eq_true rfl⟩) hz (wFr ca o pa f (pfS sa) sa (va_up sp 2 (sp 0)) sz q g tx kd wh nu 0) (wF_pm (sp := (va_up sp 2 (sp 0))) (sz := sz) (i := 0) (by decide)) (wF_pm1 (sp := (va_up sp 2 (sp 0))) (sz := sz) (sp' := (va_up (va_up sp 2 (sp 0)) 0 ((sp 0).1, guardC ((sp 0).2) cup))) (sz' := sz) (i := 0) (by decide) (fun j h9 => by simp only [vup_n h9]) (fun j h9 => by first | rfl | simp only [vup_n h9])) rfl rfl rfl hl.1 (Nat.le_of_ble_eq_true rfl) (st1 := [.int (guardR ((sp 0).2) cup), .ref o]) rfl dX3_guard_17 ⟨Nat.zero_le _, Nat.zero_le _⟩ (fun H locs hz => ?_)
  refine z_runV (pc := 20) (As := [.int (guardR ((sp 0).2) cup)]) (rest := []) (ws1 := wF ca o pa (recFf f n (guardR ((sp 0).2) cup)) (recSa sa n (guardR ((sp 0).2) cup)) (recSp (va_up (va_up sp 2 (sp 0)) 0 ((sp 0).1, guardC ((sp 0).2) cup)) n (guardR ((sp 0).2) cup)) (recSz sz n (guardR ((sp 0).2) cup)) q g tx kd wh nu) ⟨hx, hb, hml, hown, hts⟩ (k_X3_recorded l G ca o pa f sa (va_up (va_up sp 2 (sp 0)) 0 ((sp 0).1, guardC ((sp 0).2) cup)) sz q g tx kd wh nu n hn hf6 (guardR ((sp 0).2) cup) hbb0) (cwV 1 hts (zgoodV zsub wq_18_10 wq_18_11 wq_19_0 wq_1_2 wq_19_1) rfl rfl rfl hdV_X3_recorded ⟨Nat.le_of_ble_eq_true rfl, Nat.le_of_ble_eq_true rfl⟩) hz [] zp_all zp_all' rfl rfl rfl hl.1 (Nat.le_of_ble_eq_true rfl) (st1 := [.int (guardR ((sp 0).2) cup)]) rfl dX3_guard_20 ⟨Nat.zero_le _, Nat.zero_le _⟩ (fun H locs hz => ?_)
  exact z_iret (pc := 23) hx hb hr hlk hQ hz dX3_guard_23 (by rfl) (by rfl)

def rm_X3_fill : Room := { frames := 3, cells := 0, slots := 0, locals := 64 }
set_option maxRecDepth 20000 in
theorem hdV_X3_fill : yX3_fill.cls = RX3 ∧ yX3_fill.cls ≠ "java/lang/invoke/MethodHandle" ∧ yX3_fill.cls ≠ "java/lang/invoke/VarHandle" ∧ (parseMethodDescriptor yX3_fill.desc).map (fun d => d.parameters.length) = some 2 := by decide +kernel
set_option maxHeartbeats 4000000 in
set_option maxRecDepth 100000 in
theorem k_X3_fill (l : Launch) (G : va_G) (ca : Nat → ClassId) (o pa : Nat) (f : Nat → Int32) (sa : Nat → Nat → Nat) (sp : Nat → HC) (sz : Nat → Nat → Int32) (q : Nat → Nat) (g tx kd wh nu : Nat → Int32) (n : Nat) (hn : n ≤ 4) (hf6 : f 6 = nI n) (hbb0 : bbP (sp 0)) (cup water : Int32) : Zc l G ca yX3_fill (zws yX3_fill cX3_fill 3 (some .int)) rm_X3_fill [.ref o, .int cup, .int water] (wF ca o pa f sa sp sz q g tx kd wh nu) (some (.int (fillR (sp 0).2 cup water))) (wF ca o pa (recFf f n (fillR (sp 0).2 cup water)) (recSa sa n (fillR (sp 0).2 cup water)) (recSp (va_up (va_up sp 2 (sp 0)) 0 (fillH (sp 0).1 (sp 0).2 cup water, fillC (sp 0).2 cup water)) n (fillR (sp 0).2 cup water)) (recSz sz n (fillR (sp 0).2 cup water)) q g tx kd wh nu) := by
  refine Zc.of (cc := cX3_fill) (maxL := 3) (ret := (some .int)) (by decide) rfl (Nat.le_of_ble_eq_true rfl) ?_
  intro pg ev s0 mt below meth cd A args Q ls hx hb hr hml hown hts hlk hQ hl hz
  have L10 : (Cond.fieldLink RX3 10 "CupFountain" "now" "LCupFountain$State;").before args s0 = true := hts _ (zsub _ wq_2_0)
  have L19 : (Cond.fieldLink RX3 19 "CupFountain" "before" "LCupFountain$State;").before args s0 = true := hts _ (zsub _ wq_2_2)
  have hinX3 : ∀ w ∈ wsX30, w ∈ zws yX3_fill cX3_fill 3 (some .int) := fun w h => zsub w (wl_wsX30 w h)
  have hl : lv_has ls 3 [(0, .ref o), (1, .int cup), (2, .int water)] := hl
  refine lv_aload_n (pc := 0) hx hb dX3_fill_0 rfl (lv_at hl 0 rfl) ?_
  refine z_get (own := RX3) (ref := "CupFountain") (C := RX3) (T := TX3) (N := 10) (ci := 3) (v := .ref (sa 2 0)) (pc := 1) hx hb hts hinX3 hown hz 0 rfl rfl 2 (by decide) L19 rfl rfl dX3_fill_1 ?_
  refine lv_aload_n (pc := 4) hx hb dX3_fill_4 rfl (lv_at hl 0 rfl) ?_
  refine z_get (own := RX3) (ref := "CupFountain") (C := RX3) (T := TX3) (N := 10) (ci := 3) (v := .ref (sa 0 0)) (pc := 5) hx hb hts hinX3 hown hz 0 rfl rfl 0 (by decide) L10 rfl rfl dX3_fill_5 ?_
  refine z_runV (pc := 8) (As := [.ref (sa 0 0)]) (rest := []) (ws1 := wF ca o pa f sa (va_up sp 2 (sp 0)) sz q g tx kd wh nu) ⟨hx, hb, hml, hown, hts⟩ (k_X2_copyFrom l G ca (sa 2) (sa 0) ((sp 2).1) ((sp 0).1) ((sp 2).2) ((sp 0).2) (sz 2) (sz 0) hbb0) (cwV 1 hts (zgoodV zsub wq_11_10 wq_11_11 wq_12_0 wq_1_11 wq_12_1) rfl rfl rfl hdV_X2_copyFrom ⟨Nat.le_of_ble_eq_true rfl, Nat.le_of_ble_eq_true rfl⟩) hz (wFr2 ca o pa f (pfS sa) sa sp sz q g tx kd wh nu 2 0) (wF_pm2 (sp := sp) (sz := sz) (i := 2) (j := 0) (by decide) (by decide) (by decide)) (wF_pm3 (sp := sp) (sz := sz) (i := 2) (j := 0) (by decide) (by decide) (by decide)) rfl rfl rfl hl.1 (Nat.le_of_ble_eq_true rfl) (st1 := []) rfl dX3_fill_8 ⟨Nat.zero_le _, Nat.zero_le _⟩ (fun H locs hz => ?_)
  refine lv_aload_n (pc := 11) hx hb dX3_fill_11 rfl (lv_at hl 0 rfl) ?_
  refine lv_aload_n (pc := 12) hx hb dX3_fill_12 rfl (lv_at hl 0 rfl) ?_
  refine z_get (own := RX3) (ref := "CupFountain") (C := RX3) (T := TX3) (N := 10) (ci := 3) (v := .ref (sa 0 0)) (pc := 13) hx hb hts hinX3 hown hz 0 rfl rfl 0 (by decide) L10 rfl rfl dX3_fill_13 ?_
  refine lv_iload_n (pc := 16) hx hb dX3_fill_16 rfl (lv_at hl 1 rfl) ?_
  refine lv_iload_n (pc := 17) hx hb dX3_fill_17 rfl (lv_at hl 2 rfl) ?_
  refine z_runV (pc := 18) (As := [.int cup, .int water]) (rest := [.ref o]) (ws1 := wF ca o pa f sa (va_up (va_up sp 2 (sp 0)) 0 ((fillH ((sp 0).1) ((sp 0).2) cup water), fillC ((sp 0).2) cup water)) sz q g tx kd wh nu) ⟨hx, hb, hml, hown, hts⟩ (k_X2_pour l G ca (sa 0) ((sp 0).1) ((sp 0).2) (sz 0) cup water hbb0) (cwV 2 hts (zgoodV zsub wq_27_1 wq_27_2 wq_27_3 wq_1_11 wq_27_4) rfl rfl rfl hdV_X2_pour ⟨Nat.le_of_ble_eq_true rfl, Nat.le_of_ble_eq_true rfl⟩) hz (wFr ca o pa f (pfS sa) sa (va_up sp 2 (sp 0)) sz q g tx kd wh nu 0) (wF_pm (sp := (va_up sp 2 (sp 0))) (sz := sz) (i := 0) (by decide)) (wF_pm1 (sp := (va_up sp 2 (sp 0))) (sz := sz) (sp' := (va_up (va_up sp 2 (sp 0)) 0 ((fillH ((sp 0).1) ((sp 0).2) cup water), fillC ((sp 0).2) cup water))) (sz' := sz) (i := 0) (by decide) (fun j h9 => by simp only [vup_n h9]) (fun j h9 => by first | rfl | simp only [vup_n h9])) rfl rfl rfl hl.1 (Nat.le_of_ble_eq_true rfl) (st1 := [.int (fillR ((sp 0).2) cup water), .ref o]) rfl dX3_fill_18 ⟨Nat.zero_le _, Nat.zero_le _⟩ (fun H locs hz => ?_)
  refine z_runV (pc := 21) (As := [.int (fillR ((sp 0).2) cup water)]) (rest := []) (ws1 := wF ca o pa (recFf f n (fillR ((sp 0).2) cup water)) (recSa sa n (fillR ((sp 0).2) cup water)) (recSp (va_up (va_up sp 2 (sp 0)) 0 ((fillH ((sp 0).1) ((sp 0).2) cup water), fillC ((sp 0).2) cup water)) n (fillR ((sp 0).2) cup water)) (recSz sz n (fillR ((sp 0).2) cup water)) q g tx kd wh nu) ⟨hx, hb, hml, hown, hts⟩ (k_X3_recorded l G ca o pa f sa (va_up (va_up sp 2 (sp 0)) 0 ((fillH ((sp 0).1) ((sp 0).2) cup water), fillC ((sp 0).2) cup water)) sz q g tx kd wh nu n hn hf6 (fillR ((sp 0).2) cup water) hbb0) (cwV 1 hts (zgoodV zsub wq_18_10 wq_18_11 wq_19_0 wq_1_2 wq_19_1) rfl rfl rfl hdV_X3_recorded ⟨Nat.le_of_ble_eq_true rfl, Nat.le_of_ble_eq_true rfl⟩) hz [] zp_all zp_all' rfl rfl rfl hl.1 (Nat.le_of_ble_eq_true rfl) (st1 := [.int (fillR ((sp 0).2) cup water)]) rfl dX3_fill_21 ⟨Nat.zero_le _, Nat.zero_le _⟩ (fun H locs hz => ?_)
  exact z_iret (pc := 24) hx hb hr hlk hQ hz dX3_fill_24 (by rfl) (by rfl)

def rm_X3_set : Room := { frames := 3, cells := 0, slots := 0, locals := 64 }
set_option maxRecDepth 20000 in
theorem hdV_X3_set : yX3_set.cls = RX3 ∧ yX3_set.cls ≠ "java/lang/invoke/MethodHandle" ∧ yX3_set.cls ≠ "java/lang/invoke/VarHandle" ∧ (parseMethodDescriptor yX3_set.desc).map (fun d => d.parameters.length) = some 2 := by decide +kernel
set_option maxHeartbeats 4000000 in
set_option maxRecDepth 100000 in
theorem k_X3_set (l : Launch) (G : va_G) (ca : Nat → ClassId) (o pa : Nat) (f : Nat → Int32) (sa : Nat → Nat → Nat) (sp : Nat → HC) (sz : Nat → Nat → Int32) (q : Nat → Nat) (g tx kd wh nu : Nat → Int32) (n : Nat) (hn : n ≤ 4) (hf6 : f 6 = nI n) (hbb0 : bbP (sp 0)) (which value : Int32) : Zc l G ca yX3_set (zws yX3_set cX3_set 3 (some .int)) rm_X3_set [.ref o, .int which, .int value] (wF ca o pa f sa sp sz q g tx kd wh nu) (some (.int (putR (sp 0).1 which value))) (wF ca o pa (recFf f n (putR (sp 0).1 which value)) (recSa sa n (putR (sp 0).1 which value)) (recSp (va_up (va_up sp 2 (sp 0)) 0 (putH (sp 0).1 which value, (sp 0).2)) n (putR (sp 0).1 which value)) (recSz sz n (putR (sp 0).1 which value)) q g tx kd wh nu) := by
  refine Zc.of (cc := cX3_set) (maxL := 3) (ret := (some .int)) (by decide) rfl (Nat.le_of_ble_eq_true rfl) ?_
  intro pg ev s0 mt below meth cd A args Q ls hx hb hr hml hown hts hlk hQ hl hz
  have L10 : (Cond.fieldLink RX3 10 "CupFountain" "now" "LCupFountain$State;").before args s0 = true := hts _ (zsub _ wq_2_0)
  have L19 : (Cond.fieldLink RX3 19 "CupFountain" "before" "LCupFountain$State;").before args s0 = true := hts _ (zsub _ wq_2_2)
  have hinX3 : ∀ w ∈ wsX30, w ∈ zws yX3_set cX3_set 3 (some .int) := fun w h => zsub w (wl_wsX30 w h)
  have hl : lv_has ls 3 [(0, .ref o), (1, .int which), (2, .int value)] := hl
  refine lv_aload_n (pc := 0) hx hb dX3_set_0 rfl (lv_at hl 0 rfl) ?_
  refine z_get (own := RX3) (ref := "CupFountain") (C := RX3) (T := TX3) (N := 10) (ci := 3) (v := .ref (sa 2 0)) (pc := 1) hx hb hts hinX3 hown hz 0 rfl rfl 2 (by decide) L19 rfl rfl dX3_set_1 ?_
  refine lv_aload_n (pc := 4) hx hb dX3_set_4 rfl (lv_at hl 0 rfl) ?_
  refine z_get (own := RX3) (ref := "CupFountain") (C := RX3) (T := TX3) (N := 10) (ci := 3) (v := .ref (sa 0 0)) (pc := 5) hx hb hts hinX3 hown hz 0 rfl rfl 0 (by decide) L10 rfl rfl dX3_set_5 ?_
  refine z_runV (pc := 8) (As := [.ref (sa 0 0)]) (rest := []) (ws1 := wF ca o pa f sa (va_up sp 2 (sp 0)) sz q g tx kd wh nu) ⟨hx, hb, hml, hown, hts⟩ (k_X2_copyFrom l G ca (sa 2) (sa 0) ((sp 2).1) ((sp 0).1) ((sp 2).2) ((sp 0).2) (sz 2) (sz 0) hbb0) (cwV 1 hts (zgoodV zsub wq_11_10 wq_11_11 wq_12_0 wq_1_11 wq_12_1) rfl rfl rfl hdV_X2_copyFrom ⟨Nat.le_of_ble_eq_true rfl, Nat.le_of_ble_eq_true rfl⟩) hz (wFr2 ca o pa f (pfS sa) sa sp sz q g tx kd wh nu 2 0) (wF_pm2 (sp := sp) (sz := sz) (i := 2) (j := 0) (by decide) (by decide) (by decide)) (wF_pm3 (sp := sp) (sz := sz) (i := 2) (j := 0) (by decide) (by decide) (by decide)) rfl rfl rfl hl.1 (Nat.le_of_ble_eq_true rfl) (st1 := []) rfl dX3_set_8 ⟨Nat.zero_le _, Nat.zero_le _⟩ (fun H locs hz => ?_)
  refine lv_aload_n (pc := 11) hx hb dX3_set_11 rfl (lv_at hl 0 rfl) ?_
  refine lv_aload_n (pc := 12) hx hb dX3_set_12 rfl (lv_at hl 0 rfl) ?_
  refine z_get (own := RX3) (ref := "CupFountain") (C := RX3) (T := TX3) (N := 10) (ci := 3) (v := .ref (sa 0 0)) (pc := 13) hx hb hts hinX3 hown hz 0 rfl rfl 0 (by decide) L10 rfl rfl dX3_set_13 ?_
  refine lv_iload_n (pc := 16) hx hb dX3_set_16 rfl (lv_at hl 1 rfl) ?_
  refine lv_iload_n (pc := 17) hx hb dX3_set_17 rfl (lv_at hl 2 rfl) ?_
  refine z_runV (pc := 18) (As := [.int which, .int value]) (rest := [.ref o]) (ws1 := wF ca o pa f sa (va_up (va_up sp 2 (sp 0)) 0 ((putH ((sp 0).1) which value), (sp 0).2)) sz q g tx kd wh nu) ⟨hx, hb, hml, hown, hts⟩ (k_X2_changeSetting l G ca (sa 0) ((sp 0).1) ((sp 0).2) (sz 0) which value) (cwV 2 hts (zgoodV zsub wq_27_9 wq_27_10 wq_27_11 wq_1_11 wq_28_0) rfl rfl rfl hdV_X2_changeSetting ⟨Nat.le_of_ble_eq_true rfl, Nat.le_of_ble_eq_true rfl⟩) hz (wFr ca o pa f (pfS sa) sa (va_up sp 2 (sp 0)) sz q g tx kd wh nu 0) (wF_pm (sp := (va_up sp 2 (sp 0))) (sz := sz) (i := 0) (by decide)) (wF_pm1 (sp := (va_up sp 2 (sp 0))) (sz := sz) (sp' := (va_up (va_up sp 2 (sp 0)) 0 ((putH ((sp 0).1) which value), (sp 0).2))) (sz' := sz) (i := 0) (by decide) (fun j h9 => by simp only [vup_n h9]) (fun j h9 => by first | rfl | simp only [vup_n h9])) rfl rfl rfl hl.1 (Nat.le_of_ble_eq_true rfl) (st1 := [.int (putR ((sp 0).1) which value), .ref o]) rfl dX3_set_18 ⟨Nat.zero_le _, Nat.zero_le _⟩ (fun H locs hz => ?_)
  refine z_runV (pc := 21) (As := [.int (putR ((sp 0).1) which value)]) (rest := []) (ws1 := wF ca o pa (recFf f n (putR ((sp 0).1) which value)) (recSa sa n (putR ((sp 0).1) which value)) (recSp (va_up (va_up sp 2 (sp 0)) 0 ((putH ((sp 0).1) which value), (sp 0).2)) n (putR ((sp 0).1) which value)) (recSz sz n (putR ((sp 0).1) which value)) q g tx kd wh nu) ⟨hx, hb, hml, hown, hts⟩ (k_X3_recorded l G ca o pa f sa (va_up (va_up sp 2 (sp 0)) 0 ((putH ((sp 0).1) which value), (sp 0).2)) sz q g tx kd wh nu n hn hf6 (putR ((sp 0).1) which value) hbb0) (cwV 1 hts (zgoodV zsub wq_18_10 wq_18_11 wq_19_0 wq_1_2 wq_19_1) rfl rfl rfl hdV_X3_recorded ⟨Nat.le_of_ble_eq_true rfl, Nat.le_of_ble_eq_true rfl⟩) hz [] zp_all zp_all' rfl rfl rfl hl.1 (Nat.le_of_ble_eq_true rfl) (st1 := [.int (putR ((sp 0).1) which value)]) rfl dX3_set_21 ⟨Nat.zero_le _, Nat.zero_le _⟩ (fun H locs hz => ?_)
  exact z_iret (pc := 24) hx hb hr hlk hQ hz dX3_set_24 (by rfl) (by rfl)

def rm_X3_pass : Room := { frames := 5, cells := 0, slots := 0, locals := 114 }
set_option maxRecDepth 20000 in
theorem hdV_X3_pass : yX3_pass.cls = RX3 ∧ yX3_pass.cls ≠ "java/lang/invoke/MethodHandle" ∧ yX3_pass.cls ≠ "java/lang/invoke/VarHandle" ∧ (parseMethodDescriptor yX3_pass.desc).map (fun d => d.parameters.length) = some 1 := by decide +kernel
set_option maxHeartbeats 4000000 in
set_option maxRecDepth 100000 in
theorem k_X3_pass (l : Launch) (G : va_G) (ca : Nat → ClassId) (o pa : Nat) (f : Nat → Int32) (sa : Nat → Nat → Nat) (sp : Nat → HC) (sz : Nat → Nat → Int32) (q : Nat → Nat) (g tx kd wh nu : Nat → Int32) (n : Nat) (hn : n ≤ 4) (hf6 : f 6 = nI n) (hbb0 : bbP (sp 0)) (hnx0 : nxP (sp 0)) (ticks : Int32) : Zc l G ca yX3_pass (zws yX3_pass cX3_pass 2 (some .int)) rm_X3_pass [.ref o, .int ticks] (wF ca o pa f sa sp sz q g tx kd wh nu) (some (.int (kpassR (sp 0) ticks))) (wF ca o pa (recFf f n (kpassR (sp 0) ticks)) (recSa sa n (kpassR (sp 0) ticks)) (recSp (va_up (va_up sp 2 (sp 0)) 0 (kN (sp 0) (passN (sp 0) ticks))) n (kpassR (sp 0) ticks)) (recSz (va_up sz 0 (zTk (sp 0) (sz 0) (passN (sp 0) ticks))) n (kpassR (sp 0) ticks)) q g tx kd wh nu) := by
  refine Zc.of (cc := cX3_pass) (maxL := 2) (ret := (some .int)) (by decide) rfl (Nat.le_of_ble_eq_true rfl) ?_
  intro pg ev s0 mt below meth cd A args Q ls hx hb hr hml hown hts hlk hQ hl hz
  have L10 : (Cond.fieldLink RX3 10 "CupFountain" "now" "LCupFountain$State;").before args s0 = true := hts _ (zsub _ wq_2_0)
  have L19 : (Cond.fieldLink RX3 19 "CupFountain" "before" "LCupFountain$State;").before args s0 = true := hts _ (zsub _ wq_2_2)
  have hinX3 : ∀ w ∈ wsX30, w ∈ zws yX3_pass cX3_pass 2 (some .int) := fun w h => zsub w (wl_wsX30 w h)
  have hl : lv_has ls 2 [(0, .ref o), (1, .int ticks)] := hl
  refine lv_aload_n (pc := 0) hx hb dX3_pass_0 rfl (lv_at hl 0 rfl) ?_
  refine z_get (own := RX3) (ref := "CupFountain") (C := RX3) (T := TX3) (N := 10) (ci := 3) (v := .ref (sa 2 0)) (pc := 1) hx hb hts hinX3 hown hz 0 rfl rfl 2 (by decide) L19 rfl rfl dX3_pass_1 ?_
  refine lv_aload_n (pc := 4) hx hb dX3_pass_4 rfl (lv_at hl 0 rfl) ?_
  refine z_get (own := RX3) (ref := "CupFountain") (C := RX3) (T := TX3) (N := 10) (ci := 3) (v := .ref (sa 0 0)) (pc := 5) hx hb hts hinX3 hown hz 0 rfl rfl 0 (by decide) L10 rfl rfl dX3_pass_5 ?_
  refine z_runV (pc := 8) (As := [.ref (sa 0 0)]) (rest := []) (ws1 := wF ca o pa f sa (va_up sp 2 (sp 0)) sz q g tx kd wh nu) ⟨hx, hb, hml, hown, hts⟩ (k_X2_copyFrom l G ca (sa 2) (sa 0) ((sp 2).1) ((sp 0).1) ((sp 2).2) ((sp 0).2) (sz 2) (sz 0) hbb0) (cwV 1 hts (zgoodV zsub wq_11_10 wq_11_11 wq_12_0 wq_1_11 wq_12_1) rfl rfl rfl hdV_X2_copyFrom ⟨Nat.le_of_ble_eq_true rfl, Nat.le_of_ble_eq_true rfl⟩) hz (wFr2 ca o pa f (pfS sa) sa sp sz q g tx kd wh nu 2 0) (wF_pm2 (sp := sp) (sz := sz) (i := 2) (j := 0) (by decide) (by decide) (by decide)) (wF_pm3 (sp := sp) (sz := sz) (i := 2) (j := 0) (by decide) (by decide) (by decide)) rfl rfl rfl hl.1 (Nat.le_of_ble_eq_true rfl) (st1 := []) rfl dX3_pass_8 ⟨Nat.zero_le _, Nat.zero_le _⟩ (fun H locs hz => ?_)
  refine lv_aload_n (pc := 11) hx hb dX3_pass_11 rfl (lv_at hl 0 rfl) ?_
  refine lv_aload_n (pc := 12) hx hb dX3_pass_12 rfl (lv_at hl 0 rfl) ?_
  refine z_get (own := RX3) (ref := "CupFountain") (C := RX3) (T := TX3) (N := 10) (ci := 3) (v := .ref (sa 0 0)) (pc := 13) hx hb hts hinX3 hown hz 0 rfl rfl 0 (by decide) L10 rfl rfl dX3_pass_13 ?_
  refine lv_iload_n (pc := 16) hx hb dX3_pass_16 rfl (lv_at hl 1 rfl) ?_
  refine z_runV (pc := 17) (As := [.int ticks]) (rest := [.ref o]) (ws1 := wF ca o pa f sa (va_up (va_up sp 2 (sp 0)) 0 ((kN ((sp 0).1, (sp 0).2) (passN ((sp 0).1, (sp 0).2) ticks)).1, (kN ((sp 0).1, (sp 0).2) (passN ((sp 0).1, (sp 0).2) ticks)).2)) (va_up sz 0 (zTk ((sp 0).1, (sp 0).2) (sz 0) (passN ((sp 0).1, (sp 0).2) ticks))) q g tx kd wh nu) ⟨hx, hb, hml, hown, hts⟩ (k_X2_letPass l G ca (sa 0) ((sp 0).1) ((sp 0).2) (sz 0) ticks hnx0) (cwV 1 hts (zgoodV zsub wq_18_4 wq_18_5 wq_18_6 wq_1_11 wq_18_7) rfl rfl rfl hdV_X2_letPass ⟨Nat.le_of_ble_eq_true rfl, Nat.le_of_ble_eq_true rfl⟩) hz (wFr ca o pa f (pfS sa) sa (va_up sp 2 (sp 0)) sz q g tx kd wh nu 0) (wF_pm (sp := (va_up sp 2 (sp 0))) (sz := sz) (i := 0) (by decide)) (wF_pm1 (sp := (va_up sp 2 (sp 0))) (sz := sz) (sp' := (va_up (va_up sp 2 (sp 0)) 0 ((kN ((sp 0).1, (sp 0).2) (passN ((sp 0).1, (sp 0).2) ticks)).1, (kN ((sp 0).1, (sp 0).2) (passN ((sp 0).1, (sp 0).2) ticks)).2))) (sz' := (va_up sz 0 (zTk ((sp 0).1, (sp 0).2) (sz 0) (passN ((sp 0).1, (sp 0).2) ticks)))) (i := 0) (by decide) (fun j h9 => by simp only [vup_n h9]) (fun j h9 => by first | rfl | simp only [vup_n h9])) rfl rfl rfl hl.1 (Nat.le_of_ble_eq_true rfl) (st1 := [.int (kpassR ((sp 0).1, (sp 0).2) ticks), .ref o]) rfl dX3_pass_17 ⟨Nat.zero_le _, Nat.zero_le _⟩ (fun H locs hz => ?_)
  refine z_runV (pc := 20) (As := [.int (kpassR ((sp 0).1, (sp 0).2) ticks)]) (rest := []) (ws1 := wF ca o pa (recFf f n (kpassR ((sp 0).1, (sp 0).2) ticks)) (recSa sa n (kpassR ((sp 0).1, (sp 0).2) ticks)) (recSp (va_up (va_up sp 2 (sp 0)) 0 ((kN ((sp 0).1, (sp 0).2) (passN ((sp 0).1, (sp 0).2) ticks)).1, (kN ((sp 0).1, (sp 0).2) (passN ((sp 0).1, (sp 0).2) ticks)).2)) n (kpassR ((sp 0).1, (sp 0).2) ticks)) (recSz (va_up sz 0 (zTk ((sp 0).1, (sp 0).2) (sz 0) (passN ((sp 0).1, (sp 0).2) ticks))) n (kpassR ((sp 0).1, (sp 0).2) ticks)) q g tx kd wh nu) ⟨hx, hb, hml, hown, hts⟩ (k_X3_recorded l G ca o pa f sa (va_up (va_up sp 2 (sp 0)) 0 ((kN ((sp 0).1, (sp 0).2) (passN ((sp 0).1, (sp 0).2) ticks)).1, (kN ((sp 0).1, (sp 0).2) (passN ((sp 0).1, (sp 0).2) ticks)).2)) (va_up sz 0 (zTk ((sp 0).1, (sp 0).2) (sz 0) (passN ((sp 0).1, (sp 0).2) ticks))) q g tx kd wh nu n hn hf6 (kpassR ((sp 0).1, (sp 0).2) ticks) hbb0) (cwV 1 hts (zgoodV zsub wq_18_10 wq_18_11 wq_19_0 wq_1_2 wq_19_1) rfl rfl rfl hdV_X3_recorded ⟨Nat.le_of_ble_eq_true rfl, Nat.le_of_ble_eq_true rfl⟩) hz [] zp_all zp_all' rfl rfl rfl hl.1 (Nat.le_of_ble_eq_true rfl) (st1 := [.int (kpassR ((sp 0).1, (sp 0).2) ticks)]) rfl dX3_pass_20 ⟨Nat.zero_le _, Nat.zero_le _⟩ (fun H locs hz => ?_)
  exact z_iret (pc := 23) hx hb hr hlk hQ hz dX3_pass_23 (by rfl) (by rfl)






def rm_X3_keep : Room := { frames := 2, cells := 0, slots := 0, locals := 43 }
set_option maxRecDepth 20000 in
theorem hdV_X3_keep : yX3_keep.cls = RX3 ∧ yX3_keep.cls ≠ "java/lang/invoke/MethodHandle" ∧ yX3_keep.cls ≠ "java/lang/invoke/VarHandle" ∧ (parseMethodDescriptor yX3_keep.desc).map (fun d => d.parameters.length) = some 0 := by decide +kernel
set_option maxHeartbeats 4000000 in
set_option maxRecDepth 100000 in
theorem k_X3_keep (l : Launch) (G : va_G) (ca : Nat → ClassId) (o pa : Nat) (f : Nat → Int32) (sa : Nat → Nat → Nat) (sp : Nat → HC) (sz : Nat → Nat → Int32) (q : Nat → Nat) (g tx kd wh nu : Nat → Int32) (hbb0 : bbP (sp 0)) : Zc l G ca yX3_keep (zws yX3_keep cX3_keep 1 (some .int)) rm_X3_keep [.ref o] (wF ca o pa f sa sp sz q g tx kd wh nu) (some (.int ((sp 0).1 0))) (wF ca o pa (upd f 7 1) sa (va_up sp 3 (sp 0)) sz q g tx kd wh nu) := by
  refine Zc.of (cc := cX3_keep) (maxL := 1) (ret := (some .int)) (by decide) rfl (Nat.le_of_ble_eq_true rfl) ?_
  intro pg ev s0 mt below meth cd A args Q ls hx hb hr hml hown hts hlk hQ hl hz
  have L10 : (Cond.fieldLink RX3 10 "CupFountain" "now" "LCupFountain$State;").before args s0 = true := hts _ (zsub _ wq_2_0)
  have L107 : (Cond.fieldLink RX3 107 "CupFountain$State" "tick" "I").before args s0 = true := hts _ (zsub _ wq_20_2)
  have L22 : (Cond.fieldLink RX3 22 "CupFountain" "snapshot" "LCupFountain$State;").before args s0 = true := hts _ (zsub _ wq_2_3)
  have L40 : (Cond.fieldLink RX3 40 "CupFountain" "hasSnapshot" "Z").before args s0 = true := hts _ (zsub _ wq_2_10)
  have hinX2 : ∀ w ∈ wsX20, w ∈ zws yX3_keep cX3_keep 1 (some .int) := fun w h => zsub w (wl_wsX20 w h)
  have hinX3 : ∀ w ∈ wsX30, w ∈ zws yX3_keep cX3_keep 1 (some .int) := fun w h => zsub w (wl_wsX30 w h)
  have hl : lv_has ls 1 [(0, .ref o)] := hl
  refine lv_aload_n (pc := 0) hx hb dX3_keep_0 rfl (lv_at hl 0 rfl) ?_
  refine z_get (own := RX3) (ref := "CupFountain") (C := RX3) (T := TX3) (N := 10) (ci := 3) (v := .ref (sa 3 0)) (pc := 1) hx hb hts hinX3 hown hz 0 rfl rfl 3 (by decide) L22 rfl rfl dX3_keep_1 ?_
  refine lv_aload_n (pc := 4) hx hb dX3_keep_4 rfl (lv_at hl 0 rfl) ?_
  refine z_get (own := RX3) (ref := "CupFountain") (C := RX3) (T := TX3) (N := 10) (ci := 3) (v := .ref (sa 0 0)) (pc := 5) hx hb hts hinX3 hown hz 0 rfl rfl 0 (by decide) L10 rfl rfl dX3_keep_5 ?_
  refine z_runV (pc := 8) (As := [.ref (sa 0 0)]) (rest := []) (ws1 := wF ca o pa f sa (va_up sp 3 (sp 0)) sz q g tx kd wh nu) ⟨hx, hb, hml, hown, hts⟩ (k_X2_copyFrom l G ca (sa 3) (sa 0) ((sp 3).1) ((sp 0).1) ((sp 3).2) ((sp 0).2) (sz 3) (sz 0) hbb0) (cwV 1 hts (zgoodV zsub wq_11_10 wq_11_11 wq_12_0 wq_1_11 wq_12_1) rfl rfl rfl hdV_X2_copyFrom ⟨Nat.le_of_ble_eq_true rfl, Nat.le_of_ble_eq_true rfl⟩) hz (wFr2 ca o pa f (pfS sa) sa sp sz q g tx kd wh nu 3 0) (wF_pm2 (sp := sp) (sz := sz) (i := 3) (j := 0) (by decide) (by decide) (by decide)) (wF_pm3 (sp := sp) (sz := sz) (i := 3) (j := 0) (by decide) (by decide) (by decide)) rfl rfl rfl hl.1 (Nat.le_of_ble_eq_true rfl) (st1 := []) rfl dX3_keep_8 ⟨Nat.zero_le _, Nat.zero_le _⟩ (fun H locs hz => ?_)
  refine lv_aload_n (pc := 11) hx hb dX3_keep_11 rfl (lv_at hl 0 rfl) ?_
  refine lv_iconst (v := 1) (pc := 12) hx hb dX3_keep_12 (by decide) ?_
  refine z_put (own := RX3) (ref := "CupFountain") (C := RX3) (T := TX3) (N := 10) (ci := 3) (v := .int 1) (ws1 := wF ca o pa (upd f 7 1) sa (va_up sp 3 (sp 0)) sz q g tx kd wh nu) (pc := 13) hx hb hts hinX3 tyX3 tyX3_ok nmX3 hown hz 0 rfl rfl 7 (by decide) L40 rfl rfl rfl rfl (Nat.le_of_ble_eq_true rfl) rfl dX3_keep_13 (fun H locs hz => ?_)
  refine lv_aload_n (pc := 16) hx hb dX3_keep_16 rfl (lv_at hl 0 rfl) ?_
  refine z_get (own := RX3) (ref := "CupFountain") (C := RX3) (T := TX3) (N := 10) (ci := 3) (v := .ref (sa 0 0)) (pc := 17) hx hb hts hinX3 hown hz 0 rfl rfl 0 (by decide) L10 rfl rfl dX3_keep_17 ?_
  refine z_getm (own := RX3) (ref := "CupFountain$State") (C := RX2) (T := TX2) (N := 9) (ci := 2) (v := .int ((sp 0).1 0)) (pc := 20) hx hb hts hinX2 hown hz (wF_mst (i := 0) (by decide)) rfl 1 (by decide) L107 rfl rfl dX3_keep_20 ?_
  exact z_iret (pc := 23) hx hb hr hlk hQ hz dX3_keep_23 (by rfl) (by rfl)

def rm_X3_restore : Room := { frames := 3, cells := 0, slots := 0, locals := 64 }
set_option maxRecDepth 20000 in
theorem hdV_X3_restore : yX3_restore.cls = RX3 ∧ yX3_restore.cls ≠ "java/lang/invoke/MethodHandle" ∧ yX3_restore.cls ≠ "java/lang/invoke/VarHandle" ∧ (parseMethodDescriptor yX3_restore.desc).map (fun d => d.parameters.length) = some 0 := by decide +kernel
set_option maxHeartbeats 4000000 in
set_option maxRecDepth 100000 in
theorem k_X3_restore_b (l : Launch) (G : va_G) (ca : Nat → ClassId) (o pa : Nat) (f : Nat → Int32) (sa : Nat → Nat → Nat) (sp : Nat → HC) (sz : Nat → Nat → Int32) (q : Nat → Nat) (g tx kd wh nu : Nat → Int32) (n : Nat) (hn : n ≤ 4) (hf6 : f 6 = nI n) (hbb0 : bbP (sp 0)) (hbb3 : bbP (sp 3)) (hs : ¬ f 7 = 0) : Zc l G ca yX3_restore (zws yX3_restore cX3_restore 1 (some .int)) rm_X3_restore [.ref o] (wF ca o pa f sa sp sz q g tx kd wh nu) (some (.int ((sp 3).1 0))) (wF ca o pa (recFf f n ((sp 3).1 0)) (recSa sa n ((sp 3).1 0)) (recSp (va_up (va_up sp 2 (sp 0)) 0 (sp 3)) n ((sp 3).1 0)) (recSz sz n ((sp 3).1 0)) q g tx kd wh nu) := by
  refine Zc.of (cc := cX3_restore) (maxL := 1) (ret := (some .int)) (by decide) rfl (Nat.le_of_ble_eq_true rfl) ?_
  intro pg ev s0 mt below meth cd A args Q ls hx hb hr hml hown hts hlk hQ hl hz
  have L10 : (Cond.fieldLink RX3 10 "CupFountain" "now" "LCupFountain$State;").before args s0 = true := hts _ (zsub _ wq_2_0)
  have L107 : (Cond.fieldLink RX3 107 "CupFountain$State" "tick" "I").before args s0 = true := hts _ (zsub _ wq_20_2)
  have L19 : (Cond.fieldLink RX3 19 "CupFountain" "before" "LCupFountain$State;").before args s0 = true := hts _ (zsub _ wq_2_2)
  have L22 : (Cond.fieldLink RX3 22 "CupFountain" "snapshot" "LCupFountain$State;").before args s0 = true := hts _ (zsub _ wq_2_3)
  have L40 : (Cond.fieldLink RX3 40 "CupFountain" "hasSnapshot" "Z").before args s0 = true := hts _ (zsub _ wq_2_10)
  have hinX2 : ∀ w ∈ wsX20, w ∈ zws yX3_restore cX3_restore 1 (some .int) := fun w h => zsub w (wl_wsX20 w h)
  have hinX3 : ∀ w ∈ wsX30, w ∈ zws yX3_restore cX3_restore 1 (some .int) := fun w h => zsub w (wl_wsX30 w h)
  have hl : lv_has ls 1 [(0, .ref o)] := hl
  refine lv_aload_n (pc := 0) hx hb dX3_restore_0 rfl (lv_at hl 0 rfl) ?_
  refine z_get (own := RX3) (ref := "CupFountain") (C := RX3) (T := TX3) (N := 10) (ci := 3) (v := .int (f 7)) (pc := 1) hx hb hts hinX3 hown hz 0 rfl rfl 7 (by decide) L40 rfl rfl dX3_restore_1 ?_
  refine lv_if_ne (pc := 4) (tgt := 10) hx hb dX3_restore_4 (by decide) (fun c_4 => ?_) (fun c9 => absurd c9 hs)
  refine lv_aload_n (pc := 10) hx hb dX3_restore_10 rfl (lv_at hl 0 rfl) ?_
  refine z_get (own := RX3) (ref := "CupFountain") (C := RX3) (T := TX3) (N := 10) (ci := 3) (v := .ref (sa 2 0)) (pc := 11) hx hb hts hinX3 hown hz 0 rfl rfl 2 (by decide) L19 rfl rfl dX3_restore_11 ?_
  refine lv_aload_n (pc := 14) hx hb dX3_restore_14 rfl (lv_at hl 0 rfl) ?_
  refine z_get (own := RX3) (ref := "CupFountain") (C := RX3) (T := TX3) (N := 10) (ci := 3) (v := .ref (sa 0 0)) (pc := 15) hx hb hts hinX3 hown hz 0 rfl rfl 0 (by decide) L10 rfl rfl dX3_restore_15 ?_
  refine z_runV (pc := 18) (As := [.ref (sa 0 0)]) (rest := []) (ws1 := wF ca o pa f sa (va_up sp 2 (sp 0)) sz q g tx kd wh nu) ⟨hx, hb, hml, hown, hts⟩ (k_X2_copyFrom l G ca (sa 2) (sa 0) ((sp 2).1) ((sp 0).1) ((sp 2).2) ((sp 0).2) (sz 2) (sz 0) hbb0) (cwV 1 hts (zgoodV zsub wq_11_10 wq_11_11 wq_12_0 wq_1_11 wq_12_1) rfl rfl rfl hdV_X2_copyFrom ⟨Nat.le_of_ble_eq_true rfl, Nat.le_of_ble_eq_true rfl⟩) hz (wFr2 ca o pa f (pfS sa) sa sp sz q g tx kd wh nu 2 0) (wF_pm2 (sp := sp) (sz := sz) (i := 2) (j := 0) (by decide) (by decide) (by decide)) (wF_pm3 (sp := sp) (sz := sz) (i := 2) (j := 0) (by decide) (by decide) (by decide)) rfl rfl rfl hl.1 (Nat.le_of_ble_eq_true rfl) (st1 := []) rfl dX3_restore_18 ⟨Nat.zero_le _, Nat.zero_le _⟩ (fun H locs hz => ?_)
  refine lv_aload_n (pc := 21) hx hb dX3_restore_21 rfl (lv_at hl 0 rfl) ?_
  refine z_get (own := RX3) (ref := "CupFountain") (C := RX3) (T := TX3) (N := 10) (ci := 3) (v := .ref (sa 0 0)) (pc := 22) hx hb hts hinX3 hown hz 0 rfl rfl 0 (by decide) L10 rfl rfl dX3_restore_22 ?_
  refine lv_aload_n (pc := 25) hx hb dX3_restore_25 rfl (lv_at hl 0 rfl) ?_
  refine z_get (own := RX3) (ref := "CupFountain") (C := RX3) (T := TX3) (N := 10) (ci := 3) (v := .ref (sa 3 0)) (pc := 26) hx hb hts hinX3 hown hz 0 rfl rfl 3 (by decide) L22 rfl rfl dX3_restore_26 ?_
  refine z_runV (pc := 29) (As := [.ref (sa 3 0)]) (rest := []) (ws1 := wF ca o pa f sa (va_up (va_up sp 2 (sp 0)) 0 (sp 3)) sz q g tx kd wh nu) ⟨hx, hb, hml, hown, hts⟩ (k_X2_copyFrom l G ca (sa 0) (sa 3) ((sp 0).1) ((sp 3).1) ((sp 0).2) ((sp 3).2) (sz 0) (sz 3) hbb3) (cwV 1 hts (zgoodV zsub wq_11_10 wq_11_11 wq_12_0 wq_1_11 wq_12_1) rfl rfl rfl hdV_X2_copyFrom ⟨Nat.le_of_ble_eq_true rfl, Nat.le_of_ble_eq_true rfl⟩) hz (wFr2 ca o pa f (pfS sa) sa (va_up sp 2 (sp 0)) sz q g tx kd wh nu 0 3) (wF_pm2 (sp := (va_up sp 2 (sp 0))) (sz := sz) (i := 0) (j := 3) (by decide) (by decide) (by decide)) (wF_pm3 (sp := (va_up sp 2 (sp 0))) (sz := sz) (i := 0) (j := 3) (by decide) (by decide) (by decide)) rfl rfl rfl hl.1 (Nat.le_of_ble_eq_true rfl) (st1 := []) rfl dX3_restore_29 ⟨Nat.zero_le _, Nat.zero_le _⟩ (fun H locs hz => ?_)
  refine lv_aload_n (pc := 32) hx hb dX3_restore_32 rfl (lv_at hl 0 rfl) ?_
  refine lv_aload_n (pc := 33) hx hb dX3_restore_33 rfl (lv_at hl 0 rfl) ?_
  refine z_get (own := RX3) (ref := "CupFountain") (C := RX3) (T := TX3) (N := 10) (ci := 3) (v := .ref (sa 0 0)) (pc := 34) hx hb hts hinX3 hown hz 0 rfl rfl 0 (by decide) L10 rfl rfl dX3_restore_34 ?_
  refine z_getm (own := RX3) (ref := "CupFountain$State") (C := RX2) (T := TX2) (N := 9) (ci := 2) (v := .int ((sp 3).1 0)) (pc := 37) hx hb hts hinX2 hown hz (wF_mst (i := 0) (by decide)) rfl 1 (by decide) L107 rfl rfl dX3_restore_37 ?_
  refine z_runV (pc := 40) (As := [.int ((sp 3).1 0)]) (rest := []) (ws1 := wF ca o pa (recFf f n ((sp 3).1 0)) (recSa sa n ((sp 3).1 0)) (recSp (va_up (va_up sp 2 (sp 0)) 0 (sp 3)) n ((sp 3).1 0)) (recSz sz n ((sp 3).1 0)) q g tx kd wh nu) ⟨hx, hb, hml, hown, hts⟩ (k_X3_recorded l G ca o pa f sa (va_up (va_up sp 2 (sp 0)) 0 (sp 3)) sz q g tx kd wh nu n hn hf6 ((sp 3).1 0) hbb0) (cwV 1 hts (zgoodV zsub wq_18_10 wq_18_11 wq_19_0 wq_1_2 wq_19_1) rfl rfl rfl hdV_X3_recorded ⟨Nat.le_of_ble_eq_true rfl, Nat.le_of_ble_eq_true rfl⟩) hz [] zp_all zp_all' rfl rfl rfl hl.1 (Nat.le_of_ble_eq_true rfl) (st1 := [.int ((sp 3).1 0)]) rfl dX3_restore_40 ⟨Nat.zero_le _, Nat.zero_le _⟩ (fun H locs hz => ?_)
  exact z_iret (pc := 43) hx hb hr hlk hQ hz dX3_restore_43 (by rfl) (by rfl)

set_option maxHeartbeats 4000000 in
set_option maxRecDepth 100000 in
theorem k_X3_restore_a (l : Launch) (G : va_G) (ca : Nat → ClassId) (o pa : Nat) (f : Nat → Int32) (sa : Nat → Nat → Nat) (sp : Nat → HC) (sz : Nat → Nat → Int32) (q : Nat → Nat) (g tx kd wh nu : Nat → Int32) (hs : f 7 = 0) : Zc l G ca yX3_restore (zws yX3_restore cX3_restore 1 (some .int)) rm_X3_restore [.ref o] (wF ca o pa f sa sp sz q g tx kd wh nu) (some (.int (-5))) (wF ca o pa f sa sp sz q g tx kd wh nu) := by
  refine Zc.of (cc := cX3_restore) (maxL := 1) (ret := (some .int)) (by decide) rfl (Nat.le_of_ble_eq_true rfl) ?_
  intro pg ev s0 mt below meth cd A args Q ls hx hb hr hml hown hts hlk hQ hl hz
  have L40 : (Cond.fieldLink RX3 40 "CupFountain" "hasSnapshot" "Z").before args s0 = true := hts _ (zsub _ wq_2_10)
  have hinX3 : ∀ w ∈ wsX30, w ∈ zws yX3_restore cX3_restore 1 (some .int) := fun w h => zsub w (wl_wsX30 w h)
  have hl : lv_has ls 1 [(0, .ref o)] := hl
  refine lv_aload_n (pc := 0) hx hb dX3_restore_0 rfl (lv_at hl 0 rfl) ?_
  refine z_get (own := RX3) (ref := "CupFountain") (C := RX3) (T := TX3) (N := 10) (ci := 3) (v := .int (f 7)) (pc := 1) hx hb hts hinX3 hown hz 0 rfl rfl 7 (by decide) L40 rfl rfl dX3_restore_1 ?_
  refine lv_if_ne (pc := 4) (tgt := 10) hx hb dX3_restore_4 (by decide) (fun c9 => absurd hs c9) (fun c_4 => ?_)
  refine lv_bipush (v := -5) (pc := 7) hx hb dX3_restore_7 (by decide) ?_
  exact z_iret (pc := 9) hx hb hr hlk hQ hz dX3_restore_9 (by rfl) (by rfl)
