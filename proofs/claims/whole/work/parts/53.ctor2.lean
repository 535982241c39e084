def rm_X3_init : Room := { frames := 3, cells := 86, slots := 1219, locals := 62 }
set_option maxRecDepth 20000 in
theorem hdI_X3_init : yX3_init.cls ≠ "java/lang/invoke/MethodHandle" ∧ yX3_init.cls ≠ "java/lang/invoke/VarHandle" ∧ (parseMethodDescriptor yX3_init.desc).map (fun d => d.parameters.length) = some 0 := by decide +kernel
set_option maxHeartbeats 4000000 in
set_option maxRecDepth 100000 in
theorem k_X3_init (l : Launch) (G : va_G) (ca : Nat → ClassId) (o : Nat) : Zk l G ca yX3_init (zws yX3_init cX3_init 2 none) rm_X3_init [.ref o] ([(o, .inr (3, [.null, .null, .null, .null, .null, .null, .int 0, .int 0, .int 0, .int 0]))]) (fun w1 => ∃ (pa : Nat) (sa : Nat → Nat → Nat) (q : Nat → Nat), w1 = wF ca o pa f03 sa (fun _ => hc0) (fun _ _ => 0) q (fun _ => 0) (fun _ => 0) (fun _ => 0) (fun _ => 0) (fun _ => 0)) 86 1219 := by
  refine Zk.of (cc := cX3_init) (maxL := 2) (ret := none) (by decide) rfl rfl (Nat.le_of_ble_eq_true rfl) ?_
  intro pg ev s0 mt below meth cd A args Q ls hx hb hr hml hown hts hlk hin2 hQ hl hAO hz
  have L10 : (Cond.fieldLink RX3 10 "CupFountain" "now" "LCupFountain$State;").before args s0 = true := hts _ (zsub _ wq_1_15)
  have L16 : (Cond.fieldLink RX3 16 "CupFountain" "ahead" "LCupFountain$State;").before args s0 = true := hts _ (zsub _ wq_1_16)
  have L19 : (Cond.fieldLink RX3 19 "CupFountain" "before" "LCupFountain$State;").before args s0 = true := hts _ (zsub _ wq_1_17)
  have L22 : (Cond.fieldLink RX3 22 "CupFountain" "snapshot" "LCupFountain$State;").before args s0 = true := hts _ (zsub _ wq_1_18)
  have L25 : (Cond.fieldLink RX3 25 "CupFountain" "past" "[LCupFountain$State;").before args s0 = true := hts _ (zsub _ wq_1_19)
  have L32 : (Cond.fieldLink RX3 32 "CupFountain" "plan" "LCupFountain$Plan;").before args s0 = true := hts _ (zsub _ wq_1_23)
  have L36 : (Cond.fieldLink RX3 36 "CupFountain" "pastCount" "I").before args s0 = true := hts _ (zsub _ wq_2_0)
  have L40 : (Cond.fieldLink RX3 40 "CupFountain" "hasSnapshot" "Z").before args s0 = true := hts _ (zsub _ wq_2_1)
  have L44 : (Cond.fieldLink RX3 44 "CupFountain" "stopNumber" "I").before args s0 = true := hts _ (zsub _ wq_2_2)
  have L47 : (Cond.fieldLink RX3 47 "CupFountain" "stopError" "I").before args s0 = true := hts _ (zsub _ wq_2_3)
  have hinX1 : ∀ w ∈ wsX10, w ∈ zws yX3_init cX3_init 2 none := fun w h => zsub w (wl_wsX10 w h)
  have hinX2 : ∀ w ∈ wsX20, w ∈ zws yX3_init cX3_init 2 none := fun w h => zsub w (wl_wsX20 w h)
  have hinX3 : ∀ w ∈ wsX30, w ∈ zws yX3_init cX3_init 2 none := fun w h => zsub w (wl_wsX30 w h)
  have hl : lv_has ls 2 [(0, .ref o)] := hl
  refine lv_aload_n (pc := 0) hx hb dX3_init_0 rfl (lv_at hl 0 rfl) ?_
  refine W.objInit hx hb hown (hts _ (zsub _ wq_1_9)) (hts _ (zsub _ wq_1_10)) (hts _ (zsub _ wq_1_11)) rfl (by rw [hml]; exact hl.1) rfl dX3_init_1 (Nat.le_of_ble_eq_true rfl) (Nat.le_of_ble_eq_true rfl) ?_
  refine W.eq (g2 := F0 mt 4 ls []) rfl ?_
  refine lv_aload_n (pc := 4) hx hb dX3_init_4 rfl (lv_at hl 0 rfl) ?_
  refine z_new (pc := 5) (ci := 2) (fs := [.null, .int 0, .int 0, .int 0, .int 0, .int 0, .int 0, .int 0, .int 0]) (C := RX2) (T := TX2) (N := 9) hx hb hts hinX2 tyX2 tyX2_ok hown (hts _ (zsub _ wq_1_12)) (hts _ (zsub _ wq_1_13)) (hts _ (zsub _ wq_1_14)) hz rfl (fun j hj => by rcases (show j = 0 ∨ j = 1 ∨ j = 2 ∨ j = 3 ∨ j = 4 ∨ j = 5 ∨ j = 6 ∨ j = 7 ∨ j = 8 by omega) with rfl | rfl | rfl | rfl | rfl | rfl | rfl | rfl | rfl <;> rfl) (Nat.le_of_ble_eq_true rfl) (Nat.le_of_ble_eq_true rfl) dX3_init_5 (fun q1 H hz => ?_)
  refine lv_dup (pc := 8) hx hb dX3_init_8 rfl ?_
  refine z_runI (pc := 9) (As := []) (rest := [.ref q1, .ref o]) ⟨hx, hb, hml, hown, hts⟩ (k_X2_init l G ca q1) (cwI 0 hts (zgood0 zsub wq_2_6) rfl rfl rfl (hts _ (zsub _ wq_1_14)) (hts _ (zsub _ wq_2_4)) (hts _ (zsub _ wq_2_5)) rfl hdI_X2_init ⟨Nat.le_of_ble_eq_true rfl, Nat.le_of_ble_eq_true rfl⟩) (wc := [(q1, .inr (2, [.null, .int 0, .int 0, .int 0, .int 0, .int 0, .int 0, .int 0, .int 0]))]) hz hAO ([(o, .inr (3, [.null, .null, .null, .null, .null, .null, .int 0, .int 0, .int 0, .int 0]))]) List.perm_append_comm rfl hl.1 (Nat.le_of_ble_eq_true rfl) dX3_init_9 ⟨Nat.le_of_ble_eq_true rfl, Nat.le_of_ble_eq_true rfl⟩ (fun w1 hw1 H locs hz2 => ?_)
  clear hz
  obtain ⟨a1, ha1, rfl⟩ := hw1
  subst ha1
  have hz := hz2
  have hz := hz.perm List.perm_append_comm
  have hz := hz.as (show _ = [(o, .inr (3, [.null, .null, .null, .null, .null, .null, .int 0, .int 0, .int 0, .int 0]))] ++ (wS ca a1 hc0.1 hc0.2 (fun _ => 0)) from rfl)
  refine z_putF (own := RX3) (ref := "CupFountain") (C := RX3) (T := TX3) (N := 10) (ci := 3) (v := .ref (a1 0)) (ws1 := [(o, .inr (3, [.ref (a1 0), .null, .null, .null, .null, .null, .int 0, .int 0, .int 0, .int 0]))] ++ (wS ca a1 hc0.1 hc0.2 (fun _ => 0))) (pc := 12) hx hb hts hinX3 tyX3 tyX3_ok nmX3 hown hin2 hz 0 rfl rfl 0 (by decide) L10 rfl rfl rfl rfl rfl (Nat.le_of_ble_eq_true rfl) rfl dX3_init_12 (fun H locs hz => ?_)
  refine lv_aload_n (pc := 15) hx hb dX3_init_15 rfl (lv_at hl 0 rfl) ?_
  refine z_new (pc := 16) (ci := 2) (fs := [.null, .int 0, .int 0, .int 0, .int 0, .int 0, .int 0, .int 0, .int 0]) (C := RX2) (T := TX2) (N := 9) hx hb hts hinX2 tyX2 tyX2_ok hown (hts _ (zsub _ wq_1_12)) (hts _ (zsub _ wq_1_13)) (hts _ (zsub _ wq_1_14)) hz rfl (fun j hj => by rcases (show j = 0 ∨ j = 1 ∨ j = 2 ∨ j = 3 ∨ j = 4 ∨ j = 5 ∨ j = 6 ∨ j = 7 ∨ j = 8 by omega) with rfl | rfl | rfl | rfl | rfl | rfl | rfl | rfl | rfl <;> rfl) (Nat.le_of_ble_eq_true rfl) (Nat.le_of_ble_eq_true rfl) dX3_init_16 (fun q2 H hz => ?_)
  refine lv_dup (pc := 19) hx hb dX3_init_19 rfl ?_
  refine z_runI (pc := 20) (As := []) (rest := [.ref q2, .ref o]) ⟨hx, hb, hml, hown, hts⟩ (k_X2_init l G ca q2) (cwI 0 hts (zgood0 zsub wq_2_6) rfl rfl rfl (hts _ (zsub _ wq_1_14)) (hts _ (zsub _ wq_2_4)) (hts _ (zsub _ wq_2_5)) rfl hdI_X2_init ⟨Nat.le_of_ble_eq_true rfl, Nat.le_of_ble_eq_true rfl⟩) (wc := [(q2, .inr (2, [.null, .int 0, .int 0, .int 0, .int 0, .int 0, .int 0, .int 0, .int 0]))]) hz hAO ([(o, .inr (3, [.ref (a1 0), .null, .null, .null, .null, .null, .int 0, .int 0, .int 0, .int 0]))] ++ (wS ca a1 hc0.1 hc0.2 (fun _ => 0))) List.perm_append_comm rfl hl.1 (Nat.le_of_ble_eq_true rfl) dX3_init_20 ⟨Nat.le_of_ble_eq_true rfl, Nat.le_of_ble_eq_true rfl⟩ (fun w1 hw1 H locs hz2 => ?_)
  clear hz
  obtain ⟨a2, ha2, rfl⟩ := hw1
  subst ha2
  have hz := hz2
  have hz := hz.perm z_tail
  have hz := hz.as (show _ = [(o, .inr (3, [.ref (a1 0), .null, .null, .null, .null, .null, .int 0, .int 0, .int 0, .int 0]))] ++ (wS ca a1 hc0.1 hc0.2 (fun _ => 0) ++ wS ca a2 hc0.1 hc0.2 (fun _ => 0)) from rfl)
  refine z_putF (own := RX3) (ref := "CupFountain") (C := RX3) (T := TX3) (N := 10) (ci := 3) (v := .ref (a2 0)) (ws1 := [(o, .inr (3, [.ref (a1 0), .ref (a2 0), .null, .null, .null, .null, .int 0, .int 0, .int 0, .int 0]))] ++ (wS ca a1 hc0.1 hc0.2 (fun _ => 0) ++ wS ca a2 hc0.1 hc0.2 (fun _ => 0))) (pc := 23) hx hb hts hinX3 tyX3 tyX3_ok nmX3 hown hin2 hz 0 rfl rfl 1 (by decide) L16 rfl rfl rfl rfl rfl (Nat.le_of_ble_eq_true rfl) rfl dX3_init_23 (fun H locs hz => ?_)
  refine lv_aload_n (pc := 26) hx hb dX3_init_26 rfl (lv_at hl 0 rfl) ?_
  refine z_new (pc := 27) (ci := 2) (fs := [.null, .int 0, .int 0, .int 0, .int 0, .int 0, .int 0, .int 0, .int 0]) (C := RX2) (T := TX2) (N := 9) hx hb hts hinX2 tyX2 tyX2_ok hown (hts _ (zsub _ wq_1_12)) (hts _ (zsub _ wq_1_13)) (hts _ (zsub _ wq_1_14)) hz rfl (fun j hj => by rcases (show j = 0 ∨ j = 1 ∨ j = 2 ∨ j = 3 ∨ j = 4 ∨ j = 5 ∨ j = 6 ∨ j = 7 ∨ j = 8 by omega) with rfl | rfl | rfl | rfl | rfl | rfl | rfl | rfl | rfl <;> rfl) (Nat.le_of_ble_eq_true rfl) (Nat.le_of_ble_eq_true rfl) dX3_init_27 (fun q3 H hz => ?_)
  refine lv_dup (pc := 30) hx hb dX3_init_30 rfl ?_
  refine z_runI (pc := 31) (As := []) (rest := [.ref q3, .ref o]) ⟨hx, hb, hml, hown, hts⟩ (k_X2_init l G ca q3) (cwI 0 hts (zgood0 zsub wq_2_6) rfl rfl rfl (hts _ (zsub _ wq_1_14)) (hts _ (zsub _ wq_2_4)) (hts _ (zsub _ wq_2_5)) rfl hdI_X2_init ⟨Nat.le_of_ble_eq_true rfl, Nat.le_of_ble_eq_true rfl⟩) (wc := [(q3, .inr (2, [.null, .int 0, .int 0, .int 0, .int 0, .int 0, .int 0, .int 0, .int 0]))]) hz hAO ([(o, .inr (3, [.ref (a1 0), .ref (a2 0), .null, .null, .null, .null, .int 0, .int 0, .int 0, .int 0]))] ++ (wS ca a1 hc0.1 hc0.2 (fun _ => 0) ++ wS ca a2 hc0.1 hc0.2 (fun _ => 0))) List.perm_append_comm rfl hl.1 (Nat.le_of_ble_eq_true rfl) dX3_init_31 ⟨Nat.le_of_ble_eq_true rfl, Nat.le_of_ble_eq_true rfl⟩ (fun w1 hw1 H locs hz2 => ?_)
  clear hz
  obtain ⟨a3, ha3, rfl⟩ := hw1
  subst ha3
  have hz := hz2
  have hz := hz.perm z_tail
  have hz := hz.as (show _ = [(o, .inr (3, [.ref (a1 0), .ref (a2 0), .null, .null, .null, .null, .int 0, .int 0, .int 0, .int 0]))] ++ ((wS ca a1 hc0.1 hc0.2 (fun _ => 0) ++ wS ca a2 hc0.1 hc0.2 (fun _ => 0)) ++ wS ca a3 hc0.1 hc0.2 (fun _ => 0)) from rfl)
  refine z_putF (own := RX3) (ref := "CupFountain") (C := RX3) (T := TX3) (N := 10) (ci := 3) (v := .ref (a3 0)) (ws1 := [(o, .inr (3, [.ref (a1 0), .ref (a2 0), .ref (a3 0), .null, .null, .null, .int 0, .int 0, .int 0, .int 0]))] ++ ((wS ca a1 hc0.1 hc0.2 (fun _ => 0) ++ wS ca a2 hc0.1 hc0.2 (fun _ => 0)) ++ wS ca a3 hc0.1 hc0.2 (fun _ => 0))) (pc := 34) hx hb hts hinX3 tyX3 tyX3_ok nmX3 hown hin2 hz 0 rfl rfl 2 (by decide) L19 rfl rfl rfl rfl rfl (Nat.le_of_ble_eq_true rfl) rfl dX3_init_34 (fun H locs hz => ?_)
  refine lv_aload_n (pc := 37) hx hb dX3_init_37 rfl (lv_at hl 0 rfl) ?_
  refine z_new (pc := 38) (ci := 2) (fs := [.null, .int 0, .int 0, .int 0, .int 0, .int 0, .int 0, .int 0, .int 0]) (C := RX2) (T := TX2) (N := 9) hx hb hts hinX2 tyX2 tyX2_ok hown (hts _ (zsub _ wq_1_12)) (hts _ (zsub _ wq_1_13)) (hts _ (zsub _ wq_1_14)) hz rfl (fun j hj => by rcases (show j = 0 ∨ j = 1 ∨ j = 2 ∨ j = 3 ∨ j = 4 ∨ j = 5 ∨ j = 6 ∨ j = 7 ∨ j = 8 by omega) with rfl | rfl | rfl | rfl | rfl | rfl | rfl | rfl | rfl <;> rfl) (Nat.le_of_ble_eq_true rfl) (Nat.le_of_ble_eq_true rfl) dX3_init_38 (fun q4 H hz => ?_)
  refine lv_dup (pc := 41) hx hb dX3_init_41 rfl ?_
  refine z_runI (pc := 42) (As := []) (rest := [.ref q4, .ref o]) ⟨hx, hb, hml, hown, hts⟩ (k_X2_init l G ca q4) (cwI 0 hts (zgood0 zsub wq_2_6) rfl rfl rfl (hts _ (zsub _ wq_1_14)) (hts _ (zsub _ wq_2_4)) (hts _ (zsub _ wq_2_5)) rfl hdI_X2_init ⟨Nat.le_of_ble_eq_true rfl, Nat.le_of_ble_eq_true rfl⟩) (wc := [(q4, .inr (2, [.null, .int 0, .int 0, .int 0, .int 0, .int 0, .int 0, .int 0, .int 0]))]) hz hAO ([(o, .inr (3, [.ref (a1 0), .ref (a2 0), .ref (a3 0), .null, .null, .null, .int 0, .int 0, .int 0, .int 0]))] ++ ((wS ca a1 hc0.1 hc0.2 (fun _ => 0) ++ wS ca a2 hc0.1 hc0.2 (fun _ => 0)) ++ wS ca a3 hc0.1 hc0.2 (fun _ => 0))) List.perm_append_comm rfl hl.1 (Nat.le_of_ble_eq_true rfl) dX3_init_42 ⟨Nat.le_of_ble_eq_true rfl, Nat.le_of_ble_eq_true rfl⟩ (fun w1 hw1 H locs hz2 => ?_)
  clear hz
  obtain ⟨a4, ha4, rfl⟩ := hw1
  subst ha4
  have hz := hz2
  have hz := hz.perm z_tail
  have hz := hz.as (show _ = [(o, .inr (3, [.ref (a1 0), .ref (a2 0), .ref (a3 0), .null, .null, .null, .int 0, .int 0, .int 0, .int 0]))] ++ (((wS ca a1 hc0.1 hc0.2 (fun _ => 0) ++ wS ca a2 hc0.1 hc0.2 (fun _ => 0)) ++ wS ca a3 hc0.1 hc0.2 (fun _ => 0)) ++ wS ca a4 hc0.1 hc0.2 (fun _ => 0)) from rfl)
  refine z_putF (own := RX3) (ref := "CupFountain") (C := RX3) (T := TX3) (N := 10) (ci := 3) (v := .ref (a4 0)) (ws1 := [(o, .inr (3, [.ref (a1 0), .ref (a2 0), .ref (a3 0), .ref (a4 0), .null, .null, .int 0, .int 0, .int 0, .int 0]))] ++ (((wS ca a1 hc0.1 hc0.2 (fun _ => 0) ++ wS ca a2 hc0.1 hc0.2 (fun _ => 0)) ++ wS ca a3 hc0.1 hc0.2 (fun _ => 0)) ++ wS ca a4 hc0.1 hc0.2 (fun _ => 0))) (pc := 45) hx hb hts hinX3 tyX3 tyX3_ok nmX3 hown hin2 hz 0 rfl rfl 3 (by decide) L22 rfl rfl rfl rfl rfl (Nat.le_of_ble_eq_true rfl) rfl dX3_init_45 (fun H locs hz => ?_)
  refine lv_aload_n (pc := 48) hx hb dX3_init_48 rfl (lv_at hl 0 rfl) ?_
  refine lv_iconst (v := 4) (pc := 49) hx hb dX3_init_49 (by decide) ?_
  refine z_newq (pc := 50) hx hb hown (hts _ (zsub _ wq_1_12)) hAO.2 hz 4 rfl (N' := 4) (by decide) (by decide) (Nat.le_of_ble_eq_true rfl) (Nat.le_of_ble_eq_true rfl) (Nat.le_of_ble_eq_true rfl) dX3_init_50 (fun q5 H hz => ?_)
  have hz := hz.perm (z_mid (a := [(o, .inr (3, [.ref (a1 0), .ref (a2 0), .ref (a3 0), .ref (a4 0), .null, .null, .int 0, .int 0, .int 0, .int 0]))]) (b := (((wS ca a1 hc0.1 hc0.2 (fun _ => 0) ++ wS ca a2 hc0.1 hc0.2 (fun _ => 0)) ++ wS ca a3 hc0.1 hc0.2 (fun _ => 0)) ++ wS ca a4 hc0.1 hc0.2 (fun _ => 0))) (c := [(q5, .inl (ca 4, 4, .inr (.inr (.inr (.inr (fun _ => none))))))]))
  have hz := hz.as (show _ = [(o, .inr (3, [.ref (a1 0), .ref (a2 0), .ref (a3 0), .ref (a4 0), .null, .null, .int 0, .int 0, .int 0, .int 0])), (q5, .inl (ca 4, 4, .inr (.inr (.inr (.inr (fun _ => none))))))] ++ (((wS ca a1 hc0.1 hc0.2 (fun _ => 0) ++ wS ca a2 hc0.1 hc0.2 (fun _ => 0)) ++ wS ca a3 hc0.1 hc0.2 (fun _ => 0)) ++ wS ca a4 hc0.1 hc0.2 (fun _ => 0)) from rfl)
  refine z_putF (own := RX3) (ref := "CupFountain") (C := RX3) (T := TX3) (N := 10) (ci := 3) (v := .ref q5) (ws1 := [(o, .inr (3, [.ref (a1 0), .ref (a2 0), .ref (a3 0), .ref (a4 0), .ref q5, .null, .int 0, .int 0, .int 0, .int 0])), (q5, .inl (ca 4, 4, .inr (.inr (.inr (.inr (fun _ => none))))))] ++ (((wS ca a1 hc0.1 hc0.2 (fun _ => 0) ++ wS ca a2 hc0.1 hc0.2 (fun _ => 0)) ++ wS ca a3 hc0.1 hc0.2 (fun _ => 0)) ++ wS ca a4 hc0.1 hc0.2 (fun _ => 0))) (pc := 53) hx hb hts hinX3 tyX3 tyX3_ok nmX3 hown hin2 hz 0 rfl rfl 4 (by decide) L25 rfl rfl rfl rfl rfl (Nat.le_of_ble_eq_true rfl) rfl dX3_init_53 (fun H locs hz => ?_)
  refine lv_aload_n (pc := 56) hx hb dX3_init_56 rfl (lv_at hl 0 rfl) ?_
  refine z_new (pc := 57) (ci := 1) (fs := [.null, .int 0, .null, .null, .null, .int 0, .int 0]) (C := RX1) (T := TX1) (N := 7) hx hb hts hinX1 tyX1 tyX1_ok hown (hts _ (zsub _ wq_1_20)) (hts _ (zsub _ wq_1_21)) (hts _ (zsub _ wq_1_22)) hz rfl (fun j hj => by rcases (show j = 0 ∨ j = 1 ∨ j = 2 ∨ j = 3 ∨ j = 4 ∨ j = 5 ∨ j = 6 by omega) with rfl | rfl | rfl | rfl | rfl | rfl | rfl <;> rfl) (Nat.le_of_ble_eq_true rfl) (Nat.le_of_ble_eq_true rfl) dX3_init_57 (fun q6 H hz => ?_)
  refine lv_dup (pc := 60) hx hb dX3_init_60 rfl ?_
  refine z_runIN (pc := 61) (As := []) (rest := [.ref q6, .ref o]) ⟨hx, hb, hml, hown, hts⟩ (k_X1_init l G ca q6) ⟨va_cnB 0 hts (zgood0 zsub wq_3_14) rfl rfl rfl hz.1.2.2.2.2.2 (hts _ (zsub _ wq_1_22)) hdI_X1_init ⟨Nat.le_of_ble_eq_true rfl, Nat.le_of_ble_eq_true rfl⟩, rfl, (hts _ (zsub _ wq_3_13))⟩ (wc := [(q6, .inr (1, [.null, .int 0, .null, .null, .null, .int 0, .int 0]))]) hz hAO ([(o, .inr (3, [.ref (a1 0), .ref (a2 0), .ref (a3 0), .ref (a4 0), .ref q5, .null, .int 0, .int 0, .int 0, .int 0])), (q5, .inl (ca 4, 4, .inr (.inr (.inr (.inr (fun _ => none))))))] ++ (((wS ca a1 hc0.1 hc0.2 (fun _ => 0) ++ wS ca a2 hc0.1 hc0.2 (fun _ => 0)) ++ wS ca a3 hc0.1 hc0.2 (fun _ => 0)) ++ wS ca a4 hc0.1 hc0.2 (fun _ => 0))) List.perm_append_comm rfl hl.1 (Nat.le_of_ble_eq_true rfl) dX3_init_61 ⟨Nat.le_of_ble_eq_true rfl, Nat.le_of_ble_eq_true rfl⟩ (fun w1 hw1 H locs hz2 => ?_)
  clear hz
  obtain ⟨a5, ha5, rfl⟩ := hw1
  subst ha5
  have hz := hz2
  have hz := hz.perm z_tail
  have hz := hz.as (show _ = [(o, .inr (3, [.ref (a1 0), .ref (a2 0), .ref (a3 0), .ref (a4 0), .ref q5, .null, .int 0, .int 0, .int 0, .int 0])), (q5, .inl (ca 4, 4, .inr (.inr (.inr (.inr (fun _ => none))))))] ++ ((((wS ca a1 hc0.1 hc0.2 (fun _ => 0) ++ wS ca a2 hc0.1 hc0.2 (fun _ => 0)) ++ wS ca a3 hc0.1 hc0.2 (fun _ => 0)) ++ wS ca a4 hc0.1 hc0.2 (fun _ => 0)) ++ wP ca a5 (fun _ => 0) (fun _ => 0) (fun _ => 0) (fun _ => 0) (fun _ => 0)) from rfl)
  refine z_putF (own := RX3) (ref := "CupFountain") (C := RX3) (T := TX3) (N := 10) (ci := 3) (v := .ref (a5 0)) (ws1 := [(o, .inr (3, [.ref (a1 0), .ref (a2 0), .ref (a3 0), .ref (a4 0), .ref q5, .ref (a5 0), .int 0, .int 0, .int 0, .int 0])), (q5, .inl (ca 4, 4, .inr (.inr (.inr (.inr (fun _ => none))))))] ++ ((((wS ca a1 hc0.1 hc0.2 (fun _ => 0) ++ wS ca a2 hc0.1 hc0.2 (fun _ => 0)) ++ wS ca a3 hc0.1 hc0.2 (fun _ => 0)) ++ wS ca a4 hc0.1 hc0.2 (fun _ => 0)) ++ wP ca a5 (fun _ => 0) (fun _ => 0) (fun _ => 0) (fun _ => 0) (fun _ => 0))) (pc := 64) hx hb hts hinX3 tyX3 tyX3_ok nmX3 hown hin2 hz 0 rfl rfl 5 (by decide) L32 rfl rfl rfl rfl rfl (Nat.le_of_ble_eq_true rfl) rfl dX3_init_64 (fun H locs hz => ?_)
  refine lv_aload_n (pc := 67) hx hb dX3_init_67 rfl (lv_at hl 0 rfl) ?_
  refine lv_iconst (v := 0) (pc := 68) hx hb dX3_init_68 (by decide) ?_
  refine z_put (own := RX3) (ref := "CupFountain") (C := RX3) (T := TX3) (N := 10) (ci := 3) (v := .int 0) (ws1 := [(o, .inr (3, [.ref (a1 0), .ref (a2 0), .ref (a3 0), .ref (a4 0), .ref q5, .ref (a5 0), .int 0, .int 0, .int 0, .int 0])), (q5, .inl (ca 4, 4, .inr (.inr (.inr (.inr (fun _ => none))))))] ++ ((((wS ca a1 hc0.1 hc0.2 (fun _ => 0) ++ wS ca a2 hc0.1 hc0.2 (fun _ => 0)) ++ wS ca a3 hc0.1 hc0.2 (fun _ => 0)) ++ wS ca a4 hc0.1 hc0.2 (fun _ => 0)) ++ wP ca a5 (fun _ => 0) (fun _ => 0) (fun _ => 0) (fun _ => 0) (fun _ => 0))) (pc := 69) hx hb hts hinX3 tyX3 tyX3_ok nmX3 hown hz 0 rfl rfl 6 (by decide) L36 rfl rfl rfl rfl (Nat.le_of_ble_eq_true rfl) rfl dX3_init_69 (fun H locs hz => ?_)
  refine lv_aload_n (pc := 72) hx hb dX3_init_72 rfl (lv_at hl 0 rfl) ?_
  refine lv_iconst (v := 0) (pc := 73) hx hb dX3_init_73 (by decide) ?_
  refine z_put (own := RX3) (ref := "CupFountain") (C := RX3) (T := TX3) (N := 10) (ci := 3) (v := .int 0) (ws1 := [(o, .inr (3, [.ref (a1 0), .ref (a2 0), .ref (a3 0), .ref (a4 0), .ref q5, .ref (a5 0), .int 0, .int 0, .int 0, .int 0])), (q5, .inl (ca 4, 4, .inr (.inr (.inr (.inr (fun _ => none))))))] ++ ((((wS ca a1 hc0.1 hc0.2 (fun _ => 0) ++ wS ca a2 hc0.1 hc0.2 (fun _ => 0)) ++ wS ca a3 hc0.1 hc0.2 (fun _ => 0)) ++ wS ca a4 hc0.1 hc0.2 (fun _ => 0)) ++ wP ca a5 (fun _ => 0) (fun _ => 0) (fun _ => 0) (fun _ => 0) (fun _ => 0))) (pc := 74) hx hb hts hinX3 tyX3 tyX3_ok nmX3 hown hz 0 rfl rfl 7 (by decide) L40 rfl rfl rfl rfl (Nat.le_of_ble_eq_true rfl) rfl dX3_init_74 (fun H locs hz => ?_)
  refine lv_aload_n (pc := 77) hx hb dX3_init_77 rfl (lv_at hl 0 rfl) ?_
  refine lv_iconst (v := -1) (pc := 78) hx hb dX3_init_78 (by decide) ?_
  refine z_put (own := RX3) (ref := "CupFountain") (C := RX3) (T := TX3) (N := 10) (ci := 3) (v := .int (-1)) (ws1 := [(o, .inr (3, [.ref (a1 0), .ref (a2 0), .ref (a3 0), .ref (a4 0), .ref q5, .ref (a5 0), .int 0, .int 0, .int (-1), .int 0])), (q5, .inl (ca 4, 4, .inr (.inr (.inr (.inr (fun _ => none))))))] ++ ((((wS ca a1 hc0.1 hc0.2 (fun _ => 0) ++ wS ca a2 hc0.1 hc0.2 (fun _ => 0)) ++ wS ca a3 hc0.1 hc0.2 (fun _ => 0)) ++ wS ca a4 hc0.1 hc0.2 (fun _ => 0)) ++ wP ca a5 (fun _ => 0) (fun _ => 0) (fun _ => 0) (fun _ => 0) (fun _ => 0))) (pc := 79) hx hb hts hinX3 tyX3 tyX3_ok nmX3 hown hz 0 rfl rfl 8 (by decide) L44 rfl rfl rfl rfl (Nat.le_of_ble_eq_true rfl) rfl dX3_init_79 (fun H locs hz => ?_)
  refine lv_aload_n (pc := 82) hx hb dX3_init_82 rfl (lv_at hl 0 rfl) ?_
  refine lv_iconst (v := 0) (pc := 83) hx hb dX3_init_83 (by decide) ?_
  refine z_put (own := RX3) (ref := "CupFountain") (C := RX3) (T := TX3) (N := 10) (ci := 3) (v := .int 0) (ws1 := [(o, .inr (3, [.ref (a1 0), .ref (a2 0), .ref (a3 0), .ref (a4 0), .ref q5, .ref (a5 0), .int 0, .int 0, .int (-1), .int 0])), (q5, .inl (ca 4, 4, .inr (.inr (.inr (.inr (fun _ => none))))))] ++ ((((wS ca a1 hc0.1 hc0.2 (fun _ => 0) ++ wS ca a2 hc0.1 hc0.2 (fun _ => 0)) ++ wS ca a3 hc0.1 hc0.2 (fun _ => 0)) ++ wS ca a4 hc0.1 hc0.2 (fun _ => 0)) ++ wP ca a5 (fun _ => 0) (fun _ => 0) (fun _ => 0) (fun _ => 0) (fun _ => 0))) (pc := 84) hx hb hts hinX3 tyX3 tyX3_ok nmX3 hown hz 0 rfl rfl 9 (by decide) L47 rfl rfl rfl rfl (Nat.le_of_ble_eq_true rfl) rfl dX3_init_84 (fun H locs hz => ?_)
  refine lv_iconst (v := 0) (pc := 87) hx hb dX3_init_87 (by decide) ?_
  refine lv_istore_n (lv' := [(1, .int 0), (0, .ref o)]) (pc := 88) hx hb dX3_init_88 rfl hl (by decide) rfl (fun ls hl => ?_)
  have hl : lv_has ls 2 [(1, .int 0), (0, .ref o)] := hl
  refine lv_iload_n (pc := 89) hx hb dX3_init_89 rfl (lv_at hl 0 rfl) ?_
  refine lv_iconst (v := 4) (pc := 90) hx hb dX3_init_90 (by decide) ?_
  refine lv_icmp_ge (pc := 91) (tgt := 113) hx hb dX3_init_91 (by decide) (fun c9 => absurd c9 (by decide)) (fun c_91 => ?_)
  refine lv_aload_n (pc := 94) hx hb dX3_init_94 rfl (lv_at hl 1 rfl) ?_
  refine z_get (own := RX3) (ref := "CupFountain") (C := RX3) (T := TX3) (N := 10) (ci := 3) (v := .ref q5) (pc := 95) hx hb hts hinX3 hown hz 0 rfl rfl 4 (by decide) L25 rfl rfl dX3_init_95 ?_
  refine lv_iload_n (pc := 98) hx hb dX3_init_98 rfl (lv_at hl 0 rfl) ?_
  refine z_new (pc := 99) (ci := 2) (fs := [.null, .int 0, .int 0, .int 0, .int 0, .int 0, .int 0, .int 0, .int 0]) (C := RX2) (T := TX2) (N := 9) hx hb hts hinX2 tyX2 tyX2_ok hown (hts _ (zsub _ wq_1_12)) (hts _ (zsub _ wq_1_13)) (hts _ (zsub _ wq_1_14)) hz rfl (fun j hj => by rcases (show j = 0 ∨ j = 1 ∨ j = 2 ∨ j = 3 ∨ j = 4 ∨ j = 5 ∨ j = 6 ∨ j = 7 ∨ j = 8 by omega) with rfl | rfl | rfl | rfl | rfl | rfl | rfl | rfl | rfl <;> rfl) (Nat.le_of_ble_eq_true rfl) (Nat.le_of_ble_eq_true rfl) dX3_init_99 (fun q7 H hz => ?_)
  refine lv_dup (pc := 102) hx hb dX3_init_102 rfl ?_
  refine z_runI (pc := 103) (As := []) (rest := [.ref q7, .int 0, .ref q5]) ⟨hx, hb, hml, hown, hts⟩ (k_X2_init l G ca q7) (cwI 0 hts (zgood0 zsub wq_2_6) rfl rfl rfl (hts _ (zsub _ wq_1_14)) (hts _ (zsub _ wq_2_4)) (hts _ (zsub _ wq_2_5)) rfl hdI_X2_init ⟨Nat.le_of_ble_eq_true rfl, Nat.le_of_ble_eq_true rfl⟩) (wc := [(q7, .inr (2, [.null, .int 0, .int 0, .int 0, .int 0, .int 0, .int 0, .int 0, .int 0]))]) hz hAO ([(o, .inr (3, [.ref (a1 0), .ref (a2 0), .ref (a3 0), .ref (a4 0), .ref q5, .ref (a5 0), .int 0, .int 0, .int (-1), .int 0])), (q5, .inl (ca 4, 4, .inr (.inr (.inr (.inr (fun _ => none))))))] ++ ((((wS ca a1 hc0.1 hc0.2 (fun _ => 0) ++ wS ca a2 hc0.1 hc0.2 (fun _ => 0)) ++ wS ca a3 hc0.1 hc0.2 (fun _ => 0)) ++ wS ca a4 hc0.1 hc0.2 (fun _ => 0)) ++ wP ca a5 (fun _ => 0) (fun _ => 0) (fun _ => 0) (fun _ => 0) (fun _ => 0))) List.perm_append_comm rfl hl.1 (Nat.le_of_ble_eq_true rfl) dX3_init_103 ⟨Nat.le_of_ble_eq_true rfl, Nat.le_of_ble_eq_true rfl⟩ (fun w1 hw1 H locs hz2 => ?_)
  clear hz
  obtain ⟨a6, ha6, rfl⟩ := hw1
  subst ha6
  have hz := hz2
  have hz := hz.perm z_tail
  have hz := hz.as (show _ = [(o, .inr (3, [.ref (a1 0), .ref (a2 0), .ref (a3 0), .ref (a4 0), .ref q5, .ref (a5 0), .int 0, .int 0, .int (-1), .int 0])), (q5, .inl (ca 4, 4, .inr (.inr (.inr (.inr (fun _ => none))))))] ++ (((((wS ca a1 hc0.1 hc0.2 (fun _ => 0) ++ wS ca a2 hc0.1 hc0.2 (fun _ => 0)) ++ wS ca a3 hc0.1 hc0.2 (fun _ => 0)) ++ wS ca a4 hc0.1 hc0.2 (fun _ => 0)) ++ wP ca a5 (fun _ => 0) (fun _ => 0) (fun _ => 0) (fun _ => 0) (fun _ => 0)) ++ wS ca a6 hc0.1 hc0.2 (fun _ => 0)) from rfl)
  refine z_aastm (ci := 2) (ws1 := [(o, .inr (3, [.ref (a1 0), .ref (a2 0), .ref (a3 0), .ref (a4 0), .ref q5, .ref (a5 0), .int 0, .int 0, .int (-1), .int 0])), (q5, .inl (ca 4, 4, .inr (.inr (.inr (.inr (va_up (fun _ => none) 0 (some (a6 0))))))))] ++ (((((wS ca a1 hc0.1 hc0.2 (fun _ => 0) ++ wS ca a2 hc0.1 hc0.2 (fun _ => 0)) ++ wS ca a3 hc0.1 hc0.2 (fun _ => 0)) ++ wS ca a4 hc0.1 hc0.2 (fun _ => 0)) ++ wP ca a5 (fun _ => 0) (fun _ => 0) (fun _ => 0) (fun _ => 0) (fun _ => 0)) ++ wS ca a6 hc0.1 hc0.2 (fun _ => 0))) (pc := 106) hx hb hz 1 4 rfl rfl (List.mem_of_getElem? (i := 47) rfl) rfl 0 rfl (by decide) (by decide) rfl dX3_init_106 (fun H locs hz => ?_)
  refine lv_iinc (v := 0 + 1) (lv' := [(1, .int (0 + 1)), (0, .ref o)]) (pc := 107) hx hb dX3_init_107 hl (k := 0) rfl rfl (by decide) rfl (fun ls hl => ?_)
  refine lv_goto (tgt := 89) (pc := 110) hx hb dX3_init_110 (by decide) ?_
  have hl : lv_has ls 2 [(1, .int 1), (0, .ref o)] := hl
  refine lv_iload_n (pc := 89) hx hb dX3_init_89 rfl (lv_at hl 0 rfl) ?_
  refine lv_iconst (v := 4) (pc := 90) hx hb dX3_init_90 (by decide) ?_
  refine lv_icmp_ge (pc := 91) (tgt := 113) hx hb dX3_init_91 (by decide) (fun c9 => absurd c9 (by decide)) (fun c_91 => ?_)
  refine lv_aload_n (pc := 94) hx hb dX3_init_94 rfl (lv_at hl 1 rfl) ?_
  refine z_get (own := RX3) (ref := "CupFountain") (C := RX3) (T := TX3) (N := 10) (ci := 3) (v := .ref q5) (pc := 95) hx hb hts hinX3 hown hz 0 rfl rfl 4 (by decide) L25 rfl rfl dX3_init_95 ?_
  refine lv_iload_n (pc := 98) hx hb dX3_init_98 rfl (lv_at hl 0 rfl) ?_
  refine z_new (pc := 99) (ci := 2) (fs := [.null, .int 0, .int 0, .int 0, .int 0, .int 0, .int 0, .int 0, .int 0]) (C := RX2) (T := TX2) (N := 9) hx hb hts hinX2 tyX2 tyX2_ok hown (hts _ (zsub _ wq_1_12)) (hts _ (zsub _ wq_1_13)) (hts _ (zsub _ wq_1_14)) hz rfl (fun j hj => by rcases (show j = 0 ∨ j = 1 ∨ j = 2 ∨ j = 3 ∨ j = 4 ∨ j = 5 ∨ j = 6 ∨ j = 7 ∨ j = 8 by omega) with rfl | rfl | rfl | rfl | rfl | rfl | rfl | rfl | rfl <;> rfl) (Nat.le_of_ble_eq_true rfl) (Nat.le_of_ble_eq_true rfl) dX3_init_99 (fun q8 H hz => ?_)
  refine lv_dup (pc := 102) hx hb dX3_init_102 rfl ?_
  refine z_runI (pc := 103) (As := []) (rest := [.ref q8, .int 1, .ref q5]) ⟨hx, hb, hml, hown, hts⟩ (k_X2_init l G ca q8) (cwI 0 hts (zgood0 zsub wq_2_6) rfl rfl rfl (hts _ (zsub _ wq_1_14)) (hts _ (zsub _ wq_2_4)) (hts _ (zsub _ wq_2_5)) rfl hdI_X2_init ⟨Nat.le_of_ble_eq_true rfl, Nat.le_of_ble_eq_true rfl⟩) (wc := [(q8, .inr (2, [.null, .int 0, .int 0, .int 0, .int 0, .int 0, .int 0, .int 0, .int 0]))]) hz hAO ([(o, .inr (3, [.ref (a1 0), .ref (a2 0), .ref (a3 0), .ref (a4 0), .ref q5, .ref (a5 0), .int 0, .int 0, .int (-1), .int 0])), (q5, .inl (ca 4, 4, .inr (.inr (.inr (.inr (va_up (fun _ => none) 0 (some (a6 0))))))))] ++ (((((wS ca a1 hc0.1 hc0.2 (fun _ => 0) ++ wS ca a2 hc0.1 hc0.2 (fun _ => 0)) ++ wS ca a3 hc0.1 hc0.2 (fun _ => 0)) ++ wS ca a4 hc0.1 hc0.2 (fun _ => 0)) ++ wP ca a5 (fun _ => 0) (fun _ => 0) (fun _ => 0) (fun _ => 0) (fun _ => 0)) ++ wS ca a6 hc0.1 hc0.2 (fun _ => 0))) List.perm_append_comm rfl hl.1 (Nat.le_of_ble_eq_true rfl) dX3_init_103 ⟨Nat.le_of_ble_eq_true rfl, Nat.le_of_ble_eq_true rfl⟩ (fun w1 hw1 H locs hz2 => ?_)
  clear hz
  obtain ⟨a7, ha7, rfl⟩ := hw1
  subst ha7
  have hz := hz2
  have hz := hz.perm z_tail
  have hz := hz.as (show _ = [(o, .inr (3, [.ref (a1 0), .ref (a2 0), .ref (a3 0), .ref (a4 0), .ref q5, .ref (a5 0), .int 0, .int 0, .int (-1), .int 0])), (q5, .inl (ca 4, 4, .inr (.inr (.inr (.inr (va_up (fun _ => none) 0 (some (a6 0))))))))] ++ ((((((wS ca a1 hc0.1 hc0.2 (fun _ => 0) ++ wS ca a2 hc0.1 hc0.2 (fun _ => 0)) ++ wS ca a3 hc0.1 hc0.2 (fun _ => 0)) ++ wS ca a4 hc0.1 hc0.2 (fun _ => 0)) ++ wP ca a5 (fun _ => 0) (fun _ => 0) (fun _ => 0) (fun _ => 0) (fun _ => 0)) ++ wS ca a6 hc0.1 hc0.2 (fun _ => 0)) ++ wS ca a7 hc0.1 hc0.2 (fun _ => 0)) from rfl)
  refine z_aastm (ci := 2) (ws1 := [(o, .inr (3, [.ref (a1 0), .ref (a2 0), .ref (a3 0), .ref (a4 0), .ref q5, .ref (a5 0), .int 0, .int 0, .int (-1), .int 0])), (q5, .inl (ca 4, 4, .inr (.inr (.inr (.inr (va_up (va_up (fun _ => none) 0 (some (a6 0))) 1 (some (a7 0))))))))] ++ ((((((wS ca a1 hc0.1 hc0.2 (fun _ => 0) ++ wS ca a2 hc0.1 hc0.2 (fun _ => 0)) ++ wS ca a3 hc0.1 hc0.2 (fun _ => 0)) ++ wS ca a4 hc0.1 hc0.2 (fun _ => 0)) ++ wP ca a5 (fun _ => 0) (fun _ => 0) (fun _ => 0) (fun _ => 0) (fun _ => 0)) ++ wS ca a6 hc0.1 hc0.2 (fun _ => 0)) ++ wS ca a7 hc0.1 hc0.2 (fun _ => 0))) (pc := 106) hx hb hz 1 4 rfl rfl (List.mem_of_getElem? (i := 57) rfl) rfl 1 rfl (by decide) (by decide) rfl dX3_init_106 (fun H locs hz => ?_)
  refine lv_iinc (v := 1 + 1) (lv' := [(1, .int (1 + 1)), (0, .ref o)]) (pc := 107) hx hb dX3_init_107 hl (k := 0) rfl rfl (by decide) rfl (fun ls hl => ?_)
  refine lv_goto (tgt := 89) (pc := 110) hx hb dX3_init_110 (by decide) ?_
  have hl : lv_has ls 2 [(1, .int 2), (0, .ref o)] := hl
  refine lv_iload_n (pc := 89) hx hb dX3_init_89 rfl (lv_at hl 0 rfl) ?_
  refine lv_iconst (v := 4) (pc := 90) hx hb dX3_init_90 (by decide) ?_
  refine lv_icmp_ge (pc := 91) (tgt := 113) hx hb dX3_init_91 (by decide) (fun c9 => absurd c9 (by decide)) (fun c_91 => ?_)
  refine lv_aload_n (pc := 94) hx hb dX3_init_94 rfl (lv_at hl 1 rfl) ?_
  refine z_get (own := RX3) (ref := "CupFountain") (C := RX3) (T := TX3) (N := 10) (ci := 3) (v := .ref q5) (pc := 95) hx hb hts hinX3 hown hz 0 rfl rfl 4 (by decide) L25 rfl rfl dX3_init_95 ?_
  refine lv_iload_n (pc := 98) hx hb dX3_init_98 rfl (lv_at hl 0 rfl) ?_
  refine z_new (pc := 99) (ci := 2) (fs := [.null, .int 0, .int 0, .int 0, .int 0, .int 0, .int 0, .int 0, .int 0]) (C := RX2) (T := TX2) (N := 9) hx hb hts hinX2 tyX2 tyX2_ok hown (hts _ (zsub _ wq_1_12)) (hts _ (zsub _ wq_1_13)) (hts _ (zsub _ wq_1_14)) hz rfl (fun j hj => by rcases (show j = 0 ∨ j = 1 ∨ j = 2 ∨ j = 3 ∨ j = 4 ∨ j = 5 ∨ j = 6 ∨ j = 7 ∨ j = 8 by omega) with rfl | rfl | rfl | rfl | rfl | rfl | rfl | rfl | rfl <;> rfl) (Nat.le_of_ble_eq_true rfl) (Nat.le_of_ble_eq_true rfl) dX3_init_99 (fun q9 H hz => ?_)
  refine lv_dup (pc := 102) hx hb dX3_init_102 rfl ?_
  refine z_runI (pc := 103) (As := []) (rest := [.ref q9, .int 2, .ref q5]) ⟨hx, hb, hml, hown, hts⟩ (k_X2_init l G ca q9) (cwI 0 hts (zgood0 zsub wq_2_6) rfl rfl rfl (hts _ (zsub _ wq_1_14)) (hts _ (zsub _ wq_2_4)) (hts _ (zsub _ wq_2_5)) rfl hdI_X2_init ⟨Nat.le_of_ble_eq_true rfl, Nat.le_of_ble_eq_true rfl⟩) (wc := [(q9, .inr (2, [.null, .int 0, .int 0, .int 0, .int 0, .int 0, .int 0, .int 0, .int 0]))]) hz hAO ([(o, .inr (3, [.ref (a1 0), .ref (a2 0), .ref (a3 0), .ref (a4 0), .ref q5, .ref (a5 0), .int 0, .int 0, .int (-1), .int 0])), (q5, .inl (ca 4, 4, .inr (.inr (.inr (.inr (va_up (va_up (fun _ => none) 0 (some (a6 0))) 1 (some (a7 0))))))))] ++ ((((((wS ca a1 hc0.1 hc0.2 (fun _ => 0) ++ wS ca a2 hc0.1 hc0.2 (fun _ => 0)) ++ wS ca a3 hc0.1 hc0.2 (fun _ => 0)) ++ wS ca a4 hc0.1 hc0.2 (fun _ => 0)) ++ wP ca a5 (fun _ => 0) (fun _ => 0) (fun _ => 0) (fun _ => 0) (fun _ => 0)) ++ wS ca a6 hc0.1 hc0.2 (fun _ => 0)) ++ wS ca a7 hc0.1 hc0.2 (fun _ => 0))) List.perm_append_comm rfl hl.1 (Nat.le_of_ble_eq_true rfl) dX3_init_103 ⟨Nat.le_of_ble_eq_true rfl, Nat.le_of_ble_eq_true rfl⟩ (fun w1 hw1 H locs hz2 => ?_)
  clear hz
  obtain ⟨a8, ha8, rfl⟩ := hw1
  subst ha8
  have hz := hz2
  have hz := hz.perm z_tail
  have hz := hz.as (show _ = [(o, .inr (3, [.ref (a1 0), .ref (a2 0), .ref (a3 0), .ref (a4 0), .ref q5, .ref (a5 0), .int 0, .int 0, .int (-1), .int 0])), (q5, .inl (ca 4, 4, .inr (.inr (.inr (.inr (va_up (va_up (fun _ => none) 0 (some (a6 0))) 1 (some (a7 0))))))))] ++ (((((((wS ca a1 hc0.1 hc0.2 (fun _ => 0) ++ wS ca a2 hc0.1 hc0.2 (fun _ => 0)) ++ wS ca a3 hc0.1 hc0.2 (fun _ => 0)) ++ wS ca a4 hc0.1 hc0.2 (fun _ => 0)) ++ wP ca a5 (fun _ => 0) (fun _ => 0) (fun _ => 0) (fun _ => 0) (fun _ => 0)) ++ wS ca a6 hc0.1 hc0.2 (fun _ => 0)) ++ wS ca a7 hc0.1 hc0.2 (fun _ => 0)) ++ wS ca a8 hc0.1 hc0.2 (fun _ => 0)) from rfl)
  refine z_aastm (ci := 2) (ws1 := [(o, .inr (3, [.ref (a1 0), .ref (a2 0), .ref (a3 0), .ref (a4 0), .ref q5, .ref (a5 0), .int 0, .int 0, .int (-1), .int 0])), (q5, .inl (ca 4, 4, .inr (.inr (.inr (.inr (va_up (va_up (va_up (fun _ => none) 0 (some (a6 0))) 1 (some (a7 0))) 2 (some (a8 0))))))))] ++ (((((((wS ca a1 hc0.1 hc0.2 (fun _ => 0) ++ wS ca a2 hc0.1 hc0.2 (fun _ => 0)) ++ wS ca a3 hc0.1 hc0.2 (fun _ => 0)) ++ wS ca a4 hc0.1 hc0.2 (fun _ => 0)) ++ wP ca a5 (fun _ => 0) (fun _ => 0) (fun _ => 0) (fun _ => 0) (fun _ => 0)) ++ wS ca a6 hc0.1 hc0.2 (fun _ => 0)) ++ wS ca a7 hc0.1 hc0.2 (fun _ => 0)) ++ wS ca a8 hc0.1 hc0.2 (fun _ => 0))) (pc := 106) hx hb hz 1 4 rfl rfl (List.mem_of_getElem? (i := 67) rfl) rfl 2 rfl (by decide) (by decide) rfl dX3_init_106 (fun H locs hz => ?_)
  refine lv_iinc (v := 2 + 1) (lv' := [(1, .int (2 + 1)), (0, .ref o)]) (pc := 107) hx hb dX3_init_107 hl (k := 0) rfl rfl (by decide) rfl (fun ls hl => ?_)
  refine lv_goto (tgt := 89) (pc := 110) hx hb dX3_init_110 (by decide) ?_
  have hl : lv_has ls 2 [(1, .int 3), (0, .ref o)] := hl
  refine lv_iload_n (pc := 89) hx hb dX3_init_89 rfl (lv_at hl 0 rfl) ?_
  refine lv_iconst (v := 4) (pc := 90) hx hb dX3_init_90 (by decide) ?_
  refine lv_icmp_ge (pc := 91) (tgt := 113) hx hb dX3_init_91 (by decide) (fun c9 => absurd c9 (by decide)) (fun c_91 => ?_)
  refine lv_aload_n (pc := 94) hx hb dX3_init_94 rfl (lv_at hl 1 rfl) ?_
  refine z_get (own := RX3) (ref := "CupFountain") (C := RX3) (T := TX3) (N := 10) (ci := 3) (v := .ref q5) (pc := 95) hx hb hts hinX3 hown hz 0 rfl rfl 4 (by decide) L25 rfl rfl dX3_init_95 ?_
  refine lv_iload_n (pc := 98) hx hb dX3_init_98 rfl (lv_at hl 0 rfl) ?_
  refine z_new (pc := 99) (ci := 2) (fs := [.null, .int 0, .int 0, .int 0, .int 0, .int 0, .int 0, .int 0, .int 0]) (C := RX2) (T := TX2) (N := 9) hx hb hts hinX2 tyX2 tyX2_ok hown (hts _ (zsub _ wq_1_12)) (hts _ (zsub _ wq_1_13)) (hts _ (zsub _ wq_1_14)) hz rfl (fun j hj => by rcases (show j = 0 ∨ j = 1 ∨ j = 2 ∨ j = 3 ∨ j = 4 ∨ j = 5 ∨ j = 6 ∨ j = 7 ∨ j = 8 by omega) with rfl | rfl | rfl | rfl | rfl | rfl | rfl | rfl | rfl <;> rfl) (Nat.le_of_ble_eq_true rfl) (Nat.le_of_ble_eq_true rfl) dX3_init_99 (fun q10 H hz => ?_)
  refine lv_dup (pc := 102) hx hb dX3_init_102 rfl ?_
  refine z_runI (pc := 103) (As := []) (rest := [.ref q10, .int 3, .ref q5]) ⟨hx, hb, hml, hown, hts⟩ (k_X2_init l G ca q10) (cwI 0 hts (zgood0 zsub wq_2_6) rfl rfl rfl (hts _ (zsub _ wq_1_14)) (hts _ (zsub _ wq_2_4)) (hts _ (zsub _ wq_2_5)) rfl hdI_X2_init ⟨Nat.le_of_ble_eq_true rfl, Nat.le_of_ble_eq_true rfl⟩) (wc := [(q10, .inr (2, [.null, .int 0, .int 0, .int 0, .int 0, .int 0, .int 0, .int 0, .int 0]))]) hz hAO ([(o, .inr (3, [.ref (a1 0), .ref (a2 0), .ref (a3 0), .ref (a4 0), .ref q5, .ref (a5 0), .int 0, .int 0, .int (-1), .int 0])), (q5, .inl (ca 4, 4, .inr (.inr (.inr (.inr (va_up (va_up (va_up (fun _ => none) 0 (some (a6 0))) 1 (some (a7 0))) 2 (some (a8 0))))))))] ++ (((((((wS ca a1 hc0.1 hc0.2 (fun _ => 0) ++ wS ca a2 hc0.1 hc0.2 (fun _ => 0)) ++ wS ca a3 hc0.1 hc0.2 (fun _ => 0)) ++ wS ca a4 hc0.1 hc0.2 (fun _ => 0)) ++ wP ca a5 (fun _ => 0) (fun _ => 0) (fun _ => 0) (fun _ => 0) (fun _ => 0)) ++ wS ca a6 hc0.1 hc0.2 (fun _ => 0)) ++ wS ca a7 hc0.1 hc0.2 (fun _ => 0)) ++ wS ca a8 hc0.1 hc0.2 (fun _ => 0))) List.perm_append_comm rfl hl.1 (Nat.le_of_ble_eq_true rfl) dX3_init_103 ⟨Nat.le_of_ble_eq_true rfl, Nat.le_of_ble_eq_true rfl⟩ (fun w1 hw1 H locs hz2 => ?_)
  clear hz
  obtain ⟨a9, ha9, rfl⟩ := hw1
  subst ha9
  have hz := hz2
  have hz := hz.perm z_tail
  have hz := hz.as (show _ = [(o, .inr (3, [.ref (a1 0), .ref (a2 0), .ref (a3 0), .ref (a4 0), .ref q5, .ref (a5 0), .int 0, .int 0, .int (-1), .int 0])), (q5, .inl (ca 4, 4, .inr (.inr (.inr (.inr (va_up (va_up (va_up (fun _ => none) 0 (some (a6 0))) 1 (some (a7 0))) 2 (some (a8 0))))))))] ++ ((((((((wS ca a1 hc0.1 hc0.2 (fun _ => 0) ++ wS ca a2 hc0.1 hc0.2 (fun _ => 0)) ++ wS ca a3 hc0.1 hc0.2 (fun _ => 0)) ++ wS ca a4 hc0.1 hc0.2 (fun _ => 0)) ++ wP ca a5 (fun _ => 0) (fun _ => 0) (fun _ => 0) (fun _ => 0) (fun _ => 0)) ++ wS ca a6 hc0.1 hc0.2 (fun _ => 0)) ++ wS ca a7 hc0.1 hc0.2 (fun _ => 0)) ++ wS ca a8 hc0.1 hc0.2 (fun _ => 0)) ++ wS ca a9 hc0.1 hc0.2 (fun _ => 0)) from rfl)
  refine z_aastm (ci := 2) (ws1 := [(o, .inr (3, [.ref (a1 0), .ref (a2 0), .ref (a3 0), .ref (a4 0), .ref q5, .ref (a5 0), .int 0, .int 0, .int (-1), .int 0])), (q5, .inl (ca 4, 4, .inr (.inr (.inr (.inr (va_up (va_up (va_up (va_up (fun _ => none) 0 (some (a6 0))) 1 (some (a7 0))) 2 (some (a8 0))) 3 (some (a9 0))))))))] ++ ((((((((wS ca a1 hc0.1 hc0.2 (fun _ => 0) ++ wS ca a2 hc0.1 hc0.2 (fun _ => 0)) ++ wS ca a3 hc0.1 hc0.2 (fun _ => 0)) ++ wS ca a4 hc0.1 hc0.2 (fun _ => 0)) ++ wP ca a5 (fun _ => 0) (fun _ => 0) (fun _ => 0) (fun _ => 0) (fun _ => 0)) ++ wS ca a6 hc0.1 hc0.2 (fun _ => 0)) ++ wS ca a7 hc0.1 hc0.2 (fun _ => 0)) ++ wS ca a8 hc0.1 hc0.2 (fun _ => 0)) ++ wS ca a9 hc0.1 hc0.2 (fun _ => 0))) (pc := 106) hx hb hz 1 4 rfl rfl (List.mem_of_getElem? (i := 77) rfl) rfl 3 rfl (by decide) (by decide) rfl dX3_init_106 (fun H locs hz => ?_)
  refine lv_iinc (v := 3 + 1) (lv' := [(1, .int (3 + 1)), (0, .ref o)]) (pc := 107) hx hb dX3_init_107 hl (k := 0) rfl rfl (by decide) rfl (fun ls hl => ?_)
  refine lv_goto (tgt := 89) (pc := 110) hx hb dX3_init_110 (by decide) ?_
  have hl : lv_has ls 2 [(1, .int 4), (0, .ref o)] := hl
  refine lv_iload_n (pc := 89) hx hb dX3_init_89 rfl (lv_at hl 0 rfl) ?_
  refine lv_iconst (v := 4) (pc := 90) hx hb dX3_init_90 (by decide) ?_
  refine lv_icmp_ge (pc := 91) (tgt := 113) hx hb dX3_init_91 (by decide) (fun c_91 => ?_) (fun c9 => absurd (by decide) c9)
  have hz := (hz.cellq (g := pfS (fun i => [a1, a2, a3, a4, a6, a7, a8, a9].getD i a1)) 1 rfl (fun j hj => by rcases (show j = 0 ∨ j = 1 ∨ j = 2 ∨ j = 3 by omega) with rfl | rfl | rfl | rfl <;> rfl)).as (show _ = [(o, .inr (3, [.ref (a1 0), .ref (a2 0), .ref (a3 0), .ref (a4 0), .ref q5, .ref (a5 0), .int 0, .int 0, .int (-1), .int 0])), (q5, .inl (ca 4, 4, .inr (.inr (.inr (.inr (pfS (fun i => [a1, a2, a3, a4, a6, a7, a8, a9].getD i a1)))))))] ++ ((((((((wS ca a1 hc0.1 hc0.2 (fun _ => 0) ++ wS ca a2 hc0.1 hc0.2 (fun _ => 0)) ++ wS ca a3 hc0.1 hc0.2 (fun _ => 0)) ++ wS ca a4 hc0.1 hc0.2 (fun _ => 0)) ++ wP ca a5 (fun _ => 0) (fun _ => 0) (fun _ => 0) (fun _ => 0) (fun _ => 0)) ++ wS ca a6 hc0.1 hc0.2 (fun _ => 0)) ++ wS ca a7 hc0.1 hc0.2 (fun _ => 0)) ++ wS ca a8 hc0.1 hc0.2 (fun _ => 0)) ++ wS ca a9 hc0.1 hc0.2 (fun _ => 0)) from rfl)
  have hz := hz.perm wF_new
  exact z_vretK (pc := 113) hx hb hr hlk hQ hz dX3_init_113 ⟨q5, (fun i => [a1, a2, a3, a4, a6, a7, a8, a9].getD i a1), a5, rfl⟩

def rm_X4_init : Room := { frames := 1, cells := 6, slots := 796, locals := 23 }
set_option maxRecDepth 20000 in
theorem hdI_X4_init : yX4_init.cls ≠ "java/lang/invoke/MethodHandle" ∧ yX4_init.cls ≠ "java/lang/invoke/VarHandle" ∧ (parseMethodDescriptor yX4_init.desc).map (fun d => d.parameters.length) = some 0 := by decide +kernel
set_option maxHeartbeats 4000000 in
set_option maxRecDepth 100000 in
theorem k_X4_init (l : Launch) (G : va_G) (ca : Nat → ClassId) (o : Nat) : Zk l G ca yX4_init (zws yX4_init cX4_init 2 none) rm_X4_init [.ref o] ([(o, .inr (4, [.null, .null, .int 0, .null, .int 0, .null, .null, .int 0, .int 0, .int 0, .null, .int 0, .int 0, .int 0, .int 0, .int 0, .int 0]))]) (fun w1 => ∃ a : Nat → Nat, a 0 = o ∧ w1 = mm ca a f04 hc0.1 hc0.2 (fun _ => 0) (fun _ => 0) (fun _ => 0) (fun _ => 0) (fun _ => 0)) 6 796 := by
  refine Zk.of (cc := cX4_init) (maxL := 2) (ret := none) (by decide) rfl rfl (Nat.le_of_ble_eq_true rfl) ?_
  intro pg ev s0 mt below meth cd A args Q ls hx hb hr hml hown hts hlk hin2 hQ hl hAO hz
  have L13 : (Cond.fieldLink RX4 13 "CupFountainModel" "history" "[I").before args s0 = true := hts _ (zsub _ wq_4_6)
  have L16 : (Cond.fieldLink RX4 16 "CupFountainModel" "snapshot" "[I").before args s0 = true := hts _ (zsub _ wq_4_7)
  have L19 : (Cond.fieldLink RX4 19 "CupFountainModel" "before" "[I").before args s0 = true := hts _ (zsub _ wq_4_8)
  have L22 : (Cond.fieldLink RX4 22 "CupFountainModel" "text" "[C").before args s0 = true := hts _ (zsub _ wq_4_9)
  have L26 : (Cond.fieldLink RX4 26 "CupFountainModel" "stoppedAt" "I").before args s0 = true := hts _ (zsub _ wq_4_10)
  have L30 : (Cond.fieldLink RX4 30 "CupFountainModel" "tipped" "[Z").before args s0 = true := hts _ (zsub _ wq_4_12)
  have L7 : (Cond.fieldLink RX4 7 "CupFountainModel" "s" "[I").before args s0 = true := hts _ (zsub _ wq_4_5)
  have hinX4 : ∀ w ∈ wsX40, w ∈ zws yX4_init cX4_init 2 none := fun w h => zsub w (wl_wsX40 w h)
  have hl : lv_has ls 2 [(0, .ref o)] := hl
  refine lv_aload_n (pc := 0) hx hb dX4_init_0 rfl (lv_at hl 0 rfl) ?_
  refine W.objInit hx hb hown (hts _ (zsub _ wq_4_4)) (hts _ (zsub _ wq_1_10)) (hts _ (zsub _ wq_1_11)) rfl (by rw [hml]; exact hl.1) rfl dX4_init_1 (Nat.le_of_ble_eq_true rfl) (Nat.le_of_ble_eq_true rfl) ?_
  refine W.eq (g2 := F0 mt 4 ls []) rfl ?_
  refine lv_aload_n (pc := 4) hx hb dX4_init_4 rfl (lv_at hl 0 rfl) ?_
  refine lv_bipush (v := 104) (pc := 5) hx hb dX4_init_5 (by decide) ?_
  refine z_newa (pc := 7) (atype := .int) hx hb (hts _ (zsub _ wq_3_19)) rfl hz 1 rfl (N' := 104) (a0 := (104, .inl (fun _ => 0))) (fun _ => rfl) (by decide) (by decide) (Nat.le_of_ble_eq_true rfl) (Nat.le_of_ble_eq_true rfl) (Nat.le_of_ble_eq_true rfl) dX4_init_7 (fun q1 H hz => ?_)
  have hz := hz.as (show _ = [(o, .inr (4, [.null, .null, .int 0, .null, .int 0, .null, .null, .int 0, .int 0, .int 0, .null, .int 0, .int 0, .int 0, .int 0, .int 0, .int 0])), (q1, .inl (ca 1, 104, .inl (fun _ => 0)))] from rfl)
  refine z_putF (own := RX4) (ref := "CupFountainModel") (C := RX4) (T := TX4) (N := 17) (ci := 4) (v := .ref q1) (ws1 := [(o, .inr (4, [.ref q1, .null, .int 0, .null, .int 0, .null, .null, .int 0, .int 0, .int 0, .null, .int 0, .int 0, .int 0, .int 0, .int 0, .int 0])), (q1, .inl (ca 1, 104, .inl (fun _ => 0)))]) (pc := 9) hx hb hts hinX4 tyX4 tyX4_ok nmX4 hown hin2 hz 0 rfl rfl 0 (by decide) L7 rfl rfl rfl rfl rfl (Nat.le_of_ble_eq_true rfl) rfl dX4_init_9 (fun H locs hz => ?_)
  refine lv_aload_n (pc := 12) hx hb dX4_init_12 rfl (lv_at hl 0 rfl) ?_
  refine lv_sipush (v := 416) (pc := 13) hx hb dX4_init_13 (by decide) ?_
  refine z_newa (pc := 16) (atype := .int) hx hb (hts _ (zsub _ wq_3_19)) rfl hz 1 rfl (N' := 416) (a0 := (416, .inl (fun _ => 0))) (fun _ => rfl) (by decide) (by decide) (Nat.le_of_ble_eq_true rfl) (Nat.le_of_ble_eq_true rfl) (Nat.le_of_ble_eq_true rfl) dX4_init_16 (fun q2 H hz => ?_)
  have hz := hz.as (show _ = [(o, .inr (4, [.ref q1, .null, .int 0, .null, .int 0, .null, .null, .int 0, .int 0, .int 0, .null, .int 0, .int 0, .int 0, .int 0, .int 0, .int 0])), (q1, .inl (ca 1, 104, .inl (fun _ => 0))), (q2, .inl (ca 1, 416, .inl (fun _ => 0)))] from rfl)
  refine z_putF (own := RX4) (ref := "CupFountainModel") (C := RX4) (T := TX4) (N := 17) (ci := 4) (v := .ref q2) (ws1 := [(o, .inr (4, [.ref q1, .ref q2, .int 0, .null, .int 0, .null, .null, .int 0, .int 0, .int 0, .null, .int 0, .int 0, .int 0, .int 0, .int 0, .int 0])), (q1, .inl (ca 1, 104, .inl (fun _ => 0))), (q2, .inl (ca 1, 416, .inl (fun _ => 0)))]) (pc := 18) hx hb hts hinX4 tyX4 tyX4_ok nmX4 hown hin2 hz 0 rfl rfl 1 (by decide) L13 rfl rfl rfl rfl rfl (Nat.le_of_ble_eq_true rfl) rfl dX4_init_18 (fun H locs hz => ?_)
  refine lv_aload_n (pc := 21) hx hb dX4_init_21 rfl (lv_at hl 0 rfl) ?_
  refine lv_bipush (v := 104) (pc := 22) hx hb dX4_init_22 (by decide) ?_
  refine z_newa (pc := 24) (atype := .int) hx hb (hts _ (zsub _ wq_3_19)) rfl hz 1 rfl (N' := 104) (a0 := (104, .inl (fun _ => 0))) (fun _ => rfl) (by decide) (by decide) (Nat.le_of_ble_eq_true rfl) (Nat.le_of_ble_eq_true rfl) (Nat.le_of_ble_eq_true rfl) dX4_init_24 (fun q3 H hz => ?_)
  have hz := hz.as (show _ = [(o, .inr (4, [.ref q1, .ref q2, .int 0, .null, .int 0, .null, .null, .int 0, .int 0, .int 0, .null, .int 0, .int 0, .int 0, .int 0, .int 0, .int 0])), (q1, .inl (ca 1, 104, .inl (fun _ => 0))), (q2, .inl (ca 1, 416, .inl (fun _ => 0))), (q3, .inl (ca 1, 104, .inl (fun _ => 0)))] from rfl)
  refine z_putF (own := RX4) (ref := "CupFountainModel") (C := RX4) (T := TX4) (N := 17) (ci := 4) (v := .ref q3) (ws1 := [(o, .inr (4, [.ref q1, .ref q2, .int 0, .ref q3, .int 0, .null, .null, .int 0, .int 0, .int 0, .null, .int 0, .int 0, .int 0, .int 0, .int 0, .int 0])), (q1, .inl (ca 1, 104, .inl (fun _ => 0))), (q2, .inl (ca 1, 416, .inl (fun _ => 0))), (q3, .inl (ca 1, 104, .inl (fun _ => 0)))]) (pc := 26) hx hb hts hinX4 tyX4 tyX4_ok nmX4 hown hin2 hz 0 rfl rfl 3 (by decide) L16 rfl rfl rfl rfl rfl (Nat.le_of_ble_eq_true rfl) rfl dX4_init_26 (fun H locs hz => ?_)
  refine lv_aload_n (pc := 29) hx hb dX4_init_29 rfl (lv_at hl 0 rfl) ?_
  refine lv_bipush (v := 104) (pc := 30) hx hb dX4_init_30 (by decide) ?_
  refine z_newa (pc := 32) (atype := .int) hx hb (hts _ (zsub _ wq_3_19)) rfl hz 1 rfl (N' := 104) (a0 := (104, .inl (fun _ => 0))) (fun _ => rfl) (by decide) (by decide) (Nat.le_of_ble_eq_true rfl) (Nat.le_of_ble_eq_true rfl) (Nat.le_of_ble_eq_true rfl) dX4_init_32 (fun q4 H hz => ?_)
  have hz := hz.as (show _ = [(o, .inr (4, [.ref q1, .ref q2, .int 0, .ref q3, .int 0, .null, .null, .int 0, .int 0, .int 0, .null, .int 0, .int 0, .int 0, .int 0, .int 0, .int 0])), (q1, .inl (ca 1, 104, .inl (fun _ => 0))), (q2, .inl (ca 1, 416, .inl (fun _ => 0))), (q3, .inl (ca 1, 104, .inl (fun _ => 0))), (q4, .inl (ca 1, 104, .inl (fun _ => 0)))] from rfl)
  refine z_putF (own := RX4) (ref := "CupFountainModel") (C := RX4) (T := TX4) (N := 17) (ci := 4) (v := .ref q4) (ws1 := [(o, .inr (4, [.ref q1, .ref q2, .int 0, .ref q3, .int 0, .ref q4, .null, .int 0, .int 0, .int 0, .null, .int 0, .int 0, .int 0, .int 0, .int 0, .int 0])), (q1, .inl (ca 1, 104, .inl (fun _ => 0))), (q2, .inl (ca 1, 416, .inl (fun _ => 0))), (q3, .inl (ca 1, 104, .inl (fun _ => 0))), (q4, .inl (ca 1, 104, .inl (fun _ => 0)))]) (pc := 34) hx hb hts hinX4 tyX4 tyX4_ok nmX4 hown hin2 hz 0 rfl rfl 5 (by decide) L19 rfl rfl rfl rfl rfl (Nat.le_of_ble_eq_true rfl) rfl dX4_init_34 (fun H locs hz => ?_)
  refine lv_aload_n (pc := 37) hx hb dX4_init_37 rfl (lv_at hl 0 rfl) ?_
  refine lv_bipush (v := 60) (pc := 38) hx hb dX4_init_38 (by decide) ?_
  refine z_newa (pc := 40) (atype := .char) hx hb (hts _ (zsub _ wq_3_16)) rfl hz 0 rfl (N' := 60) (a0 := (60, .inl (fun _ => 0))) (fun _ => rfl) (by decide) (by decide) (Nat.le_of_ble_eq_true rfl) (Nat.le_of_ble_eq_true rfl) (Nat.le_of_ble_eq_true rfl) dX4_init_40 (fun q5 H hz => ?_)
  have hz := hz.as (show _ = [(o, .inr (4, [.ref q1, .ref q2, .int 0, .ref q3, .int 0, .ref q4, .null, .int 0, .int 0, .int 0, .null, .int 0, .int 0, .int 0, .int 0, .int 0, .int 0])), (q1, .inl (ca 1, 104, .inl (fun _ => 0))), (q2, .inl (ca 1, 416, .inl (fun _ => 0))), (q3, .inl (ca 1, 104, .inl (fun _ => 0))), (q4, .inl (ca 1, 104, .inl (fun _ => 0))), (q5, .inl (ca 0, 60, .inl (fun _ => 0)))] from rfl)
  refine z_putF (own := RX4) (ref := "CupFountainModel") (C := RX4) (T := TX4) (N := 17) (ci := 4) (v := .ref q5) (ws1 := [(o, .inr (4, [.ref q1, .ref q2, .int 0, .ref q3, .int 0, .ref q4, .ref q5, .int 0, .int 0, .int 0, .null, .int 0, .int 0, .int 0, .int 0, .int 0, .int 0])), (q1, .inl (ca 1, 104, .inl (fun _ => 0))), (q2, .inl (ca 1, 416, .inl (fun _ => 0))), (q3, .inl (ca 1, 104, .inl (fun _ => 0))), (q4, .inl (ca 1, 104, .inl (fun _ => 0))), (q5, .inl (ca 0, 60, .inl (fun _ => 0)))]) (pc := 42) hx hb hts hinX4 tyX4 tyX4_ok nmX4 hown hin2 hz 0 rfl rfl 6 (by decide) L22 rfl rfl rfl rfl rfl (Nat.le_of_ble_eq_true rfl) rfl dX4_init_42 (fun H locs hz => ?_)
  refine lv_aload_n (pc := 45) hx hb dX4_init_45 rfl (lv_at hl 0 rfl) ?_
  refine lv_bipush (v := -5) (pc := 46) hx hb dX4_init_46 (by decide) ?_
  refine z_put (own := RX4) (ref := "CupFountainModel") (C := RX4) (T := TX4) (N := 17) (ci := 4) (v := .int (-5)) (ws1 := [(o, .inr (4, [.ref q1, .ref q2, .int 0, .ref q3, .int 0, .ref q4, .ref q5, .int 0, .int (-5), .int 0, .null, .int 0, .int 0, .int 0, .int 0, .int 0, .int 0])), (q1, .inl (ca 1, 104, .inl (fun _ => 0))), (q2, .inl (ca 1, 416, .inl (fun _ => 0))), (q3, .inl (ca 1, 104, .inl (fun _ => 0))), (q4, .inl (ca 1, 104, .inl (fun _ => 0))), (q5, .inl (ca 0, 60, .inl (fun _ => 0)))]) (pc := 48) hx hb hts hinX4 tyX4 tyX4_ok nmX4 hown hz 0 rfl rfl 8 (by decide) L26 rfl rfl rfl rfl (Nat.le_of_ble_eq_true rfl) rfl dX4_init_48 (fun H locs hz => ?_)
  refine lv_aload_n (pc := 51) hx hb dX4_init_51 rfl (lv_at hl 0 rfl) ?_
  refine lv_bipush (v := 8) (pc := 52) hx hb dX4_init_52 (by decide) ?_
  refine z_newa (pc := 54) (atype := .boolean) hx hb (hts _ (zsub _ wq_4_11)) rfl hz 2 rfl (N' := 8) (a0 := (8, .inl (fun _ => 0))) (fun _ => rfl) (by decide) (by decide) (Nat.le_of_ble_eq_true rfl) (Nat.le_of_ble_eq_true rfl) (Nat.le_of_ble_eq_true rfl) dX4_init_54 (fun q6 H hz => ?_)
  have hz := hz.as (show _ = [(o, .inr (4, [.ref q1, .ref q2, .int 0, .ref q3, .int 0, .ref q4, .ref q5, .int 0, .int (-5), .int 0, .null, .int 0, .int 0, .int 0, .int 0, .int 0, .int 0])), (q1, .inl (ca 1, 104, .inl (fun _ => 0))), (q2, .inl (ca 1, 416, .inl (fun _ => 0))), (q3, .inl (ca 1, 104, .inl (fun _ => 0))), (q4, .inl (ca 1, 104, .inl (fun _ => 0))), (q5, .inl (ca 0, 60, .inl (fun _ => 0))), (q6, .inl (ca 2, 8, .inl (fun _ => 0)))] from rfl)
  refine z_putF (own := RX4) (ref := "CupFountainModel") (C := RX4) (T := TX4) (N := 17) (ci := 4) (v := .ref q6) (ws1 := [(o, .inr (4, [.ref q1, .ref q2, .int 0, .ref q3, .int 0, .ref q4, .ref q5, .int 0, .int (-5), .int 0, .ref q6, .int 0, .int 0, .int 0, .int 0, .int 0, .int 0])), (q1, .inl (ca 1, 104, .inl (fun _ => 0))), (q2, .inl (ca 1, 416, .inl (fun _ => 0))), (q3, .inl (ca 1, 104, .inl (fun _ => 0))), (q4, .inl (ca 1, 104, .inl (fun _ => 0))), (q5, .inl (ca 0, 60, .inl (fun _ => 0))), (q6, .inl (ca 2, 8, .inl (fun _ => 0)))]) (pc := 56) hx hb hts hinX4 tyX4 tyX4_ok nmX4 hown hin2 hz 0 rfl rfl 10 (by decide) L30 rfl rfl rfl rfl rfl (Nat.le_of_ble_eq_true rfl) rfl dX4_init_56 (fun H locs hz => ?_)
  refine lv_aload_n (pc := 59) hx hb dX4_init_59 rfl (lv_at hl 0 rfl) ?_
  refine z_get (own := RX4) (ref := "CupFountainModel") (C := RX4) (T := TX4) (N := 17) (ci := 4) (v := .ref q1) (pc := 60) hx hb hts hinX4 hown hz 0 rfl rfl 0 (by decide) L7 rfl rfl dX4_init_60 ?_
  refine lv_iconst (v := 5) (pc := 63) hx hb dX4_init_63 (by decide) ?_
  refine lv_iconst (v := 3) (pc := 64) hx hb dX4_init_64 (by decide) ?_
  refine z_iast (ws1 := [(o, .inr (4, [.ref q1, .ref q2, .int 0, .ref q3, .int 0, .ref q4, .ref q5, .int 0, .int (-5), .int 0, .ref q6, .int 0, .int 0, .int 0, .int 0, .int 0, .int 0])), (q1, .inl (ca 1, 104, .inl (upd (fun _ => 0) 5 3))), (q2, .inl (ca 1, 416, .inl (fun _ => 0))), (q3, .inl (ca 1, 104, .inl (fun _ => 0))), (q4, .inl (ca 1, 104, .inl (fun _ => 0))), (q5, .inl (ca 0, 60, .inl (fun _ => 0))), (q6, .inl (ca 2, 8, .inl (fun _ => 0)))]) (pc := 65) hx hb hz 1 rfl 5 rfl (by decide) (by decide) rfl dX4_init_65 (fun H locs hz => ?_)
  refine lv_aload_n (pc := 66) hx hb dX4_init_66 rfl (lv_at hl 0 rfl) ?_
  refine z_get (own := RX4) (ref := "CupFountainModel") (C := RX4) (T := TX4) (N := 17) (ci := 4) (v := .ref q1) (pc := 67) hx hb hts hinX4 hown hz 0 rfl rfl 0 (by decide) L7 rfl rfl dX4_init_67 ?_
  refine lv_bipush (v := 7) (pc := 70) hx hb dX4_init_70 (by decide) ?_
  refine lv_bipush (v := 24) (pc := 72) hx hb dX4_init_72 (by decide) ?_
  refine z_iast (ws1 := [(o, .inr (4, [.ref q1, .ref q2, .int 0, .ref q3, .int 0, .ref q4, .ref q5, .int 0, .int (-5), .int 0, .ref q6, .int 0, .int 0, .int 0, .int 0, .int 0, .int 0])), (q1, .inl (ca 1, 104, .inl (upd (upd (fun _ => 0) 5 3) 7 24))), (q2, .inl (ca 1, 416, .inl (fun _ => 0))), (q3, .inl (ca 1, 104, .inl (fun _ => 0))), (q4, .inl (ca 1, 104, .inl (fun _ => 0))), (q5, .inl (ca 0, 60, .inl (fun _ => 0))), (q6, .inl (ca 2, 8, .inl (fun _ => 0)))]) (pc := 74) hx hb hz 1 rfl 7 rfl (by decide) (by decide) rfl dX4_init_74 (fun H locs hz => ?_)
  obtain ⟨a, e0, e1, e2, e3, e4, e5, e6⟩ : ∃ a : Nat → Nat, a 0 = o ∧ a 1 = q1 ∧ a 2 = q2 ∧ a 3 = q3 ∧ a 4 = q4 ∧ a 5 = q5 ∧ a 6 = q6 := ⟨(fun j => [o, q1, q2, q3, q4, q5, q6].getD j 0), rfl, rfl, rfl, rfl, rfl, rfl, rfl⟩
  subst e0
  subst e1
  subst e2
  subst e3
  subst e4
  subst e5
  subst e6
  have hz := (hz.cell (g := enc hc0.1 (c1N 0)) 1 rfl (fun j hj => enc_00 j hj)).as (show _ = mm ca a f04 hc0.1 (c1N 0) (fun _ => 0) (fun _ => 0) (fun _ => 0) (fun _ => 0) (fun _ => 0) from rfl)
  refine lv_iconst (v := 0) (pc := 75) hx hb dX4_init_75 (by decide) ?_
  refine lv_istore_n (lv' := [(1, .int 0), (0, .ref (a 0))]) (pc := 76) hx hb dX4_init_76 rfl hl (by decide) rfl (fun ls hl => ?_)
  have loop1 : ∀ cnt k : Nat, k + cnt = 8 → ∀ (H : Heap) (locs : List Loc) (ls : Array Slot), zw G ca A s0.heap s0 (mm ca a f04 hc0.1 (c1N k) (fun _ => 0) (fun _ => 0) (fun _ => 0) (fun _ => 0) (fun _ => 0)) H locs → lv_has ls 2 [(1, .int (nI k)), (0, .ref (a 0))] → W pg l ev rm_X4_init s0 mt args below meth cd H locs 6 796 Q (F0 mt 77 ls []) := by
    intro cnt
    induction cnt with
    | zero =>
      intro k hk9 H locs ls hz hl
      obtain rfl : 8 = k := by omega
      refine lv_iload_n (pc := 77) hx hb dX4_init_77 rfl (lv_at hl 0 rfl) ?_
      refine lv_bipush (v := 8) (pc := 78) hx hb dX4_init_78 (by decide) ?_
      refine lv_icmp_ge (pc := 80) (tgt := 120) hx hb dX4_init_80 (by decide) (fun c_80 => ?_) (fun c9 => absurd (by decide) c9)
      have hz := (hz.cell (g := enc hc0.1 hc0.2) 1 rfl (fun j hj => enc_c1N j hj)).as (show _ = mm ca a f04 hc0.1 hc0.2 (fun _ => 0) (fun _ => 0) (fun _ => 0) (fun _ => 0) (fun _ => 0) from rfl)
      exact z_vretK (pc := 120) hx hb hr hlk hQ hz dX4_init_120 ⟨a, rfl, rfl⟩
    | succ cnt ih =>
      intro k hk9 H locs ls hz hl
      have hk : k < 8 := by omega
      refine lv_iload_n (pc := 77) hx hb dX4_init_77 rfl (lv_at hl 0 rfl) ?_
      refine lv_bipush (v := 8) (pc := 78) hx hb dX4_init_78 (by decide) ?_
      refine lv_icmp_ge (pc := 80) (tgt := 120) hx hb dX4_init_80 (by decide) (fun c9 => absurd c9 (nI_ge hk (by decide))) (fun c_80 => ?_)
      refine lv_aload_n (pc := 83) hx hb dX4_init_83 rfl (lv_at hl 1 rfl) ?_
      refine lv_iload_n (pc := 84) hx hb dX4_init_84 rfl (lv_at hl 0 rfl) ?_
      refine lv_iconst (v := 0) (pc := 85) hx hb dX4_init_85 (by decide) ?_
      refine lv_bipush (v := 10) (pc := 86) hx hb dX4_init_86 (by decide) ?_
      refine z_runV (pc := 88) (As := [.int (nI k), .int 0, .int 10]) (rest := []) (ws1 := mm ca a f04 hc0.1 (u2 (c1N k) k 0 10) (fun _ => 0) (fun _ => 0) (fun _ => 0) (fun _ => 0) (fun _ => 0)) ⟨hx, hb, hml, hown, hts⟩ (k_X4_lay l G ca a f04 hc0.1 (c1N k) (fun _ => 0) (fun _ => 0) (fun _ => 0) (fun _ => 0) (fun _ => 0) k 0 10 (by assumption) (by decide)) (cwV 3 hts (zgoodV zsub wq_4_13 wq_4_14 wq_4_15 wq_1_5 wq_4_16) rfl rfl rfl hdV_X4_lay ⟨Nat.le_of_ble_eq_true rfl, Nat.le_of_ble_eq_true rfl⟩) hz [] zp_all zp_all' rfl rfl rfl hl.1 (Nat.le_of_ble_eq_true rfl) (st1 := []) rfl dX4_init_88 ⟨Nat.le_of_ble_eq_true rfl, Nat.le_of_ble_eq_true rfl⟩ (fun H locs hz => ?_)
      refine lv_aload_n (pc := 91) hx hb dX4_init_91 rfl (lv_at hl 1 rfl) ?_
      refine lv_iload_n (pc := 92) hx hb dX4_init_92 rfl (lv_at hl 0 rfl) ?_
      refine lv_iconst (v := 2) (pc := 93) hx hb dX4_init_93 (by decide) ?_
      refine lv_iload_n (pc := 94) hx hb dX4_init_94 rfl (lv_at hl 0 rfl) ?_
      refine lv_iconst (v := 1) (pc := 95) hx hb dX4_init_95 (by decide) ?_
      refine lv_iadd (pc := 96) hx hb dX4_init_96 ?_
      refine z_top (y := nI (k + 1)) (nI_1 k) ?_
      refine z_runV (pc := 97) (As := [.int (nI k), .int 2, .int (nI (k + 1))]) (rest := []) (ws1 := mm ca a f04 hc0.1 (u2 (u2 (c1N k) k 0 10) k 2 (nI (k + 1))) (fun _ => 0) (fun _ => 0) (fun _ => 0) (fun _ => 0) (fun _ => 0)) ⟨hx, hb, hml, hown, hts⟩ (k_X4_lay l G ca a f04 hc0.1 (u2 (c1N k) k 0 10) (fun _ => 0) (fun _ => 0) (fun _ => 0) (fun _ => 0) (fun _ => 0) k 2 (nI (k + 1)) (by assumption) (by decide)) (cwV 3 hts (zgoodV zsub wq_4_13 wq_4_14 wq_4_15 wq_1_5 wq_4_16) rfl rfl rfl hdV_X4_lay ⟨Nat.le_of_ble_eq_true rfl, Nat.le_of_ble_eq_true rfl⟩) hz [] zp_all zp_all' rfl rfl rfl hl.1 (Nat.le_of_ble_eq_true rfl) (st1 := []) rfl dX4_init_97 ⟨Nat.le_of_ble_eq_true rfl, Nat.le_of_ble_eq_true rfl⟩ (fun H locs hz => ?_)
      refine lv_aload_n (pc := 100) hx hb dX4_init_100 rfl (lv_at hl 1 rfl) ?_
      refine lv_iload_n (pc := 101) hx hb dX4_init_101 rfl (lv_at hl 0 rfl) ?_
      refine lv_iconst (v := 4) (pc := 102) hx hb dX4_init_102 (by decide) ?_
      refine lv_iconst (v := -1) (pc := 103) hx hb dX4_init_103 (by decide) ?_
      refine z_runV (pc := 104) (As := [.int (nI k), .int 4, .int (-1)]) (rest := []) (ws1 := mm ca a f04 hc0.1 (u2 (u2 (u2 (c1N k) k 0 10) k 2 (nI (k + 1))) k 4 (-1)) (fun _ => 0) (fun _ => 0) (fun _ => 0) (fun _ => 0) (fun _ => 0)) ⟨hx, hb, hml, hown, hts⟩ (k_X4_lay l G ca a f04 hc0.1 (u2 (u2 (c1N k) k 0 10) k 2 (nI (k + 1))) (fun _ => 0) (fun _ => 0) (fun _ => 0) (fun _ => 0) (fun _ => 0) k 4 (-1) (by assumption) (by decide)) (cwV 3 hts (zgoodV zsub wq_4_13 wq_4_14 wq_4_15 wq_1_5 wq_4_16) rfl rfl rfl hdV_X4_lay ⟨Nat.le_of_ble_eq_true rfl, Nat.le_of_ble_eq_true rfl⟩) hz [] zp_all zp_all' rfl rfl rfl hl.1 (Nat.le_of_ble_eq_true rfl) (st1 := []) rfl dX4_init_104 ⟨Nat.le_of_ble_eq_true rfl, Nat.le_of_ble_eq_true rfl⟩ (fun H locs hz => ?_)
      refine lv_aload_n (pc := 107) hx hb dX4_init_107 rfl (lv_at hl 1 rfl) ?_
      refine lv_iload_n (pc := 108) hx hb dX4_init_108 rfl (lv_at hl 0 rfl) ?_
      refine lv_iconst (v := 5) (pc := 109) hx hb dX4_init_109 (by decide) ?_
      refine lv_iconst (v := 1) (pc := 110) hx hb dX4_init_110 (by decide) ?_
      refine z_runV (pc := 111) (As := [.int (nI k), .int 5, .int 1]) (rest := []) (ws1 := mm ca a f04 hc0.1 (u2 (u2 (u2 (u2 (c1N k) k 0 10) k 2 (nI (k + 1))) k 4 (-1)) k 5 1) (fun _ => 0) (fun _ => 0) (fun _ => 0) (fun _ => 0) (fun _ => 0)) ⟨hx, hb, hml, hown, hts⟩ (k_X4_lay l G ca a f04 hc0.1 (u2 (u2 (u2 (c1N k) k 0 10) k 2 (nI (k + 1))) k 4 (-1)) (fun _ => 0) (fun _ => 0) (fun _ => 0) (fun _ => 0) (fun _ => 0) k 5 1 (by assumption) (by decide)) (cwV 3 hts (zgoodV zsub wq_4_13 wq_4_14 wq_4_15 wq_1_5 wq_4_16) rfl rfl rfl hdV_X4_lay ⟨Nat.le_of_ble_eq_true rfl, Nat.le_of_ble_eq_true rfl⟩) hz [] zp_all zp_all' rfl rfl rfl hl.1 (Nat.le_of_ble_eq_true rfl) (st1 := []) rfl dX4_init_111 ⟨Nat.le_of_ble_eq_true rfl, Nat.le_of_ble_eq_true rfl⟩ (fun H locs hz => ?_)
      refine lv_iinc (v := nI (k + 1)) (lv' := [(1, .int (nI (k + 1))), (0, .ref (a 0))]) (pc := 114) hx hb dX4_init_114 hl (k := 0) rfl (nI_add k 1) (by decide) rfl (fun ls hl => ?_)
      refine lv_goto (tgt := 77) (pc := 117) hx hb dX4_init_117 (by decide) ?_
      exact ih (k + 1) (by omega) _ _ _ hz (lv_sub hl [0, 1] rfl)
  exact loop1 8 0 (by omega) _ _ _ hz (lv_sub hl [0, 1] rfl)
