def rm_X3_perform : Room := { frames := 6, cells := 0, slots := 0, locals := 136 }
set_option maxRecDepth 20000 in
theorem hdV_X3_perform : yX3_perform.cls = RX3 ∧ yX3_perform.cls ≠ "java/lang/invoke/MethodHandle" ∧ yX3_perform.cls ≠ "java/lang/invoke/VarHandle" ∧ (parseMethodDescriptor yX3_perform.desc).map (fun d => d.parameters.length) = some 0 := by decide +kernel
set_option maxHeartbeats 4000000 in
set_option maxRecDepth 100000 in
theorem k_X3_perform_d (l : Launch) (G : va_G) (ca : Nat → ClassId) (o pa : Nat) (f : Nat → Int32) (sa : Nat → Nat → Nat) (sp : Nat → HC) (sz : Nat → Nat → Int32) (q : Nat → Nat) (g tx kd wh nu : Nat → Int32) (ln : Nat) (hln : ln ≤ 60) (hg1 : g 1 = nI ln) (R1 : Int32) (tn : Nat) (T : PQ) (hQX : qX tx ln (0, kd, wh, nu) = (R1, tn, T)) (n : Nat) (hn : n ≤ 4) (hf6 : f 6 = nI n) (hci : CI (sp 0)) (hR1 : R1 = -1) (htn : tn ≤ 60) (hall : ∀ j, j < tn → errF (kRi T (sp 0) j) = 0) : Zc l G ca yX3_perform (zws yX3_perform cX3_perform 4 (some .int)) rm_X3_perform [.ref o] (wF ca o pa f sa sp sz q g tx kd wh nu) (some (.int (nI tn))) (wF ca o pa (recFf f n (nI tn)) (recSa sa n (nI tn)) (recSp (va_up (va_up sp 2 (sp 0)) 0 (kI T (sp 0) tn)) n (nI tn)) (recSz (va_up sz 0 (kIz T (sp 0) (sz 0) tn)) n (nI tn)) q (gQ g (nI tn) T.1) tx T.2.1 T.2.2.1 T.2.2.2) := by
  refine Zc.of (cc := cX3_perform) (maxL := 4) (ret := (some .int)) (by decide) rfl (Nat.le_of_ble_eq_true rfl) ?_
  intro pg ev s0 mt below meth cd A args Q ls hx hb hr hml hown hts hlk hQ hl hz
  have L10 : (Cond.fieldLink RX3 10 "CupFountain" "now" "LCupFountain$State;").before args s0 = true := hts _ (zsub _ wq_1_15)
  have L19 : (Cond.fieldLink RX3 19 "CupFountain" "before" "LCupFountain$State;").before args s0 = true := hts _ (zsub _ wq_1_17)
  have L32 : (Cond.fieldLink RX3 32 "CupFountain" "plan" "LCupFountain$Plan;").before args s0 = true := hts _ (zsub _ wq_1_23)
  have L92 : (Cond.fieldLink RX3 92 "CupFountain$Plan" "things" "I").before args s0 = true := hts _ (zsub _ wq_16_18)
  have hinX1 : ∀ w ∈ wsX10, w ∈ zws yX3_perform cX3_perform 4 (some .int) := fun w h => zsub w (wl_wsX10 w h)
  have hinX3 : ∀ w ∈ wsX30, w ∈ zws yX3_perform cX3_perform 4 (some .int) := fun w h => zsub w (wl_wsX30 w h)
  have hl : lv_has ls 4 [(0, .ref o)] := hl
  refine lv_aload_n (pc := 0) hx hb dX3_perform_0 rfl (lv_at hl 0 rfl) ?_
  refine z_get (own := RX3) (ref := "CupFountain") (C := RX3) (T := TX3) (N := 10) (ci := 3) (v := .ref (q 0)) (pc := 1) hx hb hts hinX3 hown hz 0 rfl rfl 5 (by decide) L32 rfl rfl dX3_perform_1 ?_
  refine z_runV (pc := 4) (As := []) (rest := []) (ws1 := wF ca o pa f sa sp sz q (gQ g (nI (qX tx ln (0, kd, wh, nu)).2.1) (qX tx ln (0, kd, wh, nu)).2.2.1) tx ((qX tx ln (0, kd, wh, nu)).2.2.2.1) ((qX tx ln (0, kd, wh, nu)).2.2.2.2.1) ((qX tx ln (0, kd, wh, nu)).2.2.2.2.2)) ⟨hx, hb, hml, hown, hts⟩ (k_X1_read l G ca q g tx kd wh nu ln hln hg1) (cwV 0 hts (zgoodV zsub wq_16_19 wq_16_20 wq_16_21 wq_1_22 wq_16_22) rfl rfl rfl hdV_X1_read ⟨Nat.le_of_ble_eq_true rfl, Nat.le_of_ble_eq_true rfl⟩) hz (wFq ca o pa f (pfS sa) sa sp sz (q 0)) wF_pq wF_pq1 rfl rfl rfl hl.1 (Nat.le_of_ble_eq_true rfl) (st1 := [.int ((qX tx ln (0, kd, wh, nu)).1)]) rfl dX3_perform_4 ⟨Nat.zero_le _, Nat.zero_le _⟩ (fun H locs hz => ?_)
  rw [hQX] at hz
  have hz := hz.as (show _ = wF ca o pa f sa sp sz q (gQ g (nI tn) T.1) tx T.2.1 T.2.2.1 T.2.2.2 from rfl)
  refine z_top (y := R1) (by rw [hQX]) ?_
  refine lv_istore_n (lv' := [(1, .int R1), (0, .ref o)]) (pc := 7) hx hb dX3_perform_7 rfl hl (by decide) rfl (fun ls hl => ?_)
  refine lv_iload_n (pc := 8) hx hb dX3_perform_8 rfl (lv_at hl 0 rfl) ?_
  refine lv_iconst (v := -1) (pc := 9) hx hb dX3_perform_9 (by decide) ?_
  refine lv_icmp_eq (pc := 10) (tgt := 18) hx hb dX3_perform_10 (by decide) (fun c_10 => ?_) (fun c9 => absurd hR1 c9)
  refine lv_aload_n (pc := 18) hx hb dX3_perform_18 rfl (lv_at hl 1 rfl) ?_
  refine z_get (own := RX3) (ref := "CupFountain") (C := RX3) (T := TX3) (N := 10) (ci := 3) (v := .ref (sa 2 0)) (pc := 19) hx hb hts hinX3 hown hz 0 rfl rfl 2 (by decide) L19 rfl rfl dX3_perform_19 ?_
  refine lv_aload_n (pc := 22) hx hb dX3_perform_22 rfl (lv_at hl 1 rfl) ?_
  refine z_get (own := RX3) (ref := "CupFountain") (C := RX3) (T := TX3) (N := 10) (ci := 3) (v := .ref (sa 0 0)) (pc := 23) hx hb hts hinX3 hown hz 0 rfl rfl 0 (by decide) L10 rfl rfl dX3_perform_23 ?_
  refine z_runV (pc := 26) (As := [.ref (sa 0 0)]) (rest := []) (ws1 := wF ca o pa f sa (va_up sp 2 (sp 0)) sz q (gQ g (nI tn) T.1) tx T.2.1 T.2.2.1 T.2.2.2) ⟨hx, hb, hml, hown, hts⟩ (k_X2_copyFrom l G ca (sa 2) (sa 0) ((sp 2).1) ((sp 0).1) ((sp 2).2) ((sp 0).2) (sz 2) (sz 0) hci.bb) (cwV 1 hts (zgoodV zsub wq_4_21 wq_4_22 wq_4_23 wq_1_14 wq_5_0) rfl rfl rfl hdV_X2_copyFrom ⟨Nat.le_of_ble_eq_true rfl, Nat.le_of_ble_eq_true rfl⟩) hz (wFr2 ca o pa f (pfS sa) sa sp sz q (gQ g (nI tn) T.1) tx T.2.1 T.2.2.1 T.2.2.2 2 0) (wF_pm2 (sp := sp) (sz := sz) (i := 2) (j := 0) (by decide) (by decide) (by decide)) (wF_pm3 (sp := sp) (sz := sz) (i := 2) (j := 0) (by decide) (by decide) (by decide)) rfl rfl rfl hl.1 (Nat.le_of_ble_eq_true rfl) (st1 := []) rfl dX3_perform_26 ⟨Nat.zero_le _, Nat.zero_le _⟩ (fun H locs hz => ?_)
  refine lv_iconst (v := 0) (pc := 29) hx hb dX3_perform_29 (by decide) ?_
  refine lv_istore_n (lv' := [(2, .int 0), (1, .int R1), (0, .ref o)]) (pc := 30) hx hb dX3_perform_30 rfl hl (by decide) rfl (fun ls hl => ?_)
  have loop1 : ∀ cnt i : Nat, i + cnt = tn → ∀ (H : Heap) (locs : List Loc) (ls : Array Slot), zw G ca A s0.heap s0 (wF ca o pa f sa (va_up (va_up sp 2 (sp 0)) 0 (kI T (sp 0) i)) (va_up sz 0 (kIz T (sp 0) (sz 0) i)) q (gQ g (nI tn) T.1) tx T.2.1 T.2.2.1 T.2.2.2) H locs → lv_has ls 4 [(2, .int (nI i)), (0, .ref o)] → W pg l ev rm_X3_perform s0 mt args below meth cd H locs 0 0 Q (F0 mt 31 ls []) := by
    intro cnt
    induction cnt with
    | zero =>
      intro i hk9 H locs ls hz hl
      obtain rfl : tn = i := by omega
      refine lv_iload_n (pc := 31) hx hb dX3_perform_31 rfl (lv_at hl 0 rfl) ?_
      refine lv_aload_n (pc := 32) hx hb dX3_perform_32 rfl (lv_at hl 1 rfl) ?_
      refine z_get (own := RX3) (ref := "CupFountain") (C := RX3) (T := TX3) (N := 10) (ci := 3) (v := .ref (q 0)) (pc := 33) hx hb hts hinX3 hown hz 0 rfl rfl 5 (by decide) L32 rfl rfl dX3_perform_33 ?_
      refine z_getm (own := RX3) (ref := "CupFountain$Plan") (C := RX1) (T := TX1) (N := 7) (ci := 1) (v := .int ((gQ g (nI tn) T.1) 5)) (pc := 36) hx hb hts hinX1 hown hz wF_mpl rfl 5 (by decide) L92 rfl rfl dX3_perform_36 ?_
      refine z_top (y := nI tn) rfl ?_
      refine lv_icmp_ge (pc := 39) (tgt := 92) hx hb dX3_perform_39 (by decide) (fun c_39 => ?_) (fun c9 => absurd (nI_le (Nat.le_refl _) (by omega)) c9)
      refine lv_aload_n (pc := 92) hx hb dX3_perform_92 rfl (lv_at hl 1 rfl) ?_
      refine lv_aload_n (pc := 93) hx hb dX3_perform_93 rfl (lv_at hl 1 rfl) ?_
      refine z_get (own := RX3) (ref := "CupFountain") (C := RX3) (T := TX3) (N := 10) (ci := 3) (v := .ref (q 0)) (pc := 94) hx hb hts hinX3 hown hz 0 rfl rfl 5 (by decide) L32 rfl rfl dX3_perform_94 ?_
      refine z_getm (own := RX3) (ref := "CupFountain$Plan") (C := RX1) (T := TX1) (N := 7) (ci := 1) (v := .int ((gQ g (nI tn) T.1) 5)) (pc := 97) hx hb hts hinX1 hown hz wF_mpl rfl 5 (by decide) L92 rfl rfl dX3_perform_97 ?_
      refine z_top (y := nI tn) rfl ?_
      refine z_runV (pc := 100) (As := [.int (nI tn)]) (rest := []) (ws1 := wF ca o pa (recFf f n (nI tn)) (recSa sa n (nI tn)) (recSp (va_up (va_up sp 2 (sp 0)) 0 (kI T (sp 0) tn)) n (nI tn)) (recSz (va_up sz 0 (kIz T (sp 0) (sz 0) tn)) n (nI tn)) q (gQ g (nI tn) T.1) tx T.2.1 T.2.2.1 T.2.2.2) ⟨hx, hb, hml, hown, hts⟩ (k_X3_recorded l G ca o pa f sa (va_up (va_up sp 2 (sp 0)) 0 (kI T (sp 0) tn)) (va_up sz 0 (kIz T (sp 0) (sz 0) tn)) q (gQ g (nI tn) T.1) tx T.2.1 T.2.2.1 T.2.2.2 n hn hf6 (nI tn) hci.bb) (cwV 1 hts (zgoodV zsub wq_6_3 wq_6_4 wq_6_5 wq_1_2 wq_6_6) rfl rfl rfl hdV_X3_recorded ⟨Nat.le_of_ble_eq_true rfl, Nat.le_of_ble_eq_true rfl⟩) hz [] zp_all zp_all' rfl rfl rfl hl.1 (Nat.le_of_ble_eq_true rfl) (st1 := [.int (nI tn)]) rfl dX3_perform_100 ⟨Nat.zero_le _, Nat.zero_le _⟩ (fun H locs hz => ?_)
      exact z_iret (pc := 103) hx hb hr hlk hQ hz dX3_perform_103 (by rfl) (by rfl)
    | succ cnt ih =>
      intro i hk9 H locs ls hz hl
      have hk : i < tn := by omega
      have hi : i < tn := by omega
      refine lv_iload_n (pc := 31) hx hb dX3_perform_31 rfl (lv_at hl 0 rfl) ?_
      refine lv_aload_n (pc := 32) hx hb dX3_perform_32 rfl (lv_at hl 1 rfl) ?_
      refine z_get (own := RX3) (ref := "CupFountain") (C := RX3) (T := TX3) (N := 10) (ci := 3) (v := .ref (q 0)) (pc := 33) hx hb hts hinX3 hown hz 0 rfl rfl 5 (by decide) L32 rfl rfl dX3_perform_33 ?_
      refine z_getm (own := RX3) (ref := "CupFountain$Plan") (C := RX1) (T := TX1) (N := 7) (ci := 1) (v := .int ((gQ g (nI tn) T.1) 5)) (pc := 36) hx hb hts hinX1 hown hz wF_mpl rfl 5 (by decide) L92 rfl rfl dX3_perform_36 ?_
      refine z_top (y := nI tn) rfl ?_
      refine lv_icmp_ge (pc := 39) (tgt := 92) hx hb dX3_perform_39 (by decide) (fun c9 => absurd c9 (nI_ge hk (by omega))) (fun c_39 => ?_)
      refine lv_aload_n (pc := 42) hx hb dX3_perform_42 rfl (lv_at hl 1 rfl) ?_
      refine z_get (own := RX3) (ref := "CupFountain") (C := RX3) (T := TX3) (N := 10) (ci := 3) (v := .ref (q 0)) (pc := 43) hx hb hts hinX3 hown hz 0 rfl rfl 5 (by decide) L32 rfl rfl dX3_perform_43 ?_
      refine lv_iload_n (pc := 46) hx hb dX3_perform_46 rfl (lv_at hl 0 rfl) ?_
      refine lv_aload_n (pc := 47) hx hb dX3_perform_47 rfl (lv_at hl 1 rfl) ?_
      refine z_get (own := RX3) (ref := "CupFountain") (C := RX3) (T := TX3) (N := 10) (ci := 3) (v := .ref (sa 0 0)) (pc := 48) hx hb hts hinX3 hown hz 0 rfl rfl 0 (by decide) L10 rfl rfl dX3_perform_48 ?_
      refine z_runV (pc := 51) (As := [.int (nI i), .ref (sa 0 0)]) (rest := []) (ws1 := wF ca o pa f sa (va_up (va_up sp 2 (sp 0)) 0 ((kDoP ((kI T (sp 0) i).1, (kI T (sp 0) i).2) (T.2.1 i) (T.2.2.1 i) (T.2.2.2 i)).1, (kDoP ((kI T (sp 0) i).1, (kI T (sp 0) i).2) (T.2.1 i) (T.2.2.1 i) (T.2.2.2 i)).2)) (va_up sz 0 (kDoZ ((kI T (sp 0) i).1, (kI T (sp 0) i).2) (kIz T (sp 0) (sz 0) i) (T.2.1 i) (T.2.2.2 i))) q (gQ g (nI tn) T.1) tx T.2.1 T.2.2.1 T.2.2.2) ⟨hx, hb, hml, hown, hts⟩ (k_X1_doThing l G ca q (gQ g (nI tn) T.1) tx T.2.1 T.2.2.1 T.2.2.2 (sa 0) ((kI T (sp 0) i).1) ((kI T (sp 0) i).2) (kIz T (sp 0) (sz 0) i) i (by omega) (hci.things i).nx (hci.things i).bb) (cwV 2 hts (zgoodV zsub wq_18_3 wq_18_4 wq_18_5 wq_1_22 wq_18_6) rfl rfl rfl hdV_X1_doThing ⟨Nat.le_of_ble_eq_true rfl, Nat.le_of_ble_eq_true rfl⟩) hz (wFs ca o pa f (pfS sa) sa (va_up (va_up sp 2 (sp 0)) 0 (kI T (sp 0) i)) (va_up sz 0 (kIz T (sp 0) (sz 0) i)) (q 0) 0) (wF_ps (sp := (va_up (va_up sp 2 (sp 0)) 0 (kI T (sp 0) i))) (sz := (va_up sz 0 (kIz T (sp 0) (sz 0) i))) (i := 0) (by decide)) (wF_ps1 (sp := (va_up (va_up sp 2 (sp 0)) 0 (kI T (sp 0) i))) (sz := (va_up sz 0 (kIz T (sp 0) (sz 0) i))) (sp' := (va_up (va_up sp 2 (sp 0)) 0 ((kDoP ((kI T (sp 0) i).1, (kI T (sp 0) i).2) (T.2.1 i) (T.2.2.1 i) (T.2.2.2 i)).1, (kDoP ((kI T (sp 0) i).1, (kI T (sp 0) i).2) (T.2.1 i) (T.2.2.1 i) (T.2.2.2 i)).2))) (sz' := (va_up sz 0 (kDoZ ((kI T (sp 0) i).1, (kI T (sp 0) i).2) (kIz T (sp 0) (sz 0) i) (T.2.1 i) (T.2.2.2 i)))) (i := 0) (by decide) (fun j h9 => by simp only [vup_n h9]) (fun j h9 => by first | rfl | simp only [vup_n h9])) rfl rfl rfl hl.1 (Nat.le_of_ble_eq_true rfl) (st1 := [.int (kDoR ((kI T (sp 0) i).1, (kI T (sp 0) i).2) (T.2.1 i) (T.2.2.1 i) (T.2.2.2 i))]) rfl dX3_perform_51 ⟨Nat.zero_le _, Nat.zero_le _⟩ (fun H locs hz => ?_)
      refine z_top (y := kRi T (sp 0) i) rfl ?_
      refine lv_istore_n (lv' := [(3, .int (kRi T (sp 0) i)), (2, .int (nI i)), (0, .ref o)]) (pc := 54) hx hb dX3_perform_54 rfl hl (by decide) rfl (fun ls hl => ?_)
      refine lv_iload_n (pc := 55) hx hb dX3_perform_55 rfl (lv_at hl 0 rfl) ?_
      refine z_runS (pc := 56) (As := [.int (kRi T (sp 0) i)]) (rest := []) (ws1 := wF ca o pa f sa (va_up (va_up sp 2 (sp 0)) 0 ((kDoP ((kI T (sp 0) i).1, (kI T (sp 0) i).2) (T.2.1 i) (T.2.2.1 i) (T.2.2.2 i)).1, (kDoP ((kI T (sp 0) i).1, (kI T (sp 0) i).2) (T.2.1 i) (T.2.2.1 i) (T.2.2.2 i)).2)) (va_up sz 0 (kDoZ ((kI T (sp 0) i).1, (kI T (sp 0) i).2) (kIz T (sp 0) (sz 0) i) (T.2.1 i) (T.2.2.2 i))) q (gQ g (nI tn) T.1) tx T.2.1 T.2.2.1 T.2.2.2) ⟨hx, hb, hml, hown, hts⟩ (k_X3_isError l G ca (kRi T (sp 0) i)) (cwS 1 hts (zgoodS zsub wq_18_12 wq_18_13 wq_1_2 wq_18_14) rfl rfl rfl hdV_X3_isError ⟨Nat.le_of_ble_eq_true rfl, Nat.le_of_ble_eq_true rfl⟩) hz (wF ca o pa f sa (va_up (va_up sp 2 (sp 0)) 0 ((kDoP ((kI T (sp 0) i).1, (kI T (sp 0) i).2) (T.2.1 i) (T.2.2.1 i) (T.2.2.2 i)).1, (kDoP ((kI T (sp 0) i).1, (kI T (sp 0) i).2) (T.2.1 i) (T.2.2.1 i) (T.2.2.2 i)).2)) (va_up sz 0 (kDoZ ((kI T (sp 0) i).1, (kI T (sp 0) i).2) (kIz T (sp 0) (sz 0) i) (T.2.1 i) (T.2.2.2 i))) q (gQ g (nI tn) T.1) tx T.2.1 T.2.2.1 T.2.2.2) zp_no (List.Perm.refl _) rfl hl.1 (Nat.le_of_ble_eq_true rfl) (st1 := [.int (errF (kRi T (sp 0) i))]) rfl dX3_perform_56 ⟨Nat.zero_le _, Nat.zero_le _⟩ (fun H locs hz => ?_)
      refine lv_if_eq (pc := 59) (tgt := 86) hx hb dX3_perform_59 (by decide) (fun c_59 => ?_) (fun c9 => absurd (hall i hi) c9)
      refine lv_iinc (v := nI (i + 1)) (lv' := [(2, .int (nI (i + 1))), (3, .int (kRi T (sp 0) i)), (0, .ref o)]) (pc := 86) hx hb dX3_perform_86 hl (k := 1) rfl (nI_add i 1) (by decide) rfl (fun ls hl => ?_)
      refine lv_goto (tgt := 31) (pc := 89) hx hb dX3_perform_89 (by decide) ?_
      exact ih (i + 1) (by omega) _ _ _ (hz.as (by rfl)) (lv_sub hl [0, 2] rfl)
  exact loop1 tn 0 (by omega) _ _ _ (hz.as (show _ = wF ca o pa f sa (va_up (va_up sp 2 (sp 0)) 0 (kI T (sp 0) 0)) (va_up sz 0 (kIz T (sp 0) (sz 0) 0)) q (gQ g (nI tn) T.1) tx T.2.1 T.2.2.1 T.2.2.2 from by rw [show kI T (sp 0) 0 = va_up sp 2 (sp 0) 0 from rfl, show kIz T (sp 0) (sz 0) 0 = sz 0 from rfl, vup_id, vup_id])) (lv_sub hl [0, 2] rfl)

set_option maxHeartbeats 4000000 in
set_option maxRecDepth 100000 in
theorem k_X3_perform_s (l : Launch) (G : va_G) (ca : Nat → ClassId) (o pa : Nat) (f : Nat → Int32) (sa : Nat → Nat → Nat) (sp : Nat → HC) (sz : Nat → Nat → Int32) (q : Nat → Nat) (g tx kd wh nu : Nat → Int32) (ln : Nat) (hln : ln ≤ 60) (hg1 : g 1 = nI ln) (R1 : Int32) (tn : Nat) (T : PQ) (hQX : qX tx ln (0, kd, wh, nu) = (R1, tn, T)) (hci : CI (sp 0)) (hR1 : R1 = -1) (htn : tn ≤ 60) (j0 : Nat) (hj0 : j0 < tn) (hok : ∀ j, j < j0 → errF (kRi T (sp 0) j) = 0) (herr : ¬ errF (kRi T (sp 0) j0) = 0) : Zc l G ca yX3_perform (zws yX3_perform cX3_perform 4 (some .int)) rm_X3_perform [.ref o] (wF ca o pa f sa sp sz q g tx kd wh nu) (some (.int (-4))) (wF ca o pa (upd (upd f 8 (nI j0)) 9 (kRi T (sp 0) j0)) sa (va_up (va_up sp 2 (sp 0)) 0 (sp 0)) (va_up sz 0 (kIz T (sp 0) (sz 0) (j0 + 1))) q (gQ g (nI tn) T.1) tx T.2.1 T.2.2.1 T.2.2.2) := by
  refine Zc.of (cc := cX3_perform) (maxL := 4) (ret := (some .int)) (by decide) rfl (Nat.le_of_ble_eq_true rfl) ?_
  intro pg ev s0 mt below meth cd A args Q ls hx hb hr hml hown hts hlk hQ hl hz
  have L10 : (Cond.fieldLink RX3 10 "CupFountain" "now" "LCupFountain$State;").before args s0 = true := hts _ (zsub _ wq_1_15)
  have L19 : (Cond.fieldLink RX3 19 "CupFountain" "before" "LCupFountain$State;").before args s0 = true := hts _ (zsub _ wq_1_17)
  have L32 : (Cond.fieldLink RX3 32 "CupFountain" "plan" "LCupFountain$Plan;").before args s0 = true := hts _ (zsub _ wq_1_23)
  have L44 : (Cond.fieldLink RX3 44 "CupFountain" "stopNumber" "I").before args s0 = true := hts _ (zsub _ wq_2_2)
  have L47 : (Cond.fieldLink RX3 47 "CupFountain" "stopError" "I").before args s0 = true := hts _ (zsub _ wq_2_3)
  have L92 : (Cond.fieldLink RX3 92 "CupFountain$Plan" "things" "I").before args s0 = true := hts _ (zsub _ wq_16_18)
  have hinX1 : ∀ w ∈ wsX10, w ∈ zws yX3_perform cX3_perform 4 (some .int) := fun w h => zsub w (wl_wsX10 w h)
  have hinX3 : ∀ w ∈ wsX30, w ∈ zws yX3_perform cX3_perform 4 (some .int) := fun w h => zsub w (wl_wsX30 w h)
  have hl : lv_has ls 4 [(0, .ref o)] := hl
  refine lv_aload_n (pc := 0) hx hb dX3_perform_0 rfl (lv_at hl 0 rfl) ?_
  refine z_get (own := RX3) (ref := "CupFountain") (C := RX3) (T := TX3) (N := 10) (ci := 3) (v := .ref (q 0)) (pc := 1) hx hb hts hinX3 hown hz 0 rfl rfl 5 (by decide) L32 rfl rfl dX3_perform_1 ?_
  refine z_runV (pc := 4) (As := []) (rest := []) (ws1 := wF ca o pa f sa sp sz q (gQ g (nI (qX tx ln (0, kd, wh, nu)).2.1) (qX tx ln (0, kd, wh, nu)).2.2.1) tx ((qX tx ln (0, kd, wh, nu)).2.2.2.1) ((qX tx ln (0, kd, wh, nu)).2.2.2.2.1) ((qX tx ln (0, kd, wh, nu)).2.2.2.2.2)) ⟨hx, hb, hml, hown, hts⟩ (k_X1_read l G ca q g tx kd wh nu ln hln hg1) (cwV 0 hts (zgoodV zsub wq_16_19 wq_16_20 wq_16_21 wq_1_22 wq_16_22) rfl rfl rfl hdV_X1_read ⟨Nat.le_of_ble_eq_true rfl, Nat.le_of_ble_eq_true rfl⟩) hz (wFq ca o pa f (pfS sa) sa sp sz (q 0)) wF_pq wF_pq1 rfl rfl rfl hl.1 (Nat.le_of_ble_eq_true rfl) (st1 := [.int ((qX tx ln (0, kd, wh, nu)).1)]) rfl dX3_perform_4 ⟨Nat.zero_le _, Nat.zero_le _⟩ (fun H locs hz => ?_)
  rw [hQX] at hz
  have hz := hz.as (show _ = wF ca o pa f sa sp sz q (gQ g (nI tn) T.1) tx T.2.1 T.2.2.1 T.2.2.2 from rfl)
  refine z_top (y := R1) (by rw [hQX]) ?_
  refine lv_istore_n (lv' := [(1, .int R1), (0, .ref o)]) (pc := 7) hx hb dX3_perform_7 rfl hl (by decide) rfl (fun ls hl => ?_)
  refine lv_iload_n (pc := 8) hx hb dX3_perform_8 rfl (lv_at hl 0 rfl) ?_
  refine lv_iconst (v := -1) (pc := 9) hx hb dX3_perform_9 (by decide) ?_
  refine lv_icmp_eq (pc := 10) (tgt := 18) hx hb dX3_perform_10 (by decide) (fun c_10 => ?_) (fun c9 => absurd hR1 c9)
  refine lv_aload_n (pc := 18) hx hb dX3_perform_18 rfl (lv_at hl 1 rfl) ?_
  refine z_get (own := RX3) (ref := "CupFountain") (C := RX3) (T := TX3) (N := 10) (ci := 3) (v := .ref (sa 2 0)) (pc := 19) hx hb hts hinX3 hown hz 0 rfl rfl 2 (by decide) L19 rfl rfl dX3_perform_19 ?_
  refine lv_aload_n (pc := 22) hx hb dX3_perform_22 rfl (lv_at hl 1 rfl) ?_
  refine z_get (own := RX3) (ref := "CupFountain") (C := RX3) (T := TX3) (N := 10) (ci := 3) (v := .ref (sa 0 0)) (pc := 23) hx hb hts hinX3 hown hz 0 rfl rfl 0 (by decide) L10 rfl rfl dX3_perform_23 ?_
  refine z_runV (pc := 26) (As := [.ref (sa 0 0)]) (rest := []) (ws1 := wF ca o pa f sa (va_up sp 2 (sp 0)) sz q (gQ g (nI tn) T.1) tx T.2.1 T.2.2.1 T.2.2.2) ⟨hx, hb, hml, hown, hts⟩ (k_X2_copyFrom l G ca (sa 2) (sa 0) ((sp 2).1) ((sp 0).1) ((sp 2).2) ((sp 0).2) (sz 2) (sz 0) hci.bb) (cwV 1 hts (zgoodV zsub wq_4_21 wq_4_22 wq_4_23 wq_1_14 wq_5_0) rfl rfl rfl hdV_X2_copyFrom ⟨Nat.le_of_ble_eq_true rfl, Nat.le_of_ble_eq_true rfl⟩) hz (wFr2 ca o pa f (pfS sa) sa sp sz q (gQ g (nI tn) T.1) tx T.2.1 T.2.2.1 T.2.2.2 2 0) (wF_pm2 (sp := sp) (sz := sz) (i := 2) (j := 0) (by decide) (by decide) (by decide)) (wF_pm3 (sp := sp) (sz := sz) (i := 2) (j := 0) (by decide) (by decide) (by decide)) rfl rfl rfl hl.1 (Nat.le_of_ble_eq_true rfl) (st1 := []) rfl dX3_perform_26 ⟨Nat.zero_le _, Nat.zero_le _⟩ (fun H locs hz => ?_)
  refine lv_iconst (v := 0) (pc := 29) hx hb dX3_perform_29 (by decide) ?_
  refine lv_istore_n (lv' := [(2, .int 0), (1, .int R1), (0, .ref o)]) (pc := 30) hx hb dX3_perform_30 rfl hl (by decide) rfl (fun ls hl => ?_)
  have loop1 : ∀ cnt i : Nat, i + cnt = j0 → ∀ (H : Heap) (locs : List Loc) (ls : Array Slot), zw G ca A s0.heap s0 (wF ca o pa f sa (va_up (va_up sp 2 (sp 0)) 0 (kI T (sp 0) i)) (va_up sz 0 (kIz T (sp 0) (sz 0) i)) q (gQ g (nI tn) T.1) tx T.2.1 T.2.2.1 T.2.2.2) H locs → lv_has ls 4 [(2, .int (nI i)), (0, .ref o)] → W pg l ev rm_X3_perform s0 mt args below meth cd H locs 0 0 Q (F0 mt 31 ls []) := by
    intro cnt
    induction cnt with
    | zero =>
      intro i hk9 H locs ls hz hl
      obtain rfl : j0 = i := by omega
      refine lv_iload_n (pc := 31) hx hb dX3_perform_31 rfl (lv_at hl 0 rfl) ?_
      refine lv_aload_n (pc := 32) hx hb dX3_perform_32 rfl (lv_at hl 1 rfl) ?_
      refine z_get (own := RX3) (ref := "CupFountain") (C := RX3) (T := TX3) (N := 10) (ci := 3) (v := .ref (q 0)) (pc := 33) hx hb hts hinX3 hown hz 0 rfl rfl 5 (by decide) L32 rfl rfl dX3_perform_33 ?_
      refine z_getm (own := RX3) (ref := "CupFountain$Plan") (C := RX1) (T := TX1) (N := 7) (ci := 1) (v := .int ((gQ g (nI tn) T.1) 5)) (pc := 36) hx hb hts hinX1 hown hz wF_mpl rfl 5 (by decide) L92 rfl rfl dX3_perform_36 ?_
      refine z_top (y := nI tn) rfl ?_
      refine lv_icmp_ge (pc := 39) (tgt := 92) hx hb dX3_perform_39 (by decide) (fun c9 => absurd c9 (nI_ge hj0 (by omega))) (fun c_39 => ?_)
      refine lv_aload_n (pc := 42) hx hb dX3_perform_42 rfl (lv_at hl 1 rfl) ?_
      refine z_get (own := RX3) (ref := "CupFountain") (C := RX3) (T := TX3) (N := 10) (ci := 3) (v := .ref (q 0)) (pc := 43) hx hb hts hinX3 hown hz 0 rfl rfl 5 (by decide) L32 rfl rfl dX3_perform_43 ?_
      refine lv_iload_n (pc := 46) hx hb dX3_perform_46 rfl (lv_at hl 0 rfl) ?_
      refine lv_aload_n (pc := 47) hx hb dX3_perform_47 rfl (lv_at hl 1 rfl) ?_
      refine z_get (own := RX3) (ref := "CupFountain") (C := RX3) (T := TX3) (N := 10) (ci := 3) (v := .ref (sa 0 0)) (pc := 48) hx hb hts hinX3 hown hz 0 rfl rfl 0 (by decide) L10 rfl rfl dX3_perform_48 ?_
      refine z_runV (pc := 51) (As := [.int (nI j0), .ref (sa 0 0)]) (rest := []) (ws1 := wF ca o pa f sa (va_up (va_up sp 2 (sp 0)) 0 ((kDoP ((kI T (sp 0) j0).1, (kI T (sp 0) j0).2) (T.2.1 j0) (T.2.2.1 j0) (T.2.2.2 j0)).1, (kDoP ((kI T (sp 0) j0).1, (kI T (sp 0) j0).2) (T.2.1 j0) (T.2.2.1 j0) (T.2.2.2 j0)).2)) (va_up sz 0 (kDoZ ((kI T (sp 0) j0).1, (kI T (sp 0) j0).2) (kIz T (sp 0) (sz 0) j0) (T.2.1 j0) (T.2.2.2 j0))) q (gQ g (nI tn) T.1) tx T.2.1 T.2.2.1 T.2.2.2) ⟨hx, hb, hml, hown, hts⟩ (k_X1_doThing l G ca q (gQ g (nI tn) T.1) tx T.2.1 T.2.2.1 T.2.2.2 (sa 0) ((kI T (sp 0) j0).1) ((kI T (sp 0) j0).2) (kIz T (sp 0) (sz 0) j0) j0 (by omega) (hci.things j0).nx (hci.things j0).bb) (cwV 2 hts (zgoodV zsub wq_18_3 wq_18_4 wq_18_5 wq_1_22 wq_18_6) rfl rfl rfl hdV_X1_doThing ⟨Nat.le_of_ble_eq_true rfl, Nat.le_of_ble_eq_true rfl⟩) hz (wFs ca o pa f (pfS sa) sa (va_up (va_up sp 2 (sp 0)) 0 (kI T (sp 0) j0)) (va_up sz 0 (kIz T (sp 0) (sz 0) j0)) (q 0) 0) (wF_ps (sp := (va_up (va_up sp 2 (sp 0)) 0 (kI T (sp 0) j0))) (sz := (va_up sz 0 (kIz T (sp 0) (sz 0) j0))) (i := 0) (by decide)) (wF_ps1 (sp := (va_up (va_up sp 2 (sp 0)) 0 (kI T (sp 0) j0))) (sz := (va_up sz 0 (kIz T (sp 0) (sz 0) j0))) (sp' := (va_up (va_up sp 2 (sp 0)) 0 ((kDoP ((kI T (sp 0) j0).1, (kI T (sp 0) j0).2) (T.2.1 j0) (T.2.2.1 j0) (T.2.2.2 j0)).1, (kDoP ((kI T (sp 0) j0).1, (kI T (sp 0) j0).2) (T.2.1 j0) (T.2.2.1 j0) (T.2.2.2 j0)).2))) (sz' := (va_up sz 0 (kDoZ ((kI T (sp 0) j0).1, (kI T (sp 0) j0).2) (kIz T (sp 0) (sz 0) j0) (T.2.1 j0) (T.2.2.2 j0)))) (i := 0) (by decide) (fun j h9 => by simp only [vup_n h9]) (fun j h9 => by first | rfl | simp only [vup_n h9])) rfl rfl rfl hl.1 (Nat.le_of_ble_eq_true rfl) (st1 := [.int (kDoR ((kI T (sp 0) j0).1, (kI T (sp 0) j0).2) (T.2.1 j0) (T.2.2.1 j0) (T.2.2.2 j0))]) rfl dX3_perform_51 ⟨Nat.zero_le _, Nat.zero_le _⟩ (fun H locs hz => ?_)
      refine z_top (y := kRi T (sp 0) j0) rfl ?_
      refine lv_istore_n (lv' := [(3, .int (kRi T (sp 0) j0)), (2, .int (nI j0)), (0, .ref o)]) (pc := 54) hx hb dX3_perform_54 rfl hl (by decide) rfl (fun ls hl => ?_)
      refine lv_iload_n (pc := 55) hx hb dX3_perform_55 rfl (lv_at hl 0 rfl) ?_
      refine z_runS (pc := 56) (As := [.int (kRi T (sp 0) j0)]) (rest := []) (ws1 := wF ca o pa f sa (va_up (va_up sp 2 (sp 0)) 0 ((kDoP ((kI T (sp 0) j0).1, (kI T (sp 0) j0).2) (T.2.1 j0) (T.2.2.1 j0) (T.2.2.2 j0)).1, (kDoP ((kI T (sp 0) j0).1, (kI T (sp 0) j0).2) (T.2.1 j0) (T.2.2.1 j0) (T.2.2.2 j0)).2)) (va_up sz 0 (kDoZ ((kI T (sp 0) j0).1, (kI T (sp 0) j0).2) (kIz T (sp 0) (sz 0) j0) (T.2.1 j0) (T.2.2.2 j0))) q (gQ g (nI tn) T.1) tx T.2.1 T.2.2.1 T.2.2.2) ⟨hx, hb, hml, hown, hts⟩ (k_X3_isError l G ca (kRi T (sp 0) j0)) (cwS 1 hts (zgoodS zsub wq_18_12 wq_18_13 wq_1_2 wq_18_14) rfl rfl rfl hdV_X3_isError ⟨Nat.le_of_ble_eq_true rfl, Nat.le_of_ble_eq_true rfl⟩) hz (wF ca o pa f sa (va_up (va_up sp 2 (sp 0)) 0 ((kDoP ((kI T (sp 0) j0).1, (kI T (sp 0) j0).2) (T.2.1 j0) (T.2.2.1 j0) (T.2.2.2 j0)).1, (kDoP ((kI T (sp 0) j0).1, (kI T (sp 0) j0).2) (T.2.1 j0) (T.2.2.1 j0) (T.2.2.2 j0)).2)) (va_up sz 0 (kDoZ ((kI T (sp 0) j0).1, (kI T (sp 0) j0).2) (kIz T (sp 0) (sz 0) j0) (T.2.1 j0) (T.2.2.2 j0))) q (gQ g (nI tn) T.1) tx T.2.1 T.2.2.1 T.2.2.2) zp_no (List.Perm.refl _) rfl hl.1 (Nat.le_of_ble_eq_true rfl) (st1 := [.int (errF (kRi T (sp 0) j0))]) rfl dX3_perform_56 ⟨Nat.zero_le _, Nat.zero_le _⟩ (fun H locs hz => ?_)
      refine lv_if_eq (pc := 59) (tgt := 86) hx hb dX3_perform_59 (by decide) (fun c9 => absurd c9 herr) (fun c_59 => ?_)
      refine lv_aload_n (pc := 62) hx hb dX3_perform_62 rfl (lv_at hl 2 rfl) ?_
      refine lv_iload_n (pc := 63) hx hb dX3_perform_63 rfl (lv_at hl 1 rfl) ?_
      refine z_put (own := RX3) (ref := "CupFountain") (C := RX3) (T := TX3) (N := 10) (ci := 3) (v := .int (nI j0)) (ws1 := wF ca o pa (upd f 8 (nI j0)) sa (va_up (va_up sp 2 (sp 0)) 0 ((kDoP ((kI T (sp 0) j0).1, (kI T (sp 0) j0).2) (T.2.1 j0) (T.2.2.1 j0) (T.2.2.2 j0)).1, (kDoP ((kI T (sp 0) j0).1, (kI T (sp 0) j0).2) (T.2.1 j0) (T.2.2.1 j0) (T.2.2.2 j0)).2)) (va_up sz 0 (kDoZ ((kI T (sp 0) j0).1, (kI T (sp 0) j0).2) (kIz T (sp 0) (sz 0) j0) (T.2.1 j0) (T.2.2.2 j0))) q (gQ g (nI tn) T.1) tx T.2.1 T.2.2.1 T.2.2.2) (pc := 64) hx hb hts hinX3 tyX3 tyX3_ok nmX3 hown hz 0 rfl rfl 8 (by decide) L44 rfl rfl rfl rfl (Nat.le_of_ble_eq_true rfl) rfl dX3_perform_64 (fun H locs hz => ?_)
      refine lv_aload_n (pc := 67) hx hb dX3_perform_67 rfl (lv_at hl 2 rfl) ?_
      refine lv_iload_n (pc := 68) hx hb dX3_perform_68 rfl (lv_at hl 0 rfl) ?_
      refine z_put (own := RX3) (ref := "CupFountain") (C := RX3) (T := TX3) (N := 10) (ci := 3) (v := .int (kRi T (sp 0) j0)) (ws1 := wF ca o pa (upd (upd f 8 (nI j0)) 9 (kRi T (sp 0) j0)) sa (va_up (va_up sp 2 (sp 0)) 0 ((kDoP ((kI T (sp 0) j0).1, (kI T (sp 0) j0).2) (T.2.1 j0) (T.2.2.1 j0) (T.2.2.2 j0)).1, (kDoP ((kI T (sp 0) j0).1, (kI T (sp 0) j0).2) (T.2.1 j0) (T.2.2.1 j0) (T.2.2.2 j0)).2)) (va_up sz 0 (kDoZ ((kI T (sp 0) j0).1, (kI T (sp 0) j0).2) (kIz T (sp 0) (sz 0) j0) (T.2.1 j0) (T.2.2.2 j0))) q (gQ g (nI tn) T.1) tx T.2.1 T.2.2.1 T.2.2.2) (pc := 69) hx hb hts hinX3 tyX3 tyX3_ok nmX3 hown hz 0 rfl rfl 9 (by decide) L47 rfl rfl rfl rfl (Nat.le_of_ble_eq_true rfl) rfl dX3_perform_69 (fun H locs hz => ?_)
      refine lv_aload_n (pc := 72) hx hb dX3_perform_72 rfl (lv_at hl 2 rfl) ?_
      refine z_get (own := RX3) (ref := "CupFountain") (C := RX3) (T := TX3) (N := 10) (ci := 3) (v := .ref (sa 0 0)) (pc := 73) hx hb hts hinX3 hown hz 0 rfl rfl 0 (by decide) L10 rfl rfl dX3_perform_73 ?_
      refine lv_aload_n (pc := 76) hx hb dX3_perform_76 rfl (lv_at hl 2 rfl) ?_
      refine z_get (own := RX3) (ref := "CupFountain") (C := RX3) (T := TX3) (N := 10) (ci := 3) (v := .ref (sa 2 0)) (pc := 77) hx hb hts hinX3 hown hz 0 rfl rfl 2 (by decide) L19 rfl rfl dX3_perform_77 ?_
      refine z_runV (pc := 80) (As := [.ref (sa 2 0)]) (rest := []) (ws1 := wF ca o pa (upd (upd f 8 (nI j0)) 9 (kRi T (sp 0) j0)) sa (va_up (va_up sp 2 (sp 0)) 0 (sp 0)) (va_up sz 0 (kDoZ ((kI T (sp 0) j0).1, (kI T (sp 0) j0).2) (kIz T (sp 0) (sz 0) j0) (T.2.1 j0) (T.2.2.2 j0))) q (gQ g (nI tn) T.1) tx T.2.1 T.2.2.1 T.2.2.2) ⟨hx, hb, hml, hown, hts⟩ (k_X2_copyFrom l G ca (sa 0) (sa 2) ((kDoP ((kI T (sp 0) j0).1, (kI T (sp 0) j0).2) (T.2.1 j0) (T.2.2.1 j0) (T.2.2.2 j0)).1) ((sp 0).1) ((kDoP ((kI T (sp 0) j0).1, (kI T (sp 0) j0).2) (T.2.1 j0) (T.2.2.1 j0) (T.2.2.2 j0)).2) ((sp 0).2) (kDoZ ((kI T (sp 0) j0).1, (kI T (sp 0) j0).2) (kIz T (sp 0) (sz 0) j0) (T.2.1 j0) (T.2.2.2 j0)) (sz 2) hci.bb) (cwV 1 hts (zgoodV zsub wq_4_21 wq_4_22 wq_4_23 wq_1_14 wq_5_0) rfl rfl rfl hdV_X2_copyFrom ⟨Nat.le_of_ble_eq_true rfl, Nat.le_of_ble_eq_true rfl⟩) hz (wFr2 ca o pa (upd (upd f 8 (nI j0)) 9 (kRi T (sp 0) j0)) (pfS sa) sa (va_up (va_up sp 2 (sp 0)) 0 ((kDoP ((kI T (sp 0) j0).1, (kI T (sp 0) j0).2) (T.2.1 j0) (T.2.2.1 j0) (T.2.2.2 j0)).1, (kDoP ((kI T (sp 0) j0).1, (kI T (sp 0) j0).2) (T.2.1 j0) (T.2.2.1 j0) (T.2.2.2 j0)).2)) (va_up sz 0 (kDoZ ((kI T (sp 0) j0).1, (kI T (sp 0) j0).2) (kIz T (sp 0) (sz 0) j0) (T.2.1 j0) (T.2.2.2 j0))) q (gQ g (nI tn) T.1) tx T.2.1 T.2.2.1 T.2.2.2 0 2) (wF_pm2 (sp := (va_up (va_up sp 2 (sp 0)) 0 ((kDoP ((kI T (sp 0) j0).1, (kI T (sp 0) j0).2) (T.2.1 j0) (T.2.2.1 j0) (T.2.2.2 j0)).1, (kDoP ((kI T (sp 0) j0).1, (kI T (sp 0) j0).2) (T.2.1 j0) (T.2.2.1 j0) (T.2.2.2 j0)).2))) (sz := (va_up sz 0 (kDoZ ((kI T (sp 0) j0).1, (kI T (sp 0) j0).2) (kIz T (sp 0) (sz 0) j0) (T.2.1 j0) (T.2.2.2 j0)))) (i := 0) (j := 2) (by decide) (by decide) (by decide)) (wF_pm3u (sp := (va_up sp 2 (sp 0))) (sz := (va_up sz 0 (kDoZ ((kI T (sp 0) j0).1, (kI T (sp 0) j0).2) (kIz T (sp 0) (sz 0) j0) (T.2.1 j0) (T.2.2.2 j0)))) (i := 0) (j := 2) (by decide) (by decide) (by decide)) rfl rfl rfl hl.1 (Nat.le_of_ble_eq_true rfl) (st1 := []) rfl dX3_perform_80 ⟨Nat.zero_le _, Nat.zero_le _⟩ (fun H locs hz => ?_)
      refine lv_bipush (v := -4) (pc := 83) hx hb dX3_perform_83 (by decide) ?_
      exact z_iret (pc := 85) hx hb hr hlk hQ hz dX3_perform_85 (by rfl) (by rfl)
    | succ cnt ih =>
      intro i hk9 H locs ls hz hl
      have hk : i < j0 := by omega
      have hi : i < tn := by omega
      refine lv_iload_n (pc := 31) hx hb dX3_perform_31 rfl (lv_at hl 0 rfl) ?_
      refine lv_aload_n (pc := 32) hx hb dX3_perform_32 rfl (lv_at hl 1 rfl) ?_
      refine z_get (own := RX3) (ref := "CupFountain") (C := RX3) (T := TX3) (N := 10) (ci := 3) (v := .ref (q 0)) (pc := 33) hx hb hts hinX3 hown hz 0 rfl rfl 5 (by decide) L32 rfl rfl dX3_perform_33 ?_
      refine z_getm (own := RX3) (ref := "CupFountain$Plan") (C := RX1) (T := TX1) (N := 7) (ci := 1) (v := .int ((gQ g (nI tn) T.1) 5)) (pc := 36) hx hb hts hinX1 hown hz wF_mpl rfl 5 (by decide) L92 rfl rfl dX3_perform_36 ?_
      refine z_top (y := nI tn) rfl ?_
      refine lv_icmp_ge (pc := 39) (tgt := 92) hx hb dX3_perform_39 (by decide) (fun c9 => absurd c9 (nI_ge hi (by omega))) (fun c_39 => ?_)
      refine lv_aload_n (pc := 42) hx hb dX3_perform_42 rfl (lv_at hl 1 rfl) ?_
      refine z_get (own := RX3) (ref := "CupFountain") (C := RX3) (T := TX3) (N := 10) (ci := 3) (v := .ref (q 0)) (pc := 43) hx hb hts hinX3 hown hz 0 rfl rfl 5 (by decide) L32 rfl rfl dX3_perform_43 ?_
      refine lv_iload_n (pc := 46) hx hb dX3_perform_46 rfl (lv_at hl 0 rfl) ?_
      refine lv_aload_n (pc := 47) hx hb dX3_perform_47 rfl (lv_at hl 1 rfl) ?_
      refine z_get (own := RX3) (ref := "CupFountain") (C := RX3) (T := TX3) (N := 10) (ci := 3) (v := .ref (sa 0 0)) (pc := 48) hx hb hts hinX3 hown hz 0 rfl rfl 0 (by decide) L10 rfl rfl dX3_perform_48 ?_
      refine z_runV (pc := 51) (As := [.int (nI i), .ref (sa 0 0)]) (rest := []) (ws1 := wF ca o pa f sa (va_up (va_up sp 2 (sp 0)) 0 ((kDoP ((kI T (sp 0) i).1, (kI T (sp 0) i).2) (T.2.1 i) (T.2.2.1 i) (T.2.2.2 i)).1, (kDoP ((kI T (sp 0) i).1, (kI T (sp 0) i).2) (T.2.1 i) (T.2.2.1 i) (T.2.2.2 i)).2)) (va_up sz 0 (kDoZ ((kI T (sp 0) i).1, (kI T (sp 0) i).2) (kIz T (sp 0) (sz 0) i) (T.2.1 i) (T.2.2.2 i))) q (gQ g (nI tn) T.1) tx T.2.1 T.2.2.1 T.2.2.2) ⟨hx, hb, hml, hown, hts⟩ (k_X1_doThing l G ca q (gQ g (nI tn) T.1) tx T.2.1 T.2.2.1 T.2.2.2 (sa 0) ((kI T (sp 0) i).1) ((kI T (sp 0) i).2) (kIz T (sp 0) (sz 0) i) i (by omega) (hci.things i).nx (hci.things i).bb) (cwV 2 hts (zgoodV zsub wq_18_3 wq_18_4 wq_18_5 wq_1_22 wq_18_6) rfl rfl rfl hdV_X1_doThing ⟨Nat.le_of_ble_eq_true rfl, Nat.le_of_ble_eq_true rfl⟩) hz (wFs ca o pa f (pfS sa) sa (va_up (va_up sp 2 (sp 0)) 0 (kI T (sp 0) i)) (va_up sz 0 (kIz T (sp 0) (sz 0) i)) (q 0) 0) (wF_ps (sp := (va_up (va_up sp 2 (sp 0)) 0 (kI T (sp 0) i))) (sz := (va_up sz 0 (kIz T (sp 0) (sz 0) i))) (i := 0) (by decide)) (wF_ps1 (sp := (va_up (va_up sp 2 (sp 0)) 0 (kI T (sp 0) i))) (sz := (va_up sz 0 (kIz T (sp 0) (sz 0) i))) (sp' := (va_up (va_up sp 2 (sp 0)) 0 ((kDoP ((kI T (sp 0) i).1, (kI T (sp 0) i).2) (T.2.1 i) (T.2.2.1 i) (T.2.2.2 i)).1, (kDoP ((kI T (sp 0) i).1, (kI T (sp 0) i).2) (T.2.1 i) (T.2.2.1 i) (T.2.2.2 i)).2))) (sz' := (va_up sz 0 (kDoZ ((kI T (sp 0) i).1, (kI T (sp 0) i).2) (kIz T (sp 0) (sz 0) i) (T.2.1 i) (T.2.2.2 i)))) (i := 0) (by decide) (fun j h9 => by simp only [vup_n h9]) (fun j h9 => by first | rfl | simp only [vup_n h9])) rfl rfl rfl hl.1 (Nat.le_of_ble_eq_true rfl) (st1 := [.int (kDoR ((kI T (sp 0) i).1, (kI T (sp 0) i).2) (T.2.1 i) (T.2.2.1 i) (T.2.2.2 i))]) rfl dX3_perform_51 ⟨Nat.zero_le _, Nat.zero_le _⟩ (fun H locs hz => ?_)
      refine z_top (y := kRi T (sp 0) i) rfl ?_
      refine lv_istore_n (lv' := [(3, .int (kRi T (sp 0) i)), (2, .int (nI i)), (0, .ref o)]) (pc := 54) hx hb dX3_perform_54 rfl hl (by decide) rfl (fun ls hl => ?_)
      refine lv_iload_n (pc := 55) hx hb dX3_perform_55 rfl (lv_at hl 0 rfl) ?_
      refine z_runS (pc := 56) (As := [.int (kRi T (sp 0) i)]) (rest := []) (ws1 := wF ca o pa f sa (va_up (va_up sp 2 (sp 0)) 0 ((kDoP ((kI T (sp 0) i).1, (kI T (sp 0) i).2) (T.2.1 i) (T.2.2.1 i) (T.2.2.2 i)).1, (kDoP ((kI T (sp 0) i).1, (kI T (sp 0) i).2) (T.2.1 i) (T.2.2.1 i) (T.2.2.2 i)).2)) (va_up sz 0 (kDoZ ((kI T (sp 0) i).1, (kI T (sp 0) i).2) (kIz T (sp 0) (sz 0) i) (T.2.1 i) (T.2.2.2 i))) q (gQ g (nI tn) T.1) tx T.2.1 T.2.2.1 T.2.2.2) ⟨hx, hb, hml, hown, hts⟩ (k_X3_isError l G ca (kRi T (sp 0) i)) (cwS 1 hts (zgoodS zsub wq_18_12 wq_18_13 wq_1_2 wq_18_14) rfl rfl rfl hdV_X3_isError ⟨Nat.le_of_ble_eq_true rfl, Nat.le_of_ble_eq_true rfl⟩) hz (wF ca o pa f sa (va_up (va_up sp 2 (sp 0)) 0 ((kDoP ((kI T (sp 0) i).1, (kI T (sp 0) i).2) (T.2.1 i) (T.2.2.1 i) (T.2.2.2 i)).1, (kDoP ((kI T (sp 0) i).1, (kI T (sp 0) i).2) (T.2.1 i) (T.2.2.1 i) (T.2.2.2 i)).2)) (va_up sz 0 (kDoZ ((kI T (sp 0) i).1, (kI T (sp 0) i).2) (kIz T (sp 0) (sz 0) i) (T.2.1 i) (T.2.2.2 i))) q (gQ g (nI tn) T.1) tx T.2.1 T.2.2.1 T.2.2.2) zp_no (List.Perm.refl _) rfl hl.1 (Nat.le_of_ble_eq_true rfl) (st1 := [.int (errF (kRi T (sp 0) i))]) rfl dX3_perform_56 ⟨Nat.zero_le _, Nat.zero_le _⟩ (fun H locs hz => ?_)
      refine lv_if_eq (pc := 59) (tgt := 86) hx hb dX3_perform_59 (by decide) (fun c_59 => ?_) (fun c9 => absurd (hok i hk) c9)
      refine lv_iinc (v := nI (i + 1)) (lv' := [(2, .int (nI (i + 1))), (3, .int (kRi T (sp 0) i)), (0, .ref o)]) (pc := 86) hx hb dX3_perform_86 hl (k := 1) rfl (nI_add i 1) (by decide) rfl (fun ls hl => ?_)
      refine lv_goto (tgt := 31) (pc := 89) hx hb dX3_perform_89 (by decide) ?_
      exact ih (i + 1) (by omega) _ _ _ (hz.as (by rfl)) (lv_sub hl [0, 2] rfl)
  exact loop1 j0 0 (by omega) _ _ _ (hz.as (show _ = wF ca o pa f sa (va_up (va_up sp 2 (sp 0)) 0 (kI T (sp 0) 0)) (va_up sz 0 (kIz T (sp 0) (sz 0) 0)) q (gQ g (nI tn) T.1) tx T.2.1 T.2.2.1 T.2.2.2 from by rw [show kI T (sp 0) 0 = va_up sp 2 (sp 0) 0 from rfl, show kIz T (sp 0) (sz 0) 0 = sz 0 from rfl, vup_id, vup_id])) (lv_sub hl [0, 2] rfl)

set_option maxHeartbeats 4000000 in
set_option maxRecDepth 100000 in
theorem k_X3_perform_f (l : Launch) (G : va_G) (ca : Nat → ClassId) (o pa : Nat) (f : Nat → Int32) (sa : Nat → Nat → Nat) (sp : Nat → HC) (sz : Nat → Nat → Int32) (q : Nat → Nat) (g tx kd wh nu : Nat → Int32) (ln : Nat) (hln : ln ≤ 60) (hg1 : g 1 = nI ln) (R1 : Int32) (tn : Nat) (T : PQ) (hQX : qX tx ln (0, kd, wh, nu) = (R1, tn, T)) (hR1 : ¬ R1 = -1) : Zc l G ca yX3_perform (zws yX3_perform cX3_perform 4 (some .int)) rm_X3_perform [.ref o] (wF ca o pa f sa sp sz q g tx kd wh nu) (some (.int (-100 - R1))) (wF ca o pa f sa sp sz q (gQ g (nI tn) T.1) tx T.2.1 T.2.2.1 T.2.2.2) := by
  refine Zc.of (cc := cX3_perform) (maxL := 4) (ret := (some .int)) (by decide) rfl (Nat.le_of_ble_eq_true rfl) ?_
  intro pg ev s0 mt below meth cd A args Q ls hx hb hr hml hown hts hlk hQ hl hz
  have L32 : (Cond.fieldLink RX3 32 "CupFountain" "plan" "LCupFountain$Plan;").before args s0 = true := hts _ (zsub _ wq_1_23)
  have hinX3 : ∀ w ∈ wsX30, w ∈ zws yX3_perform cX3_perform 4 (some .int) := fun w h => zsub w (wl_wsX30 w h)
  have hl : lv_has ls 4 [(0, .ref o)] := hl
  refine lv_aload_n (pc := 0) hx hb dX3_perform_0 rfl (lv_at hl 0 rfl) ?_
  refine z_get (own := RX3) (ref := "CupFountain") (C := RX3) (T := TX3) (N := 10) (ci := 3) (v := .ref (q 0)) (pc := 1) hx hb hts hinX3 hown hz 0 rfl rfl 5 (by decide) L32 rfl rfl dX3_perform_1 ?_
  refine z_runV (pc := 4) (As := []) (rest := []) (ws1 := wF ca o pa f sa sp sz q (gQ g (nI (qX tx ln (0, kd, wh, nu)).2.1) (qX tx ln (0, kd, wh, nu)).2.2.1) tx ((qX tx ln (0, kd, wh, nu)).2.2.2.1) ((qX tx ln (0, kd, wh, nu)).2.2.2.2.1) ((qX tx ln (0, kd, wh, nu)).2.2.2.2.2)) ⟨hx, hb, hml, hown, hts⟩ (k_X1_read l G ca q g tx kd wh nu ln hln hg1) (cwV 0 hts (zgoodV zsub wq_16_19 wq_16_20 wq_16_21 wq_1_22 wq_16_22) rfl rfl rfl hdV_X1_read ⟨Nat.le_of_ble_eq_true rfl, Nat.le_of_ble_eq_true rfl⟩) hz (wFq ca o pa f (pfS sa) sa sp sz (q 0)) wF_pq wF_pq1 rfl rfl rfl hl.1 (Nat.le_of_ble_eq_true rfl) (st1 := [.int ((qX tx ln (0, kd, wh, nu)).1)]) rfl dX3_perform_4 ⟨Nat.zero_le _, Nat.zero_le _⟩ (fun H locs hz => ?_)
  rw [hQX] at hz
  have hz := hz.as (show _ = wF ca o pa f sa sp sz q (gQ g (nI tn) T.1) tx T.2.1 T.2.2.1 T.2.2.2 from rfl)
  refine z_top (y := R1) (by rw [hQX]) ?_
  refine lv_istore_n (lv' := [(1, .int R1), (0, .ref o)]) (pc := 7) hx hb dX3_perform_7 rfl hl (by decide) rfl (fun ls hl => ?_)
  refine lv_iload_n (pc := 8) hx hb dX3_perform_8 rfl (lv_at hl 0 rfl) ?_
  refine lv_iconst (v := -1) (pc := 9) hx hb dX3_perform_9 (by decide) ?_
  refine lv_icmp_eq (pc := 10) (tgt := 18) hx hb dX3_perform_10 (by decide) (fun c9 => absurd c9 hR1) (fun c_10 => ?_)
  refine lv_bipush (v := -100) (pc := 13) hx hb dX3_perform_13 (by decide) ?_
  refine lv_iload_n (pc := 15) hx hb dX3_perform_15 rfl (lv_at hl 0 rfl) ?_
  refine lv_isub (pc := 16) hx hb dX3_perform_16 ?_
  exact z_iret (pc := 17) hx hb hr hlk hQ hz dX3_perform_17 (by rfl) (by rfl)
