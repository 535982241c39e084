def rm_X4_perform : Room := { frames := 7, cells := 0, slots := 0, locals := 162 }
set_option maxRecDepth 20000 in
theorem hdV_X4_perform : yX4_perform.cls = RX4 ∧ yX4_perform.cls ≠ "java/lang/invoke/MethodHandle" ∧ yX4_perform.cls ≠ "java/lang/invoke/VarHandle" ∧ (parseMethodDescriptor yX4_perform.desc).map (fun d => d.parameters.length) = some 0 := by decide +kernel
set_option maxHeartbeats 4000000 in
set_option maxRecDepth 100000 in
theorem k_X4_perform_d (l : Launch) (G : va_G) (ca : Nat → ClassId) (a : Nat → Nat) (f h : Nat → Int32) (c : Nat → Nat → Int32) (hi sn be tx ti : Nat → Int32) (ln : Nat) (hln : ln ≤ 60) (hf7 : f 7 = nI ln) (hok : okP (h, c)) (Sr : PS) (lr dr : Int32) (hSr : (sI tx ln (0, f 13, f 14) (rtX tx ln (0, f 13, f 14)).2).2 = Sr) (hlr : lI tx ln (0, f 13, f 14) (rtX tx ln (0, f 13, f 14)).2 = lr) (hdr : k0F (rtX tx ln (0, f 13, f 14)) = dr) (kp : Nat) (hkp : kp ≤ 4) (hf2 : f 2 = nI kp) (hR : ¬ (rtX tx ln (0, f 13, f 14)).1 = 0) (Sd : PS) (ld dd ed vd : Int32) (pd : HC) (td : Nat → Int32) (hSd : (sI tx ln (0, Sr.2.1, Sr.2.2) (rdX tx ln (0, Sr.2.1, Sr.2.2) (h, c)).2).2 = Sd) (hld : lI tx ln (0, Sr.2.1, Sr.2.2) (rdX tx ln (0, Sr.2.1, Sr.2.2) (h, c)).2 = ld) (hdd : d2F (rdX tx ln (0, Sr.2.1, Sr.2.2) (h, c)) = dd) (hed : d4F tx ln (0, Sr.2.1, Sr.2.2) (h, c) (rdX tx ln (0, Sr.2.1, Sr.2.2) (h, c)) = ed) (hvd : d1F (rdX tx ln (0, Sr.2.1, Sr.2.2) (h, c)) = vd) (hpd : pI tx ln (0, Sr.2.1, Sr.2.2) (h, c) (d3F (rdX tx ln (0, Sr.2.1, Sr.2.2) (h, c))) = pd) (htd : pT tx ln (0, Sr.2.1, Sr.2.2) (h, c) ti (d3F (rdX tx ln (0, Sr.2.1, Sr.2.2) (h, c))) = td) (hE : 0 ≤ ed) (hV : ¬ vd = 0) : Zc l G ca yX4_perform (zws yX4_perform cX4_perform 2 (some .int)) rm_X4_perform [.ref (a 0)] (mm ca a f h c hi sn be tx ti) (some (.int dd)) (mm ca a (fS (upd (fS f Sr lr dr 0) 2 (nI (recK kp))) Sd ld dd ed) pd.1 pd.2 (recHi hi (enc h c) kp) sn (enc h c) tx td) := by
  refine Zc.of (cc := cX4_perform) (maxL := 2) (ret := (some .int)) (by decide) rfl (Nat.le_of_ble_eq_true rfl) ?_
  intro pg ev s0 mt below meth cd A args Q ls hx hb hr hml hown hts hlk hQ hl hz
  have L145 : (Cond.fieldLink RX4 145 "CupFountainModel" "done" "I").before args s0 = true := hts _ (zsub _ wq_18_21)
  have L148 : (Cond.fieldLink RX4 148 "CupFountainModel" "error" "I").before args s0 = true := hts _ (zsub _ wq_18_20)
  have L19 : (Cond.fieldLink RX4 19 "CupFountainModel" "before" "[I").before args s0 = true := hts _ (zsub _ wq_4_8)
  have hinX4 : ∀ w ∈ wsX40, w ∈ zws yX4_perform cX4_perform 2 (some .int) := fun w h => zsub w (wl_wsX40 w h)
  have hl : lv_has ls 2 [(0, .ref (a 0))] := hl
  refine lv_aload_n (pc := 0) hx hb dX4_perform_0 rfl (lv_at hl 0 rfl) ?_
  refine lv_iconst (v := 0) (pc := 1) hx hb dX4_perform_1 (by decide) ?_
  refine z_runV (pc := 2) (As := [.int 0]) (rest := []) (ws1 := mm ca a (fS f ((sI tx ln (0, f 13, f 14) (rtX tx ln (0, f 13, f 14)).2).2) (lI tx ln (0, f 13, f 14) (rtX tx ln (0, f 13, f 14)).2) (k0F (rtX tx ln (0, f 13, f 14))) 0) h c hi sn be tx ti) ⟨hx, hb, hml, hown, hts⟩ (k_X4_readText_p l G ca a f h c hi sn be tx ti ln hln hf7) (cwV 1 hts (zgoodV zsub wq_18_23 wq_19_0 wq_19_1 wq_1_5 wq_19_2) rfl rfl rfl hdV_X4_readText ⟨Nat.le_of_ble_eq_true rfl, Nat.le_of_ble_eq_true rfl⟩) hz [] zp_all zp_all' rfl rfl rfl hl.1 (Nat.le_of_ble_eq_true rfl) (st1 := [.int ((rtX tx ln (0, f 13, f 14)).1)]) rfl dX4_perform_2 ⟨Nat.zero_le _, Nat.zero_le _⟩ (fun H locs hz => ?_)
  rw [hSr, hlr, hdr] at hz
  refine lv_if_ne (pc := 5) (tgt := 16) hx hb dX4_perform_5 (by decide) (fun c_5 => ?_) (fun c9 => absurd c9 hR)
  refine lv_aload_n (pc := 16) hx hb dX4_perform_16 rfl (lv_at hl 0 rfl) ?_
  refine z_runV (pc := 17) (As := []) (rest := []) (ws1 := mm ca a (fS f Sr lr dr 0) h c hi sn (enc h c) tx ti) ⟨hx, hb, hml, hown, hts⟩ (k_X4_begin l G ca a (fS f Sr lr dr 0) h c hi sn be tx ti) (cwV 0 hts (zgoodV zsub wq_6_15 wq_6_16 wq_6_17 wq_1_5 wq_6_18) rfl rfl rfl hdV_X4_begin ⟨Nat.le_of_ble_eq_true rfl, Nat.le_of_ble_eq_true rfl⟩) hz [] zp_all zp_all' rfl rfl rfl hl.1 (Nat.le_of_ble_eq_true rfl) (st1 := []) rfl dX4_perform_17 ⟨Nat.zero_le _, Nat.zero_le _⟩ (fun H locs hz => ?_)
  refine lv_aload_n (pc := 20) hx hb dX4_perform_20 rfl (lv_at hl 0 rfl) ?_
  refine lv_iconst (v := 1) (pc := 21) hx hb dX4_perform_21 (by decide) ?_
  refine z_runV (pc := 22) (As := [.int 1]) (rest := []) (ws1 := mm ca a (fS (fS f Sr lr dr 0) ((sI tx ln (0, Sr.2.1, Sr.2.2) (rdX tx ln (0, Sr.2.1, Sr.2.2) (h, c)).2).2) (lI tx ln (0, Sr.2.1, Sr.2.2) (rdX tx ln (0, Sr.2.1, Sr.2.2) (h, c)).2) (d2F (rdX tx ln (0, Sr.2.1, Sr.2.2) (h, c))) (d4F tx ln (0, Sr.2.1, Sr.2.2) (h, c) (rdX tx ln (0, Sr.2.1, Sr.2.2) (h, c)))) ((pI tx ln (0, Sr.2.1, Sr.2.2) (h, c) (d3F (rdX tx ln (0, Sr.2.1, Sr.2.2) (h, c)))).1) ((pI tx ln (0, Sr.2.1, Sr.2.2) (h, c) (d3F (rdX tx ln (0, Sr.2.1, Sr.2.2) (h, c)))).2) hi sn (enc h c) tx (pT tx ln (0, Sr.2.1, Sr.2.2) (h, c) ti (d3F (rdX tx ln (0, Sr.2.1, Sr.2.2) (h, c))))) ⟨hx, hb, hml, hown, hts⟩ (k_X4_readText_d l G ca a (fS f Sr lr dr 0) h c hi sn (enc h c) tx ti ln hln (show _ = nI ln from hf7) hok) (cwV 1 hts (zgoodV zsub wq_18_23 wq_19_0 wq_19_1 wq_1_5 wq_19_2) rfl rfl rfl hdV_X4_readText ⟨Nat.le_of_ble_eq_true rfl, Nat.le_of_ble_eq_true rfl⟩) hz [] zp_all zp_all' rfl rfl rfl hl.1 (Nat.le_of_ble_eq_true rfl) (st1 := [.int (d1F (rdX tx ln (0, Sr.2.1, Sr.2.2) (h, c)))]) rfl dX4_perform_22 ⟨Nat.zero_le _, Nat.zero_le _⟩ (fun H locs hz => ?_)
  rw [hSd, hld, hdd, hed, hpd, htd] at hz
  refine z_top (y := vd) hvd ?_
  refine lv_istore_n (lv' := [(1, .int vd), (0, .ref (a 0))]) (pc := 25) hx hb dX4_perform_25 rfl hl (by decide) rfl (fun ls hl => ?_)
  refine lv_aload_n (pc := 26) hx hb dX4_perform_26 rfl (lv_at hl 1 rfl) ?_
  refine z_get (own := RX4) (ref := "CupFountainModel") (C := RX4) (T := TX4) (N := 17) (ci := 4) (v := .int ed) (pc := 27) hx hb hts hinX4 hown hz 0 rfl rfl 16 (by decide) L148 rfl rfl dX4_perform_27 ?_
  refine lv_if_ge (pc := 30) (tgt := 65) hx hb dX4_perform_30 (by decide) (fun c_30 => ?_) (fun c9 => absurd hE c9)
  refine lv_aload_n (pc := 65) hx hb dX4_perform_65 rfl (lv_at hl 1 rfl) ?_
  refine lv_aload_n (pc := 66) hx hb dX4_perform_66 rfl (lv_at hl 1 rfl) ?_
  refine z_get (own := RX4) (ref := "CupFountainModel") (C := RX4) (T := TX4) (N := 17) (ci := 4) (v := .ref (a 4)) (pc := 67) hx hb hts hinX4 hown hz 0 rfl rfl 5 (by decide) L19 rfl rfl dX4_perform_67 ?_
  refine z_runV (pc := 70) (As := [.ref (a 4)]) (rest := []) (ws1 := mm ca a (fS (upd (fS f Sr lr dr 0) 2 (nI (recK kp))) Sd ld dd ed) pd.1 pd.2 (recHi hi (enc h c) kp) sn (enc h c) tx td) ⟨hx, hb, hml, hown, hts⟩ (k_X4_recordFrom_b l G ca a (fS (fS f Sr lr dr 0) Sd ld dd ed) pd.1 pd.2 hi sn (enc h c) tx td kp hkp (show f 2 = nI kp from hf2)) (cwV 1 hts (zgoodV zsub wq_7_19 wq_7_20 wq_7_21 wq_1_5 wq_7_22) rfl rfl rfl hdV_X4_recordFrom ⟨Nat.le_of_ble_eq_true rfl, Nat.le_of_ble_eq_true rfl⟩) hz [] zp_all zp_all' rfl rfl rfl hl.1 (Nat.le_of_ble_eq_true rfl) (st1 := []) rfl dX4_perform_70 ⟨Nat.zero_le _, Nat.zero_le _⟩ (fun H locs hz => ?_)
  refine lv_iload_n (pc := 73) hx hb dX4_perform_73 rfl (lv_at hl 0 rfl) ?_
  refine lv_if_eq (pc := 74) (tgt := 84) hx hb dX4_perform_74 (by decide) (fun c9 => absurd c9 hV) (fun c_74 => ?_)
  refine lv_aload_n (pc := 77) hx hb dX4_perform_77 rfl (lv_at hl 1 rfl) ?_
  refine z_get (own := RX4) (ref := "CupFountainModel") (C := RX4) (T := TX4) (N := 17) (ci := 4) (v := .int dd) (pc := 78) hx hb hts hinX4 hown hz 0 rfl rfl 15 (by decide) L145 rfl rfl dX4_perform_78 ?_
  refine lv_goto (tgt := 85) (pc := 81) hx hb dX4_perform_81 (by decide) ?_
  exact z_iret (pc := 85) hx hb hr hlk hQ hz dX4_perform_85 (by rfl) (by rfl)

set_option maxHeartbeats 4000000 in
set_option maxRecDepth 100000 in
theorem k_X4_perform_s (l : Launch) (G : va_G) (ca : Nat → ClassId) (a : Nat → Nat) (f h : Nat → Int32) (c : Nat → Nat → Int32) (hi sn be tx ti : Nat → Int32) (ln : Nat) (hln : ln ≤ 60) (hf7 : f 7 = nI ln) (hok : okP (h, c)) (Sr : PS) (lr dr : Int32) (hSr : (sI tx ln (0, f 13, f 14) (rtX tx ln (0, f 13, f 14)).2).2 = Sr) (hlr : lI tx ln (0, f 13, f 14) (rtX tx ln (0, f 13, f 14)).2 = lr) (hdr : k0F (rtX tx ln (0, f 13, f 14)) = dr) (hR : ¬ (rtX tx ln (0, f 13, f 14)).1 = 0) (Sd : PS) (ld dd ed vd : Int32) (pd : HC) (td : Nat → Int32) (hSd : (sI tx ln (0, Sr.2.1, Sr.2.2) (rdX tx ln (0, Sr.2.1, Sr.2.2) (h, c)).2).2 = Sd) (hld : lI tx ln (0, Sr.2.1, Sr.2.2) (rdX tx ln (0, Sr.2.1, Sr.2.2) (h, c)).2 = ld) (hdd : d2F (rdX tx ln (0, Sr.2.1, Sr.2.2) (h, c)) = dd) (hed : d4F tx ln (0, Sr.2.1, Sr.2.2) (h, c) (rdX tx ln (0, Sr.2.1, Sr.2.2) (h, c)) = ed) (hvd : d1F (rdX tx ln (0, Sr.2.1, Sr.2.2) (h, c)) = vd) (hpd : pI tx ln (0, Sr.2.1, Sr.2.2) (h, c) (d3F (rdX tx ln (0, Sr.2.1, Sr.2.2) (h, c))) = pd) (htd : pT tx ln (0, Sr.2.1, Sr.2.2) (h, c) ti (d3F (rdX tx ln (0, Sr.2.1, Sr.2.2) (h, c))) = td) (hE : ¬ 0 ≤ ed) : Zc l G ca yX4_perform (zws yX4_perform cX4_perform 2 (some .int)) rm_X4_perform [.ref (a 0)] (mm ca a f h c hi sn be tx ti) (some (.int (-4))) (mm ca a (fS (upd (upd (fS f Sr lr dr 0) 8 dd) 9 ed) Sd ld dd ed) h c hi sn (enc h c) tx td) := by
  refine Zc.of (cc := cX4_perform) (maxL := 2) (ret := (some .int)) (by decide) rfl (Nat.le_of_ble_eq_true rfl) ?_
  intro pg ev s0 mt below meth cd A args Q ls hx hb hr hml hown hts hlk hQ hl hz
  have L145 : (Cond.fieldLink RX4 145 "CupFountainModel" "done" "I").before args s0 = true := hts _ (zsub _ wq_18_21)
  have L148 : (Cond.fieldLink RX4 148 "CupFountainModel" "error" "I").before args s0 = true := hts _ (zsub _ wq_18_20)
  have L162 : (Cond.fieldLink RX4 162 "CupFountainModel" "stoppedBy" "I").before args s0 = true := hts _ (zsub _ wq_18_22)
  have L19 : (Cond.fieldLink RX4 19 "CupFountainModel" "before" "[I").before args s0 = true := hts _ (zsub _ wq_4_8)
  have L26 : (Cond.fieldLink RX4 26 "CupFountainModel" "stoppedAt" "I").before args s0 = true := hts _ (zsub _ wq_4_10)
  have L7 : (Cond.fieldLink RX4 7 "CupFountainModel" "s" "[I").before args s0 = true := hts _ (zsub _ wq_4_5)
  have hinX4 : ∀ w ∈ wsX40, w ∈ zws yX4_perform cX4_perform 2 (some .int) := fun w h => zsub w (wl_wsX40 w h)
  have hl : lv_has ls 2 [(0, .ref (a 0))] := hl
  refine lv_aload_n (pc := 0) hx hb dX4_perform_0 rfl (lv_at hl 0 rfl) ?_
  refine lv_iconst (v := 0) (pc := 1) hx hb dX4_perform_1 (by decide) ?_
  refine z_runV (pc := 2) (As := [.int 0]) (rest := []) (ws1 := mm ca a (fS f ((sI tx ln (0, f 13, f 14) (rtX tx ln (0, f 13, f 14)).2).2) (lI tx ln (0, f 13, f 14) (rtX tx ln (0, f 13, f 14)).2) (k0F (rtX tx ln (0, f 13, f 14))) 0) h c hi sn be tx ti) ⟨hx, hb, hml, hown, hts⟩ (k_X4_readText_p l G ca a f h c hi sn be tx ti ln hln hf7) (cwV 1 hts (zgoodV zsub wq_18_23 wq_19_0 wq_19_1 wq_1_5 wq_19_2) rfl rfl rfl hdV_X4_readText ⟨Nat.le_of_ble_eq_true rfl, Nat.le_of_ble_eq_true rfl⟩) hz [] zp_all zp_all' rfl rfl rfl hl.1 (Nat.le_of_ble_eq_true rfl) (st1 := [.int ((rtX tx ln (0, f 13, f 14)).1)]) rfl dX4_perform_2 ⟨Nat.zero_le _, Nat.zero_le _⟩ (fun H locs hz => ?_)
  rw [hSr, hlr, hdr] at hz
  refine lv_if_ne (pc := 5) (tgt := 16) hx hb dX4_perform_5 (by decide) (fun c_5 => ?_) (fun c9 => absurd c9 hR)
  refine lv_aload_n (pc := 16) hx hb dX4_perform_16 rfl (lv_at hl 0 rfl) ?_
  refine z_runV (pc := 17) (As := []) (rest := []) (ws1 := mm ca a (fS f Sr lr dr 0) h c hi sn (enc h c) tx ti) ⟨hx, hb, hml, hown, hts⟩ (k_X4_begin l G ca a (fS f Sr lr dr 0) h c hi sn be tx ti) (cwV 0 hts (zgoodV zsub wq_6_15 wq_6_16 wq_6_17 wq_1_5 wq_6_18) rfl rfl rfl hdV_X4_begin ⟨Nat.le_of_ble_eq_true rfl, Nat.le_of_ble_eq_true rfl⟩) hz [] zp_all zp_all' rfl rfl rfl hl.1 (Nat.le_of_ble_eq_true rfl) (st1 := []) rfl dX4_perform_17 ⟨Nat.zero_le _, Nat.zero_le _⟩ (fun H locs hz => ?_)
  refine lv_aload_n (pc := 20) hx hb dX4_perform_20 rfl (lv_at hl 0 rfl) ?_
  refine lv_iconst (v := 1) (pc := 21) hx hb dX4_perform_21 (by decide) ?_
  refine z_runV (pc := 22) (As := [.int 1]) (rest := []) (ws1 := mm ca a (fS (fS f Sr lr dr 0) ((sI tx ln (0, Sr.2.1, Sr.2.2) (rdX tx ln (0, Sr.2.1, Sr.2.2) (h, c)).2).2) (lI tx ln (0, Sr.2.1, Sr.2.2) (rdX tx ln (0, Sr.2.1, Sr.2.2) (h, c)).2) (d2F (rdX tx ln (0, Sr.2.1, Sr.2.2) (h, c))) (d4F tx ln (0, Sr.2.1, Sr.2.2) (h, c) (rdX tx ln (0, Sr.2.1, Sr.2.2) (h, c)))) ((pI tx ln (0, Sr.2.1, Sr.2.2) (h, c) (d3F (rdX tx ln (0, Sr.2.1, Sr.2.2) (h, c)))).1) ((pI tx ln (0, Sr.2.1, Sr.2.2) (h, c) (d3F (rdX tx ln (0, Sr.2.1, Sr.2.2) (h, c)))).2) hi sn (enc h c) tx (pT tx ln (0, Sr.2.1, Sr.2.2) (h, c) ti (d3F (rdX tx ln (0, Sr.2.1, Sr.2.2) (h, c))))) ⟨hx, hb, hml, hown, hts⟩ (k_X4_readText_d l G ca a (fS f Sr lr dr 0) h c hi sn (enc h c) tx ti ln hln (show _ = nI ln from hf7) hok) (cwV 1 hts (zgoodV zsub wq_18_23 wq_19_0 wq_19_1 wq_1_5 wq_19_2) rfl rfl rfl hdV_X4_readText ⟨Nat.le_of_ble_eq_true rfl, Nat.le_of_ble_eq_true rfl⟩) hz [] zp_all zp_all' rfl rfl rfl hl.1 (Nat.le_of_ble_eq_true rfl) (st1 := [.int (d1F (rdX tx ln (0, Sr.2.1, Sr.2.2) (h, c)))]) rfl dX4_perform_22 ⟨Nat.zero_le _, Nat.zero_le _⟩ (fun H locs hz => ?_)
  rw [hSd, hld, hdd, hed, hpd, htd] at hz
  refine z_top (y := vd) hvd ?_
  refine lv_istore_n (lv' := [(1, .int vd), (0, .ref (a 0))]) (pc := 25) hx hb dX4_perform_25 rfl hl (by decide) rfl (fun ls hl => ?_)
  refine lv_aload_n (pc := 26) hx hb dX4_perform_26 rfl (lv_at hl 1 rfl) ?_
  refine z_get (own := RX4) (ref := "CupFountainModel") (C := RX4) (T := TX4) (N := 17) (ci := 4) (v := .int ed) (pc := 27) hx hb hts hinX4 hown hz 0 rfl rfl 16 (by decide) L148 rfl rfl dX4_perform_27 ?_
  refine lv_if_ge (pc := 30) (tgt := 65) hx hb dX4_perform_30 (by decide) (fun c9 => absurd c9 hE) (fun c_30 => ?_)
  refine lv_aload_n (pc := 33) hx hb dX4_perform_33 rfl (lv_at hl 1 rfl) ?_
  refine z_get (own := RX4) (ref := "CupFountainModel") (C := RX4) (T := TX4) (N := 17) (ci := 4) (v := .ref (a 4)) (pc := 34) hx hb hts hinX4 hown hz 0 rfl rfl 5 (by decide) L19 rfl rfl dX4_perform_34 ?_
  refine lv_iconst (v := 0) (pc := 37) hx hb dX4_perform_37 (by decide) ?_
  refine lv_aload_n (pc := 38) hx hb dX4_perform_38 rfl (lv_at hl 1 rfl) ?_
  refine z_get (own := RX4) (ref := "CupFountainModel") (C := RX4) (T := TX4) (N := 17) (ci := 4) (v := .ref (a 1)) (pc := 39) hx hb hts hinX4 hown hz 0 rfl rfl 0 (by decide) L7 rfl rfl dX4_perform_39 ?_
  refine lv_iconst (v := 0) (pc := 42) hx hb dX4_perform_42 (by decide) ?_
  refine z_runS (pc := 43) (As := [.ref (a 4), .int 0, .ref (a 1), .int 0]) (rest := []) (ws1 := wM ca a (fS (fS f Sr lr dr 0) Sd ld dd ed) (va_cpy (enc h c) (enc pd.1 pd.2) 0 0 104) hi sn (enc h c) tx td) ⟨hx, hb, hml, hown, hts⟩ (k_X4_copy l G ca (a 4) (a 1) 104 104 0 0 (enc h c) (enc pd.1 pd.2) (by omega) (by omega) (by decide) (by decide)) (cwS 4 hts (zgoodS zsub wq_6_19 wq_6_20 wq_1_5 wq_6_21) rfl rfl rfl hdV_X4_copy ⟨Nat.le_of_ble_eq_true rfl, Nat.le_of_ble_eq_true rfl⟩) hz (List.filterMap (fun q9 => (mm ca a (fS (fS f Sr lr dr 0) Sd ld dd ed) pd.1 pd.2 hi sn (enc h c) tx td)[q9]?) [0, 2, 3, 5, 6]) (z_pick [4, 1, 0, 2, 3, 5, 6] rfl rfl) (z_pick (ws := wM ca a (fS (fS f Sr lr dr 0) Sd ld dd ed) (va_cpy (enc h c) (enc pd.1 pd.2) 0 0 104) hi sn (enc h c) tx td) [4, 1, 0, 2, 3, 5, 6] rfl rfl).symm rfl hl.1 (Nat.le_of_ble_eq_true rfl) (st1 := []) rfl dX4_perform_43 ⟨Nat.zero_le _, Nat.zero_le _⟩ (fun H locs hz => ?_)
  have hz := (hz.cell (g := enc h c) 1 rfl (fun j hj => cpy_at0 hj)).as (show _ = mm ca a (fS (fS f Sr lr dr 0) Sd ld dd ed) h c hi sn (enc h c) tx td from rfl)
  refine lv_aload_n (pc := 46) hx hb dX4_perform_46 rfl (lv_at hl 1 rfl) ?_
  refine lv_aload_n (pc := 47) hx hb dX4_perform_47 rfl (lv_at hl 1 rfl) ?_
  refine z_get (own := RX4) (ref := "CupFountainModel") (C := RX4) (T := TX4) (N := 17) (ci := 4) (v := .int dd) (pc := 48) hx hb hts hinX4 hown hz 0 rfl rfl 15 (by decide) L145 rfl rfl dX4_perform_48 ?_
  refine z_put (own := RX4) (ref := "CupFountainModel") (C := RX4) (T := TX4) (N := 17) (ci := 4) (v := .int dd) (ws1 := mm ca a (fS (upd (fS f Sr lr dr 0) 8 dd) Sd ld dd ed) h c hi sn (enc h c) tx td) (pc := 51) hx hb hts hinX4 tyX4 tyX4_ok nmX4 hown hz 0 rfl rfl 8 (by decide) L26 rfl rfl rfl rfl (Nat.le_of_ble_eq_true rfl) rfl dX4_perform_51 (fun H locs hz => ?_)
  refine lv_aload_n (pc := 54) hx hb dX4_perform_54 rfl (lv_at hl 1 rfl) ?_
  refine lv_aload_n (pc := 55) hx hb dX4_perform_55 rfl (lv_at hl 1 rfl) ?_
  refine z_get (own := RX4) (ref := "CupFountainModel") (C := RX4) (T := TX4) (N := 17) (ci := 4) (v := .int ed) (pc := 56) hx hb hts hinX4 hown hz 0 rfl rfl 16 (by decide) L148 rfl rfl dX4_perform_56 ?_
  refine z_put (own := RX4) (ref := "CupFountainModel") (C := RX4) (T := TX4) (N := 17) (ci := 4) (v := .int ed) (ws1 := mm ca a (fS (upd (upd (fS f Sr lr dr 0) 8 dd) 9 ed) Sd ld dd ed) h c hi sn (enc h c) tx td) (pc := 59) hx hb hts hinX4 tyX4 tyX4_ok nmX4 hown hz 0 rfl rfl 9 (by decide) L162 rfl rfl rfl rfl (Nat.le_of_ble_eq_true rfl) rfl dX4_perform_59 (fun H locs hz => ?_)
  refine lv_bipush (v := -4) (pc := 62) hx hb dX4_perform_62 (by decide) ?_
  exact z_iret (pc := 64) hx hb hr hlk hQ hz dX4_perform_64 (by rfl) (by rfl)

set_option maxHeartbeats 4000000 in
set_option maxRecDepth 100000 in
theorem k_X4_perform_f (l : Launch) (G : va_G) (ca : Nat → ClassId) (a : Nat → Nat) (f h : Nat → Int32) (c : Nat → Nat → Int32) (hi sn be tx ti : Nat → Int32) (ln : Nat) (hln : ln ≤ 60) (hf7 : f 7 = nI ln) (hok : okP (h, c)) (Sr : PS) (lr dr : Int32) (hSr : (sI tx ln (0, f 13, f 14) (rtX tx ln (0, f 13, f 14)).2).2 = Sr) (hlr : lI tx ln (0, f 13, f 14) (rtX tx ln (0, f 13, f 14)).2 = lr) (hdr : k0F (rtX tx ln (0, f 13, f 14)) = dr) (hR : (rtX tx ln (0, f 13, f 14)).1 = 0) : Zc l G ca yX4_perform (zws yX4_perform cX4_perform 2 (some .int)) rm_X4_perform [.ref (a 0)] (mm ca a f h c hi sn be tx ti) (some (.int (-100 - nI Sr.1))) (mm ca a (fS f Sr lr dr 0) h c hi sn be tx ti) := by
  refine Zc.of (cc := cX4_perform) (maxL := 2) (ret := (some .int)) (by decide) rfl (Nat.le_of_ble_eq_true rfl) ?_
  intro pg ev s0 mt below meth cd A args Q ls hx hb hr hml hown hts hlk hQ hl hz
  have L119 : (Cond.fieldLink RX4 119 "CupFountainModel" "place" "I").before args s0 = true := hts _ (zsub _ wq_18_19)
  have hinX4 : ∀ w ∈ wsX40, w ∈ zws yX4_perform cX4_perform 2 (some .int) := fun w h => zsub w (wl_wsX40 w h)
  have hl : lv_has ls 2 [(0, .ref (a 0))] := hl
  refine lv_aload_n (pc := 0) hx hb dX4_perform_0 rfl (lv_at hl 0 rfl) ?_
  refine lv_iconst (v := 0) (pc := 1) hx hb dX4_perform_1 (by decide) ?_
  refine z_runV (pc := 2) (As := [.int 0]) (rest := []) (ws1 := mm ca a (fS f ((sI tx ln (0, f 13, f 14) (rtX tx ln (0, f 13, f 14)).2).2) (lI tx ln (0, f 13, f 14) (rtX tx ln (0, f 13, f 14)).2) (k0F (rtX tx ln (0, f 13, f 14))) 0) h c hi sn be tx ti) ⟨hx, hb, hml, hown, hts⟩ (k_X4_readText_p l G ca a f h c hi sn be tx ti ln hln hf7) (cwV 1 hts (zgoodV zsub wq_18_23 wq_19_0 wq_19_1 wq_1_5 wq_19_2) rfl rfl rfl hdV_X4_readText ⟨Nat.le_of_ble_eq_true rfl, Nat.le_of_ble_eq_true rfl⟩) hz [] zp_all zp_all' rfl rfl rfl hl.1 (Nat.le_of_ble_eq_true rfl) (st1 := [.int ((rtX tx ln (0, f 13, f 14)).1)]) rfl dX4_perform_2 ⟨Nat.zero_le _, Nat.zero_le _⟩ (fun H locs hz => ?_)
  rw [hSr, hlr, hdr] at hz
  refine lv_if_ne (pc := 5) (tgt := 16) hx hb dX4_perform_5 (by decide) (fun c9 => absurd hR c9) (fun c_5 => ?_)
  refine lv_bipush (v := -100) (pc := 8) hx hb dX4_perform_8 (by decide) ?_
  refine lv_aload_n (pc := 10) hx hb dX4_perform_10 rfl (lv_at hl 0 rfl) ?_
  refine z_get (own := RX4) (ref := "CupFountainModel") (C := RX4) (T := TX4) (N := 17) (ci := 4) (v := .int (nI Sr.1)) (pc := 11) hx hb hts hinX4 hown hz 0 rfl rfl 11 (by decide) L119 rfl rfl dX4_perform_11 ?_
  refine lv_isub (pc := 14) hx hb dX4_perform_14 ?_
  exact z_iret (pc := 15) hx hb hr hlk hQ hz dX4_perform_15 (by rfl) (by rfl)
