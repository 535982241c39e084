def rm_X4_does : Room := { frames := 5, cells := 0, slots := 0, locals := 119 }
set_option maxRecDepth 20000 in
theorem hdV_X4_does : yX4_does.cls = RX4 ∧ yX4_does.cls ≠ "java/lang/invoke/MethodHandle" ∧ yX4_does.cls ≠ "java/lang/invoke/VarHandle" ∧ (parseMethodDescriptor yX4_does.desc).map (fun d => d.parameters.length) = some 0 := by decide +kernel
set_option maxHeartbeats 4000000 in
set_option maxRecDepth 100000 in
theorem k_X4_does (l : Launch) (G : va_G) (ca : Nat → ClassId) (a : Nat → Nat) (f h : Nat → Int32) (c : Nat → Nat → Int32) (hi sn be tx ti : Nat → Int32) (s : PS) (lt dn er : Int32) (hok : okP (h, c)) : Zc l G ca yX4_does (zws yX4_does cX4_does 1 (some .int)) rm_X4_does [.ref (a 0)] (mm ca a (fS f s lt dn er) h c hi sn be tx ti) (some (.int (doesR (h, c) lt s.2.1 s.2.2))) (mm ca a (fS f s lt dn er) ((doesP (h, c) lt s.2.1 s.2.2).1) ((doesP (h, c) lt s.2.1 s.2.2).2) hi sn be tx (doesT (h, c) ti lt s.2.1 s.2.2)) := by
  refine Zc.of (cc := cX4_does) (maxL := 1) (ret := (some .int)) (by decide) rfl (Nat.le_of_ble_eq_true rfl) ?_
  intro pg ev s0 mt below meth cd A args Q ls hx hb hr hml hown hts hlk hQ hl hz
  have L126 : (Cond.fieldLink RX4 126 "CupFountainModel" "itsCup" "I").before args s0 = true := hts _ (zsub _ wq_19_12)
  have L129 : (Cond.fieldLink RX4 129 "CupFountainModel" "number" "I").before args s0 = true := hts _ (zsub _ wq_20_1)
  have L132 : (Cond.fieldLink RX4 132 "CupFountainModel" "letter" "I").before args s0 = true := hts _ (zsub _ wq_19_7)
  have hinX4 : ∀ w ∈ wsX40, w ∈ zws yX4_does cX4_does 1 (some .int) := fun w h => zsub w (wl_wsX40 w h)
  have hl : lv_has ls 1 [(0, .ref (a 0))] := hl
  refine lv_aload_n (pc := 0) hx hb dX4_does_0 rfl (lv_at hl 0 rfl) ?_
  refine z_get (own := RX4) (ref := "CupFountainModel") (C := RX4) (T := TX4) (N := 17) (ci := 4) (v := .int lt) (pc := 1) hx hb hts hinX4 hown hz 0 rfl rfl 12 (by decide) L132 rfl rfl dX4_does_1 ?_
  by_cases h_102 : lt = 102
  · refine lv_lookup (off := 71) (tgt := 75) (pc := 4) hx hb dX4_does_4 (by decide) (by rw [h_102]; decide) (by decide) ?_
    refine lv_aload_n (pc := 75) hx hb dX4_does_75 rfl (lv_at hl 0 rfl) ?_
    refine lv_aload_n (pc := 76) hx hb dX4_does_76 rfl (lv_at hl 0 rfl) ?_
    refine z_get (own := RX4) (ref := "CupFountainModel") (C := RX4) (T := TX4) (N := 17) (ci := 4) (v := .int s.2.1) (pc := 77) hx hb hts hinX4 hown hz 0 rfl rfl 13 (by decide) L126 rfl rfl dX4_does_77 ?_
    refine lv_aload_n (pc := 80) hx hb dX4_does_80 rfl (lv_at hl 0 rfl) ?_
    refine z_get (own := RX4) (ref := "CupFountainModel") (C := RX4) (T := TX4) (N := 17) (ci := 4) (v := .int s.2.2) (pc := 81) hx hb hts hinX4 hown hz 0 rfl rfl 14 (by decide) L129 rfl rfl dX4_does_81 ?_
    refine z_runV (pc := 84) (As := [.int s.2.1, .int s.2.2]) (rest := []) (ws1 := mm ca a (fS f s lt dn er) (fillH h c s.2.1 s.2.2) (fillC c s.2.1 s.2.2) hi sn be tx ti) ⟨hx, hb, hml, hown, hts⟩ (k_X4_doFill l G ca a (fS f s lt dn er) h c hi sn be tx ti s.2.1 s.2.2) (cwV 2 hts (zgoodV zsub wq_10_16 wq_10_17 wq_10_18 wq_1_5 wq_10_19) rfl rfl rfl hdV_X4_doFill ⟨Nat.le_of_ble_eq_true rfl, Nat.le_of_ble_eq_true rfl⟩) hz [] zp_all zp_all' rfl rfl rfl hl.1 (Nat.le_of_ble_eq_true rfl) (st1 := [.int (fillR c s.2.1 s.2.2)]) rfl dX4_does_84 ⟨Nat.zero_le _, Nat.zero_le _⟩ (fun H locs hz => ?_)
    exact z_iret (pc := 87) hx hb hr hlk hQ hz dX4_does_87 (by simp only [doesR, if_pos h_102]) (by simp only [doesP, doesT, if_pos h_102])
  by_cases h_103 : lt = 103
  · refine lv_lookup (off := 84) (tgt := 88) (pc := 4) hx hb dX4_does_4 (by decide) (by rw [h_103]; decide) (by decide) ?_
    refine lv_aload_n (pc := 88) hx hb dX4_does_88 rfl (lv_at hl 0 rfl) ?_
    refine lv_aload_n (pc := 89) hx hb dX4_does_89 rfl (lv_at hl 0 rfl) ?_
    refine z_get (own := RX4) (ref := "CupFountainModel") (C := RX4) (T := TX4) (N := 17) (ci := 4) (v := .int s.2.1) (pc := 90) hx hb hts hinX4 hown hz 0 rfl rfl 13 (by decide) L126 rfl rfl dX4_does_90 ?_
    refine z_runV (pc := 93) (As := [.int s.2.1]) (rest := []) (ws1 := mm ca a (fS f s lt dn er) h (guardC c s.2.1) hi sn be tx ti) ⟨hx, hb, hml, hown, hts⟩ (k_X4_doGuard l G ca a (fS f s lt dn er) h c hi sn be tx ti s.2.1) (cwV 1 hts (zgoodV zsub wq_9_23 wq_10_0 wq_10_1 wq_1_5 wq_10_2) rfl rfl rfl hdV_X4_doGuard ⟨Nat.le_of_ble_eq_true rfl, Nat.le_of_ble_eq_true rfl⟩) hz [] zp_all zp_all' rfl rfl rfl hl.1 (Nat.le_of_ble_eq_true rfl) (st1 := [.int (guardR c s.2.1)]) rfl dX4_does_93 ⟨Nat.zero_le _, Nat.zero_le _⟩ (fun H locs hz => ?_)
    exact z_iret (pc := 96) hx hb hr hlk hQ hz dX4_does_96 (by simp only [doesR, if_neg h_102, if_pos h_103]) (by simp only [doesP, doesT, if_neg h_102, if_pos h_103])
  by_cases h_104 : lt = 104
  · refine lv_lookup (off := 44) (tgt := 48) (pc := 4) hx hb dX4_does_4 (by decide) (by rw [h_104]; decide) (by decide) ?_
    refine lv_aload_n (pc := 48) hx hb dX4_does_48 rfl (lv_at hl 0 rfl) ?_
    refine lv_aload_n (pc := 49) hx hb dX4_does_49 rfl (lv_at hl 0 rfl) ?_
    refine z_get (own := RX4) (ref := "CupFountainModel") (C := RX4) (T := TX4) (N := 17) (ci := 4) (v := .int s.2.1) (pc := 50) hx hb hts hinX4 hown hz 0 rfl rfl 13 (by decide) L126 rfl rfl dX4_does_50 ?_
    refine lv_aload_n (pc := 53) hx hb dX4_does_53 rfl (lv_at hl 0 rfl) ?_
    refine z_get (own := RX4) (ref := "CupFountainModel") (C := RX4) (T := TX4) (N := 17) (ci := 4) (v := .int s.2.2) (pc := 54) hx hb hts hinX4 hown hz 0 rfl rfl 14 (by decide) L129 rfl rfl dX4_does_54 ?_
    refine z_runV (pc := 57) (As := [.int s.2.1, .int s.2.2]) (rest := []) (ws1 := mm ca a (fS f s lt dn er) h (hourC c s.2.1 s.2.2) hi sn be tx ti) ⟨hx, hb, hml, hown, hts⟩ (k_X4_doSetHour l G ca a (fS f s lt dn er) h c hi sn be tx ti s.2.1 s.2.2) (cwV 2 hts (zgoodV zsub wq_9_7 wq_9_8 wq_9_9 wq_1_5 wq_9_10) rfl rfl rfl hdV_X4_doSetHour ⟨Nat.le_of_ble_eq_true rfl, Nat.le_of_ble_eq_true rfl⟩) hz [] zp_all zp_all' rfl rfl rfl hl.1 (Nat.le_of_ble_eq_true rfl) (st1 := [.int (hourR c s.2.1 s.2.2)]) rfl dX4_does_57 ⟨Nat.zero_le _, Nat.zero_le _⟩ (fun H locs hz => ?_)
    exact z_iret (pc := 60) hx hb hr hlk hQ hz dX4_does_60 (by simp only [doesR, if_neg h_102, if_neg h_103, if_pos h_104]) (by simp only [doesP, doesT, if_neg h_102, if_neg h_103, if_pos h_104])
  by_cases h_115 : lt = 115
  · refine lv_lookup (off := 57) (tgt := 61) (pc := 4) hx hb dX4_does_4 (by decide) (by rw [h_115]; decide) (by decide) ?_
    refine lv_aload_n (pc := 61) hx hb dX4_does_61 rfl (lv_at hl 0 rfl) ?_
    refine lv_aload_n (pc := 62) hx hb dX4_does_62 rfl (lv_at hl 0 rfl) ?_
    refine z_get (own := RX4) (ref := "CupFountainModel") (C := RX4) (T := TX4) (N := 17) (ci := 4) (v := .int s.2.1) (pc := 63) hx hb hts hinX4 hown hz 0 rfl rfl 13 (by decide) L126 rfl rfl dX4_does_63 ?_
    refine lv_iconst (v := 0) (pc := 66) hx hb dX4_does_66 (by decide) ?_
    refine lv_aload_n (pc := 67) hx hb dX4_does_67 rfl (lv_at hl 0 rfl) ?_
    refine z_get (own := RX4) (ref := "CupFountainModel") (C := RX4) (T := TX4) (N := 17) (ci := 4) (v := .int s.2.2) (pc := 68) hx hb hts hinX4 hown hz 0 rfl rfl 14 (by decide) L129 rfl rfl dX4_does_68 ?_
    refine z_runV (pc := 71) (As := [.int s.2.1, .int 0, .int s.2.2]) (rest := []) (ws1 := mm ca a (fS f s lt dn er) h (setC c s.2.1 0 s.2.2) hi sn be tx ti) ⟨hx, hb, hml, hown, hts⟩ (k_X4_doSetCup l G ca a (fS f s lt dn er) h c hi sn be tx ti s.2.1 0 s.2.2) (cwV 3 hts (zgoodV zsub wq_6_22 wq_6_23 wq_7_0 wq_1_5 wq_7_1) rfl rfl rfl hdV_X4_doSetCup ⟨Nat.le_of_ble_eq_true rfl, Nat.le_of_ble_eq_true rfl⟩) hz [] zp_all zp_all' rfl rfl rfl hl.1 (Nat.le_of_ble_eq_true rfl) (st1 := [.int (setR c s.2.1 0 s.2.2)]) rfl dX4_does_71 ⟨Nat.zero_le _, Nat.zero_le _⟩ (fun H locs hz => ?_)
    exact z_iret (pc := 74) hx hb hr hlk hQ hz dX4_does_74 (by simp only [doesR, if_neg h_102, if_neg h_103, if_neg h_104, if_pos h_115]) (by simp only [doesP, doesT, if_neg h_102, if_neg h_103, if_neg h_104, if_pos h_115])
  refine lv_lookup (off := 93) (tgt := 97) (pc := 4) hx hb dX4_does_4 (by decide) ((lv_osw h_102 (k := 102) rfl).trans ((lv_osw h_103 (k := 103) rfl).trans ((lv_osw h_104 (k := 104) rfl).trans ((lv_osw h_115 (k := 115) rfl).trans (rfl))))) (by decide) ?_
  refine lv_aload_n (pc := 97) hx hb dX4_does_97 rfl (lv_at hl 0 rfl) ?_
  refine lv_aload_n (pc := 98) hx hb dX4_does_98 rfl (lv_at hl 0 rfl) ?_
  refine z_get (own := RX4) (ref := "CupFountainModel") (C := RX4) (T := TX4) (N := 17) (ci := 4) (v := .int s.2.2) (pc := 99) hx hb hts hinX4 hown hz 0 rfl rfl 14 (by decide) L129 rfl rfl dX4_does_99 ?_
  refine z_runV (pc := 102) (As := [.int s.2.2]) (rest := []) (ws1 := mm ca a (fS f s lt dn er) ((tkN (h, c) (passN (h, c) s.2.2)).1) ((tkN (h, c) (passN (h, c) s.2.2)).2) hi sn be tx (tkT (h, c) ti (passN (h, c) s.2.2))) ⟨hx, hb, hml, hown, hts⟩ (k_X4_doPass l G ca a (fS f s lt dn er) h c hi sn be tx ti s.2.2 hok) (cwV 1 hts (zgoodV zsub wq_14_4 wq_14_5 wq_14_6 wq_1_5 wq_14_7) rfl rfl rfl hdV_X4_doPass ⟨Nat.le_of_ble_eq_true rfl, Nat.le_of_ble_eq_true rfl⟩) hz [] zp_all zp_all' rfl rfl rfl hl.1 (Nat.le_of_ble_eq_true rfl) (st1 := [.int (passR (h, c) s.2.2)]) rfl dX4_does_102 ⟨Nat.zero_le _, Nat.zero_le _⟩ (fun H locs hz => ?_)
  exact z_iret (pc := 105) hx hb hr hlk hQ hz dX4_does_105 (by simp only [doesR, if_neg h_102, if_neg h_103, if_neg h_104, if_neg h_115]) (by simp only [doesP, doesT, if_neg h_102, if_neg h_103, if_neg h_104, if_neg h_115])

def rm_X4_readText : Room := { frames := 6, cells := 0, slots := 0, locals := 139 }
set_option maxRecDepth 20000 in
theorem hdV_X4_readText : yX4_readText.cls = RX4 ∧ yX4_readText.cls ≠ "java/lang/invoke/MethodHandle" ∧ yX4_readText.cls ≠ "java/lang/invoke/VarHandle" ∧ (parseMethodDescriptor yX4_readText.desc).map (fun d => d.parameters.length) = some 1 := by decide +kernel
set_option maxHeartbeats 4000000 in
set_option maxRecDepth 100000 in
theorem k_X4_readText_d (l : Launch) (G : va_G) (ca : Nat → ClassId) (a : Nat → Nat) (f h : Nat → Int32) (c : Nat → Nat → Int32) (hi sn be tx ti : Nat → Int32) (ln : Nat) (hln : ln ≤ 60) (hf7 : f 7 = nI ln) (hok : okP (h, c)) : Zc l G ca yX4_readText (zws yX4_readText cX4_readText 4 (some .boolean)) rm_X4_readText [.ref (a 0), .int 1] (mm ca a f h c hi sn be tx ti) (some (.int (d1F (rdX tx ln (0, f 13, f 14) (h, c))))) (mm ca a (fS f ((sI tx ln (0, f 13, f 14) (rdX tx ln (0, f 13, f 14) (h, c)).2).2) (lI tx ln (0, f 13, f 14) (rdX tx ln (0, f 13, f 14) (h, c)).2) (d2F (rdX tx ln (0, f 13, f 14) (h, c))) (d4F tx ln (0, f 13, f 14) (h, c) (rdX tx ln (0, f 13, f 14) (h, c)))) ((pI tx ln (0, f 13, f 14) (h, c) (d3F (rdX tx ln (0, f 13, f 14) (h, c)))).1) ((pI tx ln (0, f 13, f 14) (h, c) (d3F (rdX tx ln (0, f 13, f 14) (h, c)))).2) hi sn be tx (pT tx ln (0, f 13, f 14) (h, c) ti (d3F (rdX tx ln (0, f 13, f 14) (h, c))))) := by
  refine Zc.of (cc := cX4_readText) (maxL := 4) (ret := (some .boolean)) (by decide) rfl (Nat.le_of_ble_eq_true rfl) ?_
  intro pg ev s0 mt below meth cd A args Q ls hx hb hr hml hown hts hlk hQ hl hz
  have L116 : (Cond.fieldLink RX4 116 "CupFountainModel" "length" "I").before args s0 = true := hts _ (zsub _ wq_16_1)
  have L119 : (Cond.fieldLink RX4 119 "CupFountainModel" "place" "I").before args s0 = true := hts _ (zsub _ wq_18_19)
  have L145 : (Cond.fieldLink RX4 145 "CupFountainModel" "done" "I").before args s0 = true := hts _ (zsub _ wq_18_21)
  have L148 : (Cond.fieldLink RX4 148 "CupFountainModel" "error" "I").before args s0 = true := hts _ (zsub _ wq_18_20)
  have hinX4 : ∀ w ∈ wsX40, w ∈ zws yX4_readText cX4_readText 4 (some .boolean) := fun w h => zsub w (wl_wsX40 w h)
  have hl : lv_has ls 4 [(0, .ref (a 0)), (1, .int 1)] := hl
  refine lv_aload_n (pc := 0) hx hb dX4_readText_0 rfl (lv_at hl 0 rfl) ?_
  refine lv_iconst (v := 0) (pc := 1) hx hb dX4_readText_1 (by decide) ?_
  refine z_put (own := RX4) (ref := "CupFountainModel") (C := RX4) (T := TX4) (N := 17) (ci := 4) (v := .int 0) (ws1 := mm ca a (upd f 11 0) h c hi sn be tx ti) (pc := 2) hx hb hts hinX4 tyX4 tyX4_ok nmX4 hown hz 0 rfl rfl 11 (by decide) L119 rfl rfl rfl rfl (Nat.le_of_ble_eq_true rfl) rfl dX4_readText_2 (fun H locs hz => ?_)
  refine lv_aload_n (pc := 5) hx hb dX4_readText_5 rfl (lv_at hl 0 rfl) ?_
  refine lv_iconst (v := 0) (pc := 6) hx hb dX4_readText_6 (by decide) ?_
  refine z_put (own := RX4) (ref := "CupFountainModel") (C := RX4) (T := TX4) (N := 17) (ci := 4) (v := .int 0) (ws1 := mm ca a (upd (upd f 11 0) 15 0) h c hi sn be tx ti) (pc := 7) hx hb hts hinX4 tyX4 tyX4_ok nmX4 hown hz 0 rfl rfl 15 (by decide) L145 rfl rfl rfl rfl (Nat.le_of_ble_eq_true rfl) rfl dX4_readText_7 (fun H locs hz => ?_)
  refine lv_aload_n (pc := 10) hx hb dX4_readText_10 rfl (lv_at hl 0 rfl) ?_
  refine lv_iconst (v := 0) (pc := 11) hx hb dX4_readText_11 (by decide) ?_
  refine z_put (own := RX4) (ref := "CupFountainModel") (C := RX4) (T := TX4) (N := 17) (ci := 4) (v := .int 0) (ws1 := mm ca a (upd (upd (upd f 11 0) 15 0) 16 0) h c hi sn be tx ti) (pc := 12) hx hb hts hinX4 tyX4 tyX4_ok nmX4 hown hz 0 rfl rfl 16 (by decide) L148 rfl rfl rfl rfl (Nat.le_of_ble_eq_true rfl) rfl dX4_readText_12 (fun H locs hz => ?_)
  have hz := hz.as (show _ = mm ca a (fS f (0, f 13, f 14) (f 12) 0 0) h c hi sn be tx ti from rfl)
  refine lv_aload_n (pc := 15) hx hb dX4_readText_15 rfl (lv_at hl 0 rfl) ?_
  refine z_runV (pc := 16) (As := []) (rest := []) (ws1 := mm ca a (fS f ((rdThing tx ln (0, f 13, f 14)).2) (ltF tx ln 0) 0 0) h c hi sn be tx ti) ⟨hx, hb, hml, hown, hts⟩ (k_X4_readThing l G ca a f h c hi sn be tx ti (0, f 13, f 14) (f 12) 0 0 ln hln hf7 (show (0 : Nat) < 900 by decide)) (cwV 0 hts (zgoodV zsub wq_19_3 wq_19_4 wq_19_5 wq_1_5 wq_19_6) rfl rfl rfl hdV_X4_readThing ⟨Nat.le_of_ble_eq_true rfl, Nat.le_of_ble_eq_true rfl⟩) hz [] zp_all zp_all' rfl rfl rfl hl.1 (Nat.le_of_ble_eq_true rfl) (st1 := [.int ((rdThing tx ln (0, f 13, f 14)).1)]) rfl dX4_readText_16 ⟨Nat.zero_le _, Nat.zero_le _⟩ (fun H locs hz => ?_)
  refine lv_istore_n (lv' := [(2, .int ((rdThing tx ln (0, f 13, f 14)).1)), (0, .ref (a 0)), (1, .int 1)]) (pc := 19) hx hb dX4_readText_19 rfl hl (by decide) rfl (fun ls hl => ?_)
  have loop1 : ∀ cnt i : Nat, i + cnt = 61 → ∀ (H : Heap) (locs : List Loc) (ls : Array Slot), zw G ca A s0.heap s0 (mm ca a (fS f ((sI tx ln (0, f 13, f 14) i).2) (lI tx ln (0, f 13, f 14) i) (nI i) 0) ((pI tx ln (0, f 13, f 14) (h, c) i).1) ((pI tx ln (0, f 13, f 14) (h, c) i).2) hi sn be tx (pT tx ln (0, f 13, f 14) (h, c) ti i)) H locs → lv_has ls 4 [(2, .int ((sI tx ln (0, f 13, f 14) i).1)), (0, .ref (a 0)), (1, .int 1)] → (∀ j, j < i → ¬ (sI tx ln (0, f 13, f 14) j).1 = 0) → rdX tx ln (0, f 13, f 14) (h, c) = rdF tx ln (0, f 13, f 14) (h, c) cnt i → W pg l ev rm_X4_readText s0 mt args below meth cd H locs 0 0 Q (F0 mt 20 ls []) := by
    intro cnt
    induction cnt with
    | zero =>
      intro i hk9 H locs ls hz hl hno hR
      obtain rfl : 61 = i := by omega
      refine lv_iload_n (pc := 20) hx hb dX4_readText_20 rfl (lv_at hl 0 rfl) ?_
      refine lv_if_eq (pc := 21) (tgt := 102) hx hb dX4_readText_21 (by decide) (fun c_21 => ?_) (fun c_21 => ?_)
      · refine lv_iconst (v := 0) (pc := 102) hx hb dX4_readText_102 (by decide) ?_
        exact z_zret (pc := 103) hx hb hr hlk hQ hz rfl dX4_readText_103 (by simp only [hR, if_true, if_neg i10, if_neg n01, if_neg n02, if_neg n10, if_neg n12, if_neg n20, if_neg n21, rdF, k0F, d1F, d2F, d3F, d4F]) (by simp only [hR, if_true, if_neg i10, if_neg n01, if_neg n02, if_neg n10, if_neg n12, if_neg n20, if_neg n21, rdF, k0F, d1F, d2F, d3F, d4F])
      · have hall := sI_next hno c_21
        have hpl := sI_ok _ hall
        exact absurd hpl.1 (by omega)
    | succ cnt ih =>
      intro i hk9 H locs ls hz hl hno hR
      have hk : i < 61 := by omega
      refine lv_iload_n (pc := 20) hx hb dX4_readText_20 rfl (lv_at hl 0 rfl) ?_
      refine lv_if_eq (pc := 21) (tgt := 102) hx hb dX4_readText_21 (by decide) (fun c_21 => ?_) (fun c_21 => ?_)
      · refine lv_iconst (v := 0) (pc := 102) hx hb dX4_readText_102 (by decide) ?_
        exact z_zret (pc := 103) hx hb hr hlk hQ hz rfl dX4_readText_103 (by simp only [hR, if_true, if_neg i10, if_neg n01, if_neg n02, if_neg n10, if_neg n12, if_neg n20, if_neg n21, rdF, if_pos c_21, k0F, d1F, d2F, d3F, d4F]) (by simp only [hR, if_true, if_neg i10, if_neg n01, if_neg n02, if_neg n10, if_neg n12, if_neg n20, if_neg n21, rdF, if_pos c_21, k0F, d1F, d2F, d3F, d4F])
      · have hall := sI_next hno c_21
        have hpl := sI_ok _ hall
        refine lv_iload_n (pc := 24) hx hb dX4_readText_24 rfl (lv_at hl 2 rfl) ?_
        refine lv_if_eq (pc := 25) (tgt := 35) hx hb dX4_readText_25 (by decide) (fun c9 => absurd c9 (by decide)) (fun c_25 => ?_)
        refine lv_aload_n (pc := 28) hx hb dX4_readText_28 rfl (lv_at hl 1 rfl) ?_
        refine z_runV (pc := 29) (As := []) (rest := []) (ws1 := mm ca a (fS f ((sI tx ln (0, f 13, f 14) i).2) (lI tx ln (0, f 13, f 14) i) (nI i) 0) ((pI tx ln (0, f 13, f 14) (h, c) (i + 1)).1) ((pI tx ln (0, f 13, f 14) (h, c) (i + 1)).2) hi sn be tx (pT tx ln (0, f 13, f 14) (h, c) ti (i + 1))) ⟨hx, hb, hml, hown, hts⟩ (k_X4_does l G ca a f ((pI tx ln (0, f 13, f 14) (h, c) i).1) ((pI tx ln (0, f 13, f 14) (h, c) i).2) hi sn be tx (pT tx ln (0, f 13, f 14) (h, c) ti i) ((sI tx ln (0, f 13, f 14) i).2) (lI tx ln (0, f 13, f 14) i) (nI i) 0 (hok.things i)) (cwV 0 hts (zgoodV zsub wq_20_2 wq_20_3 wq_20_4 wq_1_5 wq_20_5) rfl rfl rfl hdV_X4_does ⟨Nat.le_of_ble_eq_true rfl, Nat.le_of_ble_eq_true rfl⟩) hz [] zp_all zp_all' rfl rfl rfl hl.1 (Nat.le_of_ble_eq_true rfl) (st1 := [.int (rI tx ln (0, f 13, f 14) (h, c) i)]) rfl dX4_readText_29 ⟨Nat.zero_le _, Nat.zero_le _⟩ (fun H locs hz => ?_)
        refine lv_goto (tgt := 36) (pc := 32) hx hb dX4_readText_32 (by decide) ?_
        refine lv_istore_n (lv' := [(3, .int (rI tx ln (0, f 13, f 14) (h, c) i)), (2, .int ((sI tx ln (0, f 13, f 14) i).1)), (0, .ref (a 0)), (1, .int 1)]) (pc := 36) hx hb dX4_readText_36 rfl hl (by decide) rfl (fun ls hl => ?_)
        refine lv_iload_n (pc := 37) hx hb dX4_readText_37 rfl (lv_at hl 0 rfl) ?_
        refine lv_if_ge (pc := 38) (tgt := 54) hx hb dX4_readText_38 (by decide) (fun c_38 => ?_) (fun c_38 => ?_)
        · refine lv_aload_n (pc := 54) hx hb dX4_readText_54 rfl (lv_at hl 2 rfl) ?_
          refine lv_dup (pc := 55) hx hb dX4_readText_55 rfl ?_
          refine z_get (own := RX4) (ref := "CupFountainModel") (C := RX4) (T := TX4) (N := 17) (ci := 4) (v := .int (nI i)) (pc := 56) hx hb hts hinX4 hown hz 0 rfl rfl 15 (by decide) L145 rfl rfl dX4_readText_56 ?_
          refine lv_iconst (v := 1) (pc := 59) hx hb dX4_readText_59 (by decide) ?_
          refine lv_iadd (pc := 60) hx hb dX4_readText_60 ?_
          refine z_top (y := nI (i + 1)) (nI_1 _) ?_
          refine z_put (own := RX4) (ref := "CupFountainModel") (C := RX4) (T := TX4) (N := 17) (ci := 4) (v := .int (nI (i + 1))) (ws1 := mm ca a (fS f ((sI tx ln (0, f 13, f 14) i).2) (lI tx ln (0, f 13, f 14) i) (nI (i + 1)) 0) ((pI tx ln (0, f 13, f 14) (h, c) (i + 1)).1) ((pI tx ln (0, f 13, f 14) (h, c) (i + 1)).2) hi sn be tx (pT tx ln (0, f 13, f 14) (h, c) ti (i + 1))) (pc := 61) hx hb hts hinX4 tyX4 tyX4_ok nmX4 hown hz 0 rfl rfl 15 (by decide) L145 rfl rfl rfl rfl (Nat.le_of_ble_eq_true rfl) rfl dX4_readText_61 (fun H locs hz => ?_)
          refine lv_aload_n (pc := 64) hx hb dX4_readText_64 rfl (lv_at hl 2 rfl) ?_
          refine z_get (own := RX4) (ref := "CupFountainModel") (C := RX4) (T := TX4) (N := 17) (ci := 4) (v := .int (nI (((sI tx ln (0, f 13, f 14) i).2).1))) (pc := 65) hx hb hts hinX4 hown hz 0 rfl rfl 11 (by decide) L119 rfl rfl dX4_readText_65 ?_
          refine lv_aload_n (pc := 68) hx hb dX4_readText_68 rfl (lv_at hl 2 rfl) ?_
          refine z_get (own := RX4) (ref := "CupFountainModel") (C := RX4) (T := TX4) (N := 17) (ci := 4) (v := .int (f 7)) (pc := 69) hx hb hts hinX4 hown hz 0 rfl rfl 7 (by decide) L116 rfl rfl dX4_readText_69 ?_
          refine lv_icmp_ne (pc := 72) (tgt := 77) hx hb dX4_readText_72 (by decide) (fun c_72 => ?_) (fun c_72 => ?_)
          · have hne : ¬ (sI tx ln (0, f 13, f 14) i).2.1 = ln := fun q => c_72 (by rw [hf7, q])
            refine lv_aload_n (pc := 77) hx hb dX4_readText_77 rfl (lv_at hl 2 rfl) ?_
            refine lv_bipush (v := 59) (pc := 78) hx hb dX4_readText_78 (by decide) ?_
            refine z_runV (pc := 80) (As := [.int 59]) (rest := []) (ws1 := mm ca a (fS f ((rdChr tx ln 59 ((sI tx ln (0, f 13, f 14) i).2)).2) (lI tx ln (0, f 13, f 14) i) (nI (i + 1)) 0) ((pI tx ln (0, f 13, f 14) (h, c) (i + 1)).1) ((pI tx ln (0, f 13, f 14) (h, c) (i + 1)).2) hi sn be tx (pT tx ln (0, f 13, f 14) (h, c) ti (i + 1))) ⟨hx, hb, hml, hown, hts⟩ (k_X4_takes l G ca a f ((pI tx ln (0, f 13, f 14) (h, c) (i + 1)).1) ((pI tx ln (0, f 13, f 14) (h, c) (i + 1)).2) hi sn be tx (pT tx ln (0, f 13, f 14) (h, c) ti (i + 1)) ((sI tx ln (0, f 13, f 14) i).2) (lI tx ln (0, f 13, f 14) i) (nI (i + 1)) 0 ln hln hf7 (show ((sI tx ln (0, f 13, f 14) i).2).1 < 1000 by omega) 59) (cwV 1 hts (zgoodV zsub wq_19_17 wq_19_18 wq_19_19 wq_1_5 wq_19_20) rfl rfl rfl hdV_X4_takes ⟨Nat.le_of_ble_eq_true rfl, Nat.le_of_ble_eq_true rfl⟩) hz [] zp_all zp_all' rfl rfl rfl hl.1 (Nat.le_of_ble_eq_true rfl) (st1 := [.int ((rdChr tx ln 59 ((sI tx ln (0, f 13, f 14) i).2)).1)]) rfl dX4_readText_80 ⟨Nat.zero_le _, Nat.zero_le _⟩ (fun H locs hz => ?_)
            have J2 : ∀ (H : Heap) (locs : List Loc) (ls : Array Slot), zw G ca A s0.heap s0 (mm ca a (fS f ((sI tx ln (0, f 13, f 14) (i + 1)).2) (lI tx ln (0, f 13, f 14) (i + 1)) (nI (i + 1)) 0) ((pI tx ln (0, f 13, f 14) (h, c) (i + 1)).1) ((pI tx ln (0, f 13, f 14) (h, c) (i + 1)).2) hi sn be tx (pT tx ln (0, f 13, f 14) (h, c) ti (i + 1))) H locs → lv_has ls 4 [(3, .int (rI tx ln (0, f 13, f 14) (h, c) i)), (2, .int ((sI tx ln (0, f 13, f 14) i).1)), (0, .ref (a 0)), (1, .int 1)] → W pg l ev rm_X4_readText s0 mt args below meth cd H locs 0 0 Q (F0 mt 98 ls [.int ((sI tx ln (0, f 13, f 14) (i + 1)).1)]) := by
              intro H locs ls hz hl
              refine lv_istore_n (lv' := [(2, .int ((sI tx ln (0, f 13, f 14) (i + 1)).1)), (3, .int (rI tx ln (0, f 13, f 14) (h, c) i)), (0, .ref (a 0)), (1, .int 1)]) (pc := 98) hx hb dX4_readText_98 rfl hl (by decide) rfl (fun ls hl => ?_)
              refine lv_goto (tgt := 20) (pc := 99) hx hb dX4_readText_99 (by decide) ?_
              exact ih (i + 1) (by omega) _ _ _ hz (lv_sub hl [0, 2, 3] rfl) (sI_lt hno c_21) (hR.trans (by rw [rdF, if_neg c_21, if_pos c_38, if_neg hne]))
            refine lv_if_eq (pc := 83) (tgt := 97) hx hb dX4_readText_83 (by decide) (fun c_83 => ?_) (fun c_83 => ?_)
            · refine lv_iconst (v := 0) (pc := 97) hx hb dX4_readText_97 (by decide) ?_
              exact z_top (by simp only [sI, lI, nxThing, sq, fin, if_true, if_pos c_83]) (J2 _ _ _ (hz.as (by simp only [sI, lI, nxThing, sq, fin, if_true, if_pos c_83])) (lv_sub hl [0, 1, 2, 3] rfl))
            · refine lv_aload_n (pc := 86) hx hb dX4_readText_86 rfl (lv_at hl 2 rfl) ?_
              refine z_runV (pc := 87) (As := []) (rest := []) (ws1 := mm ca a (fS f ((rdThing tx ln ((rdChr tx ln 59 ((sI tx ln (0, f 13, f 14) i).2)).2)).2) (ltF tx ln (((rdChr tx ln 59 ((sI tx ln (0, f 13, f 14) i).2)).2).1)) (nI (i + 1)) 0) ((pI tx ln (0, f 13, f 14) (h, c) (i + 1)).1) ((pI tx ln (0, f 13, f 14) (h, c) (i + 1)).2) hi sn be tx (pT tx ln (0, f 13, f 14) (h, c) ti (i + 1))) ⟨hx, hb, hml, hown, hts⟩ (k_X4_readThing l G ca a f ((pI tx ln (0, f 13, f 14) (h, c) (i + 1)).1) ((pI tx ln (0, f 13, f 14) (h, c) (i + 1)).2) hi sn be tx (pT tx ln (0, f 13, f 14) (h, c) ti (i + 1)) ((rdChr tx ln 59 ((sI tx ln (0, f 13, f 14) i).2)).2) (lI tx ln (0, f 13, f 14) i) (nI (i + 1)) 0 ln hln hf7 (show ((rdChr tx ln 59 ((sI tx ln (0, f 13, f 14) i).2)).2).1 < 900 by have g0 := rdChr_le (tx := tx) (ln := ln) (code := 59) (s := (sI tx ln (0, f 13, f 14) i).2); omega)) (cwV 0 hts (zgoodV zsub wq_19_3 wq_19_4 wq_19_5 wq_1_5 wq_19_6) rfl rfl rfl hdV_X4_readThing ⟨Nat.le_of_ble_eq_true rfl, Nat.le_of_ble_eq_true rfl⟩) hz [] zp_all zp_all' rfl rfl rfl hl.1 (Nat.le_of_ble_eq_true rfl) (st1 := [.int ((rdThing tx ln ((rdChr tx ln 59 ((sI tx ln (0, f 13, f 14) i).2)).2)).1)]) rfl dX4_readText_87 ⟨Nat.zero_le _, Nat.zero_le _⟩ (fun H locs hz => ?_)
              refine lv_if_eq (pc := 90) (tgt := 97) hx hb dX4_readText_90 (by decide) (fun c_90 => ?_) (fun c_90 => ?_)
              · refine lv_iconst (v := 0) (pc := 97) hx hb dX4_readText_97 (by decide) ?_
                exact z_top (by simp only [sI, lI, nxThing, sq, fin, if_true, if_neg c_83, if_pos c_90]) (J2 _ _ _ (hz.as (by simp only [sI, lI, nxThing, sq, fin, if_true, if_neg c_83, if_pos c_90])) (lv_sub hl [0, 1, 2, 3] rfl))
              · refine lv_iconst (v := 1) (pc := 93) hx hb dX4_readText_93 (by decide) ?_
                refine lv_goto (tgt := 98) (pc := 94) hx hb dX4_readText_94 (by decide) ?_
                exact z_top (by simp only [sI, lI, nxThing, sq, fin, if_true, if_neg c_83, if_neg c_90]) (J2 _ _ _ (hz.as (by simp only [sI, lI, nxThing, sq, fin, if_true, if_neg c_83, if_neg c_90])) (lv_sub hl [0, 1, 2, 3] rfl))
          · have hne : (sI tx ln (0, f 13, f 14) i).2.1 = ln := (nI_eq (by omega) (by omega)).mp (by rw [← hf7]; exact c_72)
            refine lv_iconst (v := 1) (pc := 75) hx hb dX4_readText_75 (by decide) ?_
            exact z_zret (pc := 76) hx hb hr hlk hQ hz rfl dX4_readText_76 (by simp only [hR, if_true, if_neg i10, if_neg n01, if_neg n02, if_neg n10, if_neg n12, if_neg n20, if_neg n21, rdF, if_neg c_21, if_pos c_38, if_pos hne, k0F, d1F, d2F, d3F, d4F]) (by simp only [hR, if_true, if_neg i10, if_neg n01, if_neg n02, if_neg n10, if_neg n12, if_neg n20, if_neg n21, rdF, if_neg c_21, if_pos c_38, if_pos hne, k0F, d1F, d2F, d3F, d4F])
        · refine lv_iload_n (pc := 41) hx hb dX4_readText_41 rfl (lv_at hl 0 rfl) ?_
          refine lv_bipush (v := -5) (pc := 42) hx hb dX4_readText_42 (by decide) ?_
          refine lv_icmp_eq (pc := 44) (tgt := 54) hx hb dX4_readText_44 (by decide) (fun c_44 => ?_) (fun c_44 => ?_)
          · refine lv_aload_n (pc := 54) hx hb dX4_readText_54 rfl (lv_at hl 2 rfl) ?_
            refine lv_dup (pc := 55) hx hb dX4_readText_55 rfl ?_
            refine z_get (own := RX4) (ref := "CupFountainModel") (C := RX4) (T := TX4) (N := 17) (ci := 4) (v := .int (nI i)) (pc := 56) hx hb hts hinX4 hown hz 0 rfl rfl 15 (by decide) L145 rfl rfl dX4_readText_56 ?_
            refine lv_iconst (v := 1) (pc := 59) hx hb dX4_readText_59 (by decide) ?_
            refine lv_iadd (pc := 60) hx hb dX4_readText_60 ?_
            refine z_top (y := nI (i + 1)) (nI_1 _) ?_
            refine z_put (own := RX4) (ref := "CupFountainModel") (C := RX4) (T := TX4) (N := 17) (ci := 4) (v := .int (nI (i + 1))) (ws1 := mm ca a (fS f ((sI tx ln (0, f 13, f 14) i).2) (lI tx ln (0, f 13, f 14) i) (nI (i + 1)) 0) ((pI tx ln (0, f 13, f 14) (h, c) (i + 1)).1) ((pI tx ln (0, f 13, f 14) (h, c) (i + 1)).2) hi sn be tx (pT tx ln (0, f 13, f 14) (h, c) ti (i + 1))) (pc := 61) hx hb hts hinX4 tyX4 tyX4_ok nmX4 hown hz 0 rfl rfl 15 (by decide) L145 rfl rfl rfl rfl (Nat.le_of_ble_eq_true rfl) rfl dX4_readText_61 (fun H locs hz => ?_)
            refine lv_aload_n (pc := 64) hx hb dX4_readText_64 rfl (lv_at hl 2 rfl) ?_
            refine z_get (own := RX4) (ref := "CupFountainModel") (C := RX4) (T := TX4) (N := 17) (ci := 4) (v := .int (nI (((sI tx ln (0, f 13, f 14) i).2).1))) (pc := 65) hx hb hts hinX4 hown hz 0 rfl rfl 11 (by decide) L119 rfl rfl dX4_readText_65 ?_
            refine lv_aload_n (pc := 68) hx hb dX4_readText_68 rfl (lv_at hl 2 rfl) ?_
            refine z_get (own := RX4) (ref := "CupFountainModel") (C := RX4) (T := TX4) (N := 17) (ci := 4) (v := .int (f 7)) (pc := 69) hx hb hts hinX4 hown hz 0 rfl rfl 7 (by decide) L116 rfl rfl dX4_readText_69 ?_
            refine lv_icmp_ne (pc := 72) (tgt := 77) hx hb dX4_readText_72 (by decide) (fun c_72 => ?_) (fun c_72 => ?_)
            · have hne : ¬ (sI tx ln (0, f 13, f 14) i).2.1 = ln := fun q => c_72 (by rw [hf7, q])
              refine lv_aload_n (pc := 77) hx hb dX4_readText_77 rfl (lv_at hl 2 rfl) ?_
              refine lv_bipush (v := 59) (pc := 78) hx hb dX4_readText_78 (by decide) ?_
              refine z_runV (pc := 80) (As := [.int 59]) (rest := []) (ws1 := mm ca a (fS f ((rdChr tx ln 59 ((sI tx ln (0, f 13, f 14) i).2)).2) (lI tx ln (0, f 13, f 14) i) (nI (i + 1)) 0) ((pI tx ln (0, f 13, f 14) (h, c) (i + 1)).1) ((pI tx ln (0, f 13, f 14) (h, c) (i + 1)).2) hi sn be tx (pT tx ln (0, f 13, f 14) (h, c) ti (i + 1))) ⟨hx, hb, hml, hown, hts⟩ (k_X4_takes l G ca a f ((pI tx ln (0, f 13, f 14) (h, c) (i + 1)).1) ((pI tx ln (0, f 13, f 14) (h, c) (i + 1)).2) hi sn be tx (pT tx ln (0, f 13, f 14) (h, c) ti (i + 1)) ((sI tx ln (0, f 13, f 14) i).2) (lI tx ln (0, f 13, f 14) i) (nI (i + 1)) 0 ln hln hf7 (show ((sI tx ln (0, f 13, f 14) i).2).1 < 1000 by omega) 59) (cwV 1 hts (zgoodV zsub wq_19_17 wq_19_18 wq_19_19 wq_1_5 wq_19_20) rfl rfl rfl hdV_X4_takes ⟨Nat.le_of_ble_eq_true rfl, Nat.le_of_ble_eq_true rfl⟩) hz [] zp_all zp_all' rfl rfl rfl hl.1 (Nat.le_of_ble_eq_true rfl) (st1 := [.int ((rdChr tx ln 59 ((sI tx ln (0, f 13, f 14) i).2)).1)]) rfl dX4_readText_80 ⟨Nat.zero_le _, Nat.zero_le _⟩ (fun H locs hz => ?_)
              have J6 : ∀ (H : Heap) (locs : List Loc) (ls : Array Slot), zw G ca A s0.heap s0 (mm ca a (fS f ((sI tx ln (0, f 13, f 14) (i + 1)).2) (lI tx ln (0, f 13, f 14) (i + 1)) (nI (i + 1)) 0) ((pI tx ln (0, f 13, f 14) (h, c) (i + 1)).1) ((pI tx ln (0, f 13, f 14) (h, c) (i + 1)).2) hi sn be tx (pT tx ln (0, f 13, f 14) (h, c) ti (i + 1))) H locs → lv_has ls 4 [(3, .int (rI tx ln (0, f 13, f 14) (h, c) i)), (2, .int ((sI tx ln (0, f 13, f 14) i).1)), (0, .ref (a 0)), (1, .int 1)] → W pg l ev rm_X4_readText s0 mt args below meth cd H locs 0 0 Q (F0 mt 98 ls [.int ((sI tx ln (0, f 13, f 14) (i + 1)).1)]) := by
                intro H locs ls hz hl
                refine lv_istore_n (lv' := [(2, .int ((sI tx ln (0, f 13, f 14) (i + 1)).1)), (3, .int (rI tx ln (0, f 13, f 14) (h, c) i)), (0, .ref (a 0)), (1, .int 1)]) (pc := 98) hx hb dX4_readText_98 rfl hl (by decide) rfl (fun ls hl => ?_)
                refine lv_goto (tgt := 20) (pc := 99) hx hb dX4_readText_99 (by decide) ?_
                exact ih (i + 1) (by omega) _ _ _ hz (lv_sub hl [0, 2, 3] rfl) (sI_lt hno c_21) (hR.trans (by rw [rdF, if_neg c_21, if_neg c_38, if_pos c_44, if_neg hne]))
              refine lv_if_eq (pc := 83) (tgt := 97) hx hb dX4_readText_83 (by decide) (fun c_83 => ?_) (fun c_83 => ?_)
              · refine lv_iconst (v := 0) (pc := 97) hx hb dX4_readText_97 (by decide) ?_
                exact z_top (by simp only [sI, lI, nxThing, sq, fin, if_true, if_pos c_83]) (J6 _ _ _ (hz.as (by simp only [sI, lI, nxThing, sq, fin, if_true, if_pos c_83])) (lv_sub hl [0, 1, 2, 3] rfl))
              · refine lv_aload_n (pc := 86) hx hb dX4_readText_86 rfl (lv_at hl 2 rfl) ?_
                refine z_runV (pc := 87) (As := []) (rest := []) (ws1 := mm ca a (fS f ((rdThing tx ln ((rdChr tx ln 59 ((sI tx ln (0, f 13, f 14) i).2)).2)).2) (ltF tx ln (((rdChr tx ln 59 ((sI tx ln (0, f 13, f 14) i).2)).2).1)) (nI (i + 1)) 0) ((pI tx ln (0, f 13, f 14) (h, c) (i + 1)).1) ((pI tx ln (0, f 13, f 14) (h, c) (i + 1)).2) hi sn be tx (pT tx ln (0, f 13, f 14) (h, c) ti (i + 1))) ⟨hx, hb, hml, hown, hts⟩ (k_X4_readThing l G ca a f ((pI tx ln (0, f 13, f 14) (h, c) (i + 1)).1) ((pI tx ln (0, f 13, f 14) (h, c) (i + 1)).2) hi sn be tx (pT tx ln (0, f 13, f 14) (h, c) ti (i + 1)) ((rdChr tx ln 59 ((sI tx ln (0, f 13, f 14) i).2)).2) (lI tx ln (0, f 13, f 14) i) (nI (i + 1)) 0 ln hln hf7 (show ((rdChr tx ln 59 ((sI tx ln (0, f 13, f 14) i).2)).2).1 < 900 by have g0 := rdChr_le (tx := tx) (ln := ln) (code := 59) (s := (sI tx ln (0, f 13, f 14) i).2); omega)) (cwV 0 hts (zgoodV zsub wq_19_3 wq_19_4 wq_19_5 wq_1_5 wq_19_6) rfl rfl rfl hdV_X4_readThing ⟨Nat.le_of_ble_eq_true rfl, Nat.le_of_ble_eq_true rfl⟩) hz [] zp_all zp_all' rfl rfl rfl hl.1 (Nat.le_of_ble_eq_true rfl) (st1 := [.int ((rdThing tx ln ((rdChr tx ln 59 ((sI tx ln (0, f 13, f 14) i).2)).2)).1)]) rfl dX4_readText_87 ⟨Nat.zero_le _, Nat.zero_le _⟩ (fun H locs hz => ?_)
                refine lv_if_eq (pc := 90) (tgt := 97) hx hb dX4_readText_90 (by decide) (fun c_90 => ?_) (fun c_90 => ?_)
                · refine lv_iconst (v := 0) (pc := 97) hx hb dX4_readText_97 (by decide) ?_
                  exact z_top (by simp only [sI, lI, nxThing, sq, fin, if_true, if_neg c_83, if_pos c_90]) (J6 _ _ _ (hz.as (by simp only [sI, lI, nxThing, sq, fin, if_true, if_neg c_83, if_pos c_90])) (lv_sub hl [0, 1, 2, 3] rfl))
                · refine lv_iconst (v := 1) (pc := 93) hx hb dX4_readText_93 (by decide) ?_
                  refine lv_goto (tgt := 98) (pc := 94) hx hb dX4_readText_94 (by decide) ?_
                  exact z_top (by simp only [sI, lI, nxThing, sq, fin, if_true, if_neg c_83, if_neg c_90]) (J6 _ _ _ (hz.as (by simp only [sI, lI, nxThing, sq, fin, if_true, if_neg c_83, if_neg c_90])) (lv_sub hl [0, 1, 2, 3] rfl))
            · have hne : (sI tx ln (0, f 13, f 14) i).2.1 = ln := (nI_eq (by omega) (by omega)).mp (by rw [← hf7]; exact c_72)
              refine lv_iconst (v := 1) (pc := 75) hx hb dX4_readText_75 (by decide) ?_
              exact z_zret (pc := 76) hx hb hr hlk hQ hz rfl dX4_readText_76 (by simp only [hR, if_true, if_neg i10, if_neg n01, if_neg n02, if_neg n10, if_neg n12, if_neg n20, if_neg n21, rdF, if_neg c_21, if_neg c_38, if_pos c_44, if_pos hne, k0F, d1F, d2F, d3F, d4F]) (by simp only [hR, if_true, if_neg i10, if_neg n01, if_neg n02, if_neg n10, if_neg n12, if_neg n20, if_neg n21, rdF, if_neg c_21, if_neg c_38, if_pos c_44, if_pos hne, k0F, d1F, d2F, d3F, d4F])
          · refine lv_aload_n (pc := 47) hx hb dX4_readText_47 rfl (lv_at hl 2 rfl) ?_
            refine lv_iload_n (pc := 48) hx hb dX4_readText_48 rfl (lv_at hl 0 rfl) ?_
            refine z_put (own := RX4) (ref := "CupFountainModel") (C := RX4) (T := TX4) (N := 17) (ci := 4) (v := .int (rI tx ln (0, f 13, f 14) (h, c) i)) (ws1 := mm ca a (fS f ((sI tx ln (0, f 13, f 14) i).2) (lI tx ln (0, f 13, f 14) i) (nI i) (rI tx ln (0, f 13, f 14) (h, c) i)) ((pI tx ln (0, f 13, f 14) (h, c) (i + 1)).1) ((pI tx ln (0, f 13, f 14) (h, c) (i + 1)).2) hi sn be tx (pT tx ln (0, f 13, f 14) (h, c) ti (i + 1))) (pc := 49) hx hb hts hinX4 tyX4 tyX4_ok nmX4 hown hz 0 rfl rfl 16 (by decide) L148 rfl rfl rfl rfl (Nat.le_of_ble_eq_true rfl) rfl dX4_readText_49 (fun H locs hz => ?_)
            refine lv_iconst (v := 1) (pc := 52) hx hb dX4_readText_52 (by decide) ?_
            exact z_zret (pc := 53) hx hb hr hlk hQ hz rfl dX4_readText_53 (by simp only [hR, if_true, if_neg i10, if_neg n01, if_neg n02, if_neg n10, if_neg n12, if_neg n20, if_neg n21, rdF, if_neg c_21, if_neg c_38, if_neg c_44, k0F, d1F, d2F, d3F, d4F]) (by simp only [hR, if_true, if_neg i10, if_neg n01, if_neg n02, if_neg n10, if_neg n12, if_neg n20, if_neg n21, rdF, if_neg c_21, if_neg c_38, if_neg c_44, k0F, d1F, d2F, d3F, d4F])
  exact loop1 61 0 (by omega) _ _ _ (hz.as (by rfl)) (lv_sub hl [0, 1, 2] rfl) (fun j hj => absurd hj (by omega)) (rdX_d _ _ _ _)

set_option maxHeartbeats 4000000 in
set_option maxRecDepth 100000 in
theorem k_X4_readText_p (l : Launch) (G : va_G) (ca : Nat → ClassId) (a : Nat → Nat) (f h : Nat → Int32) (c : Nat → Nat → Int32) (hi sn be tx ti : Nat → Int32) (ln : Nat) (hln : ln ≤ 60) (hf7 : f 7 = nI ln) : Zc l G ca yX4_readText (zws yX4_readText cX4_readText 4 (some .boolean)) rm_X4_readText [.ref (a 0), .int 0] (mm ca a f h c hi sn be tx ti) (some (.int (rtX tx ln (0, f 13, f 14)).1)) (mm ca a (fS f ((sI tx ln (0, f 13, f 14) (rtX tx ln (0, f 13, f 14)).2).2) (lI tx ln (0, f 13, f 14) (rtX tx ln (0, f 13, f 14)).2) (k0F (rtX tx ln (0, f 13, f 14))) 0) h c hi sn be tx ti) := by
  refine Zc.of (cc := cX4_readText) (maxL := 4) (ret := (some .boolean)) (by decide) rfl (Nat.le_of_ble_eq_true rfl) ?_
  intro pg ev s0 mt below meth cd A args Q ls hx hb hr hml hown hts hlk hQ hl hz
  have L116 : (Cond.fieldLink RX4 116 "CupFountainModel" "length" "I").before args s0 = true := hts _ (zsub _ wq_16_1)
  have L119 : (Cond.fieldLink RX4 119 "CupFountainModel" "place" "I").before args s0 = true := hts _ (zsub _ wq_18_19)
  have L145 : (Cond.fieldLink RX4 145 "CupFountainModel" "done" "I").before args s0 = true := hts _ (zsub _ wq_18_21)
  have L148 : (Cond.fieldLink RX4 148 "CupFountainModel" "error" "I").before args s0 = true := hts _ (zsub _ wq_18_20)
  have hinX4 : ∀ w ∈ wsX40, w ∈ zws yX4_readText cX4_readText 4 (some .boolean) := fun w h => zsub w (wl_wsX40 w h)
  have hl : lv_has ls 4 [(0, .ref (a 0)), (1, .int 0)] := hl
  refine lv_aload_n (pc := 0) hx hb dX4_readText_0 rfl (lv_at hl 0 rfl) ?_
  refine lv_iconst (v := 0) (pc := 1) hx hb dX4_readText_1 (by decide) ?_
  refine z_put (own := RX4) (ref := "CupFountainModel") (C := RX4) (T := TX4) (N := 17) (ci := 4) (v := .int 0) (ws1 := mm ca a (upd f 11 0) h c hi sn be tx ti) (pc := 2) hx hb hts hinX4 tyX4 tyX4_ok nmX4 hown hz 0 rfl rfl 11 (by decide) L119 rfl rfl rfl rfl (Nat.le_of_ble_eq_true rfl) rfl dX4_readText_2 (fun H locs hz => ?_)
  refine lv_aload_n (pc := 5) hx hb dX4_readText_5 rfl (lv_at hl 0 rfl) ?_
  refine lv_iconst (v := 0) (pc := 6) hx hb dX4_readText_6 (by decide) ?_
  refine z_put (own := RX4) (ref := "CupFountainModel") (C := RX4) (T := TX4) (N := 17) (ci := 4) (v := .int 0) (ws1 := mm ca a (upd (upd f 11 0) 15 0) h c hi sn be tx ti) (pc := 7) hx hb hts hinX4 tyX4 tyX4_ok nmX4 hown hz 0 rfl rfl 15 (by decide) L145 rfl rfl rfl rfl (Nat.le_of_ble_eq_true rfl) rfl dX4_readText_7 (fun H locs hz => ?_)
  refine lv_aload_n (pc := 10) hx hb dX4_readText_10 rfl (lv_at hl 0 rfl) ?_
  refine lv_iconst (v := 0) (pc := 11) hx hb dX4_readText_11 (by decide) ?_
  refine z_put (own := RX4) (ref := "CupFountainModel") (C := RX4) (T := TX4) (N := 17) (ci := 4) (v := .int 0) (ws1 := mm ca a (upd (upd (upd f 11 0) 15 0) 16 0) h c hi sn be tx ti) (pc := 12) hx hb hts hinX4 tyX4 tyX4_ok nmX4 hown hz 0 rfl rfl 16 (by decide) L148 rfl rfl rfl rfl (Nat.le_of_ble_eq_true rfl) rfl dX4_readText_12 (fun H locs hz => ?_)
  have hz := hz.as (show _ = mm ca a (fS f (0, f 13, f 14) (f 12) 0 0) h c hi sn be tx ti from rfl)
  refine lv_aload_n (pc := 15) hx hb dX4_readText_15 rfl (lv_at hl 0 rfl) ?_
  refine z_runV (pc := 16) (As := []) (rest := []) (ws1 := mm ca a (fS f ((rdThing tx ln (0, f 13, f 14)).2) (ltF tx ln 0) 0 0) h c hi sn be tx ti) ⟨hx, hb, hml, hown, hts⟩ (k_X4_readThing l G ca a f h c hi sn be tx ti (0, f 13, f 14) (f 12) 0 0 ln hln hf7 (show (0 : Nat) < 900 by decide)) (cwV 0 hts (zgoodV zsub wq_19_3 wq_19_4 wq_19_5 wq_1_5 wq_19_6) rfl rfl rfl hdV_X4_readThing ⟨Nat.le_of_ble_eq_true rfl, Nat.le_of_ble_eq_true rfl⟩) hz [] zp_all zp_all' rfl rfl rfl hl.1 (Nat.le_of_ble_eq_true rfl) (st1 := [.int ((rdThing tx ln (0, f 13, f 14)).1)]) rfl dX4_readText_16 ⟨Nat.zero_le _, Nat.zero_le _⟩ (fun H locs hz => ?_)
  refine lv_istore_n (lv' := [(2, .int ((rdThing tx ln (0, f 13, f 14)).1)), (0, .ref (a 0)), (1, .int 0)]) (pc := 19) hx hb dX4_readText_19 rfl hl (by decide) rfl (fun ls hl => ?_)
  have loop1 : ∀ cnt i : Nat, i + cnt = 61 → ∀ (H : Heap) (locs : List Loc) (ls : Array Slot), zw G ca A s0.heap s0 (mm ca a (fS f ((sI tx ln (0, f 13, f 14) i).2) (lI tx ln (0, f 13, f 14) i) (nI i) 0) h c hi sn be tx ti) H locs → lv_has ls 4 [(2, .int ((sI tx ln (0, f 13, f 14) i).1)), (0, .ref (a 0)), (1, .int 0)] → (∀ j, j < i → ¬ (sI tx ln (0, f 13, f 14) j).1 = 0) → rtX tx ln (0, f 13, f 14) = rtF tx ln (0, f 13, f 14) cnt i → W pg l ev rm_X4_readText s0 mt args below meth cd H locs 0 0 Q (F0 mt 20 ls []) := by
    intro cnt
    induction cnt with
    | zero =>
      intro i hk9 H locs ls hz hl hno hR
      obtain rfl : 61 = i := by omega
      refine lv_iload_n (pc := 20) hx hb dX4_readText_20 rfl (lv_at hl 0 rfl) ?_
      refine lv_if_eq (pc := 21) (tgt := 102) hx hb dX4_readText_21 (by decide) (fun c_21 => ?_) (fun c_21 => ?_)
      · refine lv_iconst (v := 0) (pc := 102) hx hb dX4_readText_102 (by decide) ?_
        exact z_zret (pc := 103) hx hb hr hlk hQ hz rfl dX4_readText_103 (by simp only [hR, if_true, if_neg i10, if_neg n01, if_neg n02, if_neg n10, if_neg n12, if_neg n20, if_neg n21, rtF, k0F]) (by simp only [hR, if_true, if_neg i10, if_neg n01, if_neg n02, if_neg n10, if_neg n12, if_neg n20, if_neg n21, rtF, k0F])
      · have hall := sI_next hno c_21
        have hpl := sI_ok _ hall
        exact absurd hpl.1 (by omega)
    | succ cnt ih =>
      intro i hk9 H locs ls hz hl hno hR
      have hk : i < 61 := by omega
      refine lv_iload_n (pc := 20) hx hb dX4_readText_20 rfl (lv_at hl 0 rfl) ?_
      refine lv_if_eq (pc := 21) (tgt := 102) hx hb dX4_readText_21 (by decide) (fun c_21 => ?_) (fun c_21 => ?_)
      · refine lv_iconst (v := 0) (pc := 102) hx hb dX4_readText_102 (by decide) ?_
        exact z_zret (pc := 103) hx hb hr hlk hQ hz rfl dX4_readText_103 (by simp only [hR, if_true, if_neg i10, if_neg n01, if_neg n02, if_neg n10, if_neg n12, if_neg n20, if_neg n21, rtF, if_pos c_21, k0F]) (by simp only [hR, if_true, if_neg i10, if_neg n01, if_neg n02, if_neg n10, if_neg n12, if_neg n20, if_neg n21, rtF, if_pos c_21, k0F])
      · have hall := sI_next hno c_21
        have hpl := sI_ok _ hall
        refine lv_iload_n (pc := 24) hx hb dX4_readText_24 rfl (lv_at hl 2 rfl) ?_
        refine lv_if_eq (pc := 25) (tgt := 35) hx hb dX4_readText_25 (by decide) (fun c_25 => ?_) (fun c9 => absurd rfl c9)
        refine lv_iconst (v := 0) (pc := 35) hx hb dX4_readText_35 (by decide) ?_
        refine lv_istore_n (lv' := [(3, .int 0), (2, .int ((sI tx ln (0, f 13, f 14) i).1)), (0, .ref (a 0)), (1, .int 0)]) (pc := 36) hx hb dX4_readText_36 rfl hl (by decide) rfl (fun ls hl => ?_)
        refine lv_iload_n (pc := 37) hx hb dX4_readText_37 rfl (lv_at hl 0 rfl) ?_
        refine lv_if_ge (pc := 38) (tgt := 54) hx hb dX4_readText_38 (by decide) (fun c_38 => ?_) (fun c9 => absurd (Int32.le_refl 0) c9)
        refine lv_aload_n (pc := 54) hx hb dX4_readText_54 rfl (lv_at hl 2 rfl) ?_
        refine lv_dup (pc := 55) hx hb dX4_readText_55 rfl ?_
        refine z_get (own := RX4) (ref := "CupFountainModel") (C := RX4) (T := TX4) (N := 17) (ci := 4) (v := .int (nI i)) (pc := 56) hx hb hts hinX4 hown hz 0 rfl rfl 15 (by decide) L145 rfl rfl dX4_readText_56 ?_
        refine lv_iconst (v := 1) (pc := 59) hx hb dX4_readText_59 (by decide) ?_
        refine lv_iadd (pc := 60) hx hb dX4_readText_60 ?_
        refine z_top (y := nI (i + 1)) (nI_1 _) ?_
        refine z_put (own := RX4) (ref := "CupFountainModel") (C := RX4) (T := TX4) (N := 17) (ci := 4) (v := .int (nI (i + 1))) (ws1 := mm ca a (fS f ((sI tx ln (0, f 13, f 14) i).2) (lI tx ln (0, f 13, f 14) i) (nI (i + 1)) 0) h c hi sn be tx ti) (pc := 61) hx hb hts hinX4 tyX4 tyX4_ok nmX4 hown hz 0 rfl rfl 15 (by decide) L145 rfl rfl rfl rfl (Nat.le_of_ble_eq_true rfl) rfl dX4_readText_61 (fun H locs hz => ?_)
        refine lv_aload_n (pc := 64) hx hb dX4_readText_64 rfl (lv_at hl 2 rfl) ?_
        refine z_get (own := RX4) (ref := "CupFountainModel") (C := RX4) (T := TX4) (N := 17) (ci := 4) (v := .int (nI (((sI tx ln (0, f 13, f 14) i).2).1))) (pc := 65) hx hb hts hinX4 hown hz 0 rfl rfl 11 (by decide) L119 rfl rfl dX4_readText_65 ?_
        refine lv_aload_n (pc := 68) hx hb dX4_readText_68 rfl (lv_at hl 2 rfl) ?_
        refine z_get (own := RX4) (ref := "CupFountainModel") (C := RX4) (T := TX4) (N := 17) (ci := 4) (v := .int (f 7)) (pc := 69) hx hb hts hinX4 hown hz 0 rfl rfl 7 (by decide) L116 rfl rfl dX4_readText_69 ?_
        refine lv_icmp_ne (pc := 72) (tgt := 77) hx hb dX4_readText_72 (by decide) (fun c_72 => ?_) (fun c_72 => ?_)
        · have hne : ¬ (sI tx ln (0, f 13, f 14) i).2.1 = ln := fun q => c_72 (by rw [hf7, q])
          refine lv_aload_n (pc := 77) hx hb dX4_readText_77 rfl (lv_at hl 2 rfl) ?_
          refine lv_bipush (v := 59) (pc := 78) hx hb dX4_readText_78 (by decide) ?_
          refine z_runV (pc := 80) (As := [.int 59]) (rest := []) (ws1 := mm ca a (fS f ((rdChr tx ln 59 ((sI tx ln (0, f 13, f 14) i).2)).2) (lI tx ln (0, f 13, f 14) i) (nI (i + 1)) 0) h c hi sn be tx ti) ⟨hx, hb, hml, hown, hts⟩ (k_X4_takes l G ca a f h c hi sn be tx ti ((sI tx ln (0, f 13, f 14) i).2) (lI tx ln (0, f 13, f 14) i) (nI (i + 1)) 0 ln hln hf7 (show ((sI tx ln (0, f 13, f 14) i).2).1 < 1000 by omega) 59) (cwV 1 hts (zgoodV zsub wq_19_17 wq_19_18 wq_19_19 wq_1_5 wq_19_20) rfl rfl rfl hdV_X4_takes ⟨Nat.le_of_ble_eq_true rfl, Nat.le_of_ble_eq_true rfl⟩) hz [] zp_all zp_all' rfl rfl rfl hl.1 (Nat.le_of_ble_eq_true rfl) (st1 := [.int ((rdChr tx ln 59 ((sI tx ln (0, f 13, f 14) i).2)).1)]) rfl dX4_readText_80 ⟨Nat.zero_le _, Nat.zero_le _⟩ (fun H locs hz => ?_)
          have J2 : ∀ (H : Heap) (locs : List Loc) (ls : Array Slot), zw G ca A s0.heap s0 (mm ca a (fS f ((sI tx ln (0, f 13, f 14) (i + 1)).2) (lI tx ln (0, f 13, f 14) (i + 1)) (nI (i + 1)) 0) h c hi sn be tx ti) H locs → lv_has ls 4 [(3, .int 0), (2, .int ((sI tx ln (0, f 13, f 14) i).1)), (0, .ref (a 0)), (1, .int 0)] → W pg l ev rm_X4_readText s0 mt args below meth cd H locs 0 0 Q (F0 mt 98 ls [.int ((sI tx ln (0, f 13, f 14) (i + 1)).1)]) := by
            intro H locs ls hz hl
            refine lv_istore_n (lv' := [(2, .int ((sI tx ln (0, f 13, f 14) (i + 1)).1)), (3, .int 0), (0, .ref (a 0)), (1, .int 0)]) (pc := 98) hx hb dX4_readText_98 rfl hl (by decide) rfl (fun ls hl => ?_)
            refine lv_goto (tgt := 20) (pc := 99) hx hb dX4_readText_99 (by decide) ?_
            exact ih (i + 1) (by omega) _ _ _ hz (lv_sub hl [0, 2, 3] rfl) (sI_lt hno c_21) (hR.trans (by rw [rtF, if_neg c_21, if_neg hne]))
          refine lv_if_eq (pc := 83) (tgt := 97) hx hb dX4_readText_83 (by decide) (fun c_83 => ?_) (fun c_83 => ?_)
          · refine lv_iconst (v := 0) (pc := 97) hx hb dX4_readText_97 (by decide) ?_
            exact z_top (by simp only [sI, lI, nxThing, sq, fin, if_true, if_pos c_83]) (J2 _ _ _ (hz.as (by simp only [sI, lI, nxThing, sq, fin, if_true, if_pos c_83])) (lv_sub hl [0, 1, 2, 3] rfl))
          · refine lv_aload_n (pc := 86) hx hb dX4_readText_86 rfl (lv_at hl 2 rfl) ?_
            refine z_runV (pc := 87) (As := []) (rest := []) (ws1 := mm ca a (fS f ((rdThing tx ln ((rdChr tx ln 59 ((sI tx ln (0, f 13, f 14) i).2)).2)).2) (ltF tx ln (((rdChr tx ln 59 ((sI tx ln (0, f 13, f 14) i).2)).2).1)) (nI (i + 1)) 0) h c hi sn be tx ti) ⟨hx, hb, hml, hown, hts⟩ (k_X4_readThing l G ca a f h c hi sn be tx ti ((rdChr tx ln 59 ((sI tx ln (0, f 13, f 14) i).2)).2) (lI tx ln (0, f 13, f 14) i) (nI (i + 1)) 0 ln hln hf7 (show ((rdChr tx ln 59 ((sI tx ln (0, f 13, f 14) i).2)).2).1 < 900 by have g0 := rdChr_le (tx := tx) (ln := ln) (code := 59) (s := (sI tx ln (0, f 13, f 14) i).2); omega)) (cwV 0 hts (zgoodV zsub wq_19_3 wq_19_4 wq_19_5 wq_1_5 wq_19_6) rfl rfl rfl hdV_X4_readThing ⟨Nat.le_of_ble_eq_true rfl, Nat.le_of_ble_eq_true rfl⟩) hz [] zp_all zp_all' rfl rfl rfl hl.1 (Nat.le_of_ble_eq_true rfl) (st1 := [.int ((rdThing tx ln ((rdChr tx ln 59 ((sI tx ln (0, f 13, f 14) i).2)).2)).1)]) rfl dX4_readText_87 ⟨Nat.zero_le _, Nat.zero_le _⟩ (fun H locs hz => ?_)
            refine lv_if_eq (pc := 90) (tgt := 97) hx hb dX4_readText_90 (by decide) (fun c_90 => ?_) (fun c_90 => ?_)
            · refine lv_iconst (v := 0) (pc := 97) hx hb dX4_readText_97 (by decide) ?_
              exact z_top (by simp only [sI, lI, nxThing, sq, fin, if_true, if_neg c_83, if_pos c_90]) (J2 _ _ _ (hz.as (by simp only [sI, lI, nxThing, sq, fin, if_true, if_neg c_83, if_pos c_90])) (lv_sub hl [0, 1, 2, 3] rfl))
            · refine lv_iconst (v := 1) (pc := 93) hx hb dX4_readText_93 (by decide) ?_
              refine lv_goto (tgt := 98) (pc := 94) hx hb dX4_readText_94 (by decide) ?_
              exact z_top (by simp only [sI, lI, nxThing, sq, fin, if_true, if_neg c_83, if_neg c_90]) (J2 _ _ _ (hz.as (by simp only [sI, lI, nxThing, sq, fin, if_true, if_neg c_83, if_neg c_90])) (lv_sub hl [0, 1, 2, 3] rfl))
        · have hne : (sI tx ln (0, f 13, f 14) i).2.1 = ln := (nI_eq (by omega) (by omega)).mp (by rw [← hf7]; exact c_72)
          refine lv_iconst (v := 1) (pc := 75) hx hb dX4_readText_75 (by decide) ?_
          exact z_zret (pc := 76) hx hb hr hlk hQ hz rfl dX4_readText_76 (by simp only [hR, if_true, if_neg i10, if_neg n01, if_neg n02, if_neg n10, if_neg n12, if_neg n20, if_neg n21, rtF, if_neg c_21, if_pos c_38, if_pos hne, k0F]) (by simp only [hR, if_true, if_neg i10, if_neg n01, if_neg n02, if_neg n10, if_neg n12, if_neg n20, if_neg n21, rtF, if_neg c_21, if_pos c_38, if_pos hne, k0F])
  exact loop1 61 0 (by omega) _ _ _ (hz.as (by rfl)) (lv_sub hl [0, 1, 2] rfl) (fun j hj => absurd hj (by omega)) (rtX_d _ _ _)
