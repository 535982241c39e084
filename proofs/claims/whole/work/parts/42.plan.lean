def rm_X1_look : Room := { frames := 0, cells := 0, slots := 0, locals := 0 }
set_option maxRecDepth 20000 in
theorem hdV_X1_look : yX1_look.cls = RX1 ∧ yX1_look.cls ≠ "java/lang/invoke/MethodHandle" ∧ yX1_look.cls ≠ "java/lang/invoke/VarHandle" ∧ (parseMethodDescriptor yX1_look.desc).map (fun d => d.parameters.length) = some 0 := by decide +kernel
set_option maxHeartbeats 4000000 in
set_option maxRecDepth 100000 in
theorem k_X1_look (l : Launch) (G : va_G) (ca : Nat → ClassId) (q : Nat → Nat) (g tx : Nat → Int32) (th : Int32) (s : PQ) (ln : Nat) (hln : ln ≤ 60) (hg1 : g 1 = nI ln) (hs : s.1 < 1000) : Zc l G ca yX1_look (zws yX1_look cX1_look 1 (some .int)) rm_X1_look [.ref (q 0)] (wQ ca q g tx th s) (some (.int (lkF tx ln s.1))) (wQ ca q g tx th s) := by
  refine Zc.of (cc := cX1_look) (maxL := 1) (ret := (some .int)) (by decide) rfl (Nat.le_of_ble_eq_true rfl) ?_
  intro pg ev s0 mt below meth cd A args Q ls hx hb hr hml hown hts hlk hQ hl hz
  have L15 : (Cond.fieldLink RX1 15 "CupFountain$Plan" "length" "I").before args s0 = true := hts _ (zsub _ wq_3_18)
  have L32 : (Cond.fieldLink RX1 32 "CupFountain$Plan" "place" "I").before args s0 = true := hts _ (zsub _ wq_4_0)
  have L9 : (Cond.fieldLink RX1 9 "CupFountain$Plan" "text" "[C").before args s0 = true := hts _ (zsub _ wq_3_17)
  have hinX1 : ∀ w ∈ wsX10, w ∈ zws yX1_look cX1_look 1 (some .int) := fun w h => zsub w (wl_wsX10 w h)
  have hl : lv_has ls 1 [(0, .ref (q 0))] := hl
  refine lv_aload_n (pc := 0) hx hb dX1_look_0 rfl (lv_at hl 0 rfl) ?_
  refine z_get (own := RX1) (ref := "CupFountain$Plan") (C := RX1) (T := TX1) (N := 7) (ci := 1) (v := .int (nI s.1)) (pc := 1) hx hb hts hinX1 hown hz 0 rfl rfl 6 (by decide) L32 rfl rfl dX1_look_1 ?_
  refine lv_if_lt (pc := 4) (tgt := 27) hx hb dX1_look_4 (by decide) (fun c9 => absurd c9 (nI_pos (by omega))) (fun c_4 => ?_)
  refine lv_aload_n (pc := 7) hx hb dX1_look_7 rfl (lv_at hl 0 rfl) ?_
  refine z_get (own := RX1) (ref := "CupFountain$Plan") (C := RX1) (T := TX1) (N := 7) (ci := 1) (v := .int (nI s.1)) (pc := 8) hx hb hts hinX1 hown hz 0 rfl rfl 6 (by decide) L32 rfl rfl dX1_look_8 ?_
  refine lv_aload_n (pc := 11) hx hb dX1_look_11 rfl (lv_at hl 0 rfl) ?_
  refine z_get (own := RX1) (ref := "CupFountain$Plan") (C := RX1) (T := TX1) (N := 7) (ci := 1) (v := .int (g 1)) (pc := 12) hx hb hts hinX1 hown hz 0 rfl rfl 1 (by decide) L15 rfl rfl dX1_look_12 ?_
  refine lv_icmp_ge (pc := 15) (tgt := 27) hx hb dX1_look_15 (by decide) (fun c_15 => ?_) (fun c_15 => ?_)
  · have h9 : ln ≤ s.1 := (nI_leI (by omega) (by omega)).mp (hg1 ▸ c_15)
    refine lv_iconst (v := -1) (pc := 27) hx hb dX1_look_27 (by decide) ?_
    exact z_iret (pc := 28) hx hb hr hlk hQ hz dX1_look_28 (by simp only [lkF, if_pos h9]) (by rfl)
  · have h9 : ¬ ln ≤ s.1 := fun e => c_15 (by rw [hg1]; exact nI_le e (by omega))
    refine lv_aload_n (pc := 18) hx hb dX1_look_18 rfl (lv_at hl 0 rfl) ?_
    refine z_get (own := RX1) (ref := "CupFountain$Plan") (C := RX1) (T := TX1) (N := 7) (ci := 1) (v := .int (nI s.1)) (pc := 19) hx hb hts hinX1 hown hz 0 rfl rfl 6 (by decide) L32 rfl rfl dX1_look_19 ?_
    refine lv_bipush (v := 60) (pc := 22) hx hb dX1_look_22 (by decide) ?_
    refine lv_icmp_lt (pc := 24) (tgt := 29) hx hb dX1_look_24 (by decide) (fun c_24 => ?_) (fun c9 => absurd (nI_lt (b := 60) (by omega) (by decide)) c9)
    refine lv_aload_n (pc := 29) hx hb dX1_look_29 rfl (lv_at hl 0 rfl) ?_
    refine z_get (own := RX1) (ref := "CupFountain$Plan") (C := RX1) (T := TX1) (N := 7) (ci := 1) (v := .ref (q 1)) (pc := 30) hx hb hts hinX1 hown hz 0 rfl rfl 0 (by decide) L9 rfl rfl dX1_look_30 ?_
    refine lv_aload_n (pc := 33) hx hb dX1_look_33 rfl (lv_at hl 0 rfl) ?_
    refine z_get (own := RX1) (ref := "CupFountain$Plan") (C := RX1) (T := TX1) (N := 7) (ci := 1) (v := .int (nI s.1)) (pc := 34) hx hb hts hinX1 hown hz 0 rfl rfl 6 (by decide) L32 rfl rfl dX1_look_34 ?_
    refine z_cald (x := tx s.1) (pc := 37) hx hb hz 1 rfl s.1 rfl (by omega) (by decide) rfl dX1_look_37 ?_
    exact z_iret (pc := 38) hx hb hr hlk hQ hz dX1_look_38 (by simp only [lkF, if_neg h9]) (by rfl)

def rm_X1_lookForDigit : Room := { frames := 1, cells := 0, slots := 0, locals := 22 }
set_option maxRecDepth 20000 in
theorem hdV_X1_lookForDigit : yX1_lookForDigit.cls = RX1 ∧ yX1_lookForDigit.cls ≠ "java/lang/invoke/MethodHandle" ∧ yX1_lookForDigit.cls ≠ "java/lang/invoke/VarHandle" ∧ (parseMethodDescriptor yX1_lookForDigit.desc).map (fun d => d.parameters.length) = some 0 := by decide +kernel
set_option maxHeartbeats 4000000 in
set_option maxRecDepth 100000 in
theorem k_X1_lookForDigit (l : Launch) (G : va_G) (ca : Nat → ClassId) (q : Nat → Nat) (g tx : Nat → Int32) (th : Int32) (s : PQ) (ln : Nat) (hln : ln ≤ 60) (hg1 : g 1 = nI ln) (hs : s.1 < 1000) : Zc l G ca yX1_lookForDigit (zws yX1_lookForDigit cX1_lookForDigit 2 (some .int)) rm_X1_lookForDigit [.ref (q 0)] (wQ ca q g tx th s) (some (.int (ldF tx ln s.1))) (wQ ca q g tx th s) := by
  refine Zc.of (cc := cX1_lookForDigit) (maxL := 2) (ret := (some .int)) (by decide) rfl (Nat.le_of_ble_eq_true rfl) ?_
  intro pg ev s0 mt below meth cd A args Q ls hx hb hr hml hown hts hlk hQ hl hz
  have hl : lv_has ls 2 [(0, .ref (q 0))] := hl
  refine lv_aload_n (pc := 0) hx hb dX1_lookForDigit_0 rfl (lv_at hl 0 rfl) ?_
  refine z_runV (pc := 1) (As := []) (rest := []) (ws1 := wQ ca q g tx th s) ⟨hx, hb, hml, hown, hts⟩ (k_X1_look l G ca q g tx th s ln hln hg1 (show s.1 < 1000 by omega)) (cwV 0 hts (zgoodV zsub wq_17_3 wq_17_4 wq_17_5 wq_1_22 wq_17_6) rfl rfl rfl hdV_X1_look ⟨Nat.le_of_ble_eq_true rfl, Nat.le_of_ble_eq_true rfl⟩) hz [] zp_all zp_all' rfl rfl rfl hl.1 (Nat.le_of_ble_eq_true rfl) (st1 := [.int (lkF tx ln s.1)]) rfl dX1_lookForDigit_1 ⟨Nat.zero_le _, Nat.zero_le _⟩ (fun H locs hz => ?_)
  refine lv_istore_n (lv' := [(1, .int (lkF tx ln s.1)), (0, .ref (q 0))]) (pc := 4) hx hb dX1_lookForDigit_4 rfl hl (by decide) rfl (fun ls hl => ?_)
  refine lv_iload_n (pc := 5) hx hb dX1_lookForDigit_5 rfl (lv_at hl 0 rfl) ?_
  refine lv_bipush (v := 48) (pc := 6) hx hb dX1_lookForDigit_6 (by decide) ?_
  refine lv_bipush (v := 57) (pc := 8) hx hb dX1_lookForDigit_8 (by decide) ?_
  refine z_runSN (pc := 10) (As := [.int (lkF tx ln s.1), .int 48, .int 57]) (rest := []) (ws1 := wQ ca q g tx th s) ⟨hx, hb, hml, hown, hts⟩ (k_X3_isWithin l G ca (lkF tx ln s.1) 48 57) ⟨va_cnB 3 hts (zgood0 zsub wq_5_20) rfl rfl rfl hz.1.2.2.1 (hts _ (zsub _ wq_1_2)) hdN_X3_isWithin ⟨Nat.le_of_ble_eq_true rfl, Nat.le_of_ble_eq_true rfl⟩, hts _ (zsub _ wq_5_19), trivial⟩ hz (wQ ca q g tx th s) zp_no (List.Perm.refl _) rfl hl.1 (Nat.le_of_ble_eq_true rfl) (st1 := [.int (inF (lkF tx ln s.1) 48 57)]) rfl dX1_lookForDigit_10 ⟨Nat.zero_le _, Nat.zero_le _⟩ (fun H locs hz => ?_)
  have J1 : ∀ (H : Heap) (locs : List Loc) (ls : Array Slot), zw G ca A s0.heap s0 (wQ ca q g tx th s) H locs → lv_has ls 2 [(1, .int (lkF tx ln s.1)), (0, .ref (q 0))] → W pg l ev rm_X1_lookForDigit s0 mt args below meth cd H locs 0 0 Q (F0 mt 24 ls [.int (ldF tx ln s.1)]) := by
    intro H locs ls hz hl
    exact z_iret (pc := 24) hx hb hr hlk hQ hz dX1_lookForDigit_24 (by rfl) (by rfl)
  refine lv_if_eq (pc := 13) (tgt := 23) hx hb dX1_lookForDigit_13 (by decide) (fun c_13 => ?_) (fun c_13 => ?_)
  · refine lv_iconst (v := -1) (pc := 23) hx hb dX1_lookForDigit_23 (by decide) ?_
    exact z_top (by simp only [ldF, if_pos c_13]) (J1 _ _ _ hz (lv_sub hl [0, 1] rfl))
  · refine lv_iload_n (pc := 16) hx hb dX1_lookForDigit_16 rfl (lv_at hl 0 rfl) ?_
    refine lv_bipush (v := 48) (pc := 17) hx hb dX1_lookForDigit_17 (by decide) ?_
    refine lv_isub (pc := 19) hx hb dX1_lookForDigit_19 ?_
    refine lv_goto (tgt := 24) (pc := 20) hx hb dX1_lookForDigit_20 (by decide) ?_
    exact z_top (by simp only [ldF, if_neg c_13]) (J1 _ _ _ hz (lv_sub hl [0, 1] rfl))

def rm_X1_skip : Room := { frames := 1, cells := 0, slots := 0, locals := 20 }
set_option maxRecDepth 20000 in
theorem hdV_X1_skip : yX1_skip.cls = RX1 ∧ yX1_skip.cls ≠ "java/lang/invoke/MethodHandle" ∧ yX1_skip.cls ≠ "java/lang/invoke/VarHandle" ∧ (parseMethodDescriptor yX1_skip.desc).map (fun d => d.parameters.length) = some 1 := by decide +kernel
set_option maxHeartbeats 4000000 in
set_option maxRecDepth 100000 in
theorem k_X1_skip (l : Launch) (G : va_G) (ca : Nat → ClassId) (q : Nat → Nat) (g tx : Nat → Int32) (th : Int32) (s : PQ) (ln : Nat) (hln : ln ≤ 60) (hg1 : g 1 = nI ln) (hs : s.1 < 1000) (code : Int32) : Zc l G ca yX1_skip (zws yX1_skip cX1_skip 2 (some .boolean)) rm_X1_skip [.ref (q 0), .int code] (wQ ca q g tx th s) (some (.int (qChr tx ln code s).1)) (wQ ca q g tx th ((qChr tx ln code s).2)) := by
  refine Zc.of (cc := cX1_skip) (maxL := 2) (ret := (some .boolean)) (by decide) rfl (Nat.le_of_ble_eq_true rfl) ?_
  intro pg ev s0 mt below meth cd A args Q ls hx hb hr hml hown hts hlk hQ hl hz
  have L32 : (Cond.fieldLink RX1 32 "CupFountain$Plan" "place" "I").before args s0 = true := hts _ (zsub _ wq_4_0)
  have hinX1 : ∀ w ∈ wsX10, w ∈ zws yX1_skip cX1_skip 2 (some .boolean) := fun w h => zsub w (wl_wsX10 w h)
  have hl : lv_has ls 2 [(0, .ref (q 0)), (1, .int code)] := hl
  refine lv_aload_n (pc := 0) hx hb dX1_skip_0 rfl (lv_at hl 0 rfl) ?_
  refine z_runV (pc := 1) (As := []) (rest := []) (ws1 := wQ ca q g tx th s) ⟨hx, hb, hml, hown, hts⟩ (k_X1_look l G ca q g tx th s ln hln hg1 (show s.1 < 1000 by omega)) (cwV 0 hts (zgoodV zsub wq_17_3 wq_17_4 wq_17_5 wq_1_22 wq_17_6) rfl rfl rfl hdV_X1_look ⟨Nat.le_of_ble_eq_true rfl, Nat.le_of_ble_eq_true rfl⟩) hz [] zp_all zp_all' rfl rfl rfl hl.1 (Nat.le_of_ble_eq_true rfl) (st1 := [.int (lkF tx ln s.1)]) rfl dX1_skip_1 ⟨Nat.zero_le _, Nat.zero_le _⟩ (fun H locs hz => ?_)
  refine lv_iload_n (pc := 4) hx hb dX1_skip_4 rfl (lv_at hl 1 rfl) ?_
  refine lv_icmp_eq (pc := 5) (tgt := 10) hx hb dX1_skip_5 (by decide) (fun c_5 => ?_) (fun c_5 => ?_)
  · refine lv_aload_n (pc := 10) hx hb dX1_skip_10 rfl (lv_at hl 0 rfl) ?_
    refine lv_dup (pc := 11) hx hb dX1_skip_11 rfl ?_
    refine z_get (own := RX1) (ref := "CupFountain$Plan") (C := RX1) (T := TX1) (N := 7) (ci := 1) (v := .int (nI s.1)) (pc := 12) hx hb hts hinX1 hown hz 0 rfl rfl 6 (by decide) L32 rfl rfl dX1_skip_12 ?_
    refine lv_iconst (v := 1) (pc := 15) hx hb dX1_skip_15 (by decide) ?_
    refine lv_iadd (pc := 16) hx hb dX1_skip_16 ?_
    refine z_top (y := nI (s.1 + 1)) (nI_1 _) ?_
    refine z_put (own := RX1) (ref := "CupFountain$Plan") (C := RX1) (T := TX1) (N := 7) (ci := 1) (v := .int (nI (s.1 + 1))) (ws1 := wQ ca q g tx th (s.1 + 1, s.2.1, s.2.2.1, s.2.2.2)) (pc := 17) hx hb hts hinX1 tyX1 tyX1_ok nmX1 hown hz 0 rfl rfl 6 (by decide) L32 rfl rfl rfl rfl (Nat.le_of_ble_eq_true rfl) rfl dX1_skip_17 (fun H locs hz => ?_)
    refine lv_iconst (v := 1) (pc := 20) hx hb dX1_skip_20 (by decide) ?_
    exact z_zret (pc := 21) hx hb hr hlk hQ hz rfl dX1_skip_21 (by simp only [qChr, if_pos c_5]) (by simp only [qChr, if_pos c_5])
  · refine lv_iconst (v := 0) (pc := 8) hx hb dX1_skip_8 (by decide) ?_
    exact z_zret (pc := 9) hx hb hr hlk hQ hz rfl dX1_skip_9 (by simp only [qChr, if_neg c_5]) (by simp only [qChr, if_neg c_5])

def rm_X1_readCup : Room := { frames := 2, cells := 0, slots := 0, locals := 43 }
set_option maxRecDepth 20000 in
theorem hdV_X1_readCup : yX1_readCup.cls = RX1 ∧ yX1_readCup.cls ≠ "java/lang/invoke/MethodHandle" ∧ yX1_readCup.cls ≠ "java/lang/invoke/VarHandle" ∧ (parseMethodDescriptor yX1_readCup.desc).map (fun d => d.parameters.length) = some 1 := by decide +kernel
set_option maxHeartbeats 4000000 in
set_option maxRecDepth 100000 in
theorem k_X1_readCup (l : Launch) (G : va_G) (ca : Nat → ClassId) (q : Nat → Nat) (g tx : Nat → Int32) (th : Int32) (s : PQ) (ln : Nat) (hln : ln ≤ 60) (hg1 : g 1 = nI ln) (hs : s.1 < 1000) {i : Nat} (hi : i < 60) : Zc l G ca yX1_readCup (zws yX1_readCup cX1_readCup 3 (some .boolean)) rm_X1_readCup [.ref (q 0), .int (nI i)] (wQ ca q g tx th s) (some (.int (qCup tx ln i s).1)) (wQ ca q g tx th ((qCup tx ln i s).2)) := by
  refine Zc.of (cc := cX1_readCup) (maxL := 3) (ret := (some .boolean)) (by decide) rfl (Nat.le_of_ble_eq_true rfl) ?_
  intro pg ev s0 mt below meth cd A args Q ls hx hb hr hml hown hts hlk hQ hl hz
  have L23 : (Cond.fieldLink RX1 23 "CupFountain$Plan" "whose" "[I").before args s0 = true := hts _ (zsub _ wq_3_21)
  have L32 : (Cond.fieldLink RX1 32 "CupFountain$Plan" "place" "I").before args s0 = true := hts _ (zsub _ wq_4_0)
  have hinX1 : ∀ w ∈ wsX10, w ∈ zws yX1_readCup cX1_readCup 3 (some .boolean) := fun w h => zsub w (wl_wsX10 w h)
  have hl : lv_has ls 3 [(0, .ref (q 0)), (1, .int (nI i))] := hl
  refine lv_aload_n (pc := 0) hx hb dX1_readCup_0 rfl (lv_at hl 0 rfl) ?_
  refine z_runV (pc := 1) (As := []) (rest := []) (ws1 := wQ ca q g tx th s) ⟨hx, hb, hml, hown, hts⟩ (k_X1_lookForDigit l G ca q g tx th s ln hln hg1 (show s.1 < 1000 by omega)) (cwV 0 hts (zgoodV zsub wq_17_15 wq_17_16 wq_17_17 wq_1_22 wq_17_18) rfl rfl rfl hdV_X1_lookForDigit ⟨Nat.le_of_ble_eq_true rfl, Nat.le_of_ble_eq_true rfl⟩) hz [] zp_all zp_all' rfl rfl rfl hl.1 (Nat.le_of_ble_eq_true rfl) (st1 := [.int (ldF tx ln s.1)]) rfl dX1_readCup_1 ⟨Nat.zero_le _, Nat.zero_le _⟩ (fun H locs hz => ?_)
  refine lv_istore_n (lv' := [(2, .int (ldF tx ln s.1)), (0, .ref (q 0)), (1, .int (nI i))]) (pc := 4) hx hb dX1_readCup_4 rfl hl (by decide) rfl (fun ls hl => ?_)
  refine lv_iload_n (pc := 5) hx hb dX1_readCup_5 rfl (lv_at hl 0 rfl) ?_
  refine lv_iconst (v := 0) (pc := 6) hx hb dX1_readCup_6 (by decide) ?_
  refine lv_bipush (v := 7) (pc := 7) hx hb dX1_readCup_7 (by decide) ?_
  refine z_runSN (pc := 9) (As := [.int (ldF tx ln s.1), .int 0, .int 7]) (rest := []) (ws1 := wQ ca q g tx th s) ⟨hx, hb, hml, hown, hts⟩ (k_X3_isWithin l G ca (ldF tx ln s.1) 0 7) ⟨va_cnB 3 hts (zgood0 zsub wq_5_20) rfl rfl rfl hz.1.2.2.1 (hts _ (zsub _ wq_1_2)) hdN_X3_isWithin ⟨Nat.le_of_ble_eq_true rfl, Nat.le_of_ble_eq_true rfl⟩, hts _ (zsub _ wq_5_19), trivial⟩ hz (wQ ca q g tx th s) zp_no (List.Perm.refl _) rfl hl.1 (Nat.le_of_ble_eq_true rfl) (st1 := [.int (inF (ldF tx ln s.1) 0 7)]) rfl dX1_readCup_9 ⟨Nat.zero_le _, Nat.zero_le _⟩ (fun H locs hz => ?_)
  refine lv_if_ne (pc := 12) (tgt := 17) hx hb dX1_readCup_12 (by decide) (fun c_12 => ?_) (fun c_12 => ?_)
  · refine lv_aload_n (pc := 17) hx hb dX1_readCup_17 rfl (lv_at hl 1 rfl) ?_
    refine z_get (own := RX1) (ref := "CupFountain$Plan") (C := RX1) (T := TX1) (N := 7) (ci := 1) (v := .ref (q 3)) (pc := 18) hx hb hts hinX1 hown hz 0 rfl rfl 3 (by decide) L23 rfl rfl dX1_readCup_18 ?_
    refine lv_iload_n (pc := 21) hx hb dX1_readCup_21 rfl (lv_at hl 2 rfl) ?_
    refine lv_iload_n (pc := 22) hx hb dX1_readCup_22 rfl (lv_at hl 0 rfl) ?_
    refine z_iast (ws1 := wQ ca q g tx th (s.1, s.2.1, upd s.2.2.1 i (ldF tx ln s.1), s.2.2.2)) (pc := 23) hx hb hz 3 rfl i rfl (by omega) (by decide) rfl dX1_readCup_23 (fun H locs hz => ?_)
    refine lv_aload_n (pc := 24) hx hb dX1_readCup_24 rfl (lv_at hl 1 rfl) ?_
    refine lv_dup (pc := 25) hx hb dX1_readCup_25 rfl ?_
    refine z_get (own := RX1) (ref := "CupFountain$Plan") (C := RX1) (T := TX1) (N := 7) (ci := 1) (v := .int (nI s.1)) (pc := 26) hx hb hts hinX1 hown hz 0 rfl rfl 6 (by decide) L32 rfl rfl dX1_readCup_26 ?_
    refine lv_iconst (v := 1) (pc := 29) hx hb dX1_readCup_29 (by decide) ?_
    refine lv_iadd (pc := 30) hx hb dX1_readCup_30 ?_
    refine z_top (y := nI (s.1 + 1)) (nI_1 _) ?_
    refine z_put (own := RX1) (ref := "CupFountain$Plan") (C := RX1) (T := TX1) (N := 7) (ci := 1) (v := .int (nI (s.1 + 1))) (ws1 := wQ ca q g tx th (s.1 + 1, s.2.1, upd s.2.2.1 i (ldF tx ln s.1), s.2.2.2)) (pc := 31) hx hb hts hinX1 tyX1 tyX1_ok nmX1 hown hz 0 rfl rfl 6 (by decide) L32 rfl rfl rfl rfl (Nat.le_of_ble_eq_true rfl) rfl dX1_readCup_31 (fun H locs hz => ?_)
    refine lv_iconst (v := 1) (pc := 34) hx hb dX1_readCup_34 (by decide) ?_
    exact z_zret (pc := 35) hx hb hr hlk hQ hz rfl dX1_readCup_35 (by simp only [qCup, if_neg c_12]) (by simp only [qCup, if_neg c_12])
  · refine lv_iconst (v := 0) (pc := 15) hx hb dX1_readCup_15 (by decide) ?_
    exact z_zret (pc := 16) hx hb hr hlk hQ hz rfl dX1_readCup_16 (by simp only [qCup, if_pos c_12]) (by simp only [qCup, if_pos c_12])

def rm_X1_readNumber : Room := { frames := 2, cells := 0, slots := 0, locals := 43 }
set_option maxRecDepth 20000 in
theorem hdV_X1_readNumber : yX1_readNumber.cls = RX1 ∧ yX1_readNumber.cls ≠ "java/lang/invoke/MethodHandle" ∧ yX1_readNumber.cls ≠ "java/lang/invoke/VarHandle" ∧ (parseMethodDescriptor yX1_readNumber.desc).map (fun d => d.parameters.length) = some 3 := by decide +kernel
set_option maxHeartbeats 4000000 in
set_option maxRecDepth 100000 in
theorem k_X1_readNumber (l : Launch) (G : va_G) (ca : Nat → ClassId) (q : Nat → Nat) (g tx : Nat → Int32) (th : Int32) (s : PQ) (ln : Nat) (hln : ln ≤ 60) (hg1 : g 1 = nI ln) (hs : s.1 < 990) {i : Nat} (hi : i < 60) (least most : Int32) : Zc l G ca yX1_readNumber (zws yX1_readNumber cX1_readNumber 7 (some .boolean)) rm_X1_readNumber [.ref (q 0), .int (nI i), .int least, .int most] (wQ ca q g tx th s) (some (.int (qNum tx ln i least most s).1)) (wQ ca q g tx th ((qNum tx ln i least most s).2)) := by
  refine Zc.of (cc := cX1_readNumber) (maxL := 7) (ret := (some .boolean)) (by decide) rfl (Nat.le_of_ble_eq_true rfl) ?_
  intro pg ev s0 mt below meth cd A args Q ls hx hb hr hml hown hts hlk hQ hl hz
  have L26 : (Cond.fieldLink RX1 26 "CupFountain$Plan" "numbers" "[I").before args s0 = true := hts _ (zsub _ wq_3_22)
  have L32 : (Cond.fieldLink RX1 32 "CupFountain$Plan" "place" "I").before args s0 = true := hts _ (zsub _ wq_4_0)
  have hinX1 : ∀ w ∈ wsX10, w ∈ zws yX1_readNumber cX1_readNumber 7 (some .boolean) := fun w h => zsub w (wl_wsX10 w h)
  have hl : lv_has ls 7 [(0, .ref (q 0)), (1, .int (nI i)), (2, .int least), (3, .int most)] := hl
  refine lv_aload_n (pc := 0) hx hb dX1_readNumber_0 rfl (lv_at hl 0 rfl) ?_
  refine z_runV (pc := 1) (As := []) (rest := []) (ws1 := wQ ca q g tx th s) ⟨hx, hb, hml, hown, hts⟩ (k_X1_lookForDigit l G ca q g tx th s ln hln hg1 (show s.1 < 1000 by omega)) (cwV 0 hts (zgoodV zsub wq_17_15 wq_17_16 wq_17_17 wq_1_22 wq_17_18) rfl rfl rfl hdV_X1_lookForDigit ⟨Nat.le_of_ble_eq_true rfl, Nat.le_of_ble_eq_true rfl⟩) hz [] zp_all zp_all' rfl rfl rfl hl.1 (Nat.le_of_ble_eq_true rfl) (st1 := [.int (ldF tx ln s.1)]) rfl dX1_readNumber_1 ⟨Nat.zero_le _, Nat.zero_le _⟩ (fun H locs hz => ?_)
  refine lv_istore (lv' := [(4, .int (ldF tx ln s.1)), (0, .ref (q 0)), (1, .int (nI i)), (2, .int least), (3, .int most)]) (pc := 4) hx hb dX1_readNumber_4 hl (by decide) rfl (fun ls hl => ?_)
  refine lv_iload (pc := 6) hx hb dX1_readNumber_6 (lv_at hl 0 rfl) ?_
  refine lv_iload_n (pc := 8) hx hb dX1_readNumber_8 rfl (lv_at hl 3 rfl) ?_
  refine lv_icmp_ge (pc := 9) (tgt := 14) hx hb dX1_readNumber_9 (by decide) (fun c_9 => ?_) (fun c_9 => ?_)
  · refine lv_aload_n (pc := 14) hx hb dX1_readNumber_14 rfl (lv_at hl 1 rfl) ?_
    refine lv_dup (pc := 15) hx hb dX1_readNumber_15 rfl ?_
    refine z_get (own := RX1) (ref := "CupFountain$Plan") (C := RX1) (T := TX1) (N := 7) (ci := 1) (v := .int (nI s.1)) (pc := 16) hx hb hts hinX1 hown hz 0 rfl rfl 6 (by decide) L32 rfl rfl dX1_readNumber_16 ?_
    refine lv_iconst (v := 1) (pc := 19) hx hb dX1_readNumber_19 (by decide) ?_
    refine lv_iadd (pc := 20) hx hb dX1_readNumber_20 ?_
    refine z_top (y := nI (s.1 + 1)) (nI_1 _) ?_
    refine z_put (own := RX1) (ref := "CupFountain$Plan") (C := RX1) (T := TX1) (N := 7) (ci := 1) (v := .int (nI (s.1 + 1))) (ws1 := wQ ca q g tx th (s.1 + 1, s.2.1, s.2.2.1, s.2.2.2)) (pc := 21) hx hb hts hinX1 tyX1 tyX1_ok nmX1 hown hz 0 rfl rfl 6 (by decide) L32 rfl rfl rfl rfl (Nat.le_of_ble_eq_true rfl) rfl dX1_readNumber_21 (fun H locs hz => ?_)
    refine lv_iconst (v := 1) (pc := 24) hx hb dX1_readNumber_24 (by decide) ?_
    refine lv_istore (lv' := [(5, .int 1), (4, .int (ldF tx ln s.1)), (0, .ref (q 0)), (1, .int (nI i)), (2, .int least), (3, .int most)]) (pc := 25) hx hb dX1_readNumber_25 hl (by decide) rfl (fun ls hl => ?_)
    have loop1 : ∀ cnt j9 : Nat, j9 + cnt = 3 → ∀ (n9 : Int32) (p9 : Nat) (H : Heap) (locs : List Loc) (ls : Array Slot), zw G ca A s0.heap s0 (wQ ca q g tx th (p9, s.2.1, s.2.2.1, s.2.2.2)) H locs → lv_has ls 7 [(5, .int (nI j9)), (4, .int n9), (0, .ref (q 0)), (1, .int (nI i)), (2, .int least), (3, .int most)] → qL tx ln most 2 (ldF tx ln s.1) (s.1 + 1) = qL tx ln most cnt n9 p9 → p9 + cnt ≤ s.1 + 3 → W pg l ev rm_X1_readNumber s0 mt args below meth cd H locs 0 0 Q (F0 mt 27 ls []) := by
      intro cnt
      induction cnt with
      | zero =>
        intro j9 hk9 n9 p9 H locs ls hz hl hR hB
        obtain rfl : 3 = j9 := by omega
        refine lv_iload (pc := 27) hx hb dX1_readNumber_27 (lv_at hl 0 rfl) ?_
        refine lv_iconst (v := 3) (pc := 29) hx hb dX1_readNumber_29 (by decide) ?_
        refine lv_icmp_ge (pc := 30) (tgt := 90) hx hb dX1_readNumber_30 (by decide) (fun c_30 => ?_) (fun c9 => absurd (by decide) c9)
        refine lv_aload_n (pc := 90) hx hb dX1_readNumber_90 rfl (lv_at hl 2 rfl) ?_
        refine z_get (own := RX1) (ref := "CupFountain$Plan") (C := RX1) (T := TX1) (N := 7) (ci := 1) (v := .ref (q 4)) (pc := 91) hx hb hts hinX1 hown hz 0 rfl rfl 4 (by decide) L26 rfl rfl dX1_readNumber_91 ?_
        refine lv_iload_n (pc := 94) hx hb dX1_readNumber_94 rfl (lv_at hl 3 rfl) ?_
        refine lv_iload (pc := 95) hx hb dX1_readNumber_95 (lv_at hl 1 rfl) ?_
        refine z_iast (ws1 := wQ ca q g tx th (p9, s.2.1, s.2.2.1, upd s.2.2.2 i n9)) (pc := 97) hx hb hz 4 rfl i rfl (by omega) (by decide) rfl dX1_readNumber_97 (fun H locs hz => ?_)
        refine lv_iconst (v := 1) (pc := 98) hx hb dX1_readNumber_98 (by decide) ?_
        exact z_zret (pc := 99) hx hb hr hlk hQ hz rfl dX1_readNumber_99 (by simp only [qNum, if_pos c_9]) (by simp only [qNum, if_pos c_9]; rw [hR]; simp only [qL])
      | succ cnt ih =>
        intro j9 hk9 n9 p9 H locs ls hz hl hR hB
        have hk : j9 < 3 := by omega
        refine lv_iload (pc := 27) hx hb dX1_readNumber_27 (lv_at hl 0 rfl) ?_
        refine lv_iconst (v := 3) (pc := 29) hx hb dX1_readNumber_29 (by decide) ?_
        refine lv_icmp_ge (pc := 30) (tgt := 90) hx hb dX1_readNumber_30 (by decide) (fun c9 => absurd c9 (nI_ge hk (by decide))) (fun c_30 => ?_)
        refine lv_aload_n (pc := 33) hx hb dX1_readNumber_33 rfl (lv_at hl 2 rfl) ?_
        refine z_runV (pc := 34) (As := []) (rest := []) (ws1 := wQ ca q g tx th (p9, s.2.1, s.2.2.1, s.2.2.2)) ⟨hx, hb, hml, hown, hts⟩ (k_X1_lookForDigit l G ca q g tx th (p9, s.2.1, s.2.2.1, s.2.2.2) ln hln hg1 (show p9 < 1000 by omega)) (cwV 0 hts (zgoodV zsub wq_17_15 wq_17_16 wq_17_17 wq_1_22 wq_17_18) rfl rfl rfl hdV_X1_lookForDigit ⟨Nat.le_of_ble_eq_true rfl, Nat.le_of_ble_eq_true rfl⟩) hz [] zp_all zp_all' rfl rfl rfl hl.1 (Nat.le_of_ble_eq_true rfl) (st1 := [.int (ldF tx ln p9)]) rfl dX1_readNumber_34 ⟨Nat.zero_le _, Nat.zero_le _⟩ (fun H locs hz => ?_)
        refine lv_istore (lv' := [(6, .int (ldF tx ln p9)), (5, .int (nI j9)), (4, .int n9), (0, .ref (q 0)), (1, .int (nI i)), (2, .int least), (3, .int most)]) (pc := 37) hx hb dX1_readNumber_37 hl (by decide) rfl (fun ls hl => ?_)
        refine lv_iload (pc := 39) hx hb dX1_readNumber_39 (lv_at hl 2 rfl) ?_
        refine lv_if_eq (pc := 41) (tgt := 90) hx hb dX1_readNumber_41 (by decide) (fun c_41 => ?_) (fun c_41 => ?_)
        · refine lv_aload_n (pc := 90) hx hb dX1_readNumber_90 rfl (lv_at hl 3 rfl) ?_
          refine z_get (own := RX1) (ref := "CupFountain$Plan") (C := RX1) (T := TX1) (N := 7) (ci := 1) (v := .ref (q 4)) (pc := 91) hx hb hts hinX1 hown hz 0 rfl rfl 4 (by decide) L26 rfl rfl dX1_readNumber_91 ?_
          refine lv_iload_n (pc := 94) hx hb dX1_readNumber_94 rfl (lv_at hl 4 rfl) ?_
          refine lv_iload (pc := 95) hx hb dX1_readNumber_95 (lv_at hl 2 rfl) ?_
          refine z_iast (ws1 := wQ ca q g tx th (p9, s.2.1, s.2.2.1, upd s.2.2.2 i n9)) (pc := 97) hx hb hz 4 rfl i rfl (by omega) (by decide) rfl dX1_readNumber_97 (fun H locs hz => ?_)
          refine lv_iconst (v := 1) (pc := 98) hx hb dX1_readNumber_98 (by decide) ?_
          exact z_zret (pc := 99) hx hb hr hlk hQ hz rfl dX1_readNumber_99 (by simp only [qNum, if_pos c_9]) (by simp only [qNum, if_pos c_9]; rw [hR]; simp only [qL, if_pos c_41])
        · refine lv_iload (pc := 44) hx hb dX1_readNumber_44 (lv_at hl 0 rfl) ?_
          refine lv_if_lt (pc := 46) (tgt := 90) hx hb dX1_readNumber_46 (by decide) (fun c_46 => ?_) (fun c_46 => ?_)
          · refine lv_aload_n (pc := 90) hx hb dX1_readNumber_90 rfl (lv_at hl 3 rfl) ?_
            refine z_get (own := RX1) (ref := "CupFountain$Plan") (C := RX1) (T := TX1) (N := 7) (ci := 1) (v := .ref (q 4)) (pc := 91) hx hb hts hinX1 hown hz 0 rfl rfl 4 (by decide) L26 rfl rfl dX1_readNumber_91 ?_
            refine lv_iload_n (pc := 94) hx hb dX1_readNumber_94 rfl (lv_at hl 4 rfl) ?_
            refine lv_iload (pc := 95) hx hb dX1_readNumber_95 (lv_at hl 2 rfl) ?_
            refine z_iast (ws1 := wQ ca q g tx th (p9, s.2.1, s.2.2.1, upd s.2.2.2 i n9)) (pc := 97) hx hb hz 4 rfl i rfl (by omega) (by decide) rfl dX1_readNumber_97 (fun H locs hz => ?_)
            refine lv_iconst (v := 1) (pc := 98) hx hb dX1_readNumber_98 (by decide) ?_
            exact z_zret (pc := 99) hx hb hr hlk hQ hz rfl dX1_readNumber_99 (by simp only [qNum, if_pos c_9]) (by simp only [qNum, if_pos c_9]; rw [hR]; simp only [qL, if_neg c_41, if_pos c_46])
          · refine lv_bipush (v := 10) (pc := 49) hx hb dX1_readNumber_49 (by decide) ?_
            refine lv_iload (pc := 51) hx hb dX1_readNumber_51 (lv_at hl 2 rfl) ?_
            refine lv_imul (pc := 53) hx hb dX1_readNumber_53 ?_
            refine lv_iload (pc := 54) hx hb dX1_readNumber_54 (lv_at hl 0 rfl) ?_
            refine lv_iadd (pc := 56) hx hb dX1_readNumber_56 ?_
            refine lv_iload_n (pc := 57) hx hb dX1_readNumber_57 rfl (lv_at hl 6 rfl) ?_
            refine lv_icmp_le (pc := 58) (tgt := 64) hx hb dX1_readNumber_58 (by decide) (fun c_58 => ?_) (fun c_58 => ?_)
            · refine lv_bipush (v := 10) (pc := 64) hx hb dX1_readNumber_64 (by decide) ?_
              refine lv_iload (pc := 66) hx hb dX1_readNumber_66 (lv_at hl 2 rfl) ?_
              refine lv_imul (pc := 68) hx hb dX1_readNumber_68 ?_
              refine lv_iload (pc := 69) hx hb dX1_readNumber_69 (lv_at hl 0 rfl) ?_
              refine lv_iadd (pc := 71) hx hb dX1_readNumber_71 ?_
              refine lv_istore (lv' := [(4, .int ((10 * n9) + (ldF tx ln p9))), (6, .int (ldF tx ln p9)), (5, .int (nI j9)), (0, .ref (q 0)), (1, .int (nI i)), (2, .int least), (3, .int most)]) (pc := 72) hx hb dX1_readNumber_72 hl (by decide) rfl (fun ls hl => ?_)
              refine lv_aload_n (pc := 74) hx hb dX1_readNumber_74 rfl (lv_at hl 3 rfl) ?_
              refine lv_dup (pc := 75) hx hb dX1_readNumber_75 rfl ?_
              refine z_get (own := RX1) (ref := "CupFountain$Plan") (C := RX1) (T := TX1) (N := 7) (ci := 1) (v := .int (nI p9)) (pc := 76) hx hb hts hinX1 hown hz 0 rfl rfl 6 (by decide) L32 rfl rfl dX1_readNumber_76 ?_
              refine lv_iconst (v := 1) (pc := 79) hx hb dX1_readNumber_79 (by decide) ?_
              refine lv_iadd (pc := 80) hx hb dX1_readNumber_80 ?_
              refine z_top (y := nI (p9 + 1)) (nI_1 _) ?_
              refine z_put (own := RX1) (ref := "CupFountain$Plan") (C := RX1) (T := TX1) (N := 7) (ci := 1) (v := .int (nI (p9 + 1))) (ws1 := wQ ca q g tx th (p9 + 1, s.2.1, s.2.2.1, s.2.2.2)) (pc := 81) hx hb hts hinX1 tyX1 tyX1_ok nmX1 hown hz 0 rfl rfl 6 (by decide) L32 rfl rfl rfl rfl (Nat.le_of_ble_eq_true rfl) rfl dX1_readNumber_81 (fun H locs hz => ?_)
              refine lv_iinc (v := nI (j9 + 1)) (lv' := [(5, .int (nI (j9 + 1))), (4, .int ((10 * n9) + (ldF tx ln p9))), (6, .int (ldF tx ln p9)), (0, .ref (q 0)), (1, .int (nI i)), (2, .int least), (3, .int most)]) (pc := 84) hx hb dX1_readNumber_84 hl (k := 2) rfl (nI_add j9 1) (by decide) rfl (fun ls hl => ?_)
              refine lv_goto (tgt := 27) (pc := 87) hx hb dX1_readNumber_87 (by decide) ?_
              exact ih (j9 + 1) (by omega) (10 * n9 + ldF tx ln p9) (p9 + 1) _ _ _ hz (lv_sub hl [0, 1, 3, 4, 5, 6] rfl) (hR.trans (by rw [qL, if_neg c_41, if_neg c_46, if_pos c_58])) (by omega)
            · refine lv_goto (tgt := 90) (pc := 61) hx hb dX1_readNumber_61 (by decide) ?_
              refine lv_aload_n (pc := 90) hx hb dX1_readNumber_90 rfl (lv_at hl 3 rfl) ?_
              refine z_get (own := RX1) (ref := "CupFountain$Plan") (C := RX1) (T := TX1) (N := 7) (ci := 1) (v := .ref (q 4)) (pc := 91) hx hb hts hinX1 hown hz 0 rfl rfl 4 (by decide) L26 rfl rfl dX1_readNumber_91 ?_
              refine lv_iload_n (pc := 94) hx hb dX1_readNumber_94 rfl (lv_at hl 4 rfl) ?_
              refine lv_iload (pc := 95) hx hb dX1_readNumber_95 (lv_at hl 2 rfl) ?_
              refine z_iast (ws1 := wQ ca q g tx th (p9, s.2.1, s.2.2.1, upd s.2.2.2 i n9)) (pc := 97) hx hb hz 4 rfl i rfl (by omega) (by decide) rfl dX1_readNumber_97 (fun H locs hz => ?_)
              refine lv_iconst (v := 1) (pc := 98) hx hb dX1_readNumber_98 (by decide) ?_
              exact z_zret (pc := 99) hx hb hr hlk hQ hz rfl dX1_readNumber_99 (by simp only [qNum, if_pos c_9]) (by simp only [qNum, if_pos c_9]; rw [hR]; simp only [qL, if_neg c_41, if_neg c_46, if_neg c_58])
    exact loop1 2 1 (by omega) (ldF tx ln s.1) (s.1 + 1) _ _ _ hz (lv_sub hl [0, 1, 2, 3, 4, 5] rfl) rfl (by omega)
  · refine lv_iconst (v := 0) (pc := 12) hx hb dX1_readNumber_12 (by decide) ?_
    exact z_zret (pc := 13) hx hb hr hlk hQ hz rfl dX1_readNumber_13 (by simp only [qNum, if_neg c_9]) (by simp only [qNum, if_neg c_9])

def rm_X1_startThing : Room := { frames := 1, cells := 0, slots := 0, locals := 22 }
set_option maxRecDepth 20000 in
theorem hdV_X1_startThing : yX1_startThing.cls = RX1 ∧ yX1_startThing.cls ≠ "java/lang/invoke/MethodHandle" ∧ yX1_startThing.cls ≠ "java/lang/invoke/VarHandle" ∧ (parseMethodDescriptor yX1_startThing.desc).map (fun d => d.parameters.length) = some 2 := by decide +kernel
set_option maxHeartbeats 4000000 in
set_option maxRecDepth 100000 in
theorem k_X1_startThing (l : Launch) (G : va_G) (ca : Nat → ClassId) (q : Nat → Nat) (g tx : Nat → Int32) (th : Int32) (s : PQ) (ln : Nat) (hln : ln ≤ 60) (hg1 : g 1 = nI ln) (hs : s.1 < 1000) {i : Nat} (hi : i < 60) (kind : Int32) : Zc l G ca yX1_startThing (zws yX1_startThing cX1_startThing 3 (some .boolean)) rm_X1_startThing [.ref (q 0), .int (nI i), .int kind] (wQ ca q g tx th s) (some (.int 1)) (wQ ca q g tx th ((qSt i kind s).2)) := by
  refine Zc.of (cc := cX1_startThing) (maxL := 3) (ret := (some .boolean)) (by decide) rfl (Nat.le_of_ble_eq_true rfl) ?_
  intro pg ev s0 mt below meth cd A args Q ls hx hb hr hml hown hts hlk hQ hl hz
  have L19 : (Cond.fieldLink RX1 19 "CupFountain$Plan" "kinds" "[I").before args s0 = true := hts _ (zsub _ wq_3_20)
  have L32 : (Cond.fieldLink RX1 32 "CupFountain$Plan" "place" "I").before args s0 = true := hts _ (zsub _ wq_4_0)
  have hinX1 : ∀ w ∈ wsX10, w ∈ zws yX1_startThing cX1_startThing 3 (some .boolean) := fun w h => zsub w (wl_wsX10 w h)
  have hl : lv_has ls 3 [(0, .ref (q 0)), (1, .int (nI i)), (2, .int kind)] := hl
  refine lv_iload_n (pc := 0) hx hb dX1_startThing_0 rfl (lv_at hl 1 rfl) ?_
  refine lv_iconst (v := 0) (pc := 1) hx hb dX1_startThing_1 (by decide) ?_
  refine lv_bipush (v := 59) (pc := 2) hx hb dX1_startThing_2 (by decide) ?_
  refine z_runSN (pc := 4) (As := [.int (nI i), .int 0, .int 59]) (rest := []) (ws1 := wQ ca q g tx th s) ⟨hx, hb, hml, hown, hts⟩ (k_X3_isWithin l G ca (nI i) 0 59) ⟨va_cnB 3 hts (zgood0 zsub wq_5_20) rfl rfl rfl hz.1.2.2.1 (hts _ (zsub _ wq_1_2)) hdN_X3_isWithin ⟨Nat.le_of_ble_eq_true rfl, Nat.le_of_ble_eq_true rfl⟩, hts _ (zsub _ wq_5_19), trivial⟩ hz (wQ ca q g tx th s) zp_no (List.Perm.refl _) rfl hl.1 (Nat.le_of_ble_eq_true rfl) (st1 := [.int (inF (nI i) 0 59)]) rfl dX1_startThing_4 ⟨Nat.zero_le _, Nat.zero_le _⟩ (fun H locs hz => ?_)
  refine lv_if_ne (pc := 7) (tgt := 12) hx hb dX1_startThing_7 (by decide) (fun c_7 => ?_) (fun c9 => absurd c9 (in59 hi))
  refine lv_aload_n (pc := 12) hx hb dX1_startThing_12 rfl (lv_at hl 0 rfl) ?_
  refine z_get (own := RX1) (ref := "CupFountain$Plan") (C := RX1) (T := TX1) (N := 7) (ci := 1) (v := .ref (q 2)) (pc := 13) hx hb hts hinX1 hown hz 0 rfl rfl 2 (by decide) L19 rfl rfl dX1_startThing_13 ?_
  refine lv_iload_n (pc := 16) hx hb dX1_startThing_16 rfl (lv_at hl 1 rfl) ?_
  refine lv_iload_n (pc := 17) hx hb dX1_startThing_17 rfl (lv_at hl 2 rfl) ?_
  refine z_iast (ws1 := wQ ca q g tx th (s.1, upd s.2.1 i kind, s.2.2.1, s.2.2.2)) (pc := 18) hx hb hz 2 rfl i rfl (by omega) (by decide) rfl dX1_startThing_18 (fun H locs hz => ?_)
  refine lv_aload_n (pc := 19) hx hb dX1_startThing_19 rfl (lv_at hl 0 rfl) ?_
  refine lv_dup (pc := 20) hx hb dX1_startThing_20 rfl ?_
  refine z_get (own := RX1) (ref := "CupFountain$Plan") (C := RX1) (T := TX1) (N := 7) (ci := 1) (v := .int (nI s.1)) (pc := 21) hx hb hts hinX1 hown hz 0 rfl rfl 6 (by decide) L32 rfl rfl dX1_startThing_21 ?_
  refine lv_iconst (v := 1) (pc := 24) hx hb dX1_startThing_24 (by decide) ?_
  refine lv_iadd (pc := 25) hx hb dX1_startThing_25 ?_
  refine z_top (y := nI (s.1 + 1)) (nI_1 _) ?_
  refine z_put (own := RX1) (ref := "CupFountain$Plan") (C := RX1) (T := TX1) (N := 7) (ci := 1) (v := .int (nI (s.1 + 1))) (ws1 := wQ ca q g tx th (s.1 + 1, upd s.2.1 i kind, s.2.2.1, s.2.2.2)) (pc := 26) hx hb hts hinX1 tyX1 tyX1_ok nmX1 hown hz 0 rfl rfl 6 (by decide) L32 rfl rfl rfl rfl (Nat.le_of_ble_eq_true rfl) rfl dX1_startThing_26 (fun H locs hz => ?_)
  refine lv_iconst (v := 1) (pc := 29) hx hb dX1_startThing_29 (by decide) ?_
  exact z_zret (pc := 30) hx hb hr hlk hQ hz rfl dX1_startThing_30 (by rfl) (by rfl)

def rm_X1_readThing : Room := { frames := 3, cells := 0, slots := 0, locals := 69 }
set_option maxRecDepth 20000 in
theorem hdV_X1_readThing : yX1_readThing.cls = RX1 ∧ yX1_readThing.cls ≠ "java/lang/invoke/MethodHandle" ∧ yX1_readThing.cls ≠ "java/lang/invoke/VarHandle" ∧ (parseMethodDescriptor yX1_readThing.desc).map (fun d => d.parameters.length) = some 1 := by decide +kernel
set_option maxHeartbeats 4000000 in
set_option maxRecDepth 100000 in
theorem k_X1_readThing (l : Launch) (G : va_G) (ca : Nat → ClassId) (q : Nat → Nat) (g tx : Nat → Int32) (th : Int32) (s : PQ) (ln : Nat) (hln : ln ≤ 60) (hg1 : g 1 = nI ln) (hs : s.1 < 900) {i : Nat} (hi : i < 60) : Zc l G ca yX1_readThing (zws yX1_readThing cX1_readThing 3 (some .boolean)) rm_X1_readThing [.ref (q 0), .int (nI i)] (wQ ca q g tx th s) (some (.int (qThing tx ln i s).1)) (wQ ca q g tx th ((qThing tx ln i s).2)) := by
  refine Zc.of (cc := cX1_readThing) (maxL := 3) (ret := (some .boolean)) (by decide) rfl (Nat.le_of_ble_eq_true rfl) ?_
  intro pg ev s0 mt below meth cd A args Q ls hx hb hr hml hown hts hlk hQ hl hz
  have hl : lv_has ls 3 [(0, .ref (q 0)), (1, .int (nI i))] := hl
  refine lv_aload_n (pc := 0) hx hb dX1_readThing_0 rfl (lv_at hl 0 rfl) ?_
  refine z_runV (pc := 1) (As := []) (rest := []) (ws1 := wQ ca q g tx th s) ⟨hx, hb, hml, hown, hts⟩ (k_X1_look l G ca q g tx th s ln hln hg1 (show s.1 < 1000 by omega)) (cwV 0 hts (zgoodV zsub wq_17_3 wq_17_4 wq_17_5 wq_1_22 wq_17_6) rfl rfl rfl hdV_X1_look ⟨Nat.le_of_ble_eq_true rfl, Nat.le_of_ble_eq_true rfl⟩) hz [] zp_all zp_all' rfl rfl rfl hl.1 (Nat.le_of_ble_eq_true rfl) (st1 := [.int (lkF tx ln s.1)]) rfl dX1_readThing_1 ⟨Nat.zero_le _, Nat.zero_le _⟩ (fun H locs hz => ?_)
  refine lv_istore_n (lv' := [(2, .int (lkF tx ln s.1)), (0, .ref (q 0)), (1, .int (nI i))]) (pc := 4) hx hb dX1_readThing_4 rfl hl (by decide) rfl (fun ls hl => ?_)
  refine lv_iload_n (pc := 5) hx hb dX1_readThing_5 rfl (lv_at hl 0 rfl) ?_
  by_cases h_46 : lkF tx ln s.1 = 46
  · refine lv_lookup (off := 203) (tgt := 209) (pc := 6) hx hb dX1_readThing_6 (by decide) (by rw [h_46]; decide) (by decide) ?_
    refine lv_aload_n (pc := 209) hx hb dX1_readThing_209 rfl (lv_at hl 1 rfl) ?_
    refine lv_iload_n (pc := 210) hx hb dX1_readThing_210 rfl (lv_at hl 2 rfl) ?_
    refine lv_iload_n (pc := 211) hx hb dX1_readThing_211 rfl (lv_at hl 0 rfl) ?_
    refine z_runV (pc := 212) (As := [.int (nI i), .int (lkF tx ln s.1)]) (rest := []) (ws1 := wQ ca q g tx th (s.1 + 1, upd s.2.1 i (lkF tx ln s.1), s.2.2.1, s.2.2.2)) ⟨hx, hb, hml, hown, hts⟩ (k_X1_startThing l G ca q g tx th s ln hln hg1 (show s.1 < 1000 by omega) hi (lkF tx ln s.1)) (cwV 2 hts (zgoodV zsub wq_17_7 wq_17_8 wq_17_9 wq_1_22 wq_17_10) rfl rfl rfl hdV_X1_startThing ⟨Nat.le_of_ble_eq_true rfl, Nat.le_of_ble_eq_true rfl⟩) hz [] zp_all zp_all' rfl rfl rfl hl.1 (Nat.le_of_ble_eq_true rfl) (st1 := [.int 1]) rfl dX1_readThing_212 ⟨Nat.zero_le _, Nat.zero_le _⟩ (fun H locs hz => ?_)
    refine lv_if_eq (pc := 215) (tgt := 233) hx hb dX1_readThing_215 (by decide) (fun c9 => absurd c9 i10) (fun c_215 => ?_)
    refine lv_aload_n (pc := 218) hx hb dX1_readThing_218 rfl (lv_at hl 1 rfl) ?_
    refine lv_iload_n (pc := 219) hx hb dX1_readThing_219 rfl (lv_at hl 2 rfl) ?_
    refine lv_iconst (v := 1) (pc := 220) hx hb dX1_readThing_220 (by decide) ?_
    refine lv_bipush (v := 99) (pc := 221) hx hb dX1_readThing_221 (by decide) ?_
    refine z_runV (pc := 223) (As := [.int (nI i), .int 1, .int 99]) (rest := []) (ws1 := wQ ca q g tx th ((qNum tx ln i 1 99 (s.1 + 1, upd s.2.1 i (lkF tx ln s.1), s.2.2.1, s.2.2.2)).2)) ⟨hx, hb, hml, hown, hts⟩ (k_X1_readNumber l G ca q g tx th (s.1 + 1, upd s.2.1 i (lkF tx ln s.1), s.2.2.1, s.2.2.2) ln hln hg1 (show s.1 + 1 < 990 by omega) (i := i) hi 1 99) (cwV 3 hts (zgoodV zsub wq_17_23 wq_18_0 wq_18_1 wq_1_22 wq_18_2) rfl rfl rfl hdV_X1_readNumber ⟨Nat.le_of_ble_eq_true rfl, Nat.le_of_ble_eq_true rfl⟩) hz [] zp_all zp_all' rfl rfl rfl hl.1 (Nat.le_of_ble_eq_true rfl) (st1 := [.int ((qNum tx ln i 1 99 (s.1 + 1, upd s.2.1 i (lkF tx ln s.1), s.2.2.1, s.2.2.2)).1)]) rfl dX1_readThing_223 ⟨Nat.zero_le _, Nat.zero_le _⟩ (fun H locs hz => ?_)
    refine lv_if_eq (pc := 226) (tgt := 233) hx hb dX1_readThing_226 (by decide) (fun c_226 => ?_) (fun c_226 => ?_)
    · refine lv_iconst (v := 0) (pc := 233) hx hb dX1_readThing_233 (by decide) ?_
      exact z_zret (pc := 234) hx hb hr hlk hQ hz rfl dX1_readThing_234 (by simp only [qThing, qSt, if_pos h_46]; simp only [sqQ, finQ, if_pos c_226]) (by simp only [qThing, qSt, if_pos h_46]; simp only [sqQ, finQ, if_pos c_226])
    · refine lv_iconst (v := 1) (pc := 229) hx hb dX1_readThing_229 (by decide) ?_
      refine lv_goto (tgt := 234) (pc := 230) hx hb dX1_readThing_230 (by decide) ?_
      exact z_zret (pc := 234) hx hb hr hlk hQ hz rfl dX1_readThing_234 (by simp only [qThing, qSt, if_pos h_46]; simp only [sqQ, finQ, if_neg c_226]) (by simp only [qThing, qSt, if_pos h_46]; simp only [sqQ, finQ, if_neg c_226])
  by_cases h_102 : lkF tx ln s.1 = 102
  · refine lv_lookup (off := 137) (tgt := 143) (pc := 6) hx hb dX1_readThing_6 (by decide) (by rw [h_102]; decide) (by decide) ?_
    refine lv_aload_n (pc := 143) hx hb dX1_readThing_143 rfl (lv_at hl 1 rfl) ?_
    refine lv_iload_n (pc := 144) hx hb dX1_readThing_144 rfl (lv_at hl 2 rfl) ?_
    refine lv_iload_n (pc := 145) hx hb dX1_readThing_145 rfl (lv_at hl 0 rfl) ?_
    refine z_runV (pc := 146) (As := [.int (nI i), .int (lkF tx ln s.1)]) (rest := []) (ws1 := wQ ca q g tx th (s.1 + 1, upd s.2.1 i (lkF tx ln s.1), s.2.2.1, s.2.2.2)) ⟨hx, hb, hml, hown, hts⟩ (k_X1_startThing l G ca q g tx th s ln hln hg1 (show s.1 < 1000 by omega) hi (lkF tx ln s.1)) (cwV 2 hts (zgoodV zsub wq_17_7 wq_17_8 wq_17_9 wq_1_22 wq_17_10) rfl rfl rfl hdV_X1_startThing ⟨Nat.le_of_ble_eq_true rfl, Nat.le_of_ble_eq_true rfl⟩) hz [] zp_all zp_all' rfl rfl rfl hl.1 (Nat.le_of_ble_eq_true rfl) (st1 := [.int 1]) rfl dX1_readThing_146 ⟨Nat.zero_le _, Nat.zero_le _⟩ (fun H locs hz => ?_)
    refine lv_if_eq (pc := 149) (tgt := 184) hx hb dX1_readThing_149 (by decide) (fun c9 => absurd c9 i10) (fun c_149 => ?_)
    refine lv_aload_n (pc := 152) hx hb dX1_readThing_152 rfl (lv_at hl 1 rfl) ?_
    refine lv_iload_n (pc := 153) hx hb dX1_readThing_153 rfl (lv_at hl 2 rfl) ?_
    refine z_runV (pc := 154) (As := [.int (nI i)]) (rest := []) (ws1 := wQ ca q g tx th ((qCup tx ln i (s.1 + 1, upd s.2.1 i (lkF tx ln s.1), s.2.2.1, s.2.2.2)).2)) ⟨hx, hb, hml, hown, hts⟩ (k_X1_readCup l G ca q g tx th (s.1 + 1, upd s.2.1 i (lkF tx ln s.1), s.2.2.1, s.2.2.2) ln hln hg1 (show s.1 + 1 < 1000 by omega) (i := i) hi) (cwV 1 hts (zgoodV zsub wq_17_11 wq_17_12 wq_17_13 wq_1_22 wq_17_14) rfl rfl rfl hdV_X1_readCup ⟨Nat.le_of_ble_eq_true rfl, Nat.le_of_ble_eq_true rfl⟩) hz [] zp_all zp_all' rfl rfl rfl hl.1 (Nat.le_of_ble_eq_true rfl) (st1 := [.int ((qCup tx ln i (s.1 + 1, upd s.2.1 i (lkF tx ln s.1), s.2.2.1, s.2.2.2)).1)]) rfl dX1_readThing_154 ⟨Nat.zero_le _, Nat.zero_le _⟩ (fun H locs hz => ?_)
    refine lv_if_eq (pc := 157) (tgt := 184) hx hb dX1_readThing_157 (by decide) (fun c_157 => ?_) (fun c_157 => ?_)
    · refine lv_iconst (v := 0) (pc := 184) hx hb dX1_readThing_184 (by decide) ?_
      exact z_zret (pc := 185) hx hb hr hlk hQ hz rfl dX1_readThing_185 (by simp only [qThing, qSt, if_neg h_46, if_pos h_102]; simp only [sqQ, finQ, if_pos c_157]) (by simp only [qThing, qSt, if_neg h_46, if_pos h_102]; simp only [sqQ, finQ, if_pos c_157])
    · refine lv_aload_n (pc := 160) hx hb dX1_readThing_160 rfl (lv_at hl 1 rfl) ?_
      refine lv_bipush (v := 43) (pc := 161) hx hb dX1_readThing_161 (by decide) ?_
      refine z_runV (pc := 163) (As := [.int 43]) (rest := []) (ws1 := wQ ca q g tx th ((qChr tx ln 43 ((qCup tx ln i (s.1 + 1, upd s.2.1 i (lkF tx ln s.1), s.2.2.1, s.2.2.2)).2)).2)) ⟨hx, hb, hml, hown, hts⟩ (k_X1_skip l G ca q g tx th ((qCup tx ln i (s.1 + 1, upd s.2.1 i (lkF tx ln s.1), s.2.2.1, s.2.2.2)).2) ln hln hg1 (show ((qCup tx ln i (s.1 + 1, upd s.2.1 i (lkF tx ln s.1), s.2.2.1, s.2.2.2)).2).1 < 1000 by have g0 := qCup_le (tx := tx) (ln := ln) (i := i) (s := (s.1 + 1, upd s.2.1 i (lkF tx ln s.1), s.2.2.1, s.2.2.2)); simp only at g0; omega) 43) (cwV 1 hts (zgoodV zsub wq_17_19 wq_17_20 wq_17_21 wq_1_22 wq_17_22) rfl rfl rfl hdV_X1_skip ⟨Nat.le_of_ble_eq_true rfl, Nat.le_of_ble_eq_true rfl⟩) hz [] zp_all zp_all' rfl rfl rfl hl.1 (Nat.le_of_ble_eq_true rfl) (st1 := [.int ((qChr tx ln 43 ((qCup tx ln i (s.1 + 1, upd s.2.1 i (lkF tx ln s.1), s.2.2.1, s.2.2.2)).2)).1)]) rfl dX1_readThing_163 ⟨Nat.zero_le _, Nat.zero_le _⟩ (fun H locs hz => ?_)
      refine lv_if_eq (pc := 166) (tgt := 184) hx hb dX1_readThing_166 (by decide) (fun c_166 => ?_) (fun c_166 => ?_)
      · refine lv_iconst (v := 0) (pc := 184) hx hb dX1_readThing_184 (by decide) ?_
        exact z_zret (pc := 185) hx hb hr hlk hQ hz rfl dX1_readThing_185 (by simp only [qThing, qSt, if_neg h_46, if_pos h_102]; simp only [sqQ, finQ, if_neg c_157, if_pos c_166]) (by simp only [qThing, qSt, if_neg h_46, if_pos h_102]; simp only [sqQ, finQ, if_neg c_157, if_pos c_166])
      · refine lv_aload_n (pc := 169) hx hb dX1_readThing_169 rfl (lv_at hl 1 rfl) ?_
        refine lv_iload_n (pc := 170) hx hb dX1_readThing_170 rfl (lv_at hl 2 rfl) ?_
        refine lv_iconst (v := 1) (pc := 171) hx hb dX1_readThing_171 (by decide) ?_
        refine lv_bipush (v := 99) (pc := 172) hx hb dX1_readThing_172 (by decide) ?_
        refine z_runV (pc := 174) (As := [.int (nI i), .int 1, .int 99]) (rest := []) (ws1 := wQ ca q g tx th ((qNum tx ln i 1 99 ((qChr tx ln 43 ((qCup tx ln i (s.1 + 1, upd s.2.1 i (lkF tx ln s.1), s.2.2.1, s.2.2.2)).2)).2)).2)) ⟨hx, hb, hml, hown, hts⟩ (k_X1_readNumber l G ca q g tx th ((qChr tx ln 43 ((qCup tx ln i (s.1 + 1, upd s.2.1 i (lkF tx ln s.1), s.2.2.1, s.2.2.2)).2)).2) ln hln hg1 (show ((qChr tx ln 43 ((qCup tx ln i (s.1 + 1, upd s.2.1 i (lkF tx ln s.1), s.2.2.1, s.2.2.2)).2)).2).1 < 990 by have g0 := qCup_le (tx := tx) (ln := ln) (i := i) (s := (s.1 + 1, upd s.2.1 i (lkF tx ln s.1), s.2.2.1, s.2.2.2)); have g1 := qChr_le (tx := tx) (ln := ln) (code := 43) (s := ((qCup tx ln i (s.1 + 1, upd s.2.1 i (lkF tx ln s.1), s.2.2.1, s.2.2.2)).2)); simp only at g0 g1; omega) (i := i) hi 1 99) (cwV 3 hts (zgoodV zsub wq_17_23 wq_18_0 wq_18_1 wq_1_22 wq_18_2) rfl rfl rfl hdV_X1_readNumber ⟨Nat.le_of_ble_eq_true rfl, Nat.le_of_ble_eq_true rfl⟩) hz [] zp_all zp_all' rfl rfl rfl hl.1 (Nat.le_of_ble_eq_true rfl) (st1 := [.int ((qNum tx ln i 1 99 ((qChr tx ln 43 ((qCup tx ln i (s.1 + 1, upd s.2.1 i (lkF tx ln s.1), s.2.2.1, s.2.2.2)).2)).2)).1)]) rfl dX1_readThing_174 ⟨Nat.zero_le _, Nat.zero_le _⟩ (fun H locs hz => ?_)
        refine lv_if_eq (pc := 177) (tgt := 184) hx hb dX1_readThing_177 (by decide) (fun c_177 => ?_) (fun c_177 => ?_)
        · refine lv_iconst (v := 0) (pc := 184) hx hb dX1_readThing_184 (by decide) ?_
          exact z_zret (pc := 185) hx hb hr hlk hQ hz rfl dX1_readThing_185 (by simp only [qThing, qSt, if_neg h_46, if_pos h_102]; simp only [sqQ, finQ, if_neg c_157, if_neg c_166, if_pos c_177]) (by simp only [qThing, qSt, if_neg h_46, if_pos h_102]; simp only [sqQ, finQ, if_neg c_157, if_neg c_166, if_pos c_177])
        · refine lv_iconst (v := 1) (pc := 180) hx hb dX1_readThing_180 (by decide) ?_
          refine lv_goto (tgt := 185) (pc := 181) hx hb dX1_readThing_181 (by decide) ?_
          exact z_zret (pc := 185) hx hb hr hlk hQ hz rfl dX1_readThing_185 (by simp only [qThing, qSt, if_neg h_46, if_pos h_102]; simp only [sqQ, finQ, if_neg c_157, if_neg c_166, if_neg c_177]) (by simp only [qThing, qSt, if_neg h_46, if_pos h_102]; simp only [sqQ, finQ, if_neg c_157, if_neg c_166, if_neg c_177])
  by_cases h_103 : lkF tx ln s.1 = 103
  · refine lv_lookup (off := 180) (tgt := 186) (pc := 6) hx hb dX1_readThing_6 (by decide) (by rw [h_103]; decide) (by decide) ?_
    refine lv_aload_n (pc := 186) hx hb dX1_readThing_186 rfl (lv_at hl 1 rfl) ?_
    refine lv_iload_n (pc := 187) hx hb dX1_readThing_187 rfl (lv_at hl 2 rfl) ?_
    refine lv_iload_n (pc := 188) hx hb dX1_readThing_188 rfl (lv_at hl 0 rfl) ?_
    refine z_runV (pc := 189) (As := [.int (nI i), .int (lkF tx ln s.1)]) (rest := []) (ws1 := wQ ca q g tx th (s.1 + 1, upd s.2.1 i (lkF tx ln s.1), s.2.2.1, s.2.2.2)) ⟨hx, hb, hml, hown, hts⟩ (k_X1_startThing l G ca q g tx th s ln hln hg1 (show s.1 < 1000 by omega) hi (lkF tx ln s.1)) (cwV 2 hts (zgoodV zsub wq_17_7 wq_17_8 wq_17_9 wq_1_22 wq_17_10) rfl rfl rfl hdV_X1_startThing ⟨Nat.le_of_ble_eq_true rfl, Nat.le_of_ble_eq_true rfl⟩) hz [] zp_all zp_all' rfl rfl rfl hl.1 (Nat.le_of_ble_eq_true rfl) (st1 := [.int 1]) rfl dX1_readThing_189 ⟨Nat.zero_le _, Nat.zero_le _⟩ (fun H locs hz => ?_)
    refine lv_if_eq (pc := 192) (tgt := 207) hx hb dX1_readThing_192 (by decide) (fun c9 => absurd c9 i10) (fun c_192 => ?_)
    refine lv_aload_n (pc := 195) hx hb dX1_readThing_195 rfl (lv_at hl 1 rfl) ?_
    refine lv_iload_n (pc := 196) hx hb dX1_readThing_196 rfl (lv_at hl 2 rfl) ?_
    refine z_runV (pc := 197) (As := [.int (nI i)]) (rest := []) (ws1 := wQ ca q g tx th ((qCup tx ln i (s.1 + 1, upd s.2.1 i (lkF tx ln s.1), s.2.2.1, s.2.2.2)).2)) ⟨hx, hb, hml, hown, hts⟩ (k_X1_readCup l G ca q g tx th (s.1 + 1, upd s.2.1 i (lkF tx ln s.1), s.2.2.1, s.2.2.2) ln hln hg1 (show s.1 + 1 < 1000 by omega) (i := i) hi) (cwV 1 hts (zgoodV zsub wq_17_11 wq_17_12 wq_17_13 wq_1_22 wq_17_14) rfl rfl rfl hdV_X1_readCup ⟨Nat.le_of_ble_eq_true rfl, Nat.le_of_ble_eq_true rfl⟩) hz [] zp_all zp_all' rfl rfl rfl hl.1 (Nat.le_of_ble_eq_true rfl) (st1 := [.int ((qCup tx ln i (s.1 + 1, upd s.2.1 i (lkF tx ln s.1), s.2.2.1, s.2.2.2)).1)]) rfl dX1_readThing_197 ⟨Nat.zero_le _, Nat.zero_le _⟩ (fun H locs hz => ?_)
    refine lv_if_eq (pc := 200) (tgt := 207) hx hb dX1_readThing_200 (by decide) (fun c_200 => ?_) (fun c_200 => ?_)
    · refine lv_iconst (v := 0) (pc := 207) hx hb dX1_readThing_207 (by decide) ?_
      exact z_zret (pc := 208) hx hb hr hlk hQ hz rfl dX1_readThing_208 (by simp only [qThing, qSt, if_neg h_46, if_neg h_102, if_pos h_103]; simp only [sqQ, finQ, if_pos c_200]) (by simp only [qThing, qSt, if_neg h_46, if_neg h_102, if_pos h_103]; simp only [sqQ, finQ, if_pos c_200])
    · refine lv_iconst (v := 1) (pc := 203) hx hb dX1_readThing_203 (by decide) ?_
      refine lv_goto (tgt := 208) (pc := 204) hx hb dX1_readThing_204 (by decide) ?_
      exact z_zret (pc := 208) hx hb hr hlk hQ hz rfl dX1_readThing_208 (by simp only [qThing, qSt, if_neg h_46, if_neg h_102, if_pos h_103]; simp only [sqQ, finQ, if_neg c_200]) (by simp only [qThing, qSt, if_neg h_46, if_neg h_102, if_pos h_103]; simp only [sqQ, finQ, if_neg c_200])
  by_cases h_104 : lkF tx ln s.1 = 104
  · refine lv_lookup (off := 50) (tgt := 56) (pc := 6) hx hb dX1_readThing_6 (by decide) (by rw [h_104]; decide) (by decide) ?_
    refine lv_aload_n (pc := 56) hx hb dX1_readThing_56 rfl (lv_at hl 1 rfl) ?_
    refine lv_iload_n (pc := 57) hx hb dX1_readThing_57 rfl (lv_at hl 2 rfl) ?_
    refine lv_iload_n (pc := 58) hx hb dX1_readThing_58 rfl (lv_at hl 0 rfl) ?_
    refine z_runV (pc := 59) (As := [.int (nI i), .int (lkF tx ln s.1)]) (rest := []) (ws1 := wQ ca q g tx th (s.1 + 1, upd s.2.1 i (lkF tx ln s.1), s.2.2.1, s.2.2.2)) ⟨hx, hb, hml, hown, hts⟩ (k_X1_startThing l G ca q g tx th s ln hln hg1 (show s.1 < 1000 by omega) hi (lkF tx ln s.1)) (cwV 2 hts (zgoodV zsub wq_17_7 wq_17_8 wq_17_9 wq_1_22 wq_17_10) rfl rfl rfl hdV_X1_startThing ⟨Nat.le_of_ble_eq_true rfl, Nat.le_of_ble_eq_true rfl⟩) hz [] zp_all zp_all' rfl rfl rfl hl.1 (Nat.le_of_ble_eq_true rfl) (st1 := [.int 1]) rfl dX1_readThing_59 ⟨Nat.zero_le _, Nat.zero_le _⟩ (fun H locs hz => ?_)
    refine lv_if_eq (pc := 62) (tgt := 98) hx hb dX1_readThing_62 (by decide) (fun c9 => absurd c9 i10) (fun c_62 => ?_)
    refine lv_aload_n (pc := 65) hx hb dX1_readThing_65 rfl (lv_at hl 1 rfl) ?_
    refine lv_iload_n (pc := 66) hx hb dX1_readThing_66 rfl (lv_at hl 2 rfl) ?_
    refine z_runV (pc := 67) (As := [.int (nI i)]) (rest := []) (ws1 := wQ ca q g tx th ((qCup tx ln i (s.1 + 1, upd s.2.1 i (lkF tx ln s.1), s.2.2.1, s.2.2.2)).2)) ⟨hx, hb, hml, hown, hts⟩ (k_X1_readCup l G ca q g tx th (s.1 + 1, upd s.2.1 i (lkF tx ln s.1), s.2.2.1, s.2.2.2) ln hln hg1 (show s.1 + 1 < 1000 by omega) (i := i) hi) (cwV 1 hts (zgoodV zsub wq_17_11 wq_17_12 wq_17_13 wq_1_22 wq_17_14) rfl rfl rfl hdV_X1_readCup ⟨Nat.le_of_ble_eq_true rfl, Nat.le_of_ble_eq_true rfl⟩) hz [] zp_all zp_all' rfl rfl rfl hl.1 (Nat.le_of_ble_eq_true rfl) (st1 := [.int ((qCup tx ln i (s.1 + 1, upd s.2.1 i (lkF tx ln s.1), s.2.2.1, s.2.2.2)).1)]) rfl dX1_readThing_67 ⟨Nat.zero_le _, Nat.zero_le _⟩ (fun H locs hz => ?_)
    refine lv_if_eq (pc := 70) (tgt := 98) hx hb dX1_readThing_70 (by decide) (fun c_70 => ?_) (fun c_70 => ?_)
    · refine lv_iconst (v := 0) (pc := 98) hx hb dX1_readThing_98 (by decide) ?_
      exact z_zret (pc := 99) hx hb hr hlk hQ hz rfl dX1_readThing_99 (by simp only [qThing, qSt, if_neg h_46, if_neg h_102, if_neg h_103, if_pos h_104]; simp only [sqQ, finQ, if_pos c_70]) (by simp only [qThing, qSt, if_neg h_46, if_neg h_102, if_neg h_103, if_pos h_104]; simp only [sqQ, finQ, if_pos c_70])
    · refine lv_aload_n (pc := 73) hx hb dX1_readThing_73 rfl (lv_at hl 1 rfl) ?_
      refine lv_bipush (v := 64) (pc := 74) hx hb dX1_readThing_74 (by decide) ?_
      refine z_runV (pc := 76) (As := [.int 64]) (rest := []) (ws1 := wQ ca q g tx th ((qChr tx ln 64 ((qCup tx ln i (s.1 + 1, upd s.2.1 i (lkF tx ln s.1), s.2.2.1, s.2.2.2)).2)).2)) ⟨hx, hb, hml, hown, hts⟩ (k_X1_skip l G ca q g tx th ((qCup tx ln i (s.1 + 1, upd s.2.1 i (lkF tx ln s.1), s.2.2.1, s.2.2.2)).2) ln hln hg1 (show ((qCup tx ln i (s.1 + 1, upd s.2.1 i (lkF tx ln s.1), s.2.2.1, s.2.2.2)).2).1 < 1000 by have g0 := qCup_le (tx := tx) (ln := ln) (i := i) (s := (s.1 + 1, upd s.2.1 i (lkF tx ln s.1), s.2.2.1, s.2.2.2)); simp only at g0; omega) 64) (cwV 1 hts (zgoodV zsub wq_17_19 wq_17_20 wq_17_21 wq_1_22 wq_17_22) rfl rfl rfl hdV_X1_skip ⟨Nat.le_of_ble_eq_true rfl, Nat.le_of_ble_eq_true rfl⟩) hz [] zp_all zp_all' rfl rfl rfl hl.1 (Nat.le_of_ble_eq_true rfl) (st1 := [.int ((qChr tx ln 64 ((qCup tx ln i (s.1 + 1, upd s.2.1 i (lkF tx ln s.1), s.2.2.1, s.2.2.2)).2)).1)]) rfl dX1_readThing_76 ⟨Nat.zero_le _, Nat.zero_le _⟩ (fun H locs hz => ?_)
      refine lv_if_eq (pc := 79) (tgt := 98) hx hb dX1_readThing_79 (by decide) (fun c_79 => ?_) (fun c_79 => ?_)
      · refine lv_iconst (v := 0) (pc := 98) hx hb dX1_readThing_98 (by decide) ?_
        exact z_zret (pc := 99) hx hb hr hlk hQ hz rfl dX1_readThing_99 (by simp only [qThing, qSt, if_neg h_46, if_neg h_102, if_neg h_103, if_pos h_104]; simp only [sqQ, finQ, if_neg c_70, if_pos c_79]) (by simp only [qThing, qSt, if_neg h_46, if_neg h_102, if_neg h_103, if_pos h_104]; simp only [sqQ, finQ, if_neg c_70, if_pos c_79])
      · refine lv_aload_n (pc := 82) hx hb dX1_readThing_82 rfl (lv_at hl 1 rfl) ?_
        refine lv_iload_n (pc := 83) hx hb dX1_readThing_83 rfl (lv_at hl 2 rfl) ?_
        refine lv_iconst (v := 0) (pc := 84) hx hb dX1_readThing_84 (by decide) ?_
        refine lv_sipush (v := 239) (pc := 85) hx hb dX1_readThing_85 (by decide) ?_
        refine z_runV (pc := 88) (As := [.int (nI i), .int 0, .int 239]) (rest := []) (ws1 := wQ ca q g tx th ((qNum tx ln i 0 239 ((qChr tx ln 64 ((qCup tx ln i (s.1 + 1, upd s.2.1 i (lkF tx ln s.1), s.2.2.1, s.2.2.2)).2)).2)).2)) ⟨hx, hb, hml, hown, hts⟩ (k_X1_readNumber l G ca q g tx th ((qChr tx ln 64 ((qCup tx ln i (s.1 + 1, upd s.2.1 i (lkF tx ln s.1), s.2.2.1, s.2.2.2)).2)).2) ln hln hg1 (show ((qChr tx ln 64 ((qCup tx ln i (s.1 + 1, upd s.2.1 i (lkF tx ln s.1), s.2.2.1, s.2.2.2)).2)).2).1 < 990 by have g0 := qCup_le (tx := tx) (ln := ln) (i := i) (s := (s.1 + 1, upd s.2.1 i (lkF tx ln s.1), s.2.2.1, s.2.2.2)); have g1 := qChr_le (tx := tx) (ln := ln) (code := 64) (s := ((qCup tx ln i (s.1 + 1, upd s.2.1 i (lkF tx ln s.1), s.2.2.1, s.2.2.2)).2)); simp only at g0 g1; omega) (i := i) hi 0 239) (cwV 3 hts (zgoodV zsub wq_17_23 wq_18_0 wq_18_1 wq_1_22 wq_18_2) rfl rfl rfl hdV_X1_readNumber ⟨Nat.le_of_ble_eq_true rfl, Nat.le_of_ble_eq_true rfl⟩) hz [] zp_all zp_all' rfl rfl rfl hl.1 (Nat.le_of_ble_eq_true rfl) (st1 := [.int ((qNum tx ln i 0 239 ((qChr tx ln 64 ((qCup tx ln i (s.1 + 1, upd s.2.1 i (lkF tx ln s.1), s.2.2.1, s.2.2.2)).2)).2)).1)]) rfl dX1_readThing_88 ⟨Nat.zero_le _, Nat.zero_le _⟩ (fun H locs hz => ?_)
        refine lv_if_eq (pc := 91) (tgt := 98) hx hb dX1_readThing_91 (by decide) (fun c_91 => ?_) (fun c_91 => ?_)
        · refine lv_iconst (v := 0) (pc := 98) hx hb dX1_readThing_98 (by decide) ?_
          exact z_zret (pc := 99) hx hb hr hlk hQ hz rfl dX1_readThing_99 (by simp only [qThing, qSt, if_neg h_46, if_neg h_102, if_neg h_103, if_pos h_104]; simp only [sqQ, finQ, if_neg c_70, if_neg c_79, if_pos c_91]) (by simp only [qThing, qSt, if_neg h_46, if_neg h_102, if_neg h_103, if_pos h_104]; simp only [sqQ, finQ, if_neg c_70, if_neg c_79, if_pos c_91])
        · refine lv_iconst (v := 1) (pc := 94) hx hb dX1_readThing_94 (by decide) ?_
          refine lv_goto (tgt := 99) (pc := 95) hx hb dX1_readThing_95 (by decide) ?_
          exact z_zret (pc := 99) hx hb hr hlk hQ hz rfl dX1_readThing_99 (by simp only [qThing, qSt, if_neg h_46, if_neg h_102, if_neg h_103, if_pos h_104]; simp only [sqQ, finQ, if_neg c_70, if_neg c_79, if_neg c_91]) (by simp only [qThing, qSt, if_neg h_46, if_neg h_102, if_neg h_103, if_pos h_104]; simp only [sqQ, finQ, if_neg c_70, if_neg c_79, if_neg c_91])
  by_cases h_115 : lkF tx ln s.1 = 115
  · refine lv_lookup (off := 94) (tgt := 100) (pc := 6) hx hb dX1_readThing_6 (by decide) (by rw [h_115]; decide) (by decide) ?_
    refine lv_aload_n (pc := 100) hx hb dX1_readThing_100 rfl (lv_at hl 1 rfl) ?_
    refine lv_iload_n (pc := 101) hx hb dX1_readThing_101 rfl (lv_at hl 2 rfl) ?_
    refine lv_iload_n (pc := 102) hx hb dX1_readThing_102 rfl (lv_at hl 0 rfl) ?_
    refine z_runV (pc := 103) (As := [.int (nI i), .int (lkF tx ln s.1)]) (rest := []) (ws1 := wQ ca q g tx th (s.1 + 1, upd s.2.1 i (lkF tx ln s.1), s.2.2.1, s.2.2.2)) ⟨hx, hb, hml, hown, hts⟩ (k_X1_startThing l G ca q g tx th s ln hln hg1 (show s.1 < 1000 by omega) hi (lkF tx ln s.1)) (cwV 2 hts (zgoodV zsub wq_17_7 wq_17_8 wq_17_9 wq_1_22 wq_17_10) rfl rfl rfl hdV_X1_startThing ⟨Nat.le_of_ble_eq_true rfl, Nat.le_of_ble_eq_true rfl⟩) hz [] zp_all zp_all' rfl rfl rfl hl.1 (Nat.le_of_ble_eq_true rfl) (st1 := [.int 1]) rfl dX1_readThing_103 ⟨Nat.zero_le _, Nat.zero_le _⟩ (fun H locs hz => ?_)
    refine lv_if_eq (pc := 106) (tgt := 141) hx hb dX1_readThing_106 (by decide) (fun c9 => absurd c9 i10) (fun c_106 => ?_)
    refine lv_aload_n (pc := 109) hx hb dX1_readThing_109 rfl (lv_at hl 1 rfl) ?_
    refine lv_iload_n (pc := 110) hx hb dX1_readThing_110 rfl (lv_at hl 2 rfl) ?_
    refine z_runV (pc := 111) (As := [.int (nI i)]) (rest := []) (ws1 := wQ ca q g tx th ((qCup tx ln i (s.1 + 1, upd s.2.1 i (lkF tx ln s.1), s.2.2.1, s.2.2.2)).2)) ⟨hx, hb, hml, hown, hts⟩ (k_X1_readCup l G ca q g tx th (s.1 + 1, upd s.2.1 i (lkF tx ln s.1), s.2.2.1, s.2.2.2) ln hln hg1 (show s.1 + 1 < 1000 by omega) (i := i) hi) (cwV 1 hts (zgoodV zsub wq_17_11 wq_17_12 wq_17_13 wq_1_22 wq_17_14) rfl rfl rfl hdV_X1_readCup ⟨Nat.le_of_ble_eq_true rfl, Nat.le_of_ble_eq_true rfl⟩) hz [] zp_all zp_all' rfl rfl rfl hl.1 (Nat.le_of_ble_eq_true rfl) (st1 := [.int ((qCup tx ln i (s.1 + 1, upd s.2.1 i (lkF tx ln s.1), s.2.2.1, s.2.2.2)).1)]) rfl dX1_readThing_111 ⟨Nat.zero_le _, Nat.zero_le _⟩ (fun H locs hz => ?_)
    refine lv_if_eq (pc := 114) (tgt := 141) hx hb dX1_readThing_114 (by decide) (fun c_114 => ?_) (fun c_114 => ?_)
    · refine lv_iconst (v := 0) (pc := 141) hx hb dX1_readThing_141 (by decide) ?_
      exact z_zret (pc := 142) hx hb hr hlk hQ hz rfl dX1_readThing_142 (by simp only [qThing, qSt, if_neg h_46, if_neg h_102, if_neg h_103, if_neg h_104, if_pos h_115]; simp only [sqQ, finQ, if_pos c_114]) (by simp only [qThing, qSt, if_neg h_46, if_neg h_102, if_neg h_103, if_neg h_104, if_pos h_115]; simp only [sqQ, finQ, if_pos c_114])
    · refine lv_aload_n (pc := 117) hx hb dX1_readThing_117 rfl (lv_at hl 1 rfl) ?_
      refine lv_bipush (v := 61) (pc := 118) hx hb dX1_readThing_118 (by decide) ?_
      refine z_runV (pc := 120) (As := [.int 61]) (rest := []) (ws1 := wQ ca q g tx th ((qChr tx ln 61 ((qCup tx ln i (s.1 + 1, upd s.2.1 i (lkF tx ln s.1), s.2.2.1, s.2.2.2)).2)).2)) ⟨hx, hb, hml, hown, hts⟩ (k_X1_skip l G ca q g tx th ((qCup tx ln i (s.1 + 1, upd s.2.1 i (lkF tx ln s.1), s.2.2.1, s.2.2.2)).2) ln hln hg1 (show ((qCup tx ln i (s.1 + 1, upd s.2.1 i (lkF tx ln s.1), s.2.2.1, s.2.2.2)).2).1 < 1000 by have g0 := qCup_le (tx := tx) (ln := ln) (i := i) (s := (s.1 + 1, upd s.2.1 i (lkF tx ln s.1), s.2.2.1, s.2.2.2)); simp only at g0; omega) 61) (cwV 1 hts (zgoodV zsub wq_17_19 wq_17_20 wq_17_21 wq_1_22 wq_17_22) rfl rfl rfl hdV_X1_skip ⟨Nat.le_of_ble_eq_true rfl, Nat.le_of_ble_eq_true rfl⟩) hz [] zp_all zp_all' rfl rfl rfl hl.1 (Nat.le_of_ble_eq_true rfl) (st1 := [.int ((qChr tx ln 61 ((qCup tx ln i (s.1 + 1, upd s.2.1 i (lkF tx ln s.1), s.2.2.1, s.2.2.2)).2)).1)]) rfl dX1_readThing_120 ⟨Nat.zero_le _, Nat.zero_le _⟩ (fun H locs hz => ?_)
      refine lv_if_eq (pc := 123) (tgt := 141) hx hb dX1_readThing_123 (by decide) (fun c_123 => ?_) (fun c_123 => ?_)
      · refine lv_iconst (v := 0) (pc := 141) hx hb dX1_readThing_141 (by decide) ?_
        exact z_zret (pc := 142) hx hb hr hlk hQ hz rfl dX1_readThing_142 (by simp only [qThing, qSt, if_neg h_46, if_neg h_102, if_neg h_103, if_neg h_104, if_pos h_115]; simp only [sqQ, finQ, if_neg c_114, if_pos c_123]) (by simp only [qThing, qSt, if_neg h_46, if_neg h_102, if_neg h_103, if_neg h_104, if_pos h_115]; simp only [sqQ, finQ, if_neg c_114, if_pos c_123])
      · refine lv_aload_n (pc := 126) hx hb dX1_readThing_126 rfl (lv_at hl 1 rfl) ?_
        refine lv_iload_n (pc := 127) hx hb dX1_readThing_127 rfl (lv_at hl 2 rfl) ?_
        refine lv_iconst (v := 1) (pc := 128) hx hb dX1_readThing_128 (by decide) ?_
        refine lv_bipush (v := 99) (pc := 129) hx hb dX1_readThing_129 (by decide) ?_
        refine z_runV (pc := 131) (As := [.int (nI i), .int 1, .int 99]) (rest := []) (ws1 := wQ ca q g tx th ((qNum tx ln i 1 99 ((qChr tx ln 61 ((qCup tx ln i (s.1 + 1, upd s.2.1 i (lkF tx ln s.1), s.2.2.1, s.2.2.2)).2)).2)).2)) ⟨hx, hb, hml, hown, hts⟩ (k_X1_readNumber l G ca q g tx th ((qChr tx ln 61 ((qCup tx ln i (s.1 + 1, upd s.2.1 i (lkF tx ln s.1), s.2.2.1, s.2.2.2)).2)).2) ln hln hg1 (show ((qChr tx ln 61 ((qCup tx ln i (s.1 + 1, upd s.2.1 i (lkF tx ln s.1), s.2.2.1, s.2.2.2)).2)).2).1 < 990 by have g0 := qCup_le (tx := tx) (ln := ln) (i := i) (s := (s.1 + 1, upd s.2.1 i (lkF tx ln s.1), s.2.2.1, s.2.2.2)); have g1 := qChr_le (tx := tx) (ln := ln) (code := 61) (s := ((qCup tx ln i (s.1 + 1, upd s.2.1 i (lkF tx ln s.1), s.2.2.1, s.2.2.2)).2)); simp only at g0 g1; omega) (i := i) hi 1 99) (cwV 3 hts (zgoodV zsub wq_17_23 wq_18_0 wq_18_1 wq_1_22 wq_18_2) rfl rfl rfl hdV_X1_readNumber ⟨Nat.le_of_ble_eq_true rfl, Nat.le_of_ble_eq_true rfl⟩) hz [] zp_all zp_all' rfl rfl rfl hl.1 (Nat.le_of_ble_eq_true rfl) (st1 := [.int ((qNum tx ln i 1 99 ((qChr tx ln 61 ((qCup tx ln i (s.1 + 1, upd s.2.1 i (lkF tx ln s.1), s.2.2.1, s.2.2.2)).2)).2)).1)]) rfl dX1_readThing_131 ⟨Nat.zero_le _, Nat.zero_le _⟩ (fun H locs hz => ?_)
        refine lv_if_eq (pc := 134) (tgt := 141) hx hb dX1_readThing_134 (by decide) (fun c_134 => ?_) (fun c_134 => ?_)
        · refine lv_iconst (v := 0) (pc := 141) hx hb dX1_readThing_141 (by decide) ?_
          exact z_zret (pc := 142) hx hb hr hlk hQ hz rfl dX1_readThing_142 (by simp only [qThing, qSt, if_neg h_46, if_neg h_102, if_neg h_103, if_neg h_104, if_pos h_115]; simp only [sqQ, finQ, if_neg c_114, if_neg c_123, if_pos c_134]) (by simp only [qThing, qSt, if_neg h_46, if_neg h_102, if_neg h_103, if_neg h_104, if_pos h_115]; simp only [sqQ, finQ, if_neg c_114, if_neg c_123, if_pos c_134])
        · refine lv_iconst (v := 1) (pc := 137) hx hb dX1_readThing_137 (by decide) ?_
          refine lv_goto (tgt := 142) (pc := 138) hx hb dX1_readThing_138 (by decide) ?_
          exact z_zret (pc := 142) hx hb hr hlk hQ hz rfl dX1_readThing_142 (by simp only [qThing, qSt, if_neg h_46, if_neg h_102, if_neg h_103, if_neg h_104, if_pos h_115]; simp only [sqQ, finQ, if_neg c_114, if_neg c_123, if_neg c_134]) (by simp only [qThing, qSt, if_neg h_46, if_neg h_102, if_neg h_103, if_neg h_104, if_pos h_115]; simp only [sqQ, finQ, if_neg c_114, if_neg c_123, if_neg c_134])
  refine lv_lookup (off := 229) (tgt := 235) (pc := 6) hx hb dX1_readThing_6 (by decide) ((lv_osw h_46 (k := 46) rfl).trans ((lv_osw h_102 (k := 102) rfl).trans ((lv_osw h_103 (k := 103) rfl).trans ((lv_osw h_104 (k := 104) rfl).trans ((lv_osw h_115 (k := 115) rfl).trans (rfl)))))) (by decide) ?_
  refine lv_iconst (v := 0) (pc := 235) hx hb dX1_readThing_235 (by decide) ?_
  exact z_zret (pc := 236) hx hb hr hlk hQ hz rfl dX1_readThing_236 (by simp only [qThing, qSt, if_neg h_46, if_neg h_102, if_neg h_103, if_neg h_104, if_neg h_115]) (by simp only [qThing, qSt, if_neg h_46, if_neg h_102, if_neg h_103, if_neg h_104, if_neg h_115])

def rm_X1_read : Room := { frames := 4, cells := 0, slots := 0, locals := 91 }
set_option maxRecDepth 20000 in
theorem hdV_X1_read : yX1_read.cls = RX1 ∧ yX1_read.cls ≠ "java/lang/invoke/MethodHandle" ∧ yX1_read.cls ≠ "java/lang/invoke/VarHandle" ∧ (parseMethodDescriptor yX1_read.desc).map (fun d => d.parameters.length) = some 0 := by decide +kernel
set_option maxHeartbeats 4000000 in
set_option maxRecDepth 100000 in
theorem k_X1_read (l : Launch) (G : va_G) (ca : Nat → ClassId) (q : Nat → Nat) (g tx kd wh nu : Nat → Int32) (ln : Nat) (hln : ln ≤ 60) (hg1 : g 1 = nI ln) : Zc l G ca yX1_read (zws yX1_read cX1_read 2 (some .int)) rm_X1_read [.ref (q 0)] (wP ca q g tx kd wh nu) (some (.int (qX tx ln (0, kd, wh, nu)).1)) (wQ ca q g tx (nI (qX tx ln (0, kd, wh, nu)).2.1) ((qX tx ln (0, kd, wh, nu)).2.2)) := by
  refine Zc.of (cc := cX1_read) (maxL := 2) (ret := (some .int)) (by decide) rfl (Nat.le_of_ble_eq_true rfl) ?_
  intro pg ev s0 mt below meth cd A args Q ls hx hb hr hml hown hts hlk hQ hl hz
  have L15 : (Cond.fieldLink RX1 15 "CupFountain$Plan" "length" "I").before args s0 = true := hts _ (zsub _ wq_3_18)
  have L29 : (Cond.fieldLink RX1 29 "CupFountain$Plan" "things" "I").before args s0 = true := hts _ (zsub _ wq_3_23)
  have L32 : (Cond.fieldLink RX1 32 "CupFountain$Plan" "place" "I").before args s0 = true := hts _ (zsub _ wq_4_0)
  have hinX1 : ∀ w ∈ wsX10, w ∈ zws yX1_read cX1_read 2 (some .int) := fun w h => zsub w (wl_wsX10 w h)
  have hl : lv_has ls 2 [(0, .ref (q 0))] := hl
  refine lv_aload_n (pc := 0) hx hb dX1_read_0 rfl (lv_at hl 0 rfl) ?_
  refine lv_iconst (v := 0) (pc := 1) hx hb dX1_read_1 (by decide) ?_
  refine z_put (own := RX1) (ref := "CupFountain$Plan") (C := RX1) (T := TX1) (N := 7) (ci := 1) (v := .int 0) (ws1 := wP ca q (upd g 6 0) tx kd wh nu) (pc := 2) hx hb hts hinX1 tyX1 tyX1_ok nmX1 hown hz 0 rfl rfl 6 (by decide) L32 rfl rfl rfl rfl (Nat.le_of_ble_eq_true rfl) rfl dX1_read_2 (fun H locs hz => ?_)
  refine lv_aload_n (pc := 5) hx hb dX1_read_5 rfl (lv_at hl 0 rfl) ?_
  refine lv_iconst (v := 0) (pc := 6) hx hb dX1_read_6 (by decide) ?_
  refine z_put (own := RX1) (ref := "CupFountain$Plan") (C := RX1) (T := TX1) (N := 7) (ci := 1) (v := .int 0) (ws1 := wP ca q (upd (upd g 6 0) 5 0) tx kd wh nu) (pc := 7) hx hb hts hinX1 tyX1 tyX1_ok nmX1 hown hz 0 rfl rfl 5 (by decide) L29 rfl rfl rfl rfl (Nat.le_of_ble_eq_true rfl) rfl dX1_read_7 (fun H locs hz => ?_)
  have hz := hz.as (show _ = wQ ca q g tx 0 (0, kd, wh, nu) from rfl)
  refine lv_iconst (v := 0) (pc := 10) hx hb dX1_read_10 (by decide) ?_
  refine lv_istore_n (lv' := [(1, .int 0), (0, .ref (q 0))]) (pc := 11) hx hb dX1_read_11 rfl hl (by decide) rfl (fun ls hl => ?_)
  have loop1 : ∀ cnt i : Nat, i + cnt = 60 → ∀ (H : Heap) (locs : List Loc) (ls : Array Slot), zw G ca A s0.heap s0 (wQ ca q g tx (nI i) (headQ tx ln (0, kd, wh, nu) i)) H locs → lv_has ls 2 [(1, .int (nI i)), (0, .ref (q 0))] → qX tx ln (0, kd, wh, nu) = qF tx ln (0, kd, wh, nu) cnt i → W pg l ev rm_X1_read s0 mt args below meth cd H locs 0 0 Q (F0 mt 12 ls []) := by
    intro cnt
    induction cnt with
    | zero =>
      intro i hk9 H locs ls hz hl hR
      obtain rfl : 60 = i := by omega
      refine lv_iload_n (pc := 12) hx hb dX1_read_12 rfl (lv_at hl 0 rfl) ?_
      refine lv_bipush (v := 60) (pc := 13) hx hb dX1_read_13 (by decide) ?_
      refine lv_icmp_ge (pc := 15) (tgt := 71) hx hb dX1_read_15 (by decide) (fun c_15 => ?_) (fun c9 => absurd (by decide) c9)
      refine lv_aload_n (pc := 71) hx hb dX1_read_71 rfl (lv_at hl 1 rfl) ?_
      refine z_get (own := RX1) (ref := "CupFountain$Plan") (C := RX1) (T := TX1) (N := 7) (ci := 1) (v := .int (nI ((headQ tx ln (0, kd, wh, nu) 60).1))) (pc := 72) hx hb hts hinX1 hown hz 0 rfl rfl 6 (by decide) L32 rfl rfl dX1_read_72 ?_
      exact z_iret (pc := 75) hx hb hr hlk hQ hz dX1_read_75 (by simp only [hR, qF]) (by simp only [hR, qF])
    | succ cnt ih =>
      intro i hk9 H locs ls hz hl hR
      have hk : i < 60 := by omega
      have hi : i < 60 := hk
      refine lv_iload_n (pc := 12) hx hb dX1_read_12 rfl (lv_at hl 0 rfl) ?_
      refine lv_bipush (v := 60) (pc := 13) hx hb dX1_read_13 (by decide) ?_
      refine lv_icmp_ge (pc := 15) (tgt := 71) hx hb dX1_read_15 (by decide) (fun c9 => absurd c9 (nI_ge hk (by decide))) (fun c_15 => ?_)
      refine lv_aload_n (pc := 18) hx hb dX1_read_18 rfl (lv_at hl 1 rfl) ?_
      refine lv_iload_n (pc := 19) hx hb dX1_read_19 rfl (lv_at hl 0 rfl) ?_
      refine z_runV (pc := 20) (As := [.int (nI i)]) (rest := []) (ws1 := wQ ca q g tx (nI i) ((qThing tx ln i (headQ tx ln (0, kd, wh, nu) i)).2)) ⟨hx, hb, hml, hown, hts⟩ (k_X1_readThing l G ca q g tx (nI i) (headQ tx ln (0, kd, wh, nu) i) ln hln hg1 (show (headQ tx ln (0, kd, wh, nu) i).1 < 900 by have g0 := headQ_le (tx := tx) (ln := ln) (s := (0, kd, wh, nu)) i; simp only at g0; omega) (i := i) hi) (cwV 1 hts (zgoodV zsub wq_16_23 wq_17_0 wq_17_1 wq_1_22 wq_17_2) rfl rfl rfl hdV_X1_readThing ⟨Nat.le_of_ble_eq_true rfl, Nat.le_of_ble_eq_true rfl⟩) hz [] zp_all zp_all' rfl rfl rfl hl.1 (Nat.le_of_ble_eq_true rfl) (st1 := [.int ((qThing tx ln i (headQ tx ln (0, kd, wh, nu) i)).1)]) rfl dX1_read_20 ⟨Nat.zero_le _, Nat.zero_le _⟩ (fun H locs hz => ?_)
      refine lv_if_ne (pc := 23) (tgt := 31) hx hb dX1_read_23 (by decide) (fun c_23 => ?_) (fun c_23 => ?_)
      · refine lv_aload_n (pc := 31) hx hb dX1_read_31 rfl (lv_at hl 1 rfl) ?_
        refine lv_iload_n (pc := 32) hx hb dX1_read_32 rfl (lv_at hl 0 rfl) ?_
        refine lv_iconst (v := 1) (pc := 33) hx hb dX1_read_33 (by decide) ?_
        refine lv_iadd (pc := 34) hx hb dX1_read_34 ?_
        refine z_top (y := nI (i + 1)) (nI_1 _) ?_
        refine z_put (own := RX1) (ref := "CupFountain$Plan") (C := RX1) (T := TX1) (N := 7) (ci := 1) (v := .int (nI (i + 1))) (ws1 := wQ ca q g tx (nI (i + 1)) ((qThing tx ln i (headQ tx ln (0, kd, wh, nu) i)).2)) (pc := 35) hx hb hts hinX1 tyX1 tyX1_ok nmX1 hown hz 0 rfl rfl 5 (by decide) L29 rfl rfl rfl rfl (Nat.le_of_ble_eq_true rfl) rfl dX1_read_35 (fun H locs hz => ?_)
        refine lv_aload_n (pc := 38) hx hb dX1_read_38 rfl (lv_at hl 1 rfl) ?_
        refine z_get (own := RX1) (ref := "CupFountain$Plan") (C := RX1) (T := TX1) (N := 7) (ci := 1) (v := .int (nI (((qThing tx ln i (headQ tx ln (0, kd, wh, nu) i)).2).1))) (pc := 39) hx hb hts hinX1 hown hz 0 rfl rfl 6 (by decide) L32 rfl rfl dX1_read_39 ?_
        refine lv_aload_n (pc := 42) hx hb dX1_read_42 rfl (lv_at hl 1 rfl) ?_
        refine z_get (own := RX1) (ref := "CupFountain$Plan") (C := RX1) (T := TX1) (N := 7) (ci := 1) (v := .int (g 1)) (pc := 43) hx hb hts hinX1 hown hz 0 rfl rfl 1 (by decide) L15 rfl rfl dX1_read_43 ?_
        have g8 := headQ_le (tx := tx) (ln := ln) (s := (0, kd, wh, nu)) i
        have g9 := qThing_le (tx := tx) (ln := ln) (i := i) (s := headQ tx ln (0, kd, wh, nu) i)
        simp only at g8 g9
        refine lv_icmp_lt (pc := 46) (tgt := 51) hx hb dX1_read_46 (by decide) (fun c_46 => ?_) (fun c_46 => ?_)
        · have h9 : ¬ ln ≤ ((qThing tx ln i (headQ tx ln (0, kd, wh, nu) i)).2).1 := fun e => absurd c_46 (by rw [hg1]; exact nI_nlt e (by omega))
          refine lv_aload_n (pc := 51) hx hb dX1_read_51 rfl (lv_at hl 1 rfl) ?_
          refine lv_bipush (v := 59) (pc := 52) hx hb dX1_read_52 (by decide) ?_
          refine z_runV (pc := 54) (As := [.int 59]) (rest := []) (ws1 := wQ ca q g tx (nI (i + 1)) ((qChr tx ln 59 ((qThing tx ln i (headQ tx ln (0, kd, wh, nu) i)).2)).2)) ⟨hx, hb, hml, hown, hts⟩ (k_X1_skip l G ca q g tx (nI (i + 1)) ((qThing tx ln i (headQ tx ln (0, kd, wh, nu) i)).2) ln hln hg1 (show ((qThing tx ln i (headQ tx ln (0, kd, wh, nu) i)).2).1 < 1000 by have g0 := headQ_le (tx := tx) (ln := ln) (s := (0, kd, wh, nu)) i; have g1 := qThing_le (tx := tx) (ln := ln) (i := i) (s := (headQ tx ln (0, kd, wh, nu) i)); simp only at g0 g1; omega) 59) (cwV 1 hts (zgoodV zsub wq_17_19 wq_17_20 wq_17_21 wq_1_22 wq_17_22) rfl rfl rfl hdV_X1_skip ⟨Nat.le_of_ble_eq_true rfl, Nat.le_of_ble_eq_true rfl⟩) hz [] zp_all zp_all' rfl rfl rfl hl.1 (Nat.le_of_ble_eq_true rfl) (st1 := [.int ((qChr tx ln 59 ((qThing tx ln i (headQ tx ln (0, kd, wh, nu) i)).2)).1)]) rfl dX1_read_54 ⟨Nat.zero_le _, Nat.zero_le _⟩ (fun H locs hz => ?_)
          refine lv_if_ne (pc := 57) (tgt := 65) hx hb dX1_read_57 (by decide) (fun c_57 => ?_) (fun c_57 => ?_)
          · refine lv_iinc (v := nI (i + 1)) (lv' := [(1, .int (nI (i + 1))), (0, .ref (q 0))]) (pc := 65) hx hb dX1_read_65 hl (k := 0) rfl (nI_add i 1) (by decide) rfl (fun ls hl => ?_)
            refine lv_goto (tgt := 12) (pc := 68) hx hb dX1_read_68 (by decide) ?_
            exact ih (i + 1) (by omega) _ _ _ (hz.as (by rfl)) (lv_sub hl [0, 1] rfl) (hR.trans (by rw [qF, if_neg c_23, if_neg h9, if_neg c_57]))
          · refine lv_aload_n (pc := 60) hx hb dX1_read_60 rfl (lv_at hl 1 rfl) ?_
            refine z_get (own := RX1) (ref := "CupFountain$Plan") (C := RX1) (T := TX1) (N := 7) (ci := 1) (v := .int (nI (((qChr tx ln 59 ((qThing tx ln i (headQ tx ln (0, kd, wh, nu) i)).2)).2).1))) (pc := 61) hx hb hts hinX1 hown hz 0 rfl rfl 6 (by decide) L32 rfl rfl dX1_read_61 ?_
            exact z_iret (pc := 64) hx hb hr hlk hQ hz dX1_read_64 (by simp only [hR, qF, if_neg c_23, if_neg h9, if_pos c_57]) (by simp only [hR, qF, if_neg c_23, if_neg h9, if_pos c_57])
        · have h9 : ln ≤ ((qThing tx ln i (headQ tx ln (0, kd, wh, nu) i)).2).1 := by rw [hg1, nI_ltI (by omega) (by omega)] at c_46; omega
          refine lv_iconst (v := -1) (pc := 49) hx hb dX1_read_49 (by decide) ?_
          exact z_iret (pc := 50) hx hb hr hlk hQ hz dX1_read_50 (by simp only [hR, qF, if_neg c_23, if_pos h9]) (by simp only [hR, qF, if_neg c_23, if_pos h9])
      · refine lv_aload_n (pc := 26) hx hb dX1_read_26 rfl (lv_at hl 1 rfl) ?_
        refine z_get (own := RX1) (ref := "CupFountain$Plan") (C := RX1) (T := TX1) (N := 7) (ci := 1) (v := .int (nI (((qThing tx ln i (headQ tx ln (0, kd, wh, nu) i)).2).1))) (pc := 27) hx hb hts hinX1 hown hz 0 rfl rfl 6 (by decide) L32 rfl rfl dX1_read_27 ?_
        exact z_iret (pc := 30) hx hb hr hlk hQ hz dX1_read_30 (by simp only [hR, qF, if_pos c_23]) (by simp only [hR, qF, if_pos c_23])
  exact loop1 60 0 (by omega) _ _ _ (hz.as (by rfl)) (lv_sub hl [0, 1] rfl) (qX_d _ _ _)

def rm_X1_append : Room := { frames := 0, cells := 0, slots := 0, locals := 0 }
set_option maxRecDepth 20000 in
theorem hdV_X1_append : yX1_append.cls = RX1 ∧ yX1_append.cls ≠ "java/lang/invoke/MethodHandle" ∧ yX1_append.cls ≠ "java/lang/invoke/VarHandle" ∧ (parseMethodDescriptor yX1_append.desc).map (fun d => d.parameters.length) = some 1 := by decide +kernel
set_option maxHeartbeats 4000000 in
set_option maxRecDepth 100000 in
theorem k_X1_append (l : Launch) (G : va_G) (ca : Nat → ClassId) (q : Nat → Nat) (g tx kd wh nu : Nat → Int32) (ln : Nat) (hln : ln ≤ 60) (hg1 : g 1 = nI ln) (x : Int32) (hxc : vp_nar .char x = x) : Zc l G ca yX1_append (zws yX1_append cX1_append 2 (some .int)) rm_X1_append [.ref (q 0), .int x] (wP ca q g tx kd wh nu) (some (.int (typeR ln))) (wP ca q (apG g ln) (typeT tx ln x) kd wh nu) := by
  refine Zc.of (cc := cX1_append) (maxL := 2) (ret := (some .int)) (by decide) rfl (Nat.le_of_ble_eq_true rfl) ?_
  intro pg ev s0 mt below meth cd A args Q ls hx hb hr hml hown hts hlk hQ hl hz
  have L15 : (Cond.fieldLink RX1 15 "CupFountain$Plan" "length" "I").before args s0 = true := hts _ (zsub _ wq_3_18)
  have L9 : (Cond.fieldLink RX1 9 "CupFountain$Plan" "text" "[C").before args s0 = true := hts _ (zsub _ wq_3_17)
  have hinX1 : ∀ w ∈ wsX10, w ∈ zws yX1_append cX1_append 2 (some .int) := fun w h => zsub w (wl_wsX10 w h)
  have hl : lv_has ls 2 [(0, .ref (q 0)), (1, .int x)] := hl
  refine lv_aload_n (pc := 0) hx hb dX1_append_0 rfl (lv_at hl 0 rfl) ?_
  refine z_get (own := RX1) (ref := "CupFountain$Plan") (C := RX1) (T := TX1) (N := 7) (ci := 1) (v := .int (g 1)) (pc := 1) hx hb hts hinX1 hown hz 0 rfl rfl 1 (by decide) L15 rfl rfl dX1_append_1 ?_
  refine lv_bipush (v := 60) (pc := 4) hx hb dX1_append_4 (by decide) ?_
  refine lv_icmp_lt (pc := 6) (tgt := 12) hx hb dX1_append_6 (by decide) (fun c_6 => ?_) (fun c_6 => ?_)
  · have h60 : ¬ ln = 60 := by rw [hg1, show (60 : Int32) = nI 60 from rfl, nI_ltI (by omega) (by decide)] at c_6; omega
    refine lv_aload_n (pc := 12) hx hb dX1_append_12 rfl (lv_at hl 0 rfl) ?_
    refine z_get (own := RX1) (ref := "CupFountain$Plan") (C := RX1) (T := TX1) (N := 7) (ci := 1) (v := .ref (q 1)) (pc := 13) hx hb hts hinX1 hown hz 0 rfl rfl 0 (by decide) L9 rfl rfl dX1_append_13 ?_
    refine lv_aload_n (pc := 16) hx hb dX1_append_16 rfl (lv_at hl 0 rfl) ?_
    refine z_get (own := RX1) (ref := "CupFountain$Plan") (C := RX1) (T := TX1) (N := 7) (ci := 1) (v := .int (g 1)) (pc := 17) hx hb hts hinX1 hown hz 0 rfl rfl 1 (by decide) L15 rfl rfl dX1_append_17 ?_
    refine lv_iload_n (pc := 20) hx hb dX1_append_20 rfl (lv_at hl 1 rfl) ?_
    refine z_cast (ws1 := wP ca q g (upd tx ln x) kd wh nu) (pc := 21) hx hb hz 1 rfl ln hg1 (by omega) (by decide) (by rw [hxc]; rfl) dX1_append_21 (fun H locs hz => ?_)
    refine lv_aload_n (pc := 22) hx hb dX1_append_22 rfl (lv_at hl 0 rfl) ?_
    refine lv_dup (pc := 23) hx hb dX1_append_23 rfl ?_
    refine z_get (own := RX1) (ref := "CupFountain$Plan") (C := RX1) (T := TX1) (N := 7) (ci := 1) (v := .int (g 1)) (pc := 24) hx hb hts hinX1 hown hz 0 rfl rfl 1 (by decide) L15 rfl rfl dX1_append_24 ?_
    refine lv_iconst (v := 1) (pc := 27) hx hb dX1_append_27 (by decide) ?_
    refine lv_iadd (pc := 28) hx hb dX1_append_28 ?_
    refine z_top (y := nI (ln + 1)) (by rw [hg1]; exact nI_1 ln) ?_
    refine z_put (own := RX1) (ref := "CupFountain$Plan") (C := RX1) (T := TX1) (N := 7) (ci := 1) (v := .int (nI (ln + 1))) (ws1 := wP ca q (upd g 1 (nI (ln + 1))) (upd tx ln x) kd wh nu) (pc := 29) hx hb hts hinX1 tyX1 tyX1_ok nmX1 hown hz 0 rfl rfl 1 (by decide) L15 rfl rfl rfl rfl (Nat.le_of_ble_eq_true rfl) rfl dX1_append_29 (fun H locs hz => ?_)
    refine lv_aload_n (pc := 32) hx hb dX1_append_32 rfl (lv_at hl 0 rfl) ?_
    refine z_get (own := RX1) (ref := "CupFountain$Plan") (C := RX1) (T := TX1) (N := 7) (ci := 1) (v := .int (nI (ln + 1))) (pc := 33) hx hb hts hinX1 hown hz 0 rfl rfl 1 (by decide) L15 rfl rfl dX1_append_33 ?_
    exact z_iret (pc := 36) hx hb hr hlk hQ hz dX1_append_36 (by simp only [typeR, apG, typeT, if_neg h60]) (by simp only [typeR, apG, typeT, if_neg h60])
  · have h60 : ln = 60 := by rw [hg1, show (60 : Int32) = nI 60 from rfl, nI_ltI (by omega) (by decide)] at c_6; omega
    refine lv_bipush (v := -3) (pc := 9) hx hb dX1_append_9 (by decide) ?_
    exact z_iret (pc := 11) hx hb hr hlk hQ hz dX1_append_11 (by simp only [typeR, apG, typeT, if_pos h60]) (by simp only [typeR, apG, typeT, if_pos h60])

def rm_X1_empty : Room := { frames := 0, cells := 0, slots := 0, locals := 0 }
set_option maxRecDepth 20000 in
theorem hdV_X1_empty : yX1_empty.cls = RX1 ∧ yX1_empty.cls ≠ "java/lang/invoke/MethodHandle" ∧ yX1_empty.cls ≠ "java/lang/invoke/VarHandle" ∧ (parseMethodDescriptor yX1_empty.desc).map (fun d => d.parameters.length) = some 0 := by decide +kernel
set_option maxHeartbeats 4000000 in
set_option maxRecDepth 100000 in
theorem k_X1_empty (l : Launch) (G : va_G) (ca : Nat → ClassId) (q : Nat → Nat) (g tx kd wh nu : Nat → Int32) : Zc l G ca yX1_empty (zws yX1_empty cX1_empty 2 (some .int)) rm_X1_empty [.ref (q 0)] (wP ca q g tx kd wh nu) (some (.int (g 1))) (wP ca q (upd g 1 0) tx kd wh nu) := by
  refine Zc.of (cc := cX1_empty) (maxL := 2) (ret := (some .int)) (by decide) rfl (Nat.le_of_ble_eq_true rfl) ?_
  intro pg ev s0 mt below meth cd A args Q ls hx hb hr hml hown hts hlk hQ hl hz
  have L15 : (Cond.fieldLink RX1 15 "CupFountain$Plan" "length" "I").before args s0 = true := hts _ (zsub _ wq_3_18)
  have hinX1 : ∀ w ∈ wsX10, w ∈ zws yX1_empty cX1_empty 2 (some .int) := fun w h => zsub w (wl_wsX10 w h)
  have hl : lv_has ls 2 [(0, .ref (q 0))] := hl
  refine lv_aload_n (pc := 0) hx hb dX1_empty_0 rfl (lv_at hl 0 rfl) ?_
  refine z_get (own := RX1) (ref := "CupFountain$Plan") (C := RX1) (T := TX1) (N := 7) (ci := 1) (v := .int (g 1)) (pc := 1) hx hb hts hinX1 hown hz 0 rfl rfl 1 (by decide) L15 rfl rfl dX1_empty_1 ?_
  refine lv_istore_n (lv' := [(1, .int (g 1)), (0, .ref (q 0))]) (pc := 4) hx hb dX1_empty_4 rfl hl (by decide) rfl (fun ls hl => ?_)
  refine lv_aload_n (pc := 5) hx hb dX1_empty_5 rfl (lv_at hl 1 rfl) ?_
  refine lv_iconst (v := 0) (pc := 6) hx hb dX1_empty_6 (by decide) ?_
  refine z_put (own := RX1) (ref := "CupFountain$Plan") (C := RX1) (T := TX1) (N := 7) (ci := 1) (v := .int 0) (ws1 := wP ca q (upd g 1 0) tx kd wh nu) (pc := 7) hx hb hts hinX1 tyX1 tyX1_ok nmX1 hown hz 0 rfl rfl 1 (by decide) L15 rfl rfl rfl rfl (Nat.le_of_ble_eq_true rfl) rfl dX1_empty_7 (fun H locs hz => ?_)
  refine lv_iload_n (pc := 10) hx hb dX1_empty_10 rfl (lv_at hl 0 rfl) ?_
  exact z_iret (pc := 11) hx hb hr hlk hQ hz dX1_empty_11 (by rfl) (by rfl)

def rm_X1_doThing : Room := { frames := 5, cells := 0, slots := 0, locals := 114 }
set_option maxRecDepth 20000 in
theorem hdV_X1_doThing : yX1_doThing.cls = RX1 ∧ yX1_doThing.cls ≠ "java/lang/invoke/MethodHandle" ∧ yX1_doThing.cls ≠ "java/lang/invoke/VarHandle" ∧ (parseMethodDescriptor yX1_doThing.desc).map (fun d => d.parameters.length) = some 2 := by decide +kernel
set_option maxHeartbeats 4000000 in
set_option maxRecDepth 100000 in
theorem k_X1_doThing (l : Launch) (G : va_G) (ca : Nat → ClassId) (q : Nat → Nat) (g tx kd wh nu : Nat → Int32) (a : Nat → Nat) (h : Nat → Int32) (c : Nat → Nat → Int32) (z : Nat → Int32) (i : Nat) (hi : i < 60) (hnx : nxP (h, c)) (hbb : ∀ k, k < 8 → b01 (c k 5) ∧ b01 (c k 6)) : Zc l G ca yX1_doThing (zws yX1_doThing cX1_doThing 3 (some .int)) rm_X1_doThing [.ref (q 0), .int (nI i), .ref (a 0)] (wP ca q g tx kd wh nu ++ wS ca a h c z) (some (.int (kDoR (h, c) (kd i) (wh i) (nu i)))) (wP ca q g tx kd wh nu ++ wS ca a ((kDoP (h, c) (kd i) (wh i) (nu i)).1) ((kDoP (h, c) (kd i) (wh i) (nu i)).2) (kDoZ (h, c) z (kd i) (nu i))) := by
  refine Zc.of (cc := cX1_doThing) (maxL := 3) (ret := (some .int)) (by decide) rfl (Nat.le_of_ble_eq_true rfl) ?_
  intro pg ev s0 mt below meth cd A args Q ls hx hb hr hml hown hts hlk hQ hl hz
  have L19 : (Cond.fieldLink RX1 19 "CupFountain$Plan" "kinds" "[I").before args s0 = true := hts _ (zsub _ wq_3_20)
  have L23 : (Cond.fieldLink RX1 23 "CupFountain$Plan" "whose" "[I").before args s0 = true := hts _ (zsub _ wq_3_21)
  have L26 : (Cond.fieldLink RX1 26 "CupFountain$Plan" "numbers" "[I").before args s0 = true := hts _ (zsub _ wq_3_22)
  have hinX1 : ∀ w ∈ wsX10, w ∈ zws yX1_doThing cX1_doThing 3 (some .int) := fun w h => zsub w (wl_wsX10 w h)
  have hl : lv_has ls 3 [(0, .ref (q 0)), (1, .int (nI i)), (2, .ref (a 0))] := hl
  refine lv_iload_n (pc := 0) hx hb dX1_doThing_0 rfl (lv_at hl 1 rfl) ?_
  refine lv_iconst (v := 0) (pc := 1) hx hb dX1_doThing_1 (by decide) ?_
  refine lv_bipush (v := 59) (pc := 2) hx hb dX1_doThing_2 (by decide) ?_
  refine z_runSN (pc := 4) (As := [.int (nI i), .int 0, .int 59]) (rest := []) (ws1 := wP ca q g tx kd wh nu ++ wS ca a h c z) ⟨hx, hb, hml, hown, hts⟩ (k_X3_isWithin l G ca (nI i) 0 59) ⟨va_cnB 3 hts (zgood0 zsub wq_5_20) rfl rfl rfl hz.1.2.2.1 (hts _ (zsub _ wq_1_2)) hdN_X3_isWithin ⟨Nat.le_of_ble_eq_true rfl, Nat.le_of_ble_eq_true rfl⟩, hts _ (zsub _ wq_5_19), trivial⟩ hz (wP ca q g tx kd wh nu ++ wS ca a h c z) zp_no (List.Perm.refl _) rfl hl.1 (Nat.le_of_ble_eq_true rfl) (st1 := [.int (inF (nI i) 0 59)]) rfl dX1_doThing_4 ⟨Nat.zero_le _, Nat.zero_le _⟩ (fun H locs hz => ?_)
  refine lv_if_ne (pc := 7) (tgt := 13) hx hb dX1_doThing_7 (by decide) (fun c_7 => ?_) (fun c9 => absurd c9 (in59 hi))
  refine lv_aload_n (pc := 13) hx hb dX1_doThing_13 rfl (lv_at hl 0 rfl) ?_
  refine z_get (own := RX1) (ref := "CupFountain$Plan") (C := RX1) (T := TX1) (N := 7) (ci := 1) (v := .ref (q 2)) (pc := 14) hx hb hts hinX1 hown hz 0 rfl rfl 2 (by decide) L19 rfl rfl dX1_doThing_14 ?_
  refine lv_iload_n (pc := 17) hx hb dX1_doThing_17 rfl (lv_at hl 1 rfl) ?_
  refine z_iald (x := kd i) (pc := 18) hx hb hz 2 rfl i rfl (by omega) (by decide) rfl dX1_doThing_18 ?_
  by_cases h_102 : kd i = 102
  · refine lv_lookup (off := 76) (tgt := 95) (pc := 19) hx hb dX1_doThing_19 (by decide) (by rw [h_102]; decide) (by decide) ?_
    refine lv_aload_n (pc := 95) hx hb dX1_doThing_95 rfl (lv_at hl 2 rfl) ?_
    refine lv_aload_n (pc := 96) hx hb dX1_doThing_96 rfl (lv_at hl 0 rfl) ?_
    refine z_get (own := RX1) (ref := "CupFountain$Plan") (C := RX1) (T := TX1) (N := 7) (ci := 1) (v := .ref (q 3)) (pc := 97) hx hb hts hinX1 hown hz 0 rfl rfl 3 (by decide) L23 rfl rfl dX1_doThing_97 ?_
    refine lv_iload_n (pc := 100) hx hb dX1_doThing_100 rfl (lv_at hl 1 rfl) ?_
    refine z_iald (x := wh i) (pc := 101) hx hb hz 3 rfl i rfl (by omega) (by decide) rfl dX1_doThing_101 ?_
    refine lv_aload_n (pc := 102) hx hb dX1_doThing_102 rfl (lv_at hl 0 rfl) ?_
    refine z_get (own := RX1) (ref := "CupFountain$Plan") (C := RX1) (T := TX1) (N := 7) (ci := 1) (v := .ref (q 4)) (pc := 103) hx hb hts hinX1 hown hz 0 rfl rfl 4 (by decide) L26 rfl rfl dX1_doThing_103 ?_
    refine lv_iload_n (pc := 106) hx hb dX1_doThing_106 rfl (lv_at hl 1 rfl) ?_
    refine z_iald (x := nu i) (pc := 107) hx hb hz 4 rfl i rfl (by omega) (by decide) rfl dX1_doThing_107 ?_
    refine z_runV (pc := 108) (As := [.int (wh i), .int (nu i)]) (rest := []) (ws1 := wP ca q g tx kd wh nu ++ wS ca a (fillH h c (wh i) (nu i)) (fillC c (wh i) (nu i)) z) ⟨hx, hb, hml, hown, hts⟩ (k_X2_pour l G ca a h c z (wh i) (nu i) hbb) (cwV 2 hts (zgoodV zsub wq_18_9 wq_10_8 wq_10_9 wq_1_14 wq_10_10) rfl rfl rfl hdV_X2_pour ⟨Nat.le_of_ble_eq_true rfl, Nat.le_of_ble_eq_true rfl⟩) hz (wP ca q g tx kd wh nu) List.perm_append_comm List.perm_append_comm rfl rfl rfl hl.1 (Nat.le_of_ble_eq_true rfl) (st1 := [.int (fillR c (wh i) (nu i))]) rfl dX1_doThing_108 ⟨Nat.zero_le _, Nat.zero_le _⟩ (fun H locs hz => ?_)
    exact z_iret (pc := 111) hx hb hr hlk hQ hz dX1_doThing_111 (by simp only [kDoR, if_pos h_102]) (by simp only [kDoP, kDoZ, if_pos h_102])
  by_cases h_103 : kd i = 103
  · refine lv_lookup (off := 93) (tgt := 112) (pc := 19) hx hb dX1_doThing_19 (by decide) (by rw [h_103]; decide) (by decide) ?_
    refine lv_aload_n (pc := 112) hx hb dX1_doThing_112 rfl (lv_at hl 2 rfl) ?_
    refine lv_aload_n (pc := 113) hx hb dX1_doThing_113 rfl (lv_at hl 0 rfl) ?_
    refine z_get (own := RX1) (ref := "CupFountain$Plan") (C := RX1) (T := TX1) (N := 7) (ci := 1) (v := .ref (q 3)) (pc := 114) hx hb hts hinX1 hown hz 0 rfl rfl 3 (by decide) L23 rfl rfl dX1_doThing_114 ?_
    refine lv_iload_n (pc := 117) hx hb dX1_doThing_117 rfl (lv_at hl 1 rfl) ?_
    refine z_iald (x := wh i) (pc := 118) hx hb hz 3 rfl i rfl (by omega) (by decide) rfl dX1_doThing_118 ?_
    refine z_runV (pc := 119) (As := [.int (wh i)]) (rest := []) (ws1 := wP ca q g tx kd wh nu ++ wS ca a h (guardC c (wh i)) z) ⟨hx, hb, hml, hown, hts⟩ (k_X2_changeGuard l G ca a h c z (wh i) hbb) (cwV 1 hts (zgoodV zsub wq_18_10 wq_9_16 wq_9_17 wq_1_14 wq_9_18) rfl rfl rfl hdV_X2_changeGuard ⟨Nat.le_of_ble_eq_true rfl, Nat.le_of_ble_eq_true rfl⟩) hz (wP ca q g tx kd wh nu) List.perm_append_comm List.perm_append_comm rfl rfl rfl hl.1 (Nat.le_of_ble_eq_true rfl) (st1 := [.int (guardR c (wh i))]) rfl dX1_doThing_119 ⟨Nat.zero_le _, Nat.zero_le _⟩ (fun H locs hz => ?_)
    exact z_iret (pc := 122) hx hb hr hlk hQ hz dX1_doThing_122 (by simp only [kDoR, if_neg h_102, if_pos h_103]) (by simp only [kDoP, kDoZ, if_neg h_102, if_pos h_103])
  by_cases h_104 : kd i = 104
  · refine lv_lookup (off := 41) (tgt := 60) (pc := 19) hx hb dX1_doThing_19 (by decide) (by rw [h_104]; decide) (by decide) ?_
    refine lv_aload_n (pc := 60) hx hb dX1_doThing_60 rfl (lv_at hl 2 rfl) ?_
    refine lv_aload_n (pc := 61) hx hb dX1_doThing_61 rfl (lv_at hl 0 rfl) ?_
    refine z_get (own := RX1) (ref := "CupFountain$Plan") (C := RX1) (T := TX1) (N := 7) (ci := 1) (v := .ref (q 3)) (pc := 62) hx hb hts hinX1 hown hz 0 rfl rfl 3 (by decide) L23 rfl rfl dX1_doThing_62 ?_
    refine lv_iload_n (pc := 65) hx hb dX1_doThing_65 rfl (lv_at hl 1 rfl) ?_
    refine z_iald (x := wh i) (pc := 66) hx hb hz 3 rfl i rfl (by omega) (by decide) rfl dX1_doThing_66 ?_
    refine lv_aload_n (pc := 67) hx hb dX1_doThing_67 rfl (lv_at hl 0 rfl) ?_
    refine z_get (own := RX1) (ref := "CupFountain$Plan") (C := RX1) (T := TX1) (N := 7) (ci := 1) (v := .ref (q 4)) (pc := 68) hx hb hts hinX1 hown hz 0 rfl rfl 4 (by decide) L26 rfl rfl dX1_doThing_68 ?_
    refine lv_iload_n (pc := 71) hx hb dX1_doThing_71 rfl (lv_at hl 1 rfl) ?_
    refine z_iald (x := nu i) (pc := 72) hx hb hz 4 rfl i rfl (by omega) (by decide) rfl dX1_doThing_72 ?_
    refine z_runV (pc := 73) (As := [.int (wh i), .int (nu i)]) (rest := []) (ws1 := wP ca q g tx kd wh nu ++ wS ca a h (hourC c (wh i) (nu i)) z) ⟨hx, hb, hml, hown, hts⟩ (k_X2_changeHour l G ca a h c z (wh i) (nu i) hbb) (cwV 2 hts (zgoodV zsub wq_18_7 wq_8_23 wq_9_0 wq_1_14 wq_9_1) rfl rfl rfl hdV_X2_changeHour ⟨Nat.le_of_ble_eq_true rfl, Nat.le_of_ble_eq_true rfl⟩) hz (wP ca q g tx kd wh nu) List.perm_append_comm List.perm_append_comm rfl rfl rfl hl.1 (Nat.le_of_ble_eq_true rfl) (st1 := [.int (hourR c (wh i) (nu i))]) rfl dX1_doThing_73 ⟨Nat.zero_le _, Nat.zero_le _⟩ (fun H locs hz => ?_)
    exact z_iret (pc := 76) hx hb hr hlk hQ hz dX1_doThing_76 (by simp only [kDoR, if_neg h_102, if_neg h_103, if_pos h_104]) (by simp only [kDoP, kDoZ, if_neg h_102, if_neg h_103, if_pos h_104])
  by_cases h_115 : kd i = 115
  · refine lv_lookup (off := 58) (tgt := 77) (pc := 19) hx hb dX1_doThing_19 (by decide) (by rw [h_115]; decide) (by decide) ?_
    refine lv_aload_n (pc := 77) hx hb dX1_doThing_77 rfl (lv_at hl 2 rfl) ?_
    refine lv_aload_n (pc := 78) hx hb dX1_doThing_78 rfl (lv_at hl 0 rfl) ?_
    refine z_get (own := RX1) (ref := "CupFountain$Plan") (C := RX1) (T := TX1) (N := 7) (ci := 1) (v := .ref (q 3)) (pc := 79) hx hb hts hinX1 hown hz 0 rfl rfl 3 (by decide) L23 rfl rfl dX1_doThing_79 ?_
    refine lv_iload_n (pc := 82) hx hb dX1_doThing_82 rfl (lv_at hl 1 rfl) ?_
    refine z_iald (x := wh i) (pc := 83) hx hb hz 3 rfl i rfl (by omega) (by decide) rfl dX1_doThing_83 ?_
    refine lv_iconst (v := 0) (pc := 84) hx hb dX1_doThing_84 (by decide) ?_
    refine lv_aload_n (pc := 85) hx hb dX1_doThing_85 rfl (lv_at hl 0 rfl) ?_
    refine z_get (own := RX1) (ref := "CupFountain$Plan") (C := RX1) (T := TX1) (N := 7) (ci := 1) (v := .ref (q 4)) (pc := 86) hx hb hts hinX1 hown hz 0 rfl rfl 4 (by decide) L26 rfl rfl dX1_doThing_86 ?_
    refine lv_iload_n (pc := 89) hx hb dX1_doThing_89 rfl (lv_at hl 1 rfl) ?_
    refine z_iald (x := nu i) (pc := 90) hx hb hz 4 rfl i rfl (by omega) (by decide) rfl dX1_doThing_90 ?_
    refine z_runV (pc := 91) (As := [.int (wh i), .int 0, .int (nu i)]) (rest := []) (ws1 := wP ca q g tx kd wh nu ++ wS ca a h (setC c (wh i) 0 (nu i)) z) ⟨hx, hb, hml, hown, hts⟩ (k_X2_changeCup l G ca a h c z (wh i) 0 (nu i) hbb) (cwV 3 hts (zgoodV zsub wq_18_8 wq_5_6 wq_5_7 wq_1_14 wq_5_8) rfl rfl rfl hdV_X2_changeCup ⟨Nat.le_of_ble_eq_true rfl, Nat.le_of_ble_eq_true rfl⟩) hz (wP ca q g tx kd wh nu) List.perm_append_comm List.perm_append_comm rfl rfl rfl hl.1 (Nat.le_of_ble_eq_true rfl) (st1 := [.int (setR c (wh i) 0 (nu i))]) rfl dX1_doThing_91 ⟨Nat.zero_le _, Nat.zero_le _⟩ (fun H locs hz => ?_)
    exact z_iret (pc := 94) hx hb hr hlk hQ hz dX1_doThing_94 (by simp only [kDoR, if_neg h_102, if_neg h_103, if_neg h_104, if_pos h_115]) (by simp only [kDoP, kDoZ, if_neg h_102, if_neg h_103, if_neg h_104, if_pos h_115])
  refine lv_lookup (off := 104) (tgt := 123) (pc := 19) hx hb dX1_doThing_19 (by decide) ((lv_osw h_102 (k := 102) rfl).trans ((lv_osw h_103 (k := 103) rfl).trans ((lv_osw h_104 (k := 104) rfl).trans ((lv_osw h_115 (k := 115) rfl).trans (rfl))))) (by decide) ?_
  refine lv_aload_n (pc := 123) hx hb dX1_doThing_123 rfl (lv_at hl 2 rfl) ?_
  refine lv_aload_n (pc := 124) hx hb dX1_doThing_124 rfl (lv_at hl 0 rfl) ?_
  refine z_get (own := RX1) (ref := "CupFountain$Plan") (C := RX1) (T := TX1) (N := 7) (ci := 1) (v := .ref (q 4)) (pc := 125) hx hb hts hinX1 hown hz 0 rfl rfl 4 (by decide) L26 rfl rfl dX1_doThing_125 ?_
  refine lv_iload_n (pc := 128) hx hb dX1_doThing_128 rfl (lv_at hl 1 rfl) ?_
  refine z_iald (x := nu i) (pc := 129) hx hb hz 4 rfl i rfl (by omega) (by decide) rfl dX1_doThing_129 ?_
  refine z_runV (pc := 130) (As := [.int (nu i)]) (rest := []) (ws1 := wP ca q g tx kd wh nu ++ wS ca a ((kN (h, c) (passN (h, c) (nu i))).1) ((kN (h, c) (passN (h, c) (nu i))).2) (zTk (h, c) z (passN (h, c) (nu i)))) ⟨hx, hb, hml, hown, hts⟩ (k_X2_letPass l G ca a h c z (nu i) hnx) (cwV 1 hts (zgoodV zsub wq_18_11 wq_11_21 wq_11_22 wq_1_14 wq_11_23) rfl rfl rfl hdV_X2_letPass ⟨Nat.le_of_ble_eq_true rfl, Nat.le_of_ble_eq_true rfl⟩) hz (wP ca q g tx kd wh nu) List.perm_append_comm List.perm_append_comm rfl rfl rfl hl.1 (Nat.le_of_ble_eq_true rfl) (st1 := [.int (kpassR (h, c) (nu i))]) rfl dX1_doThing_130 ⟨Nat.zero_le _, Nat.zero_le _⟩ (fun H locs hz => ?_)
  exact z_iret (pc := 133) hx hb hr hlk hQ hz dX1_doThing_133 (by simp only [kDoR, if_neg h_102, if_neg h_103, if_neg h_104, if_neg h_115]) (by simp only [kDoP, kDoZ, if_neg h_102, if_neg h_103, if_neg h_104, if_neg h_115])
