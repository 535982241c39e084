def rm_X4_isNext : Room := { frames := 1, cells := 0, slots := 0, locals := 22 }
set_option maxRecDepth 20000 in
theorem hdV_X4_isNext : yX4_isNext.cls = RX4 ∧ yX4_isNext.cls ≠ "java/lang/invoke/MethodHandle" ∧ yX4_isNext.cls ≠ "java/lang/invoke/VarHandle" ∧ (parseMethodDescriptor yX4_isNext.desc).map (fun d => d.parameters.length) = some 2 := by decide +kernel
set_option maxHeartbeats 4000000 in
set_option maxRecDepth 100000 in
theorem k_X4_isNext (l : Launch) (G : va_G) (ca : Nat → ClassId) (a : Nat → Nat) (f h : Nat → Int32) (c : Nat → Nat → Int32) (hi sn be tx ti : Nat → Int32) (s : PS) (lt dn er : Int32) (ln : Nat) (hln : ln ≤ 60) (hf7 : f 7 = nI ln) (hs : s.1 < 1000) (lo hq : Int32) : Zc l G ca yX4_isNext (zws yX4_isNext cX4_isNext 3 (some .boolean)) rm_X4_isNext [.ref (a 0), .int lo, .int hq] (mm ca a (fS f s lt dn er) h c hi sn be tx ti) (some (.int (nxF tx ln s.1 lo hq))) (mm ca a (fS f s lt dn er) h c hi sn be tx ti) := by
  refine Zc.of (cc := cX4_isNext) (maxL := 3) (ret := (some .boolean)) (by decide) rfl (Nat.le_of_ble_eq_true rfl) ?_
  intro pg ev s0 mt below meth cd A args Q ls hx hb hr hml hown hts hlk hQ hl hz
  have L116 : (Cond.fieldLink RX4 116 "CupFountainModel" "length" "I").before args s0 = true := hts _ (zsub _ wq_16_1)
  have L119 : (Cond.fieldLink RX4 119 "CupFountainModel" "place" "I").before args s0 = true := hts _ (zsub _ wq_18_19)
  have L22 : (Cond.fieldLink RX4 22 "CupFountainModel" "text" "[C").before args s0 = true := hts _ (zsub _ wq_4_9)
  have hinX4 : ∀ w ∈ wsX40, w ∈ zws yX4_isNext cX4_isNext 3 (some .boolean) := fun w h => zsub w (wl_wsX40 w h)
  have hl : lv_has ls 3 [(0, .ref (a 0)), (1, .int lo), (2, .int hq)] := hl
  refine lv_aload_n (pc := 0) hx hb dX4_isNext_0 rfl (lv_at hl 0 rfl) ?_
  refine z_get (own := RX4) (ref := "CupFountainModel") (C := RX4) (T := TX4) (N := 17) (ci := 4) (v := .int (nI s.1)) (pc := 1) hx hb hts hinX4 hown hz 0 rfl rfl 11 (by decide) L119 rfl rfl dX4_isNext_1 ?_
  refine lv_aload_n (pc := 4) hx hb dX4_isNext_4 rfl (lv_at hl 0 rfl) ?_
  refine z_get (own := RX4) (ref := "CupFountainModel") (C := RX4) (T := TX4) (N := 17) (ci := 4) (v := .int (f 7)) (pc := 5) hx hb hts hinX4 hown hz 0 rfl rfl 7 (by decide) L116 rfl rfl dX4_isNext_5 ?_
  refine lv_icmp_ge (pc := 8) (tgt := 32) hx hb dX4_isNext_8 (by decide) (fun c_8 => ?_) (fun c_8 => ?_)
  · have h8 : ln ≤ s.1 := (nI_leI (by omega) (by omega)).mp (hf7 ▸ c_8)
    refine lv_iconst (v := 0) (pc := 32) hx hb dX4_isNext_32 (by decide) ?_
    exact z_zret (pc := 33) hx hb hr hlk hQ hz rfl dX4_isNext_33 (by simp only [nxF, if_pos c_8, if_pos h8]) (by rfl)
  · have h8 : ¬ ln ≤ s.1 := fun q => c_8 (by rw [hf7]; exact nI_le q (by omega))
    refine lv_aload_n (pc := 11) hx hb dX4_isNext_11 rfl (lv_at hl 0 rfl) ?_
    refine z_get (own := RX4) (ref := "CupFountainModel") (C := RX4) (T := TX4) (N := 17) (ci := 4) (v := .ref (a 5)) (pc := 12) hx hb hts hinX4 hown hz 0 rfl rfl 6 (by decide) L22 rfl rfl dX4_isNext_12 ?_
    refine lv_aload_n (pc := 15) hx hb dX4_isNext_15 rfl (lv_at hl 0 rfl) ?_
    refine z_get (own := RX4) (ref := "CupFountainModel") (C := RX4) (T := TX4) (N := 17) (ci := 4) (v := .int (nI s.1)) (pc := 16) hx hb hts hinX4 hown hz 0 rfl rfl 11 (by decide) L119 rfl rfl dX4_isNext_16 ?_
    refine z_cald (x := tx s.1) (pc := 19) hx hb hz 5 rfl s.1 rfl (by omega) (by decide) rfl dX4_isNext_19 ?_
    refine lv_iload_n (pc := 20) hx hb dX4_isNext_20 rfl (lv_at hl 1 rfl) ?_
    refine lv_iload_n (pc := 21) hx hb dX4_isNext_21 rfl (lv_at hl 2 rfl) ?_
    refine z_runS (pc := 22) (As := [.int (tx s.1), .int lo, .int hq]) (rest := []) (ws1 := mm ca a (fS f s lt dn er) h c hi sn be tx ti) ⟨hx, hb, hml, hown, hts⟩ (k_X4_in l G ca (tx s.1) lo hq) (cwS 3 hts (zgoodS zsub wq_7_5 wq_7_6 wq_1_5 wq_7_7) rfl rfl rfl hdV_X4_in ⟨Nat.le_of_ble_eq_true rfl, Nat.le_of_ble_eq_true rfl⟩) hz (mm ca a (fS f s lt dn er) h c hi sn be tx ti) zp_no (List.Perm.refl _) rfl hl.1 (Nat.le_of_ble_eq_true rfl) (st1 := [.int (inF (tx s.1) lo hq)]) rfl dX4_isNext_22 ⟨Nat.zero_le _, Nat.zero_le _⟩ (fun H locs hz => ?_)
    refine lv_if_eq (pc := 25) (tgt := 32) hx hb dX4_isNext_25 (by decide) (fun c_25 => ?_) (fun c_25 => ?_)
    · refine lv_iconst (v := 0) (pc := 32) hx hb dX4_isNext_32 (by decide) ?_
      exact z_zret (pc := 33) hx hb hr hlk hQ hz rfl dX4_isNext_33 (by simp only [nxF, if_neg c_8, if_neg h8, if_pos c_25]) (by rfl)
    · refine lv_iconst (v := 1) (pc := 28) hx hb dX4_isNext_28 (by decide) ?_
      refine lv_goto (tgt := 33) (pc := 29) hx hb dX4_isNext_29 (by decide) ?_
      exact z_zret (pc := 33) hx hb hr hlk hQ hz rfl dX4_isNext_33 (by simp only [nxF, if_neg c_8, if_neg h8, if_neg c_25]) (by rfl)

def rm_X4_takes : Room := { frames := 2, cells := 0, slots := 0, locals := 44 }
set_option maxRecDepth 20000 in
theorem hdV_X4_takes : yX4_takes.cls = RX4 ∧ yX4_takes.cls ≠ "java/lang/invoke/MethodHandle" ∧ yX4_takes.cls ≠ "java/lang/invoke/VarHandle" ∧ (parseMethodDescriptor yX4_takes.desc).map (fun d => d.parameters.length) = some 1 := by decide +kernel
set_option maxHeartbeats 4000000 in
set_option maxRecDepth 100000 in
theorem k_X4_takes (l : Launch) (G : va_G) (ca : Nat → ClassId) (a : Nat → Nat) (f h : Nat → Int32) (c : Nat → Nat → Int32) (hi sn be tx ti : Nat → Int32) (s : PS) (lt dn er : Int32) (ln : Nat) (hln : ln ≤ 60) (hf7 : f 7 = nI ln) (hs : s.1 < 1000) (code : Int32) : Zc l G ca yX4_takes (zws yX4_takes cX4_takes 3 (some .boolean)) rm_X4_takes [.ref (a 0), .int code] (mm ca a (fS f s lt dn er) h c hi sn be tx ti) (some (.int (rdChr tx ln code s).1)) (mm ca a (fS f ((rdChr tx ln code s).2) lt dn er) h c hi sn be tx ti) := by
  refine Zc.of (cc := cX4_takes) (maxL := 3) (ret := (some .boolean)) (by decide) rfl (Nat.le_of_ble_eq_true rfl) ?_
  intro pg ev s0 mt below meth cd A args Q ls hx hb hr hml hown hts hlk hQ hl hz
  have L119 : (Cond.fieldLink RX4 119 "CupFountainModel" "place" "I").before args s0 = true := hts _ (zsub _ wq_18_19)
  have hinX4 : ∀ w ∈ wsX40, w ∈ zws yX4_takes cX4_takes 3 (some .boolean) := fun w h => zsub w (wl_wsX40 w h)
  have hl : lv_has ls 3 [(0, .ref (a 0)), (1, .int code)] := hl
  refine lv_aload_n (pc := 0) hx hb dX4_takes_0 rfl (lv_at hl 0 rfl) ?_
  refine lv_iload_n (pc := 1) hx hb dX4_takes_1 rfl (lv_at hl 1 rfl) ?_
  refine lv_iload_n (pc := 2) hx hb dX4_takes_2 rfl (lv_at hl 1 rfl) ?_
  refine z_runV (pc := 3) (As := [.int code, .int code]) (rest := []) (ws1 := mm ca a (fS f s lt dn er) h c hi sn be tx ti) ⟨hx, hb, hml, hown, hts⟩ (k_X4_isNext l G ca a f h c hi sn be tx ti s lt dn er ln hln hf7 hs code code) (cwV 2 hts (zgoodV zsub wq_19_13 wq_19_14 wq_19_15 wq_1_5 wq_19_16) rfl rfl rfl hdV_X4_isNext ⟨Nat.le_of_ble_eq_true rfl, Nat.le_of_ble_eq_true rfl⟩) hz [] zp_all zp_all' rfl rfl rfl hl.1 (Nat.le_of_ble_eq_true rfl) (st1 := [.int (nxF tx ln s.1 code code)]) rfl dX4_takes_3 ⟨Nat.zero_le _, Nat.zero_le _⟩ (fun H locs hz => ?_)
  refine lv_istore_n (lv' := [(2, .int (nxF tx ln s.1 code code)), (0, .ref (a 0)), (1, .int code)]) (pc := 6) hx hb dX4_takes_6 rfl hl (by decide) rfl (fun ls hl => ?_)
  refine lv_aload_n (pc := 7) hx hb dX4_takes_7 rfl (lv_at hl 1 rfl) ?_
  refine lv_dup (pc := 8) hx hb dX4_takes_8 rfl ?_
  refine z_get (own := RX4) (ref := "CupFountainModel") (C := RX4) (T := TX4) (N := 17) (ci := 4) (v := .int (nI s.1)) (pc := 9) hx hb hts hinX4 hown hz 0 rfl rfl 11 (by decide) L119 rfl rfl dX4_takes_9 ?_
  refine lv_iload_n (pc := 12) hx hb dX4_takes_12 rfl (lv_at hl 0 rfl) ?_
  refine lv_if_eq (pc := 13) (tgt := 20) hx hb dX4_takes_13 (by decide) (fun c_13 => ?_) (fun c_13 => ?_)
  · refine lv_iconst (v := 0) (pc := 20) hx hb dX4_takes_20 (by decide) ?_
    refine lv_iadd (pc := 21) hx hb dX4_takes_21 ?_
    refine z_top (y := nI s.1) (Int32.add_zero _) ?_
    refine z_put (own := RX4) (ref := "CupFountainModel") (C := RX4) (T := TX4) (N := 17) (ci := 4) (v := .int (nI s.1)) (ws1 := mm ca a (fS f (s.1, s.2.1, s.2.2) lt dn er) h c hi sn be tx ti) (pc := 22) hx hb hts hinX4 tyX4 tyX4_ok nmX4 hown hz 0 rfl rfl 11 (by decide) L119 rfl rfl rfl rfl (Nat.le_of_ble_eq_true rfl) rfl dX4_takes_22 (fun H locs hz => ?_)
    refine lv_iload_n (pc := 25) hx hb dX4_takes_25 rfl (lv_at hl 0 rfl) ?_
    exact z_zret (pc := 26) hx hb hr hlk hQ hz (nxF_n _ _ _ _ _) dX4_takes_26 (by rfl) (by simp only [rdChr, stp, if_pos c_13])
  · refine lv_iconst (v := 1) (pc := 16) hx hb dX4_takes_16 (by decide) ?_
    refine lv_goto (tgt := 21) (pc := 17) hx hb dX4_takes_17 (by decide) ?_
    refine lv_iadd (pc := 21) hx hb dX4_takes_21 ?_
    refine z_top (y := nI (s.1 + 1)) (nI_1 _) ?_
    refine z_put (own := RX4) (ref := "CupFountainModel") (C := RX4) (T := TX4) (N := 17) (ci := 4) (v := .int (nI (s.1 + 1))) (ws1 := mm ca a (fS f (s.1 + 1, s.2.1, s.2.2) lt dn er) h c hi sn be tx ti) (pc := 22) hx hb hts hinX4 tyX4 tyX4_ok nmX4 hown hz 0 rfl rfl 11 (by decide) L119 rfl rfl rfl rfl (Nat.le_of_ble_eq_true rfl) rfl dX4_takes_22 (fun H locs hz => ?_)
    refine lv_iload_n (pc := 25) hx hb dX4_takes_25 rfl (lv_at hl 0 rfl) ?_
    exact z_zret (pc := 26) hx hb hr hlk hQ hz (nxF_n _ _ _ _ _) dX4_takes_26 (by rfl) (by simp only [rdChr, stp, if_neg c_13])

def rm_X4_readCup : Room := { frames := 2, cells := 0, slots := 0, locals := 44 }
set_option maxRecDepth 20000 in
theorem hdV_X4_readCup : yX4_readCup.cls = RX4 ∧ yX4_readCup.cls ≠ "java/lang/invoke/MethodHandle" ∧ yX4_readCup.cls ≠ "java/lang/invoke/VarHandle" ∧ (parseMethodDescriptor yX4_readCup.desc).map (fun d => d.parameters.length) = some 0 := by decide +kernel
set_option maxHeartbeats 4000000 in
set_option maxRecDepth 100000 in
theorem k_X4_readCup (l : Launch) (G : va_G) (ca : Nat → ClassId) (a : Nat → Nat) (f h : Nat → Int32) (c : Nat → Nat → Int32) (hi sn be tx ti : Nat → Int32) (s : PS) (lt dn er : Int32) (ln : Nat) (hln : ln ≤ 60) (hf7 : f 7 = nI ln) (hs : s.1 < 1000) : Zc l G ca yX4_readCup (zws yX4_readCup cX4_readCup 2 (some .boolean)) rm_X4_readCup [.ref (a 0)] (mm ca a (fS f s lt dn er) h c hi sn be tx ti) (some (.int (rdCup tx ln s).1)) (mm ca a (fS f ((rdCup tx ln s).2) lt dn er) h c hi sn be tx ti) := by
  refine Zc.of (cc := cX4_readCup) (maxL := 2) (ret := (some .boolean)) (by decide) rfl (Nat.le_of_ble_eq_true rfl) ?_
  intro pg ev s0 mt below meth cd A args Q ls hx hb hr hml hown hts hlk hQ hl hz
  have L119 : (Cond.fieldLink RX4 119 "CupFountainModel" "place" "I").before args s0 = true := hts _ (zsub _ wq_18_19)
  have L126 : (Cond.fieldLink RX4 126 "CupFountainModel" "itsCup" "I").before args s0 = true := hts _ (zsub _ wq_19_12)
  have L22 : (Cond.fieldLink RX4 22 "CupFountainModel" "text" "[C").before args s0 = true := hts _ (zsub _ wq_4_9)
  have hinX4 : ∀ w ∈ wsX40, w ∈ zws yX4_readCup cX4_readCup 2 (some .boolean) := fun w h => zsub w (wl_wsX40 w h)
  have hl : lv_has ls 2 [(0, .ref (a 0))] := hl
  refine lv_aload_n (pc := 0) hx hb dX4_readCup_0 rfl (lv_at hl 0 rfl) ?_
  refine lv_bipush (v := 48) (pc := 1) hx hb dX4_readCup_1 (by decide) ?_
  refine lv_bipush (v := 55) (pc := 3) hx hb dX4_readCup_3 (by decide) ?_
  refine z_runV (pc := 5) (As := [.int 48, .int 55]) (rest := []) (ws1 := mm ca a (fS f s lt dn er) h c hi sn be tx ti) ⟨hx, hb, hml, hown, hts⟩ (k_X4_isNext l G ca a f h c hi sn be tx ti s lt dn er ln hln hf7 hs 48 55) (cwV 2 hts (zgoodV zsub wq_19_13 wq_19_14 wq_19_15 wq_1_5 wq_19_16) rfl rfl rfl hdV_X4_isNext ⟨Nat.le_of_ble_eq_true rfl, Nat.le_of_ble_eq_true rfl⟩) hz [] zp_all zp_all' rfl rfl rfl hl.1 (Nat.le_of_ble_eq_true rfl) (st1 := [.int (nxF tx ln s.1 48 55)]) rfl dX4_readCup_5 ⟨Nat.zero_le _, Nat.zero_le _⟩ (fun H locs hz => ?_)
  refine lv_istore_n (lv' := [(1, .int (nxF tx ln s.1 48 55)), (0, .ref (a 0))]) (pc := 8) hx hb dX4_readCup_8 rfl hl (by decide) rfl (fun ls hl => ?_)
  refine lv_aload_n (pc := 9) hx hb dX4_readCup_9 rfl (lv_at hl 1 rfl) ?_
  refine lv_iload_n (pc := 10) hx hb dX4_readCup_10 rfl (lv_at hl 0 rfl) ?_
  refine lv_if_eq (pc := 11) (tgt := 29) hx hb dX4_readCup_11 (by decide) (fun c_11 => ?_) (fun c_11 => ?_)
  · refine lv_iconst (v := 0) (pc := 29) hx hb dX4_readCup_29 (by decide) ?_
    refine z_put (own := RX4) (ref := "CupFountainModel") (C := RX4) (T := TX4) (N := 17) (ci := 4) (v := .int 0) (ws1 := mm ca a (fS f (s.1, 0, s.2.2) lt dn er) h c hi sn be tx ti) (pc := 30) hx hb hts hinX4 tyX4 tyX4_ok nmX4 hown hz 0 rfl rfl 13 (by decide) L126 rfl rfl rfl rfl (Nat.le_of_ble_eq_true rfl) rfl dX4_readCup_30 (fun H locs hz => ?_)
    refine lv_aload_n (pc := 33) hx hb dX4_readCup_33 rfl (lv_at hl 1 rfl) ?_
    refine lv_dup (pc := 34) hx hb dX4_readCup_34 rfl ?_
    refine z_get (own := RX4) (ref := "CupFountainModel") (C := RX4) (T := TX4) (N := 17) (ci := 4) (v := .int (nI s.1)) (pc := 35) hx hb hts hinX4 hown hz 0 rfl rfl 11 (by decide) L119 rfl rfl dX4_readCup_35 ?_
    refine lv_iload_n (pc := 38) hx hb dX4_readCup_38 rfl (lv_at hl 0 rfl) ?_
    refine lv_if_eq (pc := 39) (tgt := 46) hx hb dX4_readCup_39 (by decide) (fun c_39 => ?_) (fun c9 => absurd c_11 c9)
    refine lv_iconst (v := 0) (pc := 46) hx hb dX4_readCup_46 (by decide) ?_
    refine lv_iadd (pc := 47) hx hb dX4_readCup_47 ?_
    refine z_top (y := nI s.1) (Int32.add_zero _) ?_
    refine z_put (own := RX4) (ref := "CupFountainModel") (C := RX4) (T := TX4) (N := 17) (ci := 4) (v := .int (nI s.1)) (ws1 := mm ca a (fS f (s.1, 0, s.2.2) lt dn er) h c hi sn be tx ti) (pc := 48) hx hb hts hinX4 tyX4 tyX4_ok nmX4 hown hz 0 rfl rfl 11 (by decide) L119 rfl rfl rfl rfl (Nat.le_of_ble_eq_true rfl) rfl dX4_readCup_48 (fun H locs hz => ?_)
    refine lv_iload_n (pc := 51) hx hb dX4_readCup_51 rfl (lv_at hl 0 rfl) ?_
    exact z_zret (pc := 52) hx hb hr hlk hQ hz (nxF_n _ _ _ _ _) dX4_readCup_52 (by rfl) (by simp only [rdCup, stp, if_pos c_11])
  · refine lv_aload_n (pc := 14) hx hb dX4_readCup_14 rfl (lv_at hl 1 rfl) ?_
    refine z_get (own := RX4) (ref := "CupFountainModel") (C := RX4) (T := TX4) (N := 17) (ci := 4) (v := .ref (a 5)) (pc := 15) hx hb hts hinX4 hown hz 0 rfl rfl 6 (by decide) L22 rfl rfl dX4_readCup_15 ?_
    refine lv_aload_n (pc := 18) hx hb dX4_readCup_18 rfl (lv_at hl 1 rfl) ?_
    refine z_get (own := RX4) (ref := "CupFountainModel") (C := RX4) (T := TX4) (N := 17) (ci := 4) (v := .int (nI s.1)) (pc := 19) hx hb hts hinX4 hown hz 0 rfl rfl 11 (by decide) L119 rfl rfl dX4_readCup_19 ?_
    refine z_cald (x := tx s.1) (pc := 22) hx hb hz 5 rfl s.1 rfl (by have := nx_lt c_11; omega) (by decide) rfl dX4_readCup_22 ?_
    refine lv_bipush (v := 48) (pc := 23) hx hb dX4_readCup_23 (by decide) ?_
    refine lv_isub (pc := 25) hx hb dX4_readCup_25 ?_
    refine lv_goto (tgt := 30) (pc := 26) hx hb dX4_readCup_26 (by decide) ?_
    refine z_put (own := RX4) (ref := "CupFountainModel") (C := RX4) (T := TX4) (N := 17) (ci := 4) (v := .int ((tx s.1) - 48)) (ws1 := mm ca a (fS f (s.1, (tx s.1) - 48, s.2.2) lt dn er) h c hi sn be tx ti) (pc := 30) hx hb hts hinX4 tyX4 tyX4_ok nmX4 hown hz 0 rfl rfl 13 (by decide) L126 rfl rfl rfl rfl (Nat.le_of_ble_eq_true rfl) rfl dX4_readCup_30 (fun H locs hz => ?_)
    refine lv_aload_n (pc := 33) hx hb dX4_readCup_33 rfl (lv_at hl 1 rfl) ?_
    refine lv_dup (pc := 34) hx hb dX4_readCup_34 rfl ?_
    refine z_get (own := RX4) (ref := "CupFountainModel") (C := RX4) (T := TX4) (N := 17) (ci := 4) (v := .int (nI s.1)) (pc := 35) hx hb hts hinX4 hown hz 0 rfl rfl 11 (by decide) L119 rfl rfl dX4_readCup_35 ?_
    refine lv_iload_n (pc := 38) hx hb dX4_readCup_38 rfl (lv_at hl 0 rfl) ?_
    refine lv_if_eq (pc := 39) (tgt := 46) hx hb dX4_readCup_39 (by decide) (fun c9 => absurd c9 c_11) (fun c_39 => ?_)
    refine lv_iconst (v := 1) (pc := 42) hx hb dX4_readCup_42 (by decide) ?_
    refine lv_goto (tgt := 47) (pc := 43) hx hb dX4_readCup_43 (by decide) ?_
    refine lv_iadd (pc := 47) hx hb dX4_readCup_47 ?_
    refine z_top (y := nI (s.1 + 1)) (nI_1 _) ?_
    refine z_put (own := RX4) (ref := "CupFountainModel") (C := RX4) (T := TX4) (N := 17) (ci := 4) (v := .int (nI (s.1 + 1))) (ws1 := mm ca a (fS f (s.1 + 1, (tx s.1) - 48, s.2.2) lt dn er) h c hi sn be tx ti) (pc := 48) hx hb hts hinX4 tyX4 tyX4_ok nmX4 hown hz 0 rfl rfl 11 (by decide) L119 rfl rfl rfl rfl (Nat.le_of_ble_eq_true rfl) rfl dX4_readCup_48 (fun H locs hz => ?_)
    refine lv_iload_n (pc := 51) hx hb dX4_readCup_51 rfl (lv_at hl 0 rfl) ?_
    exact z_zret (pc := 52) hx hb hr hlk hQ hz (nxF_n _ _ _ _ _) dX4_readCup_52 (by rfl) (by simp only [rdCup, stp, if_neg c_11])

def rm_X4_readNumber : Room := { frames := 2, cells := 0, slots := 0, locals := 44 }
set_option maxRecDepth 20000 in
theorem hdV_X4_readNumber : yX4_readNumber.cls = RX4 ∧ yX4_readNumber.cls ≠ "java/lang/invoke/MethodHandle" ∧ yX4_readNumber.cls ≠ "java/lang/invoke/VarHandle" ∧ (parseMethodDescriptor yX4_readNumber.desc).map (fun d => d.parameters.length) = some 2 := by decide +kernel
set_option maxHeartbeats 4000000 in
set_option maxRecDepth 100000 in
theorem k_X4_readNumber (l : Launch) (G : va_G) (ca : Nat → ClassId) (a : Nat → Nat) (f h : Nat → Int32) (c : Nat → Nat → Int32) (hi sn be tx ti : Nat → Int32) (s : PS) (lt dn er : Int32) (ln : Nat) (hln : ln ≤ 60) (hf7 : f 7 = nI ln) (hs : s.1 < 1000) (least most : Int32) : Zc l G ca yX4_readNumber (zws yX4_readNumber cX4_readNumber 3 (some .boolean)) rm_X4_readNumber [.ref (a 0), .int least, .int most] (mm ca a (fS f s lt dn er) h c hi sn be tx ti) (some (.int (rdNum tx ln least most s).1)) (mm ca a (fS f ((rdNum tx ln least most s).2) lt dn er) h c hi sn be tx ti) := by
  refine Zc.of (cc := cX4_readNumber) (maxL := 3) (ret := (some .boolean)) (by decide) rfl (Nat.le_of_ble_eq_true rfl) ?_
  intro pg ev s0 mt below meth cd A args Q ls hx hb hr hml hown hts hlk hQ hl hz
  have L119 : (Cond.fieldLink RX4 119 "CupFountainModel" "place" "I").before args s0 = true := hts _ (zsub _ wq_18_19)
  have L129 : (Cond.fieldLink RX4 129 "CupFountainModel" "number" "I").before args s0 = true := hts _ (zsub _ wq_20_1)
  have L22 : (Cond.fieldLink RX4 22 "CupFountainModel" "text" "[C").before args s0 = true := hts _ (zsub _ wq_4_9)
  have hinX4 : ∀ w ∈ wsX40, w ∈ zws yX4_readNumber cX4_readNumber 3 (some .boolean) := fun w h => zsub w (wl_wsX40 w h)
  have hl : lv_has ls 3 [(0, .ref (a 0)), (1, .int least), (2, .int most)] := hl
  refine lv_aload_n (pc := 0) hx hb dX4_readNumber_0 rfl (lv_at hl 0 rfl) ?_
  refine lv_bipush (v := 48) (pc := 1) hx hb dX4_readNumber_1 (by decide) ?_
  refine lv_iload_n (pc := 3) hx hb dX4_readNumber_3 rfl (lv_at hl 1 rfl) ?_
  refine lv_iadd (pc := 4) hx hb dX4_readNumber_4 ?_
  refine lv_bipush (v := 57) (pc := 5) hx hb dX4_readNumber_5 (by decide) ?_
  refine z_runV (pc := 7) (As := [.int (48 + least), .int 57]) (rest := []) (ws1 := mm ca a (fS f s lt dn er) h c hi sn be tx ti) ⟨hx, hb, hml, hown, hts⟩ (k_X4_isNext l G ca a f h c hi sn be tx ti s lt dn er ln hln hf7 (show s.1 < 1000 by omega) (48 + least) 57) (cwV 2 hts (zgoodV zsub wq_19_13 wq_19_14 wq_19_15 wq_1_5 wq_19_16) rfl rfl rfl hdV_X4_isNext ⟨Nat.le_of_ble_eq_true rfl, Nat.le_of_ble_eq_true rfl⟩) hz [] zp_all zp_all' rfl rfl rfl hl.1 (Nat.le_of_ble_eq_true rfl) (st1 := [.int (nxF tx ln s.1 (48 + least) 57)]) rfl dX4_readNumber_7 ⟨Nat.zero_le _, Nat.zero_le _⟩ (fun H locs hz => ?_)
  refine lv_if_ne (pc := 10) (tgt := 15) hx hb dX4_readNumber_10 (by decide) (fun c_10 => ?_) (fun c_10 => ?_)
  · have hp := nx_lt c_10
    refine lv_aload_n (pc := 15) hx hb dX4_readNumber_15 rfl (lv_at hl 0 rfl) ?_
    refine lv_aload_n (pc := 16) hx hb dX4_readNumber_16 rfl (lv_at hl 0 rfl) ?_
    refine z_get (own := RX4) (ref := "CupFountainModel") (C := RX4) (T := TX4) (N := 17) (ci := 4) (v := .ref (a 5)) (pc := 17) hx hb hts hinX4 hown hz 0 rfl rfl 6 (by decide) L22 rfl rfl dX4_readNumber_17 ?_
    refine lv_aload_n (pc := 20) hx hb dX4_readNumber_20 rfl (lv_at hl 0 rfl) ?_
    refine z_get (own := RX4) (ref := "CupFountainModel") (C := RX4) (T := TX4) (N := 17) (ci := 4) (v := .int (nI s.1)) (pc := 21) hx hb hts hinX4 hown hz 0 rfl rfl 11 (by decide) L119 rfl rfl dX4_readNumber_21 ?_
    refine z_cald (x := tx s.1) (pc := 24) hx hb hz 5 rfl s.1 rfl (by omega) (by decide) rfl dX4_readNumber_24 ?_
    refine lv_bipush (v := 48) (pc := 25) hx hb dX4_readNumber_25 (by decide) ?_
    refine lv_isub (pc := 27) hx hb dX4_readNumber_27 ?_
    refine z_put (own := RX4) (ref := "CupFountainModel") (C := RX4) (T := TX4) (N := 17) (ci := 4) (v := .int ((tx s.1) - 48)) (ws1 := mm ca a (fS f (s.1, s.2.1, (tx s.1) - 48) lt dn er) h c hi sn be tx ti) (pc := 28) hx hb hts hinX4 tyX4 tyX4_ok nmX4 hown hz 0 rfl rfl 14 (by decide) L129 rfl rfl rfl rfl (Nat.le_of_ble_eq_true rfl) rfl dX4_readNumber_28 (fun H locs hz => ?_)
    refine lv_aload_n (pc := 31) hx hb dX4_readNumber_31 rfl (lv_at hl 0 rfl) ?_
    refine lv_dup (pc := 32) hx hb dX4_readNumber_32 rfl ?_
    refine z_get (own := RX4) (ref := "CupFountainModel") (C := RX4) (T := TX4) (N := 17) (ci := 4) (v := .int (nI s.1)) (pc := 33) hx hb hts hinX4 hown hz 0 rfl rfl 11 (by decide) L119 rfl rfl dX4_readNumber_33 ?_
    refine lv_iconst (v := 1) (pc := 36) hx hb dX4_readNumber_36 (by decide) ?_
    refine lv_iadd (pc := 37) hx hb dX4_readNumber_37 ?_
    refine z_top (y := nI (s.1 + 1)) (nI_1 _) ?_
    refine z_put (own := RX4) (ref := "CupFountainModel") (C := RX4) (T := TX4) (N := 17) (ci := 4) (v := .int (nI (s.1 + 1))) (ws1 := mm ca a (fS f (s.1 + 1, s.2.1, (tx s.1) - 48) lt dn er) h c hi sn be tx ti) (pc := 38) hx hb hts hinX4 tyX4 tyX4_ok nmX4 hown hz 0 rfl rfl 11 (by decide) L119 rfl rfl rfl rfl (Nat.le_of_ble_eq_true rfl) rfl dX4_readNumber_38 (fun H locs hz => ?_)
    have loop1 : ∀ cnt q : Nat, q + cnt = 61 → ∀ (n : Int32) (H : Heap) (locs : List Loc) (ls : Array Slot), zw G ca A s0.heap s0 (mm ca a (fS f (q, s.2.1, n) lt dn er) h c hi sn be tx ti) H locs → lv_has ls 3 [(0, .ref (a 0)), (1, .int least), (2, .int most)] → rnL tx ln most (60 - s.1) (tx s.1 - 48) (s.1 + 1) = rnL tx ln most cnt n q → W pg l ev rm_X4_readNumber s0 mt args below meth cd H locs 0 0 Q (F0 mt 41 ls []) := by
      intro cnt
      induction cnt with
      | zero =>
        intro q hk9 n H locs ls hz hl hR
        obtain rfl : 61 = q := by omega
        refine lv_aload_n (pc := 41) hx hb dX4_readNumber_41 rfl (lv_at hl 0 rfl) ?_
        refine z_get (own := RX4) (ref := "CupFountainModel") (C := RX4) (T := TX4) (N := 17) (ci := 4) (v := .int n) (pc := 42) hx hb hts hinX4 hown hz 0 rfl rfl 14 (by decide) L129 rfl rfl dX4_readNumber_42 ?_
        refine lv_if_le (pc := 45) (tgt := 120) hx hb dX4_readNumber_45 (by decide) (fun c_45 => ?_) (fun c_45 => ?_)
        · refine lv_iconst (v := 1) (pc := 120) hx hb dX4_readNumber_120 (by decide) ?_
          exact z_zret (pc := 121) hx hb hr hlk hQ hz rfl dX4_readNumber_121 (by simp only [rdNum, if_neg c_10]) (by simp only [rdNum, if_neg c_10, hR, rnL, if_pos c_45])
        · refine lv_aload_n (pc := 48) hx hb dX4_readNumber_48 rfl (lv_at hl 0 rfl) ?_
          refine lv_bipush (v := 48) (pc := 49) hx hb dX4_readNumber_49 (by decide) ?_
          refine lv_bipush (v := 57) (pc := 51) hx hb dX4_readNumber_51 (by decide) ?_
          refine z_runV (pc := 53) (As := [.int 48, .int 57]) (rest := []) (ws1 := mm ca a (fS f (61, s.2.1, n) lt dn er) h c hi sn be tx ti) ⟨hx, hb, hml, hown, hts⟩ (k_X4_isNext l G ca a f h c hi sn be tx ti (61, s.2.1, n) lt dn er ln hln hf7 (show 61 < 1000 by omega) 48 57) (cwV 2 hts (zgoodV zsub wq_19_13 wq_19_14 wq_19_15 wq_1_5 wq_19_16) rfl rfl rfl hdV_X4_isNext ⟨Nat.le_of_ble_eq_true rfl, Nat.le_of_ble_eq_true rfl⟩) hz [] zp_all zp_all' rfl rfl rfl hl.1 (Nat.le_of_ble_eq_true rfl) (st1 := [.int (nxF tx ln 61 48 57)]) rfl dX4_readNumber_53 ⟨Nat.zero_le _, Nat.zero_le _⟩ (fun H locs hz => ?_)
          refine lv_if_eq (pc := 56) (tgt := 120) hx hb dX4_readNumber_56 (by decide) (fun c_56 => ?_) (fun c_56 => ?_)
          · refine lv_iconst (v := 1) (pc := 120) hx hb dX4_readNumber_120 (by decide) ?_
            exact z_zret (pc := 121) hx hb hr hlk hQ hz rfl dX4_readNumber_121 (by simp only [rdNum, if_neg c_10]) (by simp only [rdNum, if_neg c_10, hR, rnL, if_neg c_45, if_pos c_56])
          · exact absurd (nx_lt c_56) (by omega)
      | succ cnt ih =>
        intro q hk9 n H locs ls hz hl hR
        have hk : q < 61 := by omega
        refine lv_aload_n (pc := 41) hx hb dX4_readNumber_41 rfl (lv_at hl 0 rfl) ?_
        refine z_get (own := RX4) (ref := "CupFountainModel") (C := RX4) (T := TX4) (N := 17) (ci := 4) (v := .int n) (pc := 42) hx hb hts hinX4 hown hz 0 rfl rfl 14 (by decide) L129 rfl rfl dX4_readNumber_42 ?_
        refine lv_if_le (pc := 45) (tgt := 120) hx hb dX4_readNumber_45 (by decide) (fun c_45 => ?_) (fun c_45 => ?_)
        · refine lv_iconst (v := 1) (pc := 120) hx hb dX4_readNumber_120 (by decide) ?_
          exact z_zret (pc := 121) hx hb hr hlk hQ hz rfl dX4_readNumber_121 (by simp only [rdNum, if_neg c_10]) (by simp only [rdNum, if_neg c_10, hR, rnL, if_pos c_45])
        · refine lv_aload_n (pc := 48) hx hb dX4_readNumber_48 rfl (lv_at hl 0 rfl) ?_
          refine lv_bipush (v := 48) (pc := 49) hx hb dX4_readNumber_49 (by decide) ?_
          refine lv_bipush (v := 57) (pc := 51) hx hb dX4_readNumber_51 (by decide) ?_
          refine z_runV (pc := 53) (As := [.int 48, .int 57]) (rest := []) (ws1 := mm ca a (fS f (q, s.2.1, n) lt dn er) h c hi sn be tx ti) ⟨hx, hb, hml, hown, hts⟩ (k_X4_isNext l G ca a f h c hi sn be tx ti (q, s.2.1, n) lt dn er ln hln hf7 (show q < 1000 by omega) 48 57) (cwV 2 hts (zgoodV zsub wq_19_13 wq_19_14 wq_19_15 wq_1_5 wq_19_16) rfl rfl rfl hdV_X4_isNext ⟨Nat.le_of_ble_eq_true rfl, Nat.le_of_ble_eq_true rfl⟩) hz [] zp_all zp_all' rfl rfl rfl hl.1 (Nat.le_of_ble_eq_true rfl) (st1 := [.int (nxF tx ln q 48 57)]) rfl dX4_readNumber_53 ⟨Nat.zero_le _, Nat.zero_le _⟩ (fun H locs hz => ?_)
          refine lv_if_eq (pc := 56) (tgt := 120) hx hb dX4_readNumber_56 (by decide) (fun c_56 => ?_) (fun c_56 => ?_)
          · refine lv_iconst (v := 1) (pc := 120) hx hb dX4_readNumber_120 (by decide) ?_
            exact z_zret (pc := 121) hx hb hr hlk hQ hz rfl dX4_readNumber_121 (by simp only [rdNum, if_neg c_10]) (by simp only [rdNum, if_neg c_10, hR, rnL, if_neg c_45, if_pos c_56])
          · refine lv_bipush (v := 10) (pc := 59) hx hb dX4_readNumber_59 (by decide) ?_
            refine lv_aload_n (pc := 61) hx hb dX4_readNumber_61 rfl (lv_at hl 0 rfl) ?_
            refine z_get (own := RX4) (ref := "CupFountainModel") (C := RX4) (T := TX4) (N := 17) (ci := 4) (v := .int n) (pc := 62) hx hb hts hinX4 hown hz 0 rfl rfl 14 (by decide) L129 rfl rfl dX4_readNumber_62 ?_
            refine lv_imul (pc := 65) hx hb dX4_readNumber_65 ?_
            refine lv_aload_n (pc := 66) hx hb dX4_readNumber_66 rfl (lv_at hl 0 rfl) ?_
            refine z_get (own := RX4) (ref := "CupFountainModel") (C := RX4) (T := TX4) (N := 17) (ci := 4) (v := .ref (a 5)) (pc := 67) hx hb hts hinX4 hown hz 0 rfl rfl 6 (by decide) L22 rfl rfl dX4_readNumber_67 ?_
            refine lv_aload_n (pc := 70) hx hb dX4_readNumber_70 rfl (lv_at hl 0 rfl) ?_
            refine z_get (own := RX4) (ref := "CupFountainModel") (C := RX4) (T := TX4) (N := 17) (ci := 4) (v := .int (nI q)) (pc := 71) hx hb hts hinX4 hown hz 0 rfl rfl 11 (by decide) L119 rfl rfl dX4_readNumber_71 ?_
            refine z_cald (x := tx q) (pc := 74) hx hb hz 5 rfl q rfl (by have := nx_lt c_56; omega) (by decide) rfl dX4_readNumber_74 ?_
            refine lv_iadd (pc := 75) hx hb dX4_readNumber_75 ?_
            refine lv_bipush (v := 48) (pc := 76) hx hb dX4_readNumber_76 (by decide) ?_
            refine lv_isub (pc := 78) hx hb dX4_readNumber_78 ?_
            refine lv_iload_n (pc := 79) hx hb dX4_readNumber_79 rfl (lv_at hl 2 rfl) ?_
            refine lv_icmp_gt (pc := 80) (tgt := 120) hx hb dX4_readNumber_80 (by decide) (fun c_80 => ?_) (fun c_80 => ?_)
            · refine lv_iconst (v := 1) (pc := 120) hx hb dX4_readNumber_120 (by decide) ?_
              exact z_zret (pc := 121) hx hb hr hlk hQ hz rfl dX4_readNumber_121 (by simp only [rdNum, if_neg c_10]) (by simp only [rdNum, if_neg c_10, hR, rnL, if_neg c_45, if_neg c_56, if_pos c_80])
            · refine lv_aload_n (pc := 83) hx hb dX4_readNumber_83 rfl (lv_at hl 0 rfl) ?_
              refine lv_bipush (v := 10) (pc := 84) hx hb dX4_readNumber_84 (by decide) ?_
              refine lv_aload_n (pc := 86) hx hb dX4_readNumber_86 rfl (lv_at hl 0 rfl) ?_
              refine z_get (own := RX4) (ref := "CupFountainModel") (C := RX4) (T := TX4) (N := 17) (ci := 4) (v := .int n) (pc := 87) hx hb hts hinX4 hown hz 0 rfl rfl 14 (by decide) L129 rfl rfl dX4_readNumber_87 ?_
              refine lv_imul (pc := 90) hx hb dX4_readNumber_90 ?_
              refine lv_aload_n (pc := 91) hx hb dX4_readNumber_91 rfl (lv_at hl 0 rfl) ?_
              refine z_get (own := RX4) (ref := "CupFountainModel") (C := RX4) (T := TX4) (N := 17) (ci := 4) (v := .ref (a 5)) (pc := 92) hx hb hts hinX4 hown hz 0 rfl rfl 6 (by decide) L22 rfl rfl dX4_readNumber_92 ?_
              refine lv_aload_n (pc := 95) hx hb dX4_readNumber_95 rfl (lv_at hl 0 rfl) ?_
              refine z_get (own := RX4) (ref := "CupFountainModel") (C := RX4) (T := TX4) (N := 17) (ci := 4) (v := .int (nI q)) (pc := 96) hx hb hts hinX4 hown hz 0 rfl rfl 11 (by decide) L119 rfl rfl dX4_readNumber_96 ?_
              refine z_cald (x := tx q) (pc := 99) hx hb hz 5 rfl q rfl (by have := nx_lt c_56; omega) (by decide) rfl dX4_readNumber_99 ?_
              refine lv_iadd (pc := 100) hx hb dX4_readNumber_100 ?_
              refine lv_bipush (v := 48) (pc := 101) hx hb dX4_readNumber_101 (by decide) ?_
              refine lv_isub (pc := 103) hx hb dX4_readNumber_103 ?_
              refine z_put (own := RX4) (ref := "CupFountainModel") (C := RX4) (T := TX4) (N := 17) (ci := 4) (v := .int (((10 * n) + (tx q)) - 48)) (ws1 := mm ca a (fS f (q, s.2.1, ((10 * n) + (tx q)) - 48) lt dn er) h c hi sn be tx ti) (pc := 104) hx hb hts hinX4 tyX4 tyX4_ok nmX4 hown hz 0 rfl rfl 14 (by decide) L129 rfl rfl rfl rfl (Nat.le_of_ble_eq_true rfl) rfl dX4_readNumber_104 (fun H locs hz => ?_)
              refine lv_aload_n (pc := 107) hx hb dX4_readNumber_107 rfl (lv_at hl 0 rfl) ?_
              refine lv_dup (pc := 108) hx hb dX4_readNumber_108 rfl ?_
              refine z_get (own := RX4) (ref := "CupFountainModel") (C := RX4) (T := TX4) (N := 17) (ci := 4) (v := .int (nI q)) (pc := 109) hx hb hts hinX4 hown hz 0 rfl rfl 11 (by decide) L119 rfl rfl dX4_readNumber_109 ?_
              refine lv_iconst (v := 1) (pc := 112) hx hb dX4_readNumber_112 (by decide) ?_
              refine lv_iadd (pc := 113) hx hb dX4_readNumber_113 ?_
              refine z_top (y := nI (q + 1)) (nI_1 _) ?_
              refine z_put (own := RX4) (ref := "CupFountainModel") (C := RX4) (T := TX4) (N := 17) (ci := 4) (v := .int (nI (q + 1))) (ws1 := mm ca a (fS f (q + 1, s.2.1, ((10 * n) + (tx q)) - 48) lt dn er) h c hi sn be tx ti) (pc := 114) hx hb hts hinX4 tyX4 tyX4_ok nmX4 hown hz 0 rfl rfl 11 (by decide) L119 rfl rfl rfl rfl (Nat.le_of_ble_eq_true rfl) rfl dX4_readNumber_114 (fun H locs hz => ?_)
              refine lv_goto (tgt := 41) (pc := 117) hx hb dX4_readNumber_117 (by decide) ?_
              exact ih (q + 1) (by omega) (10 * n + tx q - 48) _ _ _ hz (lv_sub hl [0, 1, 2] rfl) (hR.trans (by rw [rnL, if_neg c_45, if_neg c_56, if_neg c_80]))
    exact loop1 (60 - s.1) (s.1 + 1) (by omega) (tx s.1 - 48) _ _ _ hz (lv_sub hl [0, 1, 2] rfl) rfl
  · refine lv_iconst (v := 0) (pc := 13) hx hb dX4_readNumber_13 (by decide) ?_
    exact z_zret (pc := 14) hx hb hr hlk hQ hz rfl dX4_readNumber_14 (by simp only [rdNum, if_pos c_10]) (by simp only [rdNum, if_pos c_10])

def rm_X4_readThing : Room := { frames := 3, cells := 0, slots := 0, locals := 66 }
set_option maxRecDepth 20000 in
theorem hdV_X4_readThing : yX4_readThing.cls = RX4 ∧ yX4_readThing.cls ≠ "java/lang/invoke/MethodHandle" ∧ yX4_readThing.cls ≠ "java/lang/invoke/VarHandle" ∧ (parseMethodDescriptor yX4_readThing.desc).map (fun d => d.parameters.length) = some 0 := by decide +kernel
set_option maxHeartbeats 4000000 in
set_option maxRecDepth 100000 in
theorem k_X4_readThing (l : Launch) (G : va_G) (ca : Nat → ClassId) (a : Nat → Nat) (f h : Nat → Int32) (c : Nat → Nat → Int32) (hi sn be tx ti : Nat → Int32) (s : PS) (lt dn er : Int32) (ln : Nat) (hln : ln ≤ 60) (hf7 : f 7 = nI ln) (hs : s.1 < 900) : Zc l G ca yX4_readThing (zws yX4_readThing cX4_readThing 1 (some .boolean)) rm_X4_readThing [.ref (a 0)] (mm ca a (fS f s lt dn er) h c hi sn be tx ti) (some (.int (rdThing tx ln s).1)) (mm ca a (fS f ((rdThing tx ln s).2) (ltF tx ln s.1) dn er) h c hi sn be tx ti) := by
  refine Zc.of (cc := cX4_readThing) (maxL := 1) (ret := (some .boolean)) (by decide) rfl (Nat.le_of_ble_eq_true rfl) ?_
  intro pg ev s0 mt below meth cd A args Q ls hx hb hr hml hown hts hlk hQ hl hz
  have L116 : (Cond.fieldLink RX4 116 "CupFountainModel" "length" "I").before args s0 = true := hts _ (zsub _ wq_16_1)
  have L119 : (Cond.fieldLink RX4 119 "CupFountainModel" "place" "I").before args s0 = true := hts _ (zsub _ wq_18_19)
  have L132 : (Cond.fieldLink RX4 132 "CupFountainModel" "letter" "I").before args s0 = true := hts _ (zsub _ wq_19_7)
  have L22 : (Cond.fieldLink RX4 22 "CupFountainModel" "text" "[C").before args s0 = true := hts _ (zsub _ wq_4_9)
  have hinX4 : ∀ w ∈ wsX40, w ∈ zws yX4_readThing cX4_readThing 1 (some .boolean) := fun w h => zsub w (wl_wsX40 w h)
  have hl : lv_has ls 1 [(0, .ref (a 0))] := hl
  refine lv_aload_n (pc := 0) hx hb dX4_readThing_0 rfl (lv_at hl 0 rfl) ?_
  refine lv_aload_n (pc := 1) hx hb dX4_readThing_1 rfl (lv_at hl 0 rfl) ?_
  refine z_get (own := RX4) (ref := "CupFountainModel") (C := RX4) (T := TX4) (N := 17) (ci := 4) (v := .int (nI s.1)) (pc := 2) hx hb hts hinX4 hown hz 0 rfl rfl 11 (by decide) L119 rfl rfl dX4_readThing_2 ?_
  refine lv_aload_n (pc := 5) hx hb dX4_readThing_5 rfl (lv_at hl 0 rfl) ?_
  refine z_get (own := RX4) (ref := "CupFountainModel") (C := RX4) (T := TX4) (N := 17) (ci := 4) (v := .int (f 7)) (pc := 6) hx hb hts hinX4 hown hz 0 rfl rfl 7 (by decide) L116 rfl rfl dX4_readThing_6 ?_
  have J1 : ∀ (H : Heap) (locs : List Loc) (ls : Array Slot), zw G ca A s0.heap s0 (mm ca a (fS f s lt dn er) h c hi sn be tx ti) H locs → lv_has ls 1 [(0, .ref (a 0))] → W pg l ev rm_X4_readThing s0 mt args below meth cd H locs 0 0 Q (F0 mt 25 ls [.int (ltF tx ln s.1), .ref (a 0)]) := by
    intro H locs ls hz hl
    refine z_put (own := RX4) (ref := "CupFountainModel") (C := RX4) (T := TX4) (N := 17) (ci := 4) (v := .int (ltF tx ln s.1)) (ws1 := mm ca a (fS f s (ltF tx ln s.1) dn er) h c hi sn be tx ti) (pc := 25) hx hb hts hinX4 tyX4 tyX4_ok nmX4 hown hz 0 rfl rfl 12 (by decide) L132 rfl rfl rfl rfl (Nat.le_of_ble_eq_true rfl) rfl dX4_readThing_25 (fun H locs hz => ?_)
    refine lv_aload_n (pc := 28) hx hb dX4_readThing_28 rfl (lv_at hl 0 rfl) ?_
    refine lv_dup (pc := 29) hx hb dX4_readThing_29 rfl ?_
    refine z_get (own := RX4) (ref := "CupFountainModel") (C := RX4) (T := TX4) (N := 17) (ci := 4) (v := .int (nI s.1)) (pc := 30) hx hb hts hinX4 hown hz 0 rfl rfl 11 (by decide) L119 rfl rfl dX4_readThing_30 ?_
    refine lv_iconst (v := 1) (pc := 33) hx hb dX4_readThing_33 (by decide) ?_
    refine lv_iadd (pc := 34) hx hb dX4_readThing_34 ?_
    refine z_top (y := nI (s.1 + 1)) (nI_1 _) ?_
    refine z_put (own := RX4) (ref := "CupFountainModel") (C := RX4) (T := TX4) (N := 17) (ci := 4) (v := .int (nI (s.1 + 1))) (ws1 := mm ca a (fS f (s.1 + 1, s.2.1, s.2.2) (ltF tx ln s.1) dn er) h c hi sn be tx ti) (pc := 35) hx hb hts hinX4 tyX4 tyX4_ok nmX4 hown hz 0 rfl rfl 11 (by decide) L119 rfl rfl rfl rfl (Nat.le_of_ble_eq_true rfl) rfl dX4_readThing_35 (fun H locs hz => ?_)
    refine lv_aload_n (pc := 38) hx hb dX4_readThing_38 rfl (lv_at hl 0 rfl) ?_
    refine z_get (own := RX4) (ref := "CupFountainModel") (C := RX4) (T := TX4) (N := 17) (ci := 4) (v := .int (ltF tx ln s.1)) (pc := 39) hx hb hts hinX4 hown hz 0 rfl rfl 12 (by decide) L132 rfl rfl dX4_readThing_39 ?_
    by_cases h_46 : ltF tx ln s.1 = 46
    · refine lv_lookup (off := 152) (tgt := 194) (pc := 42) hx hb dX4_readThing_42 (by decide) (by rw [h_46]; decide) (by decide) ?_
      refine lv_aload_n (pc := 194) hx hb dX4_readThing_194 rfl (lv_at hl 0 rfl) ?_
      refine lv_iconst (v := 1) (pc := 195) hx hb dX4_readThing_195 (by decide) ?_
      refine lv_bipush (v := 99) (pc := 196) hx hb dX4_readThing_196 (by decide) ?_
      refine z_runV (pc := 198) (As := [.int 1, .int 99]) (rest := []) (ws1 := mm ca a (fS f ((rdNum tx ln 1 99 (s.1 + 1, s.2.1, s.2.2)).2) (ltF tx ln s.1) dn er) h c hi sn be tx ti) ⟨hx, hb, hml, hown, hts⟩ (k_X4_readNumber l G ca a f h c hi sn be tx ti (s.1 + 1, s.2.1, s.2.2) (ltF tx ln s.1) dn er ln hln hf7 (show s.1 + 1 < 1000 by omega) 1 99) (cwV 2 hts (zgoodV zsub wq_19_21 wq_19_22 wq_19_23 wq_1_5 wq_20_0) rfl rfl rfl hdV_X4_readNumber ⟨Nat.le_of_ble_eq_true rfl, Nat.le_of_ble_eq_true rfl⟩) hz [] zp_all zp_all' rfl rfl rfl hl.1 (Nat.le_of_ble_eq_true rfl) (st1 := [.int ((rdNum tx ln 1 99 (s.1 + 1, s.2.1, s.2.2)).1)]) rfl dX4_readThing_198 ⟨Nat.zero_le _, Nat.zero_le _⟩ (fun H locs hz => ?_)
      exact z_zret (pc := 201) hx hb hr hlk hQ hz (rdNum_n _ _ _ _ _) dX4_readThing_201 (by simp only [rdThing, rdBody, sq, fin, Nat.add_sub_cancel, if_pos h_46]) (by simp only [rdThing, rdBody, sq, fin, Nat.add_sub_cancel, if_pos h_46])
    by_cases h_102 : ltF tx ln s.1 = 102
    · refine lv_lookup (off := 115) (tgt := 157) (pc := 42) hx hb dX4_readThing_42 (by decide) (by rw [h_102]; decide) (by decide) ?_
      refine lv_aload_n (pc := 157) hx hb dX4_readThing_157 rfl (lv_at hl 0 rfl) ?_
      refine z_runV (pc := 158) (As := []) (rest := []) (ws1 := mm ca a (fS f ((rdCup tx ln (s.1 + 1, s.2.1, s.2.2)).2) (ltF tx ln s.1) dn er) h c hi sn be tx ti) ⟨hx, hb, hml, hown, hts⟩ (k_X4_readCup l G ca a f h c hi sn be tx ti (s.1 + 1, s.2.1, s.2.2) (ltF tx ln s.1) dn er ln hln hf7 (show s.1 + 1 < 1000 by omega)) (cwV 0 hts (zgoodV zsub wq_19_8 wq_19_9 wq_19_10 wq_1_5 wq_19_11) rfl rfl rfl hdV_X4_readCup ⟨Nat.le_of_ble_eq_true rfl, Nat.le_of_ble_eq_true rfl⟩) hz [] zp_all zp_all' rfl rfl rfl hl.1 (Nat.le_of_ble_eq_true rfl) (st1 := [.int ((rdCup tx ln (s.1 + 1, s.2.1, s.2.2)).1)]) rfl dX4_readThing_158 ⟨Nat.zero_le _, Nat.zero_le _⟩ (fun H locs hz => ?_)
      refine lv_if_eq (pc := 161) (tgt := 187) hx hb dX4_readThing_161 (by decide) (fun c_161 => ?_) (fun c_161 => ?_)
      · refine lv_iconst (v := 0) (pc := 187) hx hb dX4_readThing_187 (by decide) ?_
        exact z_zret (pc := 188) hx hb hr hlk hQ hz rfl dX4_readThing_188 (by simp only [rdThing, rdBody, sq, fin, Nat.add_sub_cancel, if_neg h_46, if_pos h_102, if_pos c_161]) (by simp only [rdThing, rdBody, sq, fin, Nat.add_sub_cancel, if_neg h_46, if_pos h_102, if_pos c_161])
      · refine lv_aload_n (pc := 164) hx hb dX4_readThing_164 rfl (lv_at hl 0 rfl) ?_
        refine lv_bipush (v := 43) (pc := 165) hx hb dX4_readThing_165 (by decide) ?_
        refine z_runV (pc := 167) (As := [.int 43]) (rest := []) (ws1 := mm ca a (fS f ((rdChr tx ln 43 ((rdCup tx ln (s.1 + 1, s.2.1, s.2.2)).2)).2) (ltF tx ln s.1) dn er) h c hi sn be tx ti) ⟨hx, hb, hml, hown, hts⟩ (k_X4_takes l G ca a f h c hi sn be tx ti ((rdCup tx ln (s.1 + 1, s.2.1, s.2.2)).2) (ltF tx ln s.1) dn er ln hln hf7 (show ((rdCup tx ln (s.1 + 1, s.2.1, s.2.2)).2).1 < 1000 by have g0 := rdCup_le (tx := tx) (ln := ln) (s := (s.1 + 1, s.2.1, s.2.2)); simp only at g0; omega) 43) (cwV 1 hts (zgoodV zsub wq_19_17 wq_19_18 wq_19_19 wq_1_5 wq_19_20) rfl rfl rfl hdV_X4_takes ⟨Nat.le_of_ble_eq_true rfl, Nat.le_of_ble_eq_true rfl⟩) hz [] zp_all zp_all' rfl rfl rfl hl.1 (Nat.le_of_ble_eq_true rfl) (st1 := [.int ((rdChr tx ln 43 ((rdCup tx ln (s.1 + 1, s.2.1, s.2.2)).2)).1)]) rfl dX4_readThing_167 ⟨Nat.zero_le _, Nat.zero_le _⟩ (fun H locs hz => ?_)
        refine lv_if_eq (pc := 170) (tgt := 187) hx hb dX4_readThing_170 (by decide) (fun c_170 => ?_) (fun c_170 => ?_)
        · refine lv_iconst (v := 0) (pc := 187) hx hb dX4_readThing_187 (by decide) ?_
          exact z_zret (pc := 188) hx hb hr hlk hQ hz rfl dX4_readThing_188 (by simp only [rdThing, rdBody, sq, fin, Nat.add_sub_cancel, if_neg h_46, if_pos h_102, if_neg c_161, if_pos c_170]) (by simp only [rdThing, rdBody, sq, fin, Nat.add_sub_cancel, if_neg h_46, if_pos h_102, if_neg c_161, if_pos c_170])
        · refine lv_aload_n (pc := 173) hx hb dX4_readThing_173 rfl (lv_at hl 0 rfl) ?_
          refine lv_iconst (v := 1) (pc := 174) hx hb dX4_readThing_174 (by decide) ?_
          refine lv_bipush (v := 99) (pc := 175) hx hb dX4_readThing_175 (by decide) ?_
          refine z_runV (pc := 177) (As := [.int 1, .int 99]) (rest := []) (ws1 := mm ca a (fS f ((rdNum tx ln 1 99 ((rdChr tx ln 43 ((rdCup tx ln (s.1 + 1, s.2.1, s.2.2)).2)).2)).2) (ltF tx ln s.1) dn er) h c hi sn be tx ti) ⟨hx, hb, hml, hown, hts⟩ (k_X4_readNumber l G ca a f h c hi sn be tx ti ((rdChr tx ln 43 ((rdCup tx ln (s.1 + 1, s.2.1, s.2.2)).2)).2) (ltF tx ln s.1) dn er ln hln hf7 (show ((rdChr tx ln 43 ((rdCup tx ln (s.1 + 1, s.2.1, s.2.2)).2)).2).1 < 1000 by have g0 := rdCup_le (tx := tx) (ln := ln) (s := (s.1 + 1, s.2.1, s.2.2)); have g1 := rdChr_le (tx := tx) (ln := ln) (code := 43) (s := ((rdCup tx ln (s.1 + 1, s.2.1, s.2.2)).2)); simp only at g0 g1; omega) 1 99) (cwV 2 hts (zgoodV zsub wq_19_21 wq_19_22 wq_19_23 wq_1_5 wq_20_0) rfl rfl rfl hdV_X4_readNumber ⟨Nat.le_of_ble_eq_true rfl, Nat.le_of_ble_eq_true rfl⟩) hz [] zp_all zp_all' rfl rfl rfl hl.1 (Nat.le_of_ble_eq_true rfl) (st1 := [.int ((rdNum tx ln 1 99 ((rdChr tx ln 43 ((rdCup tx ln (s.1 + 1, s.2.1, s.2.2)).2)).2)).1)]) rfl dX4_readThing_177 ⟨Nat.zero_le _, Nat.zero_le _⟩ (fun H locs hz => ?_)
          refine lv_if_eq (pc := 180) (tgt := 187) hx hb dX4_readThing_180 (by decide) (fun c_180 => ?_) (fun c_180 => ?_)
          · refine lv_iconst (v := 0) (pc := 187) hx hb dX4_readThing_187 (by decide) ?_
            exact z_zret (pc := 188) hx hb hr hlk hQ hz rfl dX4_readThing_188 (by simp only [rdThing, rdBody, sq, fin, Nat.add_sub_cancel, if_neg h_46, if_pos h_102, if_neg c_161, if_neg c_170, if_pos c_180]) (by simp only [rdThing, rdBody, sq, fin, Nat.add_sub_cancel, if_neg h_46, if_pos h_102, if_neg c_161, if_neg c_170, if_pos c_180])
          · refine lv_iconst (v := 1) (pc := 183) hx hb dX4_readThing_183 (by decide) ?_
            refine lv_goto (tgt := 188) (pc := 184) hx hb dX4_readThing_184 (by decide) ?_
            exact z_zret (pc := 188) hx hb hr hlk hQ hz rfl dX4_readThing_188 (by simp only [rdThing, rdBody, sq, fin, Nat.add_sub_cancel, if_neg h_46, if_pos h_102, if_neg c_161, if_neg c_170, if_neg c_180]) (by simp only [rdThing, rdBody, sq, fin, Nat.add_sub_cancel, if_neg h_46, if_pos h_102, if_neg c_161, if_neg c_170, if_neg c_180])
    by_cases h_103 : ltF tx ln s.1 = 103
    · refine lv_lookup (off := 147) (tgt := 189) (pc := 42) hx hb dX4_readThing_42 (by decide) (by rw [h_103]; decide) (by decide) ?_
      refine lv_aload_n (pc := 189) hx hb dX4_readThing_189 rfl (lv_at hl 0 rfl) ?_
      refine z_runV (pc := 190) (As := []) (rest := []) (ws1 := mm ca a (fS f ((rdCup tx ln (s.1 + 1, s.2.1, s.2.2)).2) (ltF tx ln s.1) dn er) h c hi sn be tx ti) ⟨hx, hb, hml, hown, hts⟩ (k_X4_readCup l G ca a f h c hi sn be tx ti (s.1 + 1, s.2.1, s.2.2) (ltF tx ln s.1) dn er ln hln hf7 (show s.1 + 1 < 1000 by omega)) (cwV 0 hts (zgoodV zsub wq_19_8 wq_19_9 wq_19_10 wq_1_5 wq_19_11) rfl rfl rfl hdV_X4_readCup ⟨Nat.le_of_ble_eq_true rfl, Nat.le_of_ble_eq_true rfl⟩) hz [] zp_all zp_all' rfl rfl rfl hl.1 (Nat.le_of_ble_eq_true rfl) (st1 := [.int ((rdCup tx ln (s.1 + 1, s.2.1, s.2.2)).1)]) rfl dX4_readThing_190 ⟨Nat.zero_le _, Nat.zero_le _⟩ (fun H locs hz => ?_)
      exact z_zret (pc := 193) hx hb hr hlk hQ hz (nxF_n _ _ _ _ _) dX4_readThing_193 (by simp only [rdThing, rdBody, sq, fin, Nat.add_sub_cancel, if_neg h_46, if_neg h_102, if_pos h_103]) (by simp only [rdThing, rdBody, sq, fin, Nat.add_sub_cancel, if_neg h_46, if_neg h_102, if_pos h_103])
    by_cases h_104 : ltF tx ln s.1 = 104
    · refine lv_lookup (off := 50) (tgt := 92) (pc := 42) hx hb dX4_readThing_42 (by decide) (by rw [h_104]; decide) (by decide) ?_
      refine lv_aload_n (pc := 92) hx hb dX4_readThing_92 rfl (lv_at hl 0 rfl) ?_
      refine z_runV (pc := 93) (As := []) (rest := []) (ws1 := mm ca a (fS f ((rdCup tx ln (s.1 + 1, s.2.1, s.2.2)).2) (ltF tx ln s.1) dn er) h c hi sn be tx ti) ⟨hx, hb, hml, hown, hts⟩ (k_X4_readCup l G ca a f h c hi sn be tx ti (s.1 + 1, s.2.1, s.2.2) (ltF tx ln s.1) dn er ln hln hf7 (show s.1 + 1 < 1000 by omega)) (cwV 0 hts (zgoodV zsub wq_19_8 wq_19_9 wq_19_10 wq_1_5 wq_19_11) rfl rfl rfl hdV_X4_readCup ⟨Nat.le_of_ble_eq_true rfl, Nat.le_of_ble_eq_true rfl⟩) hz [] zp_all zp_all' rfl rfl rfl hl.1 (Nat.le_of_ble_eq_true rfl) (st1 := [.int ((rdCup tx ln (s.1 + 1, s.2.1, s.2.2)).1)]) rfl dX4_readThing_93 ⟨Nat.zero_le _, Nat.zero_le _⟩ (fun H locs hz => ?_)
      refine lv_if_eq (pc := 96) (tgt := 123) hx hb dX4_readThing_96 (by decide) (fun c_96 => ?_) (fun c_96 => ?_)
      · refine lv_iconst (v := 0) (pc := 123) hx hb dX4_readThing_123 (by decide) ?_
        exact z_zret (pc := 124) hx hb hr hlk hQ hz rfl dX4_readThing_124 (by simp only [rdThing, rdBody, sq, fin, Nat.add_sub_cancel, if_neg h_46, if_neg h_102, if_neg h_103, if_pos h_104, if_pos c_96]) (by simp only [rdThing, rdBody, sq, fin, Nat.add_sub_cancel, if_neg h_46, if_neg h_102, if_neg h_103, if_pos h_104, if_pos c_96])
      · refine lv_aload_n (pc := 99) hx hb dX4_readThing_99 rfl (lv_at hl 0 rfl) ?_
        refine lv_bipush (v := 64) (pc := 100) hx hb dX4_readThing_100 (by decide) ?_
        refine z_runV (pc := 102) (As := [.int 64]) (rest := []) (ws1 := mm ca a (fS f ((rdChr tx ln 64 ((rdCup tx ln (s.1 + 1, s.2.1, s.2.2)).2)).2) (ltF tx ln s.1) dn er) h c hi sn be tx ti) ⟨hx, hb, hml, hown, hts⟩ (k_X4_takes l G ca a f h c hi sn be tx ti ((rdCup tx ln (s.1 + 1, s.2.1, s.2.2)).2) (ltF tx ln s.1) dn er ln hln hf7 (show ((rdCup tx ln (s.1 + 1, s.2.1, s.2.2)).2).1 < 1000 by have g0 := rdCup_le (tx := tx) (ln := ln) (s := (s.1 + 1, s.2.1, s.2.2)); simp only at g0; omega) 64) (cwV 1 hts (zgoodV zsub wq_19_17 wq_19_18 wq_19_19 wq_1_5 wq_19_20) rfl rfl rfl hdV_X4_takes ⟨Nat.le_of_ble_eq_true rfl, Nat.le_of_ble_eq_true rfl⟩) hz [] zp_all zp_all' rfl rfl rfl hl.1 (Nat.le_of_ble_eq_true rfl) (st1 := [.int ((rdChr tx ln 64 ((rdCup tx ln (s.1 + 1, s.2.1, s.2.2)).2)).1)]) rfl dX4_readThing_102 ⟨Nat.zero_le _, Nat.zero_le _⟩ (fun H locs hz => ?_)
        refine lv_if_eq (pc := 105) (tgt := 123) hx hb dX4_readThing_105 (by decide) (fun c_105 => ?_) (fun c_105 => ?_)
        · refine lv_iconst (v := 0) (pc := 123) hx hb dX4_readThing_123 (by decide) ?_
          exact z_zret (pc := 124) hx hb hr hlk hQ hz rfl dX4_readThing_124 (by simp only [rdThing, rdBody, sq, fin, Nat.add_sub_cancel, if_neg h_46, if_neg h_102, if_neg h_103, if_pos h_104, if_neg c_96, if_pos c_105]) (by simp only [rdThing, rdBody, sq, fin, Nat.add_sub_cancel, if_neg h_46, if_neg h_102, if_neg h_103, if_pos h_104, if_neg c_96, if_pos c_105])
        · refine lv_aload_n (pc := 108) hx hb dX4_readThing_108 rfl (lv_at hl 0 rfl) ?_
          refine lv_iconst (v := 0) (pc := 109) hx hb dX4_readThing_109 (by decide) ?_
          refine lv_sipush (v := 239) (pc := 110) hx hb dX4_readThing_110 (by decide) ?_
          refine z_runV (pc := 113) (As := [.int 0, .int 239]) (rest := []) (ws1 := mm ca a (fS f ((rdNum tx ln 0 239 ((rdChr tx ln 64 ((rdCup tx ln (s.1 + 1, s.2.1, s.2.2)).2)).2)).2) (ltF tx ln s.1) dn er) h c hi sn be tx ti) ⟨hx, hb, hml, hown, hts⟩ (k_X4_readNumber l G ca a f h c hi sn be tx ti ((rdChr tx ln 64 ((rdCup tx ln (s.1 + 1, s.2.1, s.2.2)).2)).2) (ltF tx ln s.1) dn er ln hln hf7 (show ((rdChr tx ln 64 ((rdCup tx ln (s.1 + 1, s.2.1, s.2.2)).2)).2).1 < 1000 by have g0 := rdCup_le (tx := tx) (ln := ln) (s := (s.1 + 1, s.2.1, s.2.2)); have g1 := rdChr_le (tx := tx) (ln := ln) (code := 64) (s := ((rdCup tx ln (s.1 + 1, s.2.1, s.2.2)).2)); simp only at g0 g1; omega) 0 239) (cwV 2 hts (zgoodV zsub wq_19_21 wq_19_22 wq_19_23 wq_1_5 wq_20_0) rfl rfl rfl hdV_X4_readNumber ⟨Nat.le_of_ble_eq_true rfl, Nat.le_of_ble_eq_true rfl⟩) hz [] zp_all zp_all' rfl rfl rfl hl.1 (Nat.le_of_ble_eq_true rfl) (st1 := [.int ((rdNum tx ln 0 239 ((rdChr tx ln 64 ((rdCup tx ln (s.1 + 1, s.2.1, s.2.2)).2)).2)).1)]) rfl dX4_readThing_113 ⟨Nat.zero_le _, Nat.zero_le _⟩ (fun H locs hz => ?_)
          refine lv_if_eq (pc := 116) (tgt := 123) hx hb dX4_readThing_116 (by decide) (fun c_116 => ?_) (fun c_116 => ?_)
          · refine lv_iconst (v := 0) (pc := 123) hx hb dX4_readThing_123 (by decide) ?_
            exact z_zret (pc := 124) hx hb hr hlk hQ hz rfl dX4_readThing_124 (by simp only [rdThing, rdBody, sq, fin, Nat.add_sub_cancel, if_neg h_46, if_neg h_102, if_neg h_103, if_pos h_104, if_neg c_96, if_neg c_105, if_pos c_116]) (by simp only [rdThing, rdBody, sq, fin, Nat.add_sub_cancel, if_neg h_46, if_neg h_102, if_neg h_103, if_pos h_104, if_neg c_96, if_neg c_105, if_pos c_116])
          · refine lv_iconst (v := 1) (pc := 119) hx hb dX4_readThing_119 (by decide) ?_
            refine lv_goto (tgt := 124) (pc := 120) hx hb dX4_readThing_120 (by decide) ?_
            exact z_zret (pc := 124) hx hb hr hlk hQ hz rfl dX4_readThing_124 (by simp only [rdThing, rdBody, sq, fin, Nat.add_sub_cancel, if_neg h_46, if_neg h_102, if_neg h_103, if_pos h_104, if_neg c_96, if_neg c_105, if_neg c_116]) (by simp only [rdThing, rdBody, sq, fin, Nat.add_sub_cancel, if_neg h_46, if_neg h_102, if_neg h_103, if_pos h_104, if_neg c_96, if_neg c_105, if_neg c_116])
    by_cases h_115 : ltF tx ln s.1 = 115
    · refine lv_lookup (off := 83) (tgt := 125) (pc := 42) hx hb dX4_readThing_42 (by decide) (by rw [h_115]; decide) (by decide) ?_
      refine lv_aload_n (pc := 125) hx hb dX4_readThing_125 rfl (lv_at hl 0 rfl) ?_
      refine z_runV (pc := 126) (As := []) (rest := []) (ws1 := mm ca a (fS f ((rdCup tx ln (s.1 + 1, s.2.1, s.2.2)).2) (ltF tx ln s.1) dn er) h c hi sn be tx ti) ⟨hx, hb, hml, hown, hts⟩ (k_X4_readCup l G ca a f h c hi sn be tx ti (s.1 + 1, s.2.1, s.2.2) (ltF tx ln s.1) dn er ln hln hf7 (show s.1 + 1 < 1000 by omega)) (cwV 0 hts (zgoodV zsub wq_19_8 wq_19_9 wq_19_10 wq_1_5 wq_19_11) rfl rfl rfl hdV_X4_readCup ⟨Nat.le_of_ble_eq_true rfl, Nat.le_of_ble_eq_true rfl⟩) hz [] zp_all zp_all' rfl rfl rfl hl.1 (Nat.le_of_ble_eq_true rfl) (st1 := [.int ((rdCup tx ln (s.1 + 1, s.2.1, s.2.2)).1)]) rfl dX4_readThing_126 ⟨Nat.zero_le _, Nat.zero_le _⟩ (fun H locs hz => ?_)
      refine lv_if_eq (pc := 129) (tgt := 155) hx hb dX4_readThing_129 (by decide) (fun c_129 => ?_) (fun c_129 => ?_)
      · refine lv_iconst (v := 0) (pc := 155) hx hb dX4_readThing_155 (by decide) ?_
        exact z_zret (pc := 156) hx hb hr hlk hQ hz rfl dX4_readThing_156 (by simp only [rdThing, rdBody, sq, fin, Nat.add_sub_cancel, if_neg h_46, if_neg h_102, if_neg h_103, if_neg h_104, if_pos h_115, if_pos c_129]) (by simp only [rdThing, rdBody, sq, fin, Nat.add_sub_cancel, if_neg h_46, if_neg h_102, if_neg h_103, if_neg h_104, if_pos h_115, if_pos c_129])
      · refine lv_aload_n (pc := 132) hx hb dX4_readThing_132 rfl (lv_at hl 0 rfl) ?_
        refine lv_bipush (v := 61) (pc := 133) hx hb dX4_readThing_133 (by decide) ?_
        refine z_runV (pc := 135) (As := [.int 61]) (rest := []) (ws1 := mm ca a (fS f ((rdChr tx ln 61 ((rdCup tx ln (s.1 + 1, s.2.1, s.2.2)).2)).2) (ltF tx ln s.1) dn er) h c hi sn be tx ti) ⟨hx, hb, hml, hown, hts⟩ (k_X4_takes l G ca a f h c hi sn be tx ti ((rdCup tx ln (s.1 + 1, s.2.1, s.2.2)).2) (ltF tx ln s.1) dn er ln hln hf7 (show ((rdCup tx ln (s.1 + 1, s.2.1, s.2.2)).2).1 < 1000 by have g0 := rdCup_le (tx := tx) (ln := ln) (s := (s.1 + 1, s.2.1, s.2.2)); simp only at g0; omega) 61) (cwV 1 hts (zgoodV zsub wq_19_17 wq_19_18 wq_19_19 wq_1_5 wq_19_20) rfl rfl rfl hdV_X4_takes ⟨Nat.le_of_ble_eq_true rfl, Nat.le_of_ble_eq_true rfl⟩) hz [] zp_all zp_all' rfl rfl rfl hl.1 (Nat.le_of_ble_eq_true rfl) (st1 := [.int ((rdChr tx ln 61 ((rdCup tx ln (s.1 + 1, s.2.1, s.2.2)).2)).1)]) rfl dX4_readThing_135 ⟨Nat.zero_le _, Nat.zero_le _⟩ (fun H locs hz => ?_)
        refine lv_if_eq (pc := 138) (tgt := 155) hx hb dX4_readThing_138 (by decide) (fun c_138 => ?_) (fun c_138 => ?_)
        · refine lv_iconst (v := 0) (pc := 155) hx hb dX4_readThing_155 (by decide) ?_
          exact z_zret (pc := 156) hx hb hr hlk hQ hz rfl dX4_readThing_156 (by simp only [rdThing, rdBody, sq, fin, Nat.add_sub_cancel, if_neg h_46, if_neg h_102, if_neg h_103, if_neg h_104, if_pos h_115, if_neg c_129, if_pos c_138]) (by simp only [rdThing, rdBody, sq, fin, Nat.add_sub_cancel, if_neg h_46, if_neg h_102, if_neg h_103, if_neg h_104, if_pos h_115, if_neg c_129, if_pos c_138])
        · refine lv_aload_n (pc := 141) hx hb dX4_readThing_141 rfl (lv_at hl 0 rfl) ?_
          refine lv_iconst (v := 1) (pc := 142) hx hb dX4_readThing_142 (by decide) ?_
          refine lv_bipush (v := 99) (pc := 143) hx hb dX4_readThing_143 (by decide) ?_
          refine z_runV (pc := 145) (As := [.int 1, .int 99]) (rest := []) (ws1 := mm ca a (fS f ((rdNum tx ln 1 99 ((rdChr tx ln 61 ((rdCup tx ln (s.1 + 1, s.2.1, s.2.2)).2)).2)).2) (ltF tx ln s.1) dn er) h c hi sn be tx ti) ⟨hx, hb, hml, hown, hts⟩ (k_X4_readNumber l G ca a f h c hi sn be tx ti ((rdChr tx ln 61 ((rdCup tx ln (s.1 + 1, s.2.1, s.2.2)).2)).2) (ltF tx ln s.1) dn er ln hln hf7 (show ((rdChr tx ln 61 ((rdCup tx ln (s.1 + 1, s.2.1, s.2.2)).2)).2).1 < 1000 by have g0 := rdCup_le (tx := tx) (ln := ln) (s := (s.1 + 1, s.2.1, s.2.2)); have g1 := rdChr_le (tx := tx) (ln := ln) (code := 61) (s := ((rdCup tx ln (s.1 + 1, s.2.1, s.2.2)).2)); simp only at g0 g1; omega) 1 99) (cwV 2 hts (zgoodV zsub wq_19_21 wq_19_22 wq_19_23 wq_1_5 wq_20_0) rfl rfl rfl hdV_X4_readNumber ⟨Nat.le_of_ble_eq_true rfl, Nat.le_of_ble_eq_true rfl⟩) hz [] zp_all zp_all' rfl rfl rfl hl.1 (Nat.le_of_ble_eq_true rfl) (st1 := [.int ((rdNum tx ln 1 99 ((rdChr tx ln 61 ((rdCup tx ln (s.1 + 1, s.2.1, s.2.2)).2)).2)).1)]) rfl dX4_readThing_145 ⟨Nat.zero_le _, Nat.zero_le _⟩ (fun H locs hz => ?_)
          refine lv_if_eq (pc := 148) (tgt := 155) hx hb dX4_readThing_148 (by decide) (fun c_148 => ?_) (fun c_148 => ?_)
          · refine lv_iconst (v := 0) (pc := 155) hx hb dX4_readThing_155 (by decide) ?_
            exact z_zret (pc := 156) hx hb hr hlk hQ hz rfl dX4_readThing_156 (by simp only [rdThing, rdBody, sq, fin, Nat.add_sub_cancel, if_neg h_46, if_neg h_102, if_neg h_103, if_neg h_104, if_pos h_115, if_neg c_129, if_neg c_138, if_pos c_148]) (by simp only [rdThing, rdBody, sq, fin, Nat.add_sub_cancel, if_neg h_46, if_neg h_102, if_neg h_103, if_neg h_104, if_pos h_115, if_neg c_129, if_neg c_138, if_pos c_148])
          · refine lv_iconst (v := 1) (pc := 151) hx hb dX4_readThing_151 (by decide) ?_
            refine lv_goto (tgt := 156) (pc := 152) hx hb dX4_readThing_152 (by decide) ?_
            exact z_zret (pc := 156) hx hb hr hlk hQ hz rfl dX4_readThing_156 (by simp only [rdThing, rdBody, sq, fin, Nat.add_sub_cancel, if_neg h_46, if_neg h_102, if_neg h_103, if_neg h_104, if_pos h_115, if_neg c_129, if_neg c_138, if_neg c_148]) (by simp only [rdThing, rdBody, sq, fin, Nat.add_sub_cancel, if_neg h_46, if_neg h_102, if_neg h_103, if_neg h_104, if_pos h_115, if_neg c_129, if_neg c_138, if_neg c_148])
    refine lv_lookup (off := 160) (tgt := 202) (pc := 42) hx hb dX4_readThing_42 (by decide) ((lv_osw h_46 (k := 46) rfl).trans ((lv_osw h_102 (k := 102) rfl).trans ((lv_osw h_103 (k := 103) rfl).trans ((lv_osw h_104 (k := 104) rfl).trans ((lv_osw h_115 (k := 115) rfl).trans (rfl)))))) (by decide) ?_
    refine lv_aload_n (pc := 202) hx hb dX4_readThing_202 rfl (lv_at hl 0 rfl) ?_
    refine lv_dup (pc := 203) hx hb dX4_readThing_203 rfl ?_
    refine z_get (own := RX4) (ref := "CupFountainModel") (C := RX4) (T := TX4) (N := 17) (ci := 4) (v := .int (nI (s.1 + 1))) (pc := 204) hx hb hts hinX4 hown hz 0 rfl rfl 11 (by decide) L119 rfl rfl dX4_readThing_204 ?_
    refine lv_iconst (v := 1) (pc := 207) hx hb dX4_readThing_207 (by decide) ?_
    refine lv_isub (pc := 208) hx hb dX4_readThing_208 ?_
    refine z_top (y := nI s.1) (nI_pred _) ?_
    refine z_put (own := RX4) (ref := "CupFountainModel") (C := RX4) (T := TX4) (N := 17) (ci := 4) (v := .int (nI s.1)) (ws1 := mm ca a (fS f (s.1, s.2.1, s.2.2) (ltF tx ln s.1) dn er) h c hi sn be tx ti) (pc := 209) hx hb hts hinX4 tyX4 tyX4_ok nmX4 hown hz 0 rfl rfl 11 (by decide) L119 rfl rfl rfl rfl (Nat.le_of_ble_eq_true rfl) rfl dX4_readThing_209 (fun H locs hz => ?_)
    refine lv_iconst (v := 0) (pc := 212) hx hb dX4_readThing_212 (by decide) ?_
    exact z_zret (pc := 213) hx hb hr hlk hQ hz rfl dX4_readThing_213 (by simp only [rdThing, rdBody, sq, fin, Nat.add_sub_cancel, if_neg h_46, if_neg h_102, if_neg h_103, if_neg h_104, if_neg h_115]) (by simp only [rdThing, rdBody, sq, fin, Nat.add_sub_cancel, if_neg h_46, if_neg h_102, if_neg h_103, if_neg h_104, if_neg h_115])
  refine lv_icmp_ge (pc := 9) (tgt := 24) hx hb dX4_readThing_9 (by decide) (fun c_9 => ?_) (fun c_9 => ?_)
  · have h9 : ln ≤ s.1 := (nI_leI (by omega) (by omega)).mp (hf7 ▸ c_9)
    refine lv_iconst (v := 0) (pc := 24) hx hb dX4_readThing_24 (by decide) ?_
    exact z_top (by simp only [ltF, if_pos h9]) (J1 _ _ _ hz (lv_sub hl [0] rfl))
  · have h9 : ¬ ln ≤ s.1 := fun q => c_9 (by rw [hf7]; exact nI_le q (by omega))
    refine lv_aload_n (pc := 12) hx hb dX4_readThing_12 rfl (lv_at hl 0 rfl) ?_
    refine z_get (own := RX4) (ref := "CupFountainModel") (C := RX4) (T := TX4) (N := 17) (ci := 4) (v := .ref (a 5)) (pc := 13) hx hb hts hinX4 hown hz 0 rfl rfl 6 (by decide) L22 rfl rfl dX4_readThing_13 ?_
    refine lv_aload_n (pc := 16) hx hb dX4_readThing_16 rfl (lv_at hl 0 rfl) ?_
    refine z_get (own := RX4) (ref := "CupFountainModel") (C := RX4) (T := TX4) (N := 17) (ci := 4) (v := .int (nI s.1)) (pc := 17) hx hb hts hinX4 hown hz 0 rfl rfl 11 (by decide) L119 rfl rfl dX4_readThing_17 ?_
    refine z_cald (x := tx s.1) (pc := 20) hx hb hz 5 rfl s.1 rfl (by omega) (by decide) rfl dX4_readThing_20 ?_
    refine lv_goto (tgt := 25) (pc := 21) hx hb dX4_readThing_21 (by decide) ?_
    exact z_top (by simp only [ltF, if_neg h9]) (J1 _ _ _ hz (lv_sub hl [0] rfl))
