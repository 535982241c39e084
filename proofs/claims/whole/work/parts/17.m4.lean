def rm_X4_copy : Room := { frames := 0, cells := 0, slots := 0, locals := 0 }
set_option maxRecDepth 20000 in
theorem hdV_X4_copy : yX4_copy.cls = RX4 ∧ yX4_copy.cls ≠ "java/lang/invoke/MethodHandle" ∧ yX4_copy.cls ≠ "java/lang/invoke/VarHandle" ∧ (parseMethodDescriptor yX4_copy.desc).map (fun d => d.parameters.length) = some 4 := by decide +kernel
set_option maxHeartbeats 4000000 in
set_option maxRecDepth 100000 in
theorem k_X4_copy (l : Launch) (G : va_G) (ca : Nat → ClassId) (x y nx ny i j : Nat) (F T : Nat → Int32) (hx1 : i + 104 ≤ nx) (hy1 : j + 104 ≤ ny) (hx2 : nx < 2 ^ 31) (hy2 : ny < 2 ^ 31) : Zc l G ca yX4_copy (zws yX4_copy cX4_copy 5 none) rm_X4_copy [.ref x, .int (nI i), .ref y, .int (nI j)] ([(x, .inl (ca 1, nx, .inl F)), (y, .inl (ca 1, ny, .inl T))]) none ([(x, .inl (ca 1, nx, .inl F)), (y, .inl (ca 1, ny, .inl (va_cpy F T i j 104)))]) := by
  refine Zc.of (cc := cX4_copy) (maxL := 5) (ret := none) (by decide) rfl (Nat.le_of_ble_eq_true rfl) ?_
  intro pg ev s0 mt below meth cd A args Q ls hx hb hr hml hown hts hlk hQ hl hz
  have hl : lv_has ls 5 [(0, .ref x), (1, .int (nI i)), (2, .ref y), (3, .int (nI j))] := hl
  refine lv_iconst (v := 0) (pc := 0) hx hb dX4_copy_0 (by decide) ?_
  refine lv_istore (lv' := [(4, .int 0), (0, .ref x), (1, .int (nI i)), (2, .ref y), (3, .int (nI j))]) (pc := 1) hx hb dX4_copy_1 hl (by decide) rfl (fun ls hl => ?_)
  have loop1 : ∀ cnt k : Nat, k + cnt = 104 → ∀ (H : Heap) (locs : List Loc) (ls : Array Slot), zw G ca A s0.heap s0 ([(x, .inl (ca 1, nx, .inl F)), (y, .inl (ca 1, ny, .inl (va_cpy F T i j k)))]) H locs → lv_has ls 5 [(4, .int (nI k)), (0, .ref x), (1, .int (nI i)), (2, .ref y), (3, .int (nI j))] → W pg l ev rm_X4_copy s0 mt args below meth cd H locs 0 0 Q (F0 mt 3 ls []) := by
    intro cnt
    induction cnt with
    | zero =>
      intro k hk9 H locs ls hz hl
      obtain rfl : 104 = k := by omega
      refine lv_iload (pc := 3) hx hb dX4_copy_3 (lv_at hl 0 rfl) ?_
      refine lv_bipush (v := 104) (pc := 5) hx hb dX4_copy_5 (by decide) ?_
      refine lv_icmp_ge (pc := 7) (tgt := 28) hx hb dX4_copy_7 (by decide) (fun c_7 => ?_) (fun c9 => absurd (by decide) c9)
      exact z_vret (pc := 28) hx hb hr hlk hQ hz dX4_copy_28 rfl (by first | rfl | (simp only [if_pos c_7]))
    | succ cnt ih =>
      intro k hk9 H locs ls hz hl
      have hk : k < 104 := by omega
      refine lv_iload (pc := 3) hx hb dX4_copy_3 (lv_at hl 0 rfl) ?_
      refine lv_bipush (v := 104) (pc := 5) hx hb dX4_copy_5 (by decide) ?_
      refine lv_icmp_ge (pc := 7) (tgt := 28) hx hb dX4_copy_7 (by decide) (fun c9 => absurd c9 (nI_ge hk (by decide))) (fun c_7 => ?_)
      refine lv_aload_n (pc := 10) hx hb dX4_copy_10 rfl (lv_at hl 3 rfl) ?_
      refine lv_iload_n (pc := 11) hx hb dX4_copy_11 rfl (lv_at hl 4 rfl) ?_
      refine lv_iload (pc := 12) hx hb dX4_copy_12 (lv_at hl 0 rfl) ?_
      refine lv_iadd (pc := 14) hx hb dX4_copy_14 ?_
      refine lv_aload_n (pc := 15) hx hb dX4_copy_15 rfl (lv_at hl 1 rfl) ?_
      refine lv_iload_n (pc := 16) hx hb dX4_copy_16 rfl (lv_at hl 2 rfl) ?_
      refine lv_iload (pc := 17) hx hb dX4_copy_17 (lv_at hl 0 rfl) ?_
      refine lv_iadd (pc := 19) hx hb dX4_copy_19 ?_
      refine z_iald (x := F (i + k)) (pc := 20) hx hb hz 0 rfl (i + k) (nI_add i k) (by omega) hx2 rfl dX4_copy_20 ?_
      refine z_iast (ws1 := [(x, .inl (ca 1, nx, .inl F)), (y, .inl (ca 1, ny, .inl (va_cpy F T i j (k + 1))))]) (pc := 21) hx hb hz 1 rfl (j + k) (nI_add j k) (by omega) hy2 (by rw [cpy_s]; rfl) dX4_copy_21 (fun H locs hz => ?_)
      refine lv_iinc (v := nI (k + 1)) (lv' := [(4, .int (nI (k + 1))), (0, .ref x), (1, .int (nI i)), (2, .ref y), (3, .int (nI j))]) (pc := 22) hx hb dX4_copy_22 hl (k := 0) rfl (nI_add k 1) (by decide) rfl (fun ls hl => ?_)
      refine lv_goto (tgt := 3) (pc := 25) hx hb dX4_copy_25 (by decide) ?_
      exact ih (k + 1) (by omega) _ _ _ hz (lv_sub hl [0, 1, 2, 3, 4] rfl)
  exact loop1 104 0 (by omega) _ _ _ (hz.as (by rw [cpy_0])) (lv_sub hl [0, 1, 2, 3, 4] rfl)

def rm_X4_begin : Room := { frames := 1, cells := 0, slots := 0, locals := 24 }
set_option maxRecDepth 20000 in
theorem hdV_X4_begin : yX4_begin.cls = RX4 ∧ yX4_begin.cls ≠ "java/lang/invoke/MethodHandle" ∧ yX4_begin.cls ≠ "java/lang/invoke/VarHandle" ∧ (parseMethodDescriptor yX4_begin.desc).map (fun d => d.parameters.length) = some 0 := by decide +kernel
set_option maxHeartbeats 4000000 in
set_option maxRecDepth 100000 in
theorem k_X4_begin (l : Launch) (G : va_G) (ca : Nat → ClassId) (a : Nat → Nat) (f h : Nat → Int32) (c : Nat → Nat → Int32) (hi sn be tx ti : Nat → Int32) : Zc l G ca yX4_begin (zws yX4_begin cX4_begin 1 none) rm_X4_begin [.ref (a 0)] (mm ca a f h c hi sn be tx ti) none (mm ca a f h c hi sn (enc h c) tx ti) := by
  refine Zc.of (cc := cX4_begin) (maxL := 1) (ret := none) (by decide) rfl (Nat.le_of_ble_eq_true rfl) ?_
  intro pg ev s0 mt below meth cd A args Q ls hx hb hr hml hown hts hlk hQ hl hz
  have L19 : (Cond.fieldLink RX4 19 "CupFountainModel" "before" "[I").before args s0 = true := hts _ (zsub _ wq_4_8)
  have L7 : (Cond.fieldLink RX4 7 "CupFountainModel" "s" "[I").before args s0 = true := hts _ (zsub _ wq_4_5)
  have hinX4 : ∀ w ∈ wsX40, w ∈ zws yX4_begin cX4_begin 1 none := fun w h => zsub w (wl_wsX40 w h)
  have hl : lv_has ls 1 [(0, .ref (a 0))] := hl
  refine lv_aload_n (pc := 0) hx hb dX4_begin_0 rfl (lv_at hl 0 rfl) ?_
  refine z_get (own := RX4) (ref := "CupFountainModel") (C := RX4) (T := TX4) (N := 17) (ci := 4) (v := .ref (a 1)) (pc := 1) hx hb hts hinX4 hown hz 0 rfl rfl 0 (by decide) L7 rfl rfl dX4_begin_1 ?_
  refine lv_iconst (v := 0) (pc := 4) hx hb dX4_begin_4 (by decide) ?_
  refine lv_aload_n (pc := 5) hx hb dX4_begin_5 rfl (lv_at hl 0 rfl) ?_
  refine z_get (own := RX4) (ref := "CupFountainModel") (C := RX4) (T := TX4) (N := 17) (ci := 4) (v := .ref (a 4)) (pc := 6) hx hb hts hinX4 hown hz 0 rfl rfl 5 (by decide) L19 rfl rfl dX4_begin_6 ?_
  refine lv_iconst (v := 0) (pc := 9) hx hb dX4_begin_9 (by decide) ?_
  refine z_runS (pc := 10) (As := [.ref (a 1), .int 0, .ref (a 4), .int 0]) (rest := []) (ws1 := mm ca a f h c hi sn (va_cpy (enc h c) be 0 0 104) tx ti) ⟨hx, hb, hml, hown, hts⟩ (k_X4_copy l G ca (a 1) (a 4) 104 104 0 0 (enc h c) be (by omega) (by omega) (by decide) (by decide)) (cwS 4 hts (zgoodS zsub wq_6_19 wq_6_20 wq_1_5 wq_6_21) rfl rfl rfl hdV_X4_copy ⟨Nat.le_of_ble_eq_true rfl, Nat.le_of_ble_eq_true rfl⟩) hz (List.filterMap (fun q9 => (mm ca a f h c hi sn be tx ti)[q9]?) [0, 2, 3, 5, 6]) (z_pick [1, 4, 0, 2, 3, 5, 6] rfl rfl) (z_pick (ws := mm ca a f h c hi sn (va_cpy (enc h c) be 0 0 104) tx ti) [1, 4, 0, 2, 3, 5, 6] rfl rfl).symm rfl hl.1 (Nat.le_of_ble_eq_true rfl) (st1 := []) rfl dX4_begin_10 ⟨Nat.zero_le _, Nat.zero_le _⟩ (fun H locs hz => ?_)
  have hz := (hz.cell (g := (enc h c)) 4 rfl (fun j hj => cpy_at0 hj)).as (show _ = mm ca a f h c hi sn (enc h c) tx ti from rfl)
  exact z_vret (pc := 13) hx hb hr hlk hQ hz dX4_begin_13 rfl (by first | rfl | (simp only []))

def rm_X4_recordFrom : Room := { frames := 1, cells := 0, slots := 0, locals := 24 }
set_option maxRecDepth 20000 in
theorem hdV_X4_recordFrom : yX4_recordFrom.cls = RX4 ∧ yX4_recordFrom.cls ≠ "java/lang/invoke/MethodHandle" ∧ yX4_recordFrom.cls ≠ "java/lang/invoke/VarHandle" ∧ (parseMethodDescriptor yX4_recordFrom.desc).map (fun d => d.parameters.length) = some 1 := by decide +kernel
set_option maxHeartbeats 4000000 in
set_option maxRecDepth 100000 in
theorem k_X4_recordFrom_ba (l : Launch) (G : va_G) (ca : Nat → ClassId) (a : Nat → Nat) (f h : Nat → Int32) (c : Nat → Nat → Int32) (hi sn be tx ti : Nat → Int32) (kp : Nat) (hkp : kp < 4) (hf2 : f 2 = nI kp) : Zc l G ca yX4_recordFrom (zws yX4_recordFrom cX4_recordFrom 3 none) rm_X4_recordFrom [.ref (a 0), .ref (a 4)] (mm ca a f h c hi sn be tx ti) none (mm ca a (upd f 2 (nI (kp + 1))) h c (va_cpy be hi 0 (104 * kp) 104) sn be tx ti) := by
  refine Zc.of (cc := cX4_recordFrom) (maxL := 3) (ret := none) (by decide) rfl (Nat.le_of_ble_eq_true rfl) ?_
  intro pg ev s0 mt below meth cd A args Q ls hx hb hr hml hown hts hlk hQ hl hz
  have L13 : (Cond.fieldLink RX4 13 "CupFountainModel" "history" "[I").before args s0 = true := hts _ (zsub _ wq_4_6)
  have L42 : (Cond.fieldLink RX4 42 "CupFountainModel" "kept" "I").before args s0 = true := hts _ (zsub _ wq_7_23)
  have hinX4 : ∀ w ∈ wsX40, w ∈ zws yX4_recordFrom cX4_recordFrom 3 none := fun w h => zsub w (wl_wsX40 w h)
  have hl : lv_has ls 3 [(0, .ref (a 0)), (1, .ref (a 4))] := hl
  refine lv_aload_n (pc := 0) hx hb dX4_recordFrom_0 rfl (lv_at hl 0 rfl) ?_
  refine z_get (own := RX4) (ref := "CupFountainModel") (C := RX4) (T := TX4) (N := 17) (ci := 4) (v := .int (f 2)) (pc := 1) hx hb hts hinX4 hown hz 0 rfl rfl 2 (by decide) L42 rfl rfl dX4_recordFrom_1 ?_
  refine lv_iconst (v := 4) (pc := 4) hx hb dX4_recordFrom_4 (by decide) ?_
  refine lv_icmp_ne (pc := 5) (tgt := 48) hx hb dX4_recordFrom_5 (by decide) (fun c_5 => ?_) (fun c9 => absurd c9 (fun q => by rw [hf2] at q; exact absurd ((nI_eq (b := 4) (by omega) (by decide)).mp q) (by omega)))
  refine lv_aload_n (pc := 48) hx hb dX4_recordFrom_48 rfl (lv_at hl 1 rfl) ?_
  refine lv_iconst (v := 0) (pc := 49) hx hb dX4_recordFrom_49 (by decide) ?_
  refine lv_aload_n (pc := 50) hx hb dX4_recordFrom_50 rfl (lv_at hl 0 rfl) ?_
  refine z_get (own := RX4) (ref := "CupFountainModel") (C := RX4) (T := TX4) (N := 17) (ci := 4) (v := .ref (a 2)) (pc := 51) hx hb hts hinX4 hown hz 0 rfl rfl 1 (by decide) L13 rfl rfl dX4_recordFrom_51 ?_
  refine lv_bipush (v := 104) (pc := 54) hx hb dX4_recordFrom_54 (by decide) ?_
  refine lv_aload_n (pc := 56) hx hb dX4_recordFrom_56 rfl (lv_at hl 0 rfl) ?_
  refine z_get (own := RX4) (ref := "CupFountainModel") (C := RX4) (T := TX4) (N := 17) (ci := 4) (v := .int (f 2)) (pc := 57) hx hb hts hinX4 hown hz 0 rfl rfl 2 (by decide) L42 rfl rfl dX4_recordFrom_57 ?_
  refine z_top (y := nI kp) hf2 ?_
  refine lv_imul (pc := 60) hx hb dX4_recordFrom_60 ?_
  refine z_top (y := nI (104 * kp)) (pk_mul 104 kp) ?_
  refine z_runS (pc := 61) (As := [.ref (a 4), .int 0, .ref (a 2), .int (nI (104 * kp))]) (rest := []) (ws1 := mm ca a f h c (va_cpy be hi 0 (104 * kp) 104) sn be tx ti) ⟨hx, hb, hml, hown, hts⟩ (k_X4_copy l G ca (a 4) (a 2) 104 416 0 (104 * kp) be hi (by omega) (by omega) (by decide) (by decide)) (cwS 4 hts (zgoodS zsub wq_6_19 wq_6_20 wq_1_5 wq_6_21) rfl rfl rfl hdV_X4_copy ⟨Nat.le_of_ble_eq_true rfl, Nat.le_of_ble_eq_true rfl⟩) hz (List.filterMap (fun q9 => (mm ca a f h c hi sn be tx ti)[q9]?) [0, 1, 3, 5, 6]) (z_pick [4, 2, 0, 1, 3, 5, 6] rfl rfl) (z_pick (ws := mm ca a f h c (va_cpy be hi 0 (104 * kp) 104) sn be tx ti) [4, 2, 0, 1, 3, 5, 6] rfl rfl).symm rfl hl.1 (Nat.le_of_ble_eq_true rfl) (st1 := []) rfl dX4_recordFrom_61 ⟨Nat.zero_le _, Nat.zero_le _⟩ (fun H locs hz => ?_)
  refine lv_aload_n (pc := 64) hx hb dX4_recordFrom_64 rfl (lv_at hl 0 rfl) ?_
  refine lv_dup (pc := 65) hx hb dX4_recordFrom_65 rfl ?_
  refine z_get (own := RX4) (ref := "CupFountainModel") (C := RX4) (T := TX4) (N := 17) (ci := 4) (v := .int (f 2)) (pc := 66) hx hb hts hinX4 hown hz 0 rfl rfl 2 (by decide) L42 rfl rfl dX4_recordFrom_66 ?_
  refine z_top (y := nI kp) hf2 ?_
  refine lv_iconst (v := 1) (pc := 69) hx hb dX4_recordFrom_69 (by decide) ?_
  refine lv_iadd (pc := 70) hx hb dX4_recordFrom_70 ?_
  refine z_top (y := nI (kp + 1)) (nI_1 kp) ?_
  refine z_put (own := RX4) (ref := "CupFountainModel") (C := RX4) (T := TX4) (N := 17) (ci := 4) (v := .int (nI (kp + 1))) (ws1 := mm ca a (upd f 2 (nI (kp + 1))) h c (va_cpy be hi 0 (104 * kp) 104) sn be tx ti) (pc := 71) hx hb hts hinX4 tyX4 tyX4_ok nmX4 hown hz 0 rfl rfl 2 (by decide) L42 rfl rfl rfl rfl (Nat.le_of_ble_eq_true rfl) rfl dX4_recordFrom_71 (fun H locs hz => ?_)
  exact z_vret (pc := 74) hx hb hr hlk hQ hz dX4_recordFrom_74 rfl (by first | rfl | (simp only [if_neg c_5]))

set_option maxHeartbeats 4000000 in
set_option maxRecDepth 100000 in
theorem k_X4_recordFrom_bb (l : Launch) (G : va_G) (ca : Nat → ClassId) (a : Nat → Nat) (f h : Nat → Int32) (c : Nat → Nat → Int32) (hi sn be tx ti : Nat → Int32) (hf2 : f 2 = 4) : Zc l G ca yX4_recordFrom (zws yX4_recordFrom cX4_recordFrom 3 none) rm_X4_recordFrom [.ref (a 0), .ref (a 4)] (mm ca a f h c hi sn be tx ti) none (mm ca a (upd f 2 4) h c (va_cpy be (shF hi 312) 0 312 104) sn be tx ti) := by
  refine Zc.of (cc := cX4_recordFrom) (maxL := 3) (ret := none) (by decide) rfl (Nat.le_of_ble_eq_true rfl) ?_
  intro pg ev s0 mt below meth cd A args Q ls hx hb hr hml hown hts hlk hQ hl hz
  have L13 : (Cond.fieldLink RX4 13 "CupFountainModel" "history" "[I").before args s0 = true := hts _ (zsub _ wq_4_6)
  have L42 : (Cond.fieldLink RX4 42 "CupFountainModel" "kept" "I").before args s0 = true := hts _ (zsub _ wq_7_23)
  have hinX4 : ∀ w ∈ wsX40, w ∈ zws yX4_recordFrom cX4_recordFrom 3 none := fun w h => zsub w (wl_wsX40 w h)
  have hl : lv_has ls 3 [(0, .ref (a 0)), (1, .ref (a 4))] := hl
  refine lv_aload_n (pc := 0) hx hb dX4_recordFrom_0 rfl (lv_at hl 0 rfl) ?_
  refine z_get (own := RX4) (ref := "CupFountainModel") (C := RX4) (T := TX4) (N := 17) (ci := 4) (v := .int (f 2)) (pc := 1) hx hb hts hinX4 hown hz 0 rfl rfl 2 (by decide) L42 rfl rfl dX4_recordFrom_1 ?_
  refine lv_iconst (v := 4) (pc := 4) hx hb dX4_recordFrom_4 (by decide) ?_
  refine lv_icmp_ne (pc := 5) (tgt := 48) hx hb dX4_recordFrom_5 (by decide) (fun c9 => absurd hf2 c9) (fun c_5 => ?_)
  refine lv_iconst (v := 0) (pc := 8) hx hb dX4_recordFrom_8 (by decide) ?_
  refine lv_istore_n (lv' := [(2, .int 0), (0, .ref (a 0)), (1, .ref (a 4))]) (pc := 9) hx hb dX4_recordFrom_9 rfl hl (by decide) rfl (fun ls hl => ?_)
  have loop1 : ∀ cnt k : Nat, k + cnt = 312 → ∀ (H : Heap) (locs : List Loc) (ls : Array Slot), zw G ca A s0.heap s0 (mm ca a f h c (shF hi k) sn be tx ti) H locs → lv_has ls 3 [(2, .int (nI k)), (0, .ref (a 0)), (1, .ref (a 4))] → W pg l ev rm_X4_recordFrom s0 mt args below meth cd H locs 0 0 Q (F0 mt 10 ls []) := by
    intro cnt
    induction cnt with
    | zero =>
      intro k hk9 H locs ls hz hl
      obtain rfl : 312 = k := by omega
      refine lv_iload_n (pc := 10) hx hb dX4_recordFrom_10 rfl (lv_at hl 0 rfl) ?_
      refine lv_sipush (v := 312) (pc := 11) hx hb dX4_recordFrom_11 (by decide) ?_
      refine lv_icmp_ge (pc := 14) (tgt := 38) hx hb dX4_recordFrom_14 (by decide) (fun c_14 => ?_) (fun c9 => absurd (by decide) c9)
      refine lv_aload_n (pc := 38) hx hb dX4_recordFrom_38 rfl (lv_at hl 1 rfl) ?_
      refine lv_dup (pc := 39) hx hb dX4_recordFrom_39 rfl ?_
      refine z_get (own := RX4) (ref := "CupFountainModel") (C := RX4) (T := TX4) (N := 17) (ci := 4) (v := .int (f 2)) (pc := 40) hx hb hts hinX4 hown hz 0 rfl rfl 2 (by decide) L42 rfl rfl dX4_recordFrom_40 ?_
      refine lv_iconst (v := 1) (pc := 43) hx hb dX4_recordFrom_43 (by decide) ?_
      refine lv_isub (pc := 44) hx hb dX4_recordFrom_44 ?_
      refine z_top (y := 3) (by rw [hf2]; rfl) ?_
      refine z_put (own := RX4) (ref := "CupFountainModel") (C := RX4) (T := TX4) (N := 17) (ci := 4) (v := .int 3) (ws1 := mm ca a (upd f 2 3) h c (shF hi 312) sn be tx ti) (pc := 45) hx hb hts hinX4 tyX4 tyX4_ok nmX4 hown hz 0 rfl rfl 2 (by decide) L42 rfl rfl rfl rfl (Nat.le_of_ble_eq_true rfl) rfl dX4_recordFrom_45 (fun H locs hz => ?_)
      refine lv_aload_n (pc := 48) hx hb dX4_recordFrom_48 rfl (lv_at hl 2 rfl) ?_
      refine lv_iconst (v := 0) (pc := 49) hx hb dX4_recordFrom_49 (by decide) ?_
      refine lv_aload_n (pc := 50) hx hb dX4_recordFrom_50 rfl (lv_at hl 1 rfl) ?_
      refine z_get (own := RX4) (ref := "CupFountainModel") (C := RX4) (T := TX4) (N := 17) (ci := 4) (v := .ref (a 2)) (pc := 51) hx hb hts hinX4 hown hz 0 rfl rfl 1 (by decide) L13 rfl rfl dX4_recordFrom_51 ?_
      refine lv_bipush (v := 104) (pc := 54) hx hb dX4_recordFrom_54 (by decide) ?_
      refine lv_aload_n (pc := 56) hx hb dX4_recordFrom_56 rfl (lv_at hl 1 rfl) ?_
      refine z_get (own := RX4) (ref := "CupFountainModel") (C := RX4) (T := TX4) (N := 17) (ci := 4) (v := .int 3) (pc := 57) hx hb hts hinX4 hown hz 0 rfl rfl 2 (by decide) L42 rfl rfl dX4_recordFrom_57 ?_
      refine lv_imul (pc := 60) hx hb dX4_recordFrom_60 ?_
      refine z_top (y := nI 312) rfl ?_
      refine z_runS (pc := 61) (As := [.ref (a 4), .int 0, .ref (a 2), .int (nI 312)]) (rest := []) (ws1 := mm ca a (upd f 2 3) h c (va_cpy be (shF hi 312) 0 312 104) sn be tx ti) ⟨hx, hb, hml, hown, hts⟩ (k_X4_copy l G ca (a 4) (a 2) 104 416 0 312 be (shF hi 312) (by omega) (by omega) (by decide) (by decide)) (cwS 4 hts (zgoodS zsub wq_6_19 wq_6_20 wq_1_5 wq_6_21) rfl rfl rfl hdV_X4_copy ⟨Nat.le_of_ble_eq_true rfl, Nat.le_of_ble_eq_true rfl⟩) hz (List.filterMap (fun q9 => (mm ca a (upd f 2 3) h c (shF hi 312) sn be tx ti)[q9]?) [0, 1, 3, 5, 6]) (z_pick [4, 2, 0, 1, 3, 5, 6] rfl rfl) (z_pick (ws := mm ca a (upd f 2 3) h c (va_cpy be (shF hi 312) 0 312 104) sn be tx ti) [4, 2, 0, 1, 3, 5, 6] rfl rfl).symm rfl hl.1 (Nat.le_of_ble_eq_true rfl) (st1 := []) rfl dX4_recordFrom_61 ⟨Nat.zero_le _, Nat.zero_le _⟩ (fun H locs hz => ?_)
      refine lv_aload_n (pc := 64) hx hb dX4_recordFrom_64 rfl (lv_at hl 1 rfl) ?_
      refine lv_dup (pc := 65) hx hb dX4_recordFrom_65 rfl ?_
      refine z_get (own := RX4) (ref := "CupFountainModel") (C := RX4) (T := TX4) (N := 17) (ci := 4) (v := .int 3) (pc := 66) hx hb hts hinX4 hown hz 0 rfl rfl 2 (by decide) L42 rfl rfl dX4_recordFrom_66 ?_
      refine lv_iconst (v := 1) (pc := 69) hx hb dX4_recordFrom_69 (by decide) ?_
      refine lv_iadd (pc := 70) hx hb dX4_recordFrom_70 ?_
      refine z_top (y := 4) rfl ?_
      refine z_put (own := RX4) (ref := "CupFountainModel") (C := RX4) (T := TX4) (N := 17) (ci := 4) (v := .int 4) (ws1 := mm ca a (upd (upd f 2 3) 2 4) h c (va_cpy be (shF hi 312) 0 312 104) sn be tx ti) (pc := 71) hx hb hts hinX4 tyX4 tyX4_ok nmX4 hown hz 0 rfl rfl 2 (by decide) L42 rfl rfl rfl rfl (Nat.le_of_ble_eq_true rfl) rfl dX4_recordFrom_71 (fun H locs hz => ?_)
      exact z_vret (pc := 74) hx hb hr hlk hQ hz dX4_recordFrom_74 rfl (by first | rfl | (simp only [if_pos c_5, if_pos c_14]))
    | succ cnt ih =>
      intro k hk9 H locs ls hz hl
      have hk : k < 312 := by omega
      refine lv_iload_n (pc := 10) hx hb dX4_recordFrom_10 rfl (lv_at hl 0 rfl) ?_
      refine lv_sipush (v := 312) (pc := 11) hx hb dX4_recordFrom_11 (by decide) ?_
      refine lv_icmp_ge (pc := 14) (tgt := 38) hx hb dX4_recordFrom_14 (by decide) (fun c9 => absurd c9 (nI_ge hk (by decide))) (fun c_14 => ?_)
      refine lv_aload_n (pc := 17) hx hb dX4_recordFrom_17 rfl (lv_at hl 1 rfl) ?_
      refine z_get (own := RX4) (ref := "CupFountainModel") (C := RX4) (T := TX4) (N := 17) (ci := 4) (v := .ref (a 2)) (pc := 18) hx hb hts hinX4 hown hz 0 rfl rfl 1 (by decide) L13 rfl rfl dX4_recordFrom_18 ?_
      refine lv_iload_n (pc := 21) hx hb dX4_recordFrom_21 rfl (lv_at hl 0 rfl) ?_
      refine lv_aload_n (pc := 22) hx hb dX4_recordFrom_22 rfl (lv_at hl 1 rfl) ?_
      refine z_get (own := RX4) (ref := "CupFountainModel") (C := RX4) (T := TX4) (N := 17) (ci := 4) (v := .ref (a 2)) (pc := 23) hx hb hts hinX4 hown hz 0 rfl rfl 1 (by decide) L13 rfl rfl dX4_recordFrom_23 ?_
      refine lv_bipush (v := 104) (pc := 26) hx hb dX4_recordFrom_26 (by decide) ?_
      refine lv_iload_n (pc := 28) hx hb dX4_recordFrom_28 rfl (lv_at hl 0 rfl) ?_
      refine lv_iadd (pc := 29) hx hb dX4_recordFrom_29 ?_
      refine z_iald (x := hi (104 + k)) (pc := 30) hx hb hz 2 rfl (104 + k) (nI_add 104 k) (by omega) (by decide) shF_ge dX4_recordFrom_30 ?_
      refine z_iast (ws1 := mm ca a f h c (upd (shF hi k) k (hi (104 + k))) sn be tx ti) (pc := 31) hx hb hz 2 rfl k rfl (by omega) (by decide) (by rw [shF_s]; rfl) dX4_recordFrom_31 (fun H locs hz => ?_)
      refine lv_iinc (v := nI (k + 1)) (lv' := [(2, .int (nI (k + 1))), (0, .ref (a 0)), (1, .ref (a 4))]) (pc := 32) hx hb dX4_recordFrom_32 hl (k := 0) rfl (nI_add k 1) (by decide) rfl (fun ls hl => ?_)
      refine lv_goto (tgt := 10) (pc := 35) hx hb dX4_recordFrom_35 (by decide) ?_
      exact ih (k + 1) (by omega) _ _ _ (hz.as (by rw [shF_s])) (lv_sub hl [0, 1, 2] rfl)
  exact loop1 312 0 (by omega) _ _ _ (hz.as (by rw [shF_0])) (lv_sub hl [0, 1, 2] rfl)

set_option maxHeartbeats 4000000 in
set_option maxRecDepth 100000 in
theorem k_X4_recordFrom_sa (l : Launch) (G : va_G) (ca : Nat → ClassId) (a : Nat → Nat) (f h : Nat → Int32) (c : Nat → Nat → Int32) (hi sn be tx ti : Nat → Int32) (kp : Nat) (hkp : kp < 4) (hf2 : f 2 = nI kp) : Zc l G ca yX4_recordFrom (zws yX4_recordFrom cX4_recordFrom 3 none) rm_X4_recordFrom [.ref (a 0), .ref (a 1)] (mm ca a f h c hi sn be tx ti) none (mm ca a (upd f 2 (nI (kp + 1))) h c (va_cpy (enc h c) hi 0 (104 * kp) 104) sn be tx ti) := by
  refine Zc.of (cc := cX4_recordFrom) (maxL := 3) (ret := none) (by decide) rfl (Nat.le_of_ble_eq_true rfl) ?_
  intro pg ev s0 mt below meth cd A args Q ls hx hb hr hml hown hts hlk hQ hl hz
  have L13 : (Cond.fieldLink RX4 13 "CupFountainModel" "history" "[I").before args s0 = true := hts _ (zsub _ wq_4_6)
  have L42 : (Cond.fieldLink RX4 42 "CupFountainModel" "kept" "I").before args s0 = true := hts _ (zsub _ wq_7_23)
  have hinX4 : ∀ w ∈ wsX40, w ∈ zws yX4_recordFrom cX4_recordFrom 3 none := fun w h => zsub w (wl_wsX40 w h)
  have hl : lv_has ls 3 [(0, .ref (a 0)), (1, .ref (a 1))] := hl
  refine lv_aload_n (pc := 0) hx hb dX4_recordFrom_0 rfl (lv_at hl 0 rfl) ?_
  refine z_get (own := RX4) (ref := "CupFountainModel") (C := RX4) (T := TX4) (N := 17) (ci := 4) (v := .int (f 2)) (pc := 1) hx hb hts hinX4 hown hz 0 rfl rfl 2 (by decide) L42 rfl rfl dX4_recordFrom_1 ?_
  refine lv_iconst (v := 4) (pc := 4) hx hb dX4_recordFrom_4 (by decide) ?_
  refine lv_icmp_ne (pc := 5) (tgt := 48) hx hb dX4_recordFrom_5 (by decide) (fun c_5 => ?_) (fun c9 => absurd c9 (fun q => by rw [hf2] at q; exact absurd ((nI_eq (b := 4) (by omega) (by decide)).mp q) (by omega)))
  refine lv_aload_n (pc := 48) hx hb dX4_recordFrom_48 rfl (lv_at hl 1 rfl) ?_
  refine lv_iconst (v := 0) (pc := 49) hx hb dX4_recordFrom_49 (by decide) ?_
  refine lv_aload_n (pc := 50) hx hb dX4_recordFrom_50 rfl (lv_at hl 0 rfl) ?_
  refine z_get (own := RX4) (ref := "CupFountainModel") (C := RX4) (T := TX4) (N := 17) (ci := 4) (v := .ref (a 2)) (pc := 51) hx hb hts hinX4 hown hz 0 rfl rfl 1 (by decide) L13 rfl rfl dX4_recordFrom_51 ?_
  refine lv_bipush (v := 104) (pc := 54) hx hb dX4_recordFrom_54 (by decide) ?_
  refine lv_aload_n (pc := 56) hx hb dX4_recordFrom_56 rfl (lv_at hl 0 rfl) ?_
  refine z_get (own := RX4) (ref := "CupFountainModel") (C := RX4) (T := TX4) (N := 17) (ci := 4) (v := .int (f 2)) (pc := 57) hx hb hts hinX4 hown hz 0 rfl rfl 2 (by decide) L42 rfl rfl dX4_recordFrom_57 ?_
  refine z_top (y := nI kp) hf2 ?_
  refine lv_imul (pc := 60) hx hb dX4_recordFrom_60 ?_
  refine z_top (y := nI (104 * kp)) (pk_mul 104 kp) ?_
  refine z_runS (pc := 61) (As := [.ref (a 1), .int 0, .ref (a 2), .int (nI (104 * kp))]) (rest := []) (ws1 := mm ca a f h c (va_cpy (enc h c) hi 0 (104 * kp) 104) sn be tx ti) ⟨hx, hb, hml, hown, hts⟩ (k_X4_copy l G ca (a 1) (a 2) 104 416 0 (104 * kp) (enc h c) hi (by omega) (by omega) (by decide) (by decide)) (cwS 4 hts (zgoodS zsub wq_6_19 wq_6_20 wq_1_5 wq_6_21) rfl rfl rfl hdV_X4_copy ⟨Nat.le_of_ble_eq_true rfl, Nat.le_of_ble_eq_true rfl⟩) hz (List.filterMap (fun q9 => (mm ca a f h c hi sn be tx ti)[q9]?) [0, 3, 4, 5, 6]) (z_pick [1, 2, 0, 3, 4, 5, 6] rfl rfl) (z_pick (ws := mm ca a f h c (va_cpy (enc h c) hi 0 (104 * kp) 104) sn be tx ti) [1, 2, 0, 3, 4, 5, 6] rfl rfl).symm rfl hl.1 (Nat.le_of_ble_eq_true rfl) (st1 := []) rfl dX4_recordFrom_61 ⟨Nat.zero_le _, Nat.zero_le _⟩ (fun H locs hz => ?_)
  refine lv_aload_n (pc := 64) hx hb dX4_recordFrom_64 rfl (lv_at hl 0 rfl) ?_
  refine lv_dup (pc := 65) hx hb dX4_recordFrom_65 rfl ?_
  refine z_get (own := RX4) (ref := "CupFountainModel") (C := RX4) (T := TX4) (N := 17) (ci := 4) (v := .int (f 2)) (pc := 66) hx hb hts hinX4 hown hz 0 rfl rfl 2 (by decide) L42 rfl rfl dX4_recordFrom_66 ?_
  refine z_top (y := nI kp) hf2 ?_
  refine lv_iconst (v := 1) (pc := 69) hx hb dX4_recordFrom_69 (by decide) ?_
  refine lv_iadd (pc := 70) hx hb dX4_recordFrom_70 ?_
  refine z_top (y := nI (kp + 1)) (nI_1 kp) ?_
  refine z_put (own := RX4) (ref := "CupFountainModel") (C := RX4) (T := TX4) (N := 17) (ci := 4) (v := .int (nI (kp + 1))) (ws1 := mm ca a (upd f 2 (nI (kp + 1))) h c (va_cpy (enc h c) hi 0 (104 * kp) 104) sn be tx ti) (pc := 71) hx hb hts hinX4 tyX4 tyX4_ok nmX4 hown hz 0 rfl rfl 2 (by decide) L42 rfl rfl rfl rfl (Nat.le_of_ble_eq_true rfl) rfl dX4_recordFrom_71 (fun H locs hz => ?_)
  exact z_vret (pc := 74) hx hb hr hlk hQ hz dX4_recordFrom_74 rfl (by first | rfl | (simp only [if_neg c_5]))

set_option maxHeartbeats 4000000 in
set_option maxRecDepth 100000 in
theorem k_X4_recordFrom_sb (l : Launch) (G : va_G) (ca : Nat → ClassId) (a : Nat → Nat) (f h : Nat → Int32) (c : Nat → Nat → Int32) (hi sn be tx ti : Nat → Int32) (hf2 : f 2 = 4) : Zc l G ca yX4_recordFrom (zws yX4_recordFrom cX4_recordFrom 3 none) rm_X4_recordFrom [.ref (a 0), .ref (a 1)] (mm ca a f h c hi sn be tx ti) none (mm ca a (upd f 2 4) h c (va_cpy (enc h c) (shF hi 312) 0 312 104) sn be tx ti) := by
  refine Zc.of (cc := cX4_recordFrom) (maxL := 3) (ret := none) (by decide) rfl (Nat.le_of_ble_eq_true rfl) ?_
  intro pg ev s0 mt below meth cd A args Q ls hx hb hr hml hown hts hlk hQ hl hz
  have L13 : (Cond.fieldLink RX4 13 "CupFountainModel" "history" "[I").before args s0 = true := hts _ (zsub _ wq_4_6)
  have L42 : (Cond.fieldLink RX4 42 "CupFountainModel" "kept" "I").before args s0 = true := hts _ (zsub _ wq_7_23)
  have hinX4 : ∀ w ∈ wsX40, w ∈ zws yX4_recordFrom cX4_recordFrom 3 none := fun w h => zsub w (wl_wsX40 w h)
  have hl : lv_has ls 3 [(0, .ref (a 0)), (1, .ref (a 1))] := hl
  refine lv_aload_n (pc := 0) hx hb dX4_recordFrom_0 rfl (lv_at hl 0 rfl) ?_
  refine z_get (own := RX4) (ref := "CupFountainModel") (C := RX4) (T := TX4) (N := 17) (ci := 4) (v := .int (f 2)) (pc := 1) hx hb hts hinX4 hown hz 0 rfl rfl 2 (by decide) L42 rfl rfl dX4_recordFrom_1 ?_
  refine lv_iconst (v := 4) (pc := 4) hx hb dX4_recordFrom_4 (by decide) ?_
  refine lv_icmp_ne (pc := 5) (tgt := 48) hx hb dX4_recordFrom_5 (by decide) (fun c9 => absurd hf2 c9) (fun c_5 => ?_)
  refine lv_iconst (v := 0) (pc := 8) hx hb dX4_recordFrom_8 (by decide) ?_
  refine lv_istore_n (lv' := [(2, .int 0), (0, .ref (a 0)), (1, .ref (a 1))]) (pc := 9) hx hb dX4_recordFrom_9 rfl hl (by decide) rfl (fun ls hl => ?_)
  have loop1 : ∀ cnt k : Nat, k + cnt = 312 → ∀ (H : Heap) (locs : List Loc) (ls : Array Slot), zw G ca A s0.heap s0 (mm ca a f h c (shF hi k) sn be tx ti) H locs → lv_has ls 3 [(2, .int (nI k)), (0, .ref (a 0)), (1, .ref (a 1))] → W pg l ev rm_X4_recordFrom s0 mt args below meth cd H locs 0 0 Q (F0 mt 10 ls []) := by
    intro cnt
    induction cnt with
    | zero =>
      intro k hk9 H locs ls hz hl
      obtain rfl : 312 = k := by omega
      refine lv_iload_n (pc := 10) hx hb dX4_recordFrom_10 rfl (lv_at hl 0 rfl) ?_
      refine lv_sipush (v := 312) (pc := 11) hx hb dX4_recordFrom_11 (by decide) ?_
      refine lv_icmp_ge (pc := 14) (tgt := 38) hx hb dX4_recordFrom_14 (by decide) (fun c_14 => ?_) (fun c9 => absurd (by decide) c9)
      refine lv_aload_n (pc := 38) hx hb dX4_recordFrom_38 rfl (lv_at hl 1 rfl) ?_
      refine lv_dup (pc := 39) hx hb dX4_recordFrom_39 rfl ?_
      refine z_get (own := RX4) (ref := "CupFountainModel") (C := RX4) (T := TX4) (N := 17) (ci := 4) (v := .int (f 2)) (pc := 40) hx hb hts hinX4 hown hz 0 rfl rfl 2 (by decide) L42 rfl rfl dX4_recordFrom_40 ?_
      refine lv_iconst (v := 1) (pc := 43) hx hb dX4_recordFrom_43 (by decide) ?_
      refine lv_isub (pc := 44) hx hb dX4_recordFrom_44 ?_
      refine z_top (y := 3) (by rw [hf2]; rfl) ?_
      refine z_put (own := RX4) (ref := "CupFountainModel") (C := RX4) (T := TX4) (N := 17) (ci := 4) (v := .int 3) (ws1 := mm ca a (upd f 2 3) h c (shF hi 312) sn be tx ti) (pc := 45) hx hb hts hinX4 tyX4 tyX4_ok nmX4 hown hz 0 rfl rfl 2 (by decide) L42 rfl rfl rfl rfl (Nat.le_of_ble_eq_true rfl) rfl dX4_recordFrom_45 (fun H locs hz => ?_)
      refine lv_aload_n (pc := 48) hx hb dX4_recordFrom_48 rfl (lv_at hl 2 rfl) ?_
      refine lv_iconst (v := 0) (pc := 49) hx hb dX4_recordFrom_49 (by decide) ?_
      refine lv_aload_n (pc := 50) hx hb dX4_recordFrom_50 rfl (lv_at hl 1 rfl) ?_
      refine z_get (own := RX4) (ref := "CupFountainModel") (C := RX4) (T := TX4) (N := 17) (ci := 4) (v := .ref (a 2)) (pc := 51) hx hb hts hinX4 hown hz 0 rfl rfl 1 (by decide) L13 rfl rfl dX4_recordFrom_51 ?_
      refine lv_bipush (v := 104) (pc := 54) hx hb dX4_recordFrom_54 (by decide) ?_
      refine lv_aload_n (pc := 56) hx hb dX4_recordFrom_56 rfl (lv_at hl 1 rfl) ?_
      refine z_get (own := RX4) (ref := "CupFountainModel") (C := RX4) (T := TX4) (N := 17) (ci := 4) (v := .int 3) (pc := 57) hx hb hts hinX4 hown hz 0 rfl rfl 2 (by decide) L42 rfl rfl dX4_recordFrom_57 ?_
      refine lv_imul (pc := 60) hx hb dX4_recordFrom_60 ?_
      refine z_top (y := nI 312) rfl ?_
      refine z_runS (pc := 61) (As := [.ref (a 1), .int 0, .ref (a 2), .int (nI 312)]) (rest := []) (ws1 := mm ca a (upd f 2 3) h c (va_cpy (enc h c) (shF hi 312) 0 312 104) sn be tx ti) ⟨hx, hb, hml, hown, hts⟩ (k_X4_copy l G ca (a 1) (a 2) 104 416 0 312 (enc h c) (shF hi 312) (by omega) (by omega) (by decide) (by decide)) (cwS 4 hts (zgoodS zsub wq_6_19 wq_6_20 wq_1_5 wq_6_21) rfl rfl rfl hdV_X4_copy ⟨Nat.le_of_ble_eq_true rfl, Nat.le_of_ble_eq_true rfl⟩) hz (List.filterMap (fun q9 => (mm ca a (upd f 2 3) h c (shF hi 312) sn be tx ti)[q9]?) [0, 3, 4, 5, 6]) (z_pick [1, 2, 0, 3, 4, 5, 6] rfl rfl) (z_pick (ws := mm ca a (upd f 2 3) h c (va_cpy (enc h c) (shF hi 312) 0 312 104) sn be tx ti) [1, 2, 0, 3, 4, 5, 6] rfl rfl).symm rfl hl.1 (Nat.le_of_ble_eq_true rfl) (st1 := []) rfl dX4_recordFrom_61 ⟨Nat.zero_le _, Nat.zero_le _⟩ (fun H locs hz => ?_)
      refine lv_aload_n (pc := 64) hx hb dX4_recordFrom_64 rfl (lv_at hl 1 rfl) ?_
      refine lv_dup (pc := 65) hx hb dX4_recordFrom_65 rfl ?_
      refine z_get (own := RX4) (ref := "CupFountainModel") (C := RX4) (T := TX4) (N := 17) (ci := 4) (v := .int 3) (pc := 66) hx hb hts hinX4 hown hz 0 rfl rfl 2 (by decide) L42 rfl rfl dX4_recordFrom_66 ?_
      refine lv_iconst (v := 1) (pc := 69) hx hb dX4_recordFrom_69 (by decide) ?_
      refine lv_iadd (pc := 70) hx hb dX4_recordFrom_70 ?_
      refine z_top (y := 4) rfl ?_
      refine z_put (own := RX4) (ref := "CupFountainModel") (C := RX4) (T := TX4) (N := 17) (ci := 4) (v := .int 4) (ws1 := mm ca a (upd (upd f 2 3) 2 4) h c (va_cpy (enc h c) (shF hi 312) 0 312 104) sn be tx ti) (pc := 71) hx hb hts hinX4 tyX4 tyX4_ok nmX4 hown hz 0 rfl rfl 2 (by decide) L42 rfl rfl rfl rfl (Nat.le_of_ble_eq_true rfl) rfl dX4_recordFrom_71 (fun H locs hz => ?_)
      exact z_vret (pc := 74) hx hb hr hlk hQ hz dX4_recordFrom_74 rfl (by first | rfl | (simp only [if_pos c_5, if_pos c_14]))
    | succ cnt ih =>
      intro k hk9 H locs ls hz hl
      have hk : k < 312 := by omega
      refine lv_iload_n (pc := 10) hx hb dX4_recordFrom_10 rfl (lv_at hl 0 rfl) ?_
      refine lv_sipush (v := 312) (pc := 11) hx hb dX4_recordFrom_11 (by decide) ?_
      refine lv_icmp_ge (pc := 14) (tgt := 38) hx hb dX4_recordFrom_14 (by decide) (fun c9 => absurd c9 (nI_ge hk (by decide))) (fun c_14 => ?_)
      refine lv_aload_n (pc := 17) hx hb dX4_recordFrom_17 rfl (lv_at hl 1 rfl) ?_
      refine z_get (own := RX4) (ref := "CupFountainModel") (C := RX4) (T := TX4) (N := 17) (ci := 4) (v := .ref (a 2)) (pc := 18) hx hb hts hinX4 hown hz 0 rfl rfl 1 (by decide) L13 rfl rfl dX4_recordFrom_18 ?_
      refine lv_iload_n (pc := 21) hx hb dX4_recordFrom_21 rfl (lv_at hl 0 rfl) ?_
      refine lv_aload_n (pc := 22) hx hb dX4_recordFrom_22 rfl (lv_at hl 1 rfl) ?_
      refine z_get (own := RX4) (ref := "CupFountainModel") (C := RX4) (T := TX4) (N := 17) (ci := 4) (v := .ref (a 2)) (pc := 23) hx hb hts hinX4 hown hz 0 rfl rfl 1 (by decide) L13 rfl rfl dX4_recordFrom_23 ?_
      refine lv_bipush (v := 104) (pc := 26) hx hb dX4_recordFrom_26 (by decide) ?_
      refine lv_iload_n (pc := 28) hx hb dX4_recordFrom_28 rfl (lv_at hl 0 rfl) ?_
      refine lv_iadd (pc := 29) hx hb dX4_recordFrom_29 ?_
      refine z_iald (x := hi (104 + k)) (pc := 30) hx hb hz 2 rfl (104 + k) (nI_add 104 k) (by omega) (by decide) shF_ge dX4_recordFrom_30 ?_
      refine z_iast (ws1 := mm ca a f h c (upd (shF hi k) k (hi (104 + k))) sn be tx ti) (pc := 31) hx hb hz 2 rfl k rfl (by omega) (by decide) (by rw [shF_s]; rfl) dX4_recordFrom_31 (fun H locs hz => ?_)
      refine lv_iinc (v := nI (k + 1)) (lv' := [(2, .int (nI (k + 1))), (0, .ref (a 0)), (1, .ref (a 1))]) (pc := 32) hx hb dX4_recordFrom_32 hl (k := 0) rfl (nI_add k 1) (by decide) rfl (fun ls hl => ?_)
      refine lv_goto (tgt := 10) (pc := 35) hx hb dX4_recordFrom_35 (by decide) ?_
      exact ih (k + 1) (by omega) _ _ _ (hz.as (by rw [shF_s])) (lv_sub hl [0, 1, 2] rfl)
  exact loop1 312 0 (by omega) _ _ _ (hz.as (by rw [shF_0])) (lv_sub hl [0, 1, 2] rfl)

theorem k_X4_recordFrom_b (l : Launch) (G : va_G) (ca : Nat → ClassId) (a : Nat → Nat) (f h : Nat → Int32) (c : Nat → Nat → Int32) (hi sn be tx ti : Nat → Int32) (kp : Nat) (hkp : kp ≤ 4) (hf2 : f 2 = nI kp) : Zc l G ca yX4_recordFrom (zws yX4_recordFrom cX4_recordFrom 3 none) rm_X4_recordFrom [.ref (a 0), .ref (a 4)] (mm ca a f h c hi sn be tx ti) none (mm ca a (upd f 2 (nI (recK kp))) h c (recHi hi be kp) sn be tx ti) := by
  by_cases h4 : kp = 4
  · subst h4
    exact k_X4_recordFrom_bb l G ca a f h c hi sn be tx ti hf2
  · have h9 := k_X4_recordFrom_ba l G ca a f h c hi sn be tx ti kp (by omega) hf2
    simp only [recK, recHi, if_neg h4]
    exact h9

theorem k_X4_recordFrom_s (l : Launch) (G : va_G) (ca : Nat → ClassId) (a : Nat → Nat) (f h : Nat → Int32) (c : Nat → Nat → Int32) (hi sn be tx ti : Nat → Int32) (kp : Nat) (hkp : kp ≤ 4) (hf2 : f 2 = nI kp) : Zc l G ca yX4_recordFrom (zws yX4_recordFrom cX4_recordFrom 3 none) rm_X4_recordFrom [.ref (a 0), .ref (a 1)] (mm ca a f h c hi sn be tx ti) none (mm ca a (upd f 2 (nI (recK kp))) h c (recHi hi (enc h c) kp) sn be tx ti) := by
  by_cases h4 : kp = 4
  · subst h4
    exact k_X4_recordFrom_sb l G ca a f h c hi sn be tx ti hf2
  · have h9 := k_X4_recordFrom_sa l G ca a f h c hi sn be tx ti kp (by omega) hf2
    simp only [recK, recHi, if_neg h4]
    exact h9

def rm_X4_act : Room := { frames := 2, cells := 0, slots := 0, locals := 46 }
set_option maxRecDepth 20000 in
theorem hdV_X4_act : yX4_act.cls = RX4 ∧ yX4_act.cls ≠ "java/lang/invoke/MethodHandle" ∧ yX4_act.cls ≠ "java/lang/invoke/VarHandle" ∧ (parseMethodDescriptor yX4_act.desc).map (fun d => d.parameters.length) = some 1 := by decide +kernel
set_option maxHeartbeats 4000000 in
set_option maxRecDepth 100000 in
theorem k_X4_act (l : Launch) (G : va_G) (ca : Nat → ClassId) (a : Nat → Nat) (f h : Nat → Int32) (c : Nat → Nat → Int32) (hi sn be tx ti : Nat → Int32) (kp : Nat) (hkp : kp ≤ 4) (hf2 : f 2 = nI kp) (r : Int32) : Zc l G ca yX4_act (zws yX4_act cX4_act 2 (some .int)) rm_X4_act [.ref (a 0), .int r] (mm ca a f h c hi sn be tx ti) (some (.int r)) (mm ca a (actF f kp r) h c (actHi hi be kp r) sn be tx ti) := by
  refine Zc.of (cc := cX4_act) (maxL := 2) (ret := (some .int)) (by decide) rfl (Nat.le_of_ble_eq_true rfl) ?_
  intro pg ev s0 mt below meth cd A args Q ls hx hb hr hml hown hts hlk hQ hl hz
  have L19 : (Cond.fieldLink RX4 19 "CupFountainModel" "before" "[I").before args s0 = true := hts _ (zsub _ wq_4_8)
  have hinX4 : ∀ w ∈ wsX40, w ∈ zws yX4_act cX4_act 2 (some .int) := fun w h => zsub w (wl_wsX40 w h)
  have hl : lv_has ls 2 [(0, .ref (a 0)), (1, .int r)] := hl
  refine lv_iload_n (pc := 0) hx hb dX4_act_0 rfl (lv_at hl 1 rfl) ?_
  refine lv_if_lt (pc := 1) (tgt := 12) hx hb dX4_act_1 (by decide) (fun c_1 => ?_) (fun c_1 => ?_)
  · refine lv_iload_n (pc := 12) hx hb dX4_act_12 rfl (lv_at hl 1 rfl) ?_
    exact z_iret (pc := 13) hx hb hr hlk hQ hz dX4_act_13 (by rfl) (by simp only [actF, actHi, if_pos c_1])
  · refine lv_aload_n (pc := 4) hx hb dX4_act_4 rfl (lv_at hl 0 rfl) ?_
    refine lv_aload_n (pc := 5) hx hb dX4_act_5 rfl (lv_at hl 0 rfl) ?_
    refine z_get (own := RX4) (ref := "CupFountainModel") (C := RX4) (T := TX4) (N := 17) (ci := 4) (v := .ref (a 4)) (pc := 6) hx hb hts hinX4 hown hz 0 rfl rfl 5 (by decide) L19 rfl rfl dX4_act_6 ?_
    refine z_runV (pc := 9) (As := [.ref (a 4)]) (rest := []) (ws1 := mm ca a (upd f 2 (nI (recK kp))) h c (recHi hi be kp) sn be tx ti) ⟨hx, hb, hml, hown, hts⟩ (k_X4_recordFrom_b l G ca a f h c hi sn be tx ti kp hkp hf2) (cwV 1 hts (zgoodV zsub wq_7_19 wq_7_20 wq_7_21 wq_1_5 wq_7_22) rfl rfl rfl hdV_X4_recordFrom ⟨Nat.le_of_ble_eq_true rfl, Nat.le_of_ble_eq_true rfl⟩) hz [] zp_all zp_all' rfl rfl rfl hl.1 (Nat.le_of_ble_eq_true rfl) (st1 := []) rfl dX4_act_9 ⟨Nat.zero_le _, Nat.zero_le _⟩ (fun H locs hz => ?_)
    refine lv_iload_n (pc := 12) hx hb dX4_act_12 rfl (lv_at hl 1 rfl) ?_
    exact z_iret (pc := 13) hx hb hr hlk hQ hz dX4_act_13 (by rfl) (by simp only [actF, actHi, if_neg c_1])

def rm_X4_setCup : Room := { frames := 3, cells := 0, slots := 0, locals := 68 }
set_option maxRecDepth 20000 in
theorem hdV_X4_setCup : yX4_setCup.cls = RX4 ∧ yX4_setCup.cls ≠ "java/lang/invoke/MethodHandle" ∧ yX4_setCup.cls ≠ "java/lang/invoke/VarHandle" ∧ (parseMethodDescriptor yX4_setCup.desc).map (fun d => d.parameters.length) = some 3 := by decide +kernel
set_option maxHeartbeats 4000000 in
set_option maxRecDepth 100000 in
theorem k_X4_setCup (l : Launch) (G : va_G) (ca : Nat → ClassId) (a : Nat → Nat) (f h : Nat → Int32) (c : Nat → Nat → Int32) (hi sn be tx ti : Nat → Int32) (cup which value : Int32) (kp : Nat) (hkp : kp ≤ 4) (hf2 : f 2 = nI kp) : Zc l G ca yX4_setCup (zws yX4_setCup cX4_setCup 4 (some .int)) rm_X4_setCup [.ref (a 0), .int cup, .int which, .int value] (mm ca a f h c hi sn be tx ti) (some (.int (setR c cup which value))) (mm ca a (actF f kp (setR c cup which value)) h (setC c cup which value) (actHi hi (enc h c) kp (setR c cup which value)) sn (enc h c) tx ti) := by
  refine Zc.of (cc := cX4_setCup) (maxL := 4) (ret := (some .int)) (by decide) rfl (Nat.le_of_ble_eq_true rfl) ?_
  intro pg ev s0 mt below meth cd A args Q ls hx hb hr hml hown hts hlk hQ hl hz
  have hl : lv_has ls 4 [(0, .ref (a 0)), (1, .int cup), (2, .int which), (3, .int value)] := hl
  refine lv_aload_n (pc := 0) hx hb dX4_setCup_0 rfl (lv_at hl 0 rfl) ?_
  refine z_runV (pc := 1) (As := []) (rest := []) (ws1 := mm ca a f h c hi sn (enc h c) tx ti) ⟨hx, hb, hml, hown, hts⟩ (k_X4_begin l G ca a f h c hi sn be tx ti) (cwV 0 hts (zgoodV zsub wq_6_15 wq_6_16 wq_6_17 wq_1_5 wq_6_18) rfl rfl rfl hdV_X4_begin ⟨Nat.le_of_ble_eq_true rfl, Nat.le_of_ble_eq_true rfl⟩) hz [] zp_all zp_all' rfl rfl rfl hl.1 (Nat.le_of_ble_eq_true rfl) (st1 := []) rfl dX4_setCup_1 ⟨Nat.zero_le _, Nat.zero_le _⟩ (fun H locs hz => ?_)
  refine lv_aload_n (pc := 4) hx hb dX4_setCup_4 rfl (lv_at hl 0 rfl) ?_
  refine lv_aload_n (pc := 5) hx hb dX4_setCup_5 rfl (lv_at hl 0 rfl) ?_
  refine lv_iload_n (pc := 6) hx hb dX4_setCup_6 rfl (lv_at hl 1 rfl) ?_
  refine lv_iload_n (pc := 7) hx hb dX4_setCup_7 rfl (lv_at hl 2 rfl) ?_
  refine lv_iload_n (pc := 8) hx hb dX4_setCup_8 rfl (lv_at hl 3 rfl) ?_
  refine z_runV (pc := 9) (As := [.int cup, .int which, .int value]) (rest := [.ref (a 0)]) (ws1 := mm ca a f h (setC c cup which value) hi sn (enc h c) tx ti) ⟨hx, hb, hml, hown, hts⟩ (k_X4_doSetCup l G ca a f h c hi sn (enc h c) tx ti cup which value) (cwV 3 hts (zgoodV zsub wq_6_22 wq_6_23 wq_7_0 wq_1_5 wq_7_1) rfl rfl rfl hdV_X4_doSetCup ⟨Nat.le_of_ble_eq_true rfl, Nat.le_of_ble_eq_true rfl⟩) hz [] zp_all zp_all' rfl rfl rfl hl.1 (Nat.le_of_ble_eq_true rfl) (st1 := [.int (setR c cup which value), .ref (a 0)]) rfl dX4_setCup_9 ⟨Nat.zero_le _, Nat.zero_le _⟩ (fun H locs hz => ?_)
  refine z_runV (pc := 12) (As := [.int (setR c cup which value)]) (rest := []) (ws1 := mm ca a (actF f kp (setR c cup which value)) h (setC c cup which value) (actHi hi (enc h c) kp (setR c cup which value)) sn (enc h c) tx ti) ⟨hx, hb, hml, hown, hts⟩ (k_X4_act l G ca a f h (setC c cup which value) hi sn (enc h c) tx ti kp hkp hf2 (setR c cup which value)) (cwV 1 hts (zgoodV zsub wq_7_15 wq_7_16 wq_7_17 wq_1_5 wq_7_18) rfl rfl rfl hdV_X4_act ⟨Nat.le_of_ble_eq_true rfl, Nat.le_of_ble_eq_true rfl⟩) hz [] zp_all zp_all' rfl rfl rfl hl.1 (Nat.le_of_ble_eq_true rfl) (st1 := [.int (setR c cup which value)]) rfl dX4_setCup_12 ⟨Nat.zero_le _, Nat.zero_le _⟩ (fun H locs hz => ?_)
  exact z_iret (pc := 15) hx hb hr hlk hQ hz dX4_setCup_15 (by first | rfl | (simp only [])) (by first | rfl | (simp only []))

def rm_X4_turnLock : Room := { frames := 3, cells := 0, slots := 0, locals := 67 }
set_option maxRecDepth 20000 in
theorem hdV_X4_turnLock : yX4_turnLock.cls = RX4 ∧ yX4_turnLock.cls ≠ "java/lang/invoke/MethodHandle" ∧ yX4_turnLock.cls ≠ "java/lang/invoke/VarHandle" ∧ (parseMethodDescriptor yX4_turnLock.desc).map (fun d => d.parameters.length) = some 1 := by decide +kernel
set_option maxHeartbeats 4000000 in
set_option maxRecDepth 100000 in
theorem k_X4_turnLock (l : Launch) (G : va_G) (ca : Nat → ClassId) (a : Nat → Nat) (f h : Nat → Int32) (c : Nat → Nat → Int32) (hi sn be tx ti : Nat → Int32) (cup : Int32) (kp : Nat) (hkp : kp ≤ 4) (hf2 : f 2 = nI kp) : Zc l G ca yX4_turnLock (zws yX4_turnLock cX4_turnLock 2 (some .int)) rm_X4_turnLock [.ref (a 0), .int cup] (mm ca a f h c hi sn be tx ti) (some (.int (turnR c cup))) (mm ca a (actF f kp (turnR c cup)) h (turnC c cup) (actHi hi (enc h c) kp (turnR c cup)) sn (enc h c) tx ti) := by
  refine Zc.of (cc := cX4_turnLock) (maxL := 2) (ret := (some .int)) (by decide) rfl (Nat.le_of_ble_eq_true rfl) ?_
  intro pg ev s0 mt below meth cd A args Q ls hx hb hr hml hown hts hlk hQ hl hz
  have hl : lv_has ls 2 [(0, .ref (a 0)), (1, .int cup)] := hl
  refine lv_aload_n (pc := 0) hx hb dX4_turnLock_0 rfl (lv_at hl 0 rfl) ?_
  refine z_runV (pc := 1) (As := []) (rest := []) (ws1 := mm ca a f h c hi sn (enc h c) tx ti) ⟨hx, hb, hml, hown, hts⟩ (k_X4_begin l G ca a f h c hi sn be tx ti) (cwV 0 hts (zgoodV zsub wq_6_15 wq_6_16 wq_6_17 wq_1_5 wq_6_18) rfl rfl rfl hdV_X4_begin ⟨Nat.le_of_ble_eq_true rfl, Nat.le_of_ble_eq_true rfl⟩) hz [] zp_all zp_all' rfl rfl rfl hl.1 (Nat.le_of_ble_eq_true rfl) (st1 := []) rfl dX4_turnLock_1 ⟨Nat.zero_le _, Nat.zero_le _⟩ (fun H locs hz => ?_)
  refine lv_aload_n (pc := 4) hx hb dX4_turnLock_4 rfl (lv_at hl 0 rfl) ?_
  refine lv_aload_n (pc := 5) hx hb dX4_turnLock_5 rfl (lv_at hl 0 rfl) ?_
  refine lv_iload_n (pc := 6) hx hb dX4_turnLock_6 rfl (lv_at hl 1 rfl) ?_
  refine z_runV (pc := 7) (As := [.int cup]) (rest := [.ref (a 0)]) (ws1 := mm ca a f h (turnC c cup) hi sn (enc h c) tx ti) ⟨hx, hb, hml, hown, hts⟩ (k_X4_doTurn l G ca a f h c hi sn (enc h c) tx ti cup) (cwV 1 hts (zgoodV zsub wq_8_14 wq_8_15 wq_8_16 wq_1_5 wq_8_17) rfl rfl rfl hdV_X4_doTurn ⟨Nat.le_of_ble_eq_true rfl, Nat.le_of_ble_eq_true rfl⟩) hz [] zp_all zp_all' rfl rfl rfl hl.1 (Nat.le_of_ble_eq_true rfl) (st1 := [.int (turnR c cup), .ref (a 0)]) rfl dX4_turnLock_7 ⟨Nat.zero_le _, Nat.zero_le _⟩ (fun H locs hz => ?_)
  refine z_runV (pc := 10) (As := [.int (turnR c cup)]) (rest := []) (ws1 := mm ca a (actF f kp (turnR c cup)) h (turnC c cup) (actHi hi (enc h c) kp (turnR c cup)) sn (enc h c) tx ti) ⟨hx, hb, hml, hown, hts⟩ (k_X4_act l G ca a f h (turnC c cup) hi sn (enc h c) tx ti kp hkp hf2 (turnR c cup)) (cwV 1 hts (zgoodV zsub wq_7_15 wq_7_16 wq_7_17 wq_1_5 wq_7_18) rfl rfl rfl hdV_X4_act ⟨Nat.le_of_ble_eq_true rfl, Nat.le_of_ble_eq_true rfl⟩) hz [] zp_all zp_all' rfl rfl rfl hl.1 (Nat.le_of_ble_eq_true rfl) (st1 := [.int (turnR c cup)]) rfl dX4_turnLock_10 ⟨Nat.zero_le _, Nat.zero_le _⟩ (fun H locs hz => ?_)
  exact z_iret (pc := 13) hx hb hr hlk hQ hz dX4_turnLock_13 (by first | rfl | (simp only [])) (by first | rfl | (simp only []))

def rm_X4_setHour : Room := { frames := 3, cells := 0, slots := 0, locals := 67 }
set_option maxRecDepth 20000 in
theorem hdV_X4_setHour : yX4_setHour.cls = RX4 ∧ yX4_setHour.cls ≠ "java/lang/invoke/MethodHandle" ∧ yX4_setHour.cls ≠ "java/lang/invoke/VarHandle" ∧ (parseMethodDescriptor yX4_setHour.desc).map (fun d => d.parameters.length) = some 2 := by decide +kernel
set_option maxHeartbeats 4000000 in
set_option maxRecDepth 100000 in
theorem k_X4_setHour (l : Launch) (G : va_G) (ca : Nat → ClassId) (a : Nat → Nat) (f h : Nat → Int32) (c : Nat → Nat → Int32) (hi sn be tx ti : Nat → Int32) (cup hour : Int32) (kp : Nat) (hkp : kp ≤ 4) (hf2 : f 2 = nI kp) : Zc l G ca yX4_setHour (zws yX4_setHour cX4_setHour 3 (some .int)) rm_X4_setHour [.ref (a 0), .int cup, .int hour] (mm ca a f h c hi sn be tx ti) (some (.int (hourR c cup hour))) (mm ca a (actF f kp (hourR c cup hour)) h (hourC c cup hour) (actHi hi (enc h c) kp (hourR c cup hour)) sn (enc h c) tx ti) := by
  refine Zc.of (cc := cX4_setHour) (maxL := 3) (ret := (some .int)) (by decide) rfl (Nat.le_of_ble_eq_true rfl) ?_
  intro pg ev s0 mt below meth cd A args Q ls hx hb hr hml hown hts hlk hQ hl hz
  have hl : lv_has ls 3 [(0, .ref (a 0)), (1, .int cup), (2, .int hour)] := hl
  refine lv_aload_n (pc := 0) hx hb dX4_setHour_0 rfl (lv_at hl 0 rfl) ?_
  refine z_runV (pc := 1) (As := []) (rest := []) (ws1 := mm ca a f h c hi sn (enc h c) tx ti) ⟨hx, hb, hml, hown, hts⟩ (k_X4_begin l G ca a f h c hi sn be tx ti) (cwV 0 hts (zgoodV zsub wq_6_15 wq_6_16 wq_6_17 wq_1_5 wq_6_18) rfl rfl rfl hdV_X4_begin ⟨Nat.le_of_ble_eq_true rfl, Nat.le_of_ble_eq_true rfl⟩) hz [] zp_all zp_all' rfl rfl rfl hl.1 (Nat.le_of_ble_eq_true rfl) (st1 := []) rfl dX4_setHour_1 ⟨Nat.zero_le _, Nat.zero_le _⟩ (fun H locs hz => ?_)
  refine lv_aload_n (pc := 4) hx hb dX4_setHour_4 rfl (lv_at hl 0 rfl) ?_
  refine lv_aload_n (pc := 5) hx hb dX4_setHour_5 rfl (lv_at hl 0 rfl) ?_
  refine lv_iload_n (pc := 6) hx hb dX4_setHour_6 rfl (lv_at hl 1 rfl) ?_
  refine lv_iload_n (pc := 7) hx hb dX4_setHour_7 rfl (lv_at hl 2 rfl) ?_
  refine z_runV (pc := 8) (As := [.int cup, .int hour]) (rest := [.ref (a 0)]) (ws1 := mm ca a f h (hourC c cup hour) hi sn (enc h c) tx ti) ⟨hx, hb, hml, hown, hts⟩ (k_X4_doSetHour l G ca a f h c hi sn (enc h c) tx ti cup hour) (cwV 2 hts (zgoodV zsub wq_9_7 wq_9_8 wq_9_9 wq_1_5 wq_9_10) rfl rfl rfl hdV_X4_doSetHour ⟨Nat.le_of_ble_eq_true rfl, Nat.le_of_ble_eq_true rfl⟩) hz [] zp_all zp_all' rfl rfl rfl hl.1 (Nat.le_of_ble_eq_true rfl) (st1 := [.int (hourR c cup hour), .ref (a 0)]) rfl dX4_setHour_8 ⟨Nat.zero_le _, Nat.zero_le _⟩ (fun H locs hz => ?_)
  refine z_runV (pc := 11) (As := [.int (hourR c cup hour)]) (rest := []) (ws1 := mm ca a (actF f kp (hourR c cup hour)) h (hourC c cup hour) (actHi hi (enc h c) kp (hourR c cup hour)) sn (enc h c) tx ti) ⟨hx, hb, hml, hown, hts⟩ (k_X4_act l G ca a f h (hourC c cup hour) hi sn (enc h c) tx ti kp hkp hf2 (hourR c cup hour)) (cwV 1 hts (zgoodV zsub wq_7_15 wq_7_16 wq_7_17 wq_1_5 wq_7_18) rfl rfl rfl hdV_X4_act ⟨Nat.le_of_ble_eq_true rfl, Nat.le_of_ble_eq_true rfl⟩) hz [] zp_all zp_all' rfl rfl rfl hl.1 (Nat.le_of_ble_eq_true rfl) (st1 := [.int (hourR c cup hour)]) rfl dX4_setHour_11 ⟨Nat.zero_le _, Nat.zero_le _⟩ (fun H locs hz => ?_)
  exact z_iret (pc := 14) hx hb hr hlk hQ hz dX4_setHour_14 (by first | rfl | (simp only [])) (by first | rfl | (simp only []))

def rm_X4_guard : Room := { frames := 3, cells := 0, slots := 0, locals := 67 }
set_option maxRecDepth 20000 in
theorem hdV_X4_guard : yX4_guard.cls = RX4 ∧ yX4_guard.cls ≠ "java/lang/invoke/MethodHandle" ∧ yX4_guard.cls ≠ "java/lang/invoke/VarHandle" ∧ (parseMethodDescriptor yX4_guard.desc).map (fun d => d.parameters.length) = some 1 := by decide +kernel
set_option maxHeartbeats 4000000 in
set_option maxRecDepth 100000 in
theorem k_X4_guard (l : Launch) (G : va_G) (ca : Nat → ClassId) (a : Nat → Nat) (f h : Nat → Int32) (c : Nat → Nat → Int32) (hi sn be tx ti : Nat → Int32) (cup : Int32) (kp : Nat) (hkp : kp ≤ 4) (hf2 : f 2 = nI kp) : Zc l G ca yX4_guard (zws yX4_guard cX4_guard 2 (some .int)) rm_X4_guard [.ref (a 0), .int cup] (mm ca a f h c hi sn be tx ti) (some (.int (guardR c cup))) (mm ca a (actF f kp (guardR c cup)) h (guardC c cup) (actHi hi (enc h c) kp (guardR c cup)) sn (enc h c) tx ti) := by
  refine Zc.of (cc := cX4_guard) (maxL := 2) (ret := (some .int)) (by decide) rfl (Nat.le_of_ble_eq_true rfl) ?_
  intro pg ev s0 mt below meth cd A args Q ls hx hb hr hml hown hts hlk hQ hl hz
  have hl : lv_has ls 2 [(0, .ref (a 0)), (1, .int cup)] := hl
  refine lv_aload_n (pc := 0) hx hb dX4_guard_0 rfl (lv_at hl 0 rfl) ?_
  refine z_runV (pc := 1) (As := []) (rest := []) (ws1 := mm ca a f h c hi sn (enc h c) tx ti) ⟨hx, hb, hml, hown, hts⟩ (k_X4_begin l G ca a f h c hi sn be tx ti) (cwV 0 hts (zgoodV zsub wq_6_15 wq_6_16 wq_6_17 wq_1_5 wq_6_18) rfl rfl rfl hdV_X4_begin ⟨Nat.le_of_ble_eq_true rfl, Nat.le_of_ble_eq_true rfl⟩) hz [] zp_all zp_all' rfl rfl rfl hl.1 (Nat.le_of_ble_eq_true rfl) (st1 := []) rfl dX4_guard_1 ⟨Nat.zero_le _, Nat.zero_le _⟩ (fun H locs hz => ?_)
  refine lv_aload_n (pc := 4) hx hb dX4_guard_4 rfl (lv_at hl 0 rfl) ?_
  refine lv_aload_n (pc := 5) hx hb dX4_guard_5 rfl (lv_at hl 0 rfl) ?_
  refine lv_iload_n (pc := 6) hx hb dX4_guard_6 rfl (lv_at hl 1 rfl) ?_
  refine z_runV (pc := 7) (As := [.int cup]) (rest := [.ref (a 0)]) (ws1 := mm ca a f h (guardC c cup) hi sn (enc h c) tx ti) ⟨hx, hb, hml, hown, hts⟩ (k_X4_doGuard l G ca a f h c hi sn (enc h c) tx ti cup) (cwV 1 hts (zgoodV zsub wq_9_23 wq_10_0 wq_10_1 wq_1_5 wq_10_2) rfl rfl rfl hdV_X4_doGuard ⟨Nat.le_of_ble_eq_true rfl, Nat.le_of_ble_eq_true rfl⟩) hz [] zp_all zp_all' rfl rfl rfl hl.1 (Nat.le_of_ble_eq_true rfl) (st1 := [.int (guardR c cup), .ref (a 0)]) rfl dX4_guard_7 ⟨Nat.zero_le _, Nat.zero_le _⟩ (fun H locs hz => ?_)
  refine z_runV (pc := 10) (As := [.int (guardR c cup)]) (rest := []) (ws1 := mm ca a (actF f kp (guardR c cup)) h (guardC c cup) (actHi hi (enc h c) kp (guardR c cup)) sn (enc h c) tx ti) ⟨hx, hb, hml, hown, hts⟩ (k_X4_act l G ca a f h (guardC c cup) hi sn (enc h c) tx ti kp hkp hf2 (guardR c cup)) (cwV 1 hts (zgoodV zsub wq_7_15 wq_7_16 wq_7_17 wq_1_5 wq_7_18) rfl rfl rfl hdV_X4_act ⟨Nat.le_of_ble_eq_true rfl, Nat.le_of_ble_eq_true rfl⟩) hz [] zp_all zp_all' rfl rfl rfl hl.1 (Nat.le_of_ble_eq_true rfl) (st1 := [.int (guardR c cup)]) rfl dX4_guard_10 ⟨Nat.zero_le _, Nat.zero_le _⟩ (fun H locs hz => ?_)
  exact z_iret (pc := 13) hx hb hr hlk hQ hz dX4_guard_13 (by first | rfl | (simp only [])) (by first | rfl | (simp only []))

def rm_X4_fill : Room := { frames := 3, cells := 0, slots := 0, locals := 67 }
set_option maxRecDepth 20000 in
theorem hdV_X4_fill : yX4_fill.cls = RX4 ∧ yX4_fill.cls ≠ "java/lang/invoke/MethodHandle" ∧ yX4_fill.cls ≠ "java/lang/invoke/VarHandle" ∧ (parseMethodDescriptor yX4_fill.desc).map (fun d => d.parameters.length) = some 2 := by decide +kernel
set_option maxHeartbeats 4000000 in
set_option maxRecDepth 100000 in
theorem k_X4_fill (l : Launch) (G : va_G) (ca : Nat → ClassId) (a : Nat → Nat) (f h : Nat → Int32) (c : Nat → Nat → Int32) (hi sn be tx ti : Nat → Int32) (cup water : Int32) (kp : Nat) (hkp : kp ≤ 4) (hf2 : f 2 = nI kp) : Zc l G ca yX4_fill (zws yX4_fill cX4_fill 3 (some .int)) rm_X4_fill [.ref (a 0), .int cup, .int water] (mm ca a f h c hi sn be tx ti) (some (.int (fillR c cup water))) (mm ca a (actF f kp (fillR c cup water)) (fillH h c cup water) (fillC c cup water) (actHi hi (enc h c) kp (fillR c cup water)) sn (enc h c) tx ti) := by
  refine Zc.of (cc := cX4_fill) (maxL := 3) (ret := (some .int)) (by decide) rfl (Nat.le_of_ble_eq_true rfl) ?_
  intro pg ev s0 mt below meth cd A args Q ls hx hb hr hml hown hts hlk hQ hl hz
  have hl : lv_has ls 3 [(0, .ref (a 0)), (1, .int cup), (2, .int water)] := hl
  refine lv_aload_n (pc := 0) hx hb dX4_fill_0 rfl (lv_at hl 0 rfl) ?_
  refine z_runV (pc := 1) (As := []) (rest := []) (ws1 := mm ca a f h c hi sn (enc h c) tx ti) ⟨hx, hb, hml, hown, hts⟩ (k_X4_begin l G ca a f h c hi sn be tx ti) (cwV 0 hts (zgoodV zsub wq_6_15 wq_6_16 wq_6_17 wq_1_5 wq_6_18) rfl rfl rfl hdV_X4_begin ⟨Nat.le_of_ble_eq_true rfl, Nat.le_of_ble_eq_true rfl⟩) hz [] zp_all zp_all' rfl rfl rfl hl.1 (Nat.le_of_ble_eq_true rfl) (st1 := []) rfl dX4_fill_1 ⟨Nat.zero_le _, Nat.zero_le _⟩ (fun H locs hz => ?_)
  refine lv_aload_n (pc := 4) hx hb dX4_fill_4 rfl (lv_at hl 0 rfl) ?_
  refine lv_aload_n (pc := 5) hx hb dX4_fill_5 rfl (lv_at hl 0 rfl) ?_
  refine lv_iload_n (pc := 6) hx hb dX4_fill_6 rfl (lv_at hl 1 rfl) ?_
  refine lv_iload_n (pc := 7) hx hb dX4_fill_7 rfl (lv_at hl 2 rfl) ?_
  refine z_runV (pc := 8) (As := [.int cup, .int water]) (rest := [.ref (a 0)]) (ws1 := mm ca a f (fillH h c cup water) (fillC c cup water) hi sn (enc h c) tx ti) ⟨hx, hb, hml, hown, hts⟩ (k_X4_doFill l G ca a f h c hi sn (enc h c) tx ti cup water) (cwV 2 hts (zgoodV zsub wq_10_16 wq_10_17 wq_10_18 wq_1_5 wq_10_19) rfl rfl rfl hdV_X4_doFill ⟨Nat.le_of_ble_eq_true rfl, Nat.le_of_ble_eq_true rfl⟩) hz [] zp_all zp_all' rfl rfl rfl hl.1 (Nat.le_of_ble_eq_true rfl) (st1 := [.int (fillR c cup water), .ref (a 0)]) rfl dX4_fill_8 ⟨Nat.zero_le _, Nat.zero_le _⟩ (fun H locs hz => ?_)
  refine z_runV (pc := 11) (As := [.int (fillR c cup water)]) (rest := []) (ws1 := mm ca a (actF f kp (fillR c cup water)) (fillH h c cup water) (fillC c cup water) (actHi hi (enc h c) kp (fillR c cup water)) sn (enc h c) tx ti) ⟨hx, hb, hml, hown, hts⟩ (k_X4_act l G ca a f (fillH h c cup water) (fillC c cup water) hi sn (enc h c) tx ti kp hkp hf2 (fillR c cup water)) (cwV 1 hts (zgoodV zsub wq_7_15 wq_7_16 wq_7_17 wq_1_5 wq_7_18) rfl rfl rfl hdV_X4_act ⟨Nat.le_of_ble_eq_true rfl, Nat.le_of_ble_eq_true rfl⟩) hz [] zp_all zp_all' rfl rfl rfl hl.1 (Nat.le_of_ble_eq_true rfl) (st1 := [.int (fillR c cup water)]) rfl dX4_fill_11 ⟨Nat.zero_le _, Nat.zero_le _⟩ (fun H locs hz => ?_)
  exact z_iret (pc := 14) hx hb hr hlk hQ hz dX4_fill_14 (by first | rfl | (simp only [])) (by first | rfl | (simp only []))

def rm_X4_set : Room := { frames := 3, cells := 0, slots := 0, locals := 67 }
set_option maxRecDepth 20000 in
theorem hdV_X4_set : yX4_set.cls = RX4 ∧ yX4_set.cls ≠ "java/lang/invoke/MethodHandle" ∧ yX4_set.cls ≠ "java/lang/invoke/VarHandle" ∧ (parseMethodDescriptor yX4_set.desc).map (fun d => d.parameters.length) = some 2 := by decide +kernel
set_option maxHeartbeats 4000000 in
set_option maxRecDepth 100000 in
theorem k_X4_set (l : Launch) (G : va_G) (ca : Nat → ClassId) (a : Nat → Nat) (f h : Nat → Int32) (c : Nat → Nat → Int32) (hi sn be tx ti : Nat → Int32) (which value : Int32) (kp : Nat) (hkp : kp ≤ 4) (hf2 : f 2 = nI kp) : Zc l G ca yX4_set (zws yX4_set cX4_set 3 (some .int)) rm_X4_set [.ref (a 0), .int which, .int value] (mm ca a f h c hi sn be tx ti) (some (.int (putR h which value))) (mm ca a (actF f kp (putR h which value)) (putH h which value) c (actHi hi (enc h c) kp (putR h which value)) sn (enc h c) tx ti) := by
  refine Zc.of (cc := cX4_set) (maxL := 3) (ret := (some .int)) (by decide) rfl (Nat.le_of_ble_eq_true rfl) ?_
  intro pg ev s0 mt below meth cd A args Q ls hx hb hr hml hown hts hlk hQ hl hz
  have hl : lv_has ls 3 [(0, .ref (a 0)), (1, .int which), (2, .int value)] := hl
  refine lv_aload_n (pc := 0) hx hb dX4_set_0 rfl (lv_at hl 0 rfl) ?_
  refine z_runV (pc := 1) (As := []) (rest := []) (ws1 := mm ca a f h c hi sn (enc h c) tx ti) ⟨hx, hb, hml, hown, hts⟩ (k_X4_begin l G ca a f h c hi sn be tx ti) (cwV 0 hts (zgoodV zsub wq_6_15 wq_6_16 wq_6_17 wq_1_5 wq_6_18) rfl rfl rfl hdV_X4_begin ⟨Nat.le_of_ble_eq_true rfl, Nat.le_of_ble_eq_true rfl⟩) hz [] zp_all zp_all' rfl rfl rfl hl.1 (Nat.le_of_ble_eq_true rfl) (st1 := []) rfl dX4_set_1 ⟨Nat.zero_le _, Nat.zero_le _⟩ (fun H locs hz => ?_)
  refine lv_aload_n (pc := 4) hx hb dX4_set_4 rfl (lv_at hl 0 rfl) ?_
  refine lv_aload_n (pc := 5) hx hb dX4_set_5 rfl (lv_at hl 0 rfl) ?_
  refine lv_iload_n (pc := 6) hx hb dX4_set_6 rfl (lv_at hl 1 rfl) ?_
  refine lv_iload_n (pc := 7) hx hb dX4_set_7 rfl (lv_at hl 2 rfl) ?_
  refine z_runV (pc := 8) (As := [.int which, .int value]) (rest := [.ref (a 0)]) (ws1 := mm ca a f (putH h which value) c hi sn (enc h c) tx ti) ⟨hx, hb, hml, hown, hts⟩ (k_X4_doSet l G ca a f h c hi sn (enc h c) tx ti which value) (cwV 2 hts (zgoodV zsub wq_11_12 wq_11_13 wq_11_14 wq_1_5 wq_11_15) rfl rfl rfl hdV_X4_doSet ⟨Nat.le_of_ble_eq_true rfl, Nat.le_of_ble_eq_true rfl⟩) hz [] zp_all zp_all' rfl rfl rfl hl.1 (Nat.le_of_ble_eq_true rfl) (st1 := [.int (putR h which value), .ref (a 0)]) rfl dX4_set_8 ⟨Nat.zero_le _, Nat.zero_le _⟩ (fun H locs hz => ?_)
  refine z_runV (pc := 11) (As := [.int (putR h which value)]) (rest := []) (ws1 := mm ca a (actF f kp (putR h which value)) (putH h which value) c (actHi hi (enc h c) kp (putR h which value)) sn (enc h c) tx ti) ⟨hx, hb, hml, hown, hts⟩ (k_X4_act l G ca a f (putH h which value) c hi sn (enc h c) tx ti kp hkp hf2 (putR h which value)) (cwV 1 hts (zgoodV zsub wq_7_15 wq_7_16 wq_7_17 wq_1_5 wq_7_18) rfl rfl rfl hdV_X4_act ⟨Nat.le_of_ble_eq_true rfl, Nat.le_of_ble_eq_true rfl⟩) hz [] zp_all zp_all' rfl rfl rfl hl.1 (Nat.le_of_ble_eq_true rfl) (st1 := [.int (putR h which value)]) rfl dX4_set_11 ⟨Nat.zero_le _, Nat.zero_le _⟩ (fun H locs hz => ?_)
  exact z_iret (pc := 14) hx hb hr hlk hQ hz dX4_set_14 (by first | rfl | (simp only [])) (by first | rfl | (simp only []))

def rm_X4_pass : Room := { frames := 5, cells := 0, slots := 0, locals := 119 }
set_option maxRecDepth 20000 in
theorem hdV_X4_pass : yX4_pass.cls = RX4 ∧ yX4_pass.cls ≠ "java/lang/invoke/MethodHandle" ∧ yX4_pass.cls ≠ "java/lang/invoke/VarHandle" ∧ (parseMethodDescriptor yX4_pass.desc).map (fun d => d.parameters.length) = some 1 := by decide +kernel
set_option maxHeartbeats 4000000 in
set_option maxRecDepth 100000 in
theorem k_X4_pass (l : Launch) (G : va_G) (ca : Nat → ClassId) (a : Nat → Nat) (f h : Nat → Int32) (c : Nat → Nat → Int32) (hi sn be tx ti : Nat → Int32) (ticks : Int32) (kp : Nat) (hkp : kp ≤ 4) (hf2 : f 2 = nI kp) (hok : okP (h, c)) : Zc l G ca yX4_pass (zws yX4_pass cX4_pass 2 (some .int)) rm_X4_pass [.ref (a 0), .int ticks] (mm ca a f h c hi sn be tx ti) (some (.int (passR (h, c) ticks))) (mm ca a (actF f kp (passR (h, c) ticks)) ((tkN (h, c) (passN (h, c) ticks)).1) ((tkN (h, c) (passN (h, c) ticks)).2) (actHi hi (enc h c) kp (passR (h, c) ticks)) sn (enc h c) tx (tkT (h, c) ti (passN (h, c) ticks))) := by
  refine Zc.of (cc := cX4_pass) (maxL := 2) (ret := (some .int)) (by decide) rfl (Nat.le_of_ble_eq_true rfl) ?_
  intro pg ev s0 mt below meth cd A args Q ls hx hb hr hml hown hts hlk hQ hl hz
  have hl : lv_has ls 2 [(0, .ref (a 0)), (1, .int ticks)] := hl
  refine lv_aload_n (pc := 0) hx hb dX4_pass_0 rfl (lv_at hl 0 rfl) ?_
  refine z_runV (pc := 1) (As := []) (rest := []) (ws1 := mm ca a f h c hi sn (enc h c) tx ti) ⟨hx, hb, hml, hown, hts⟩ (k_X4_begin l G ca a f h c hi sn be tx ti) (cwV 0 hts (zgoodV zsub wq_6_15 wq_6_16 wq_6_17 wq_1_5 wq_6_18) rfl rfl rfl hdV_X4_begin ⟨Nat.le_of_ble_eq_true rfl, Nat.le_of_ble_eq_true rfl⟩) hz [] zp_all zp_all' rfl rfl rfl hl.1 (Nat.le_of_ble_eq_true rfl) (st1 := []) rfl dX4_pass_1 ⟨Nat.zero_le _, Nat.zero_le _⟩ (fun H locs hz => ?_)
  refine lv_aload_n (pc := 4) hx hb dX4_pass_4 rfl (lv_at hl 0 rfl) ?_
  refine lv_aload_n (pc := 5) hx hb dX4_pass_5 rfl (lv_at hl 0 rfl) ?_
  refine lv_iload_n (pc := 6) hx hb dX4_pass_6 rfl (lv_at hl 1 rfl) ?_
  refine z_runV (pc := 7) (As := [.int ticks]) (rest := [.ref (a 0)]) (ws1 := mm ca a f ((tkN (h, c) (passN (h, c) ticks)).1) ((tkN (h, c) (passN (h, c) ticks)).2) hi sn (enc h c) tx (tkT (h, c) ti (passN (h, c) ticks))) ⟨hx, hb, hml, hown, hts⟩ (k_X4_doPass l G ca a f h c hi sn (enc h c) tx ti ticks hok) (cwV 1 hts (zgoodV zsub wq_14_4 wq_14_5 wq_14_6 wq_1_5 wq_14_7) rfl rfl rfl hdV_X4_doPass ⟨Nat.le_of_ble_eq_true rfl, Nat.le_of_ble_eq_true rfl⟩) hz [] zp_all zp_all' rfl rfl rfl hl.1 (Nat.le_of_ble_eq_true rfl) (st1 := [.int (passR (h, c) ticks), .ref (a 0)]) rfl dX4_pass_7 ⟨Nat.zero_le _, Nat.zero_le _⟩ (fun H locs hz => ?_)
  refine z_runV (pc := 10) (As := [.int (passR (h, c) ticks)]) (rest := []) (ws1 := mm ca a (actF f kp (passR (h, c) ticks)) ((tkN (h, c) (passN (h, c) ticks)).1) ((tkN (h, c) (passN (h, c) ticks)).2) (actHi hi (enc h c) kp (passR (h, c) ticks)) sn (enc h c) tx (tkT (h, c) ti (passN (h, c) ticks))) ⟨hx, hb, hml, hown, hts⟩ (k_X4_act l G ca a f ((tkN (h, c) (passN (h, c) ticks)).1) ((tkN (h, c) (passN (h, c) ticks)).2) hi sn (enc h c) tx (tkT (h, c) ti (passN (h, c) ticks)) kp hkp hf2 (passR (h, c) ticks)) (cwV 1 hts (zgoodV zsub wq_7_15 wq_7_16 wq_7_17 wq_1_5 wq_7_18) rfl rfl rfl hdV_X4_act ⟨Nat.le_of_ble_eq_true rfl, Nat.le_of_ble_eq_true rfl⟩) hz [] zp_all zp_all' rfl rfl rfl hl.1 (Nat.le_of_ble_eq_true rfl) (st1 := [.int (passR (h, c) ticks)]) rfl dX4_pass_10 ⟨Nat.zero_le _, Nat.zero_le _⟩ (fun H locs hz => ?_)
  exact z_iret (pc := 13) hx hb hr hlk hQ hz dX4_pass_13 (by first | rfl | (simp only [])) (by first | rfl | (simp only []))
