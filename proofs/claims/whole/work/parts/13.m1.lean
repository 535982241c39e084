def rm_X4_in : Room := { frames := 0, cells := 0, slots := 0, locals := 0 }
set_option maxRecDepth 20000 in
theorem hdV_X4_in : yX4_in.cls = RX4 ∧ yX4_in.cls ≠ "java/lang/invoke/MethodHandle" ∧ yX4_in.cls ≠ "java/lang/invoke/VarHandle" ∧ (parseMethodDescriptor yX4_in.desc).map (fun d => d.parameters.length) = some 3 := by decide +kernel
set_option maxHeartbeats 4000000 in
set_option maxRecDepth 100000 in
/-- in: 1 within, else 0 -/
theorem k_X4_in (l : Launch) (G : va_G) (ca : Nat → ClassId) (x lo hi : Int32) : Zc l G ca yX4_in (zws yX4_in cX4_in 3 (some .boolean)) rm_X4_in [.int x, .int lo, .int hi] ([]) (some (.int (inF x lo hi))) ([]) := by
  refine Zc.of (cc := cX4_in) (maxL := 3) (ret := (some .boolean)) (by decide) rfl (Nat.le_of_ble_eq_true rfl) ?_
  intro pg ev s0 mt below meth cd A args Q ls hx hb hr hml hown hts hlk hQ hl hz
  have hl : lv_has ls 3 [(0, .int x), (1, .int lo), (2, .int hi)] := hl
  refine lv_iload_n (pc := 0) hx hb dX4_in_0 rfl (lv_at hl 0 rfl) ?_
  refine lv_iload_n (pc := 1) hx hb dX4_in_1 rfl (lv_at hl 1 rfl) ?_
  have J1 : ∀ (H : Heap) (locs : List Loc) (ls : Array Slot), zw G ca A s0.heap s0 ([]) H locs → lv_has ls 3 [(0, .int x), (1, .int lo), (2, .int hi)] → W pg l ev rm_X4_in s0 mt args below meth cd H locs 0 0 Q (F0 mt 15 ls [.int (inF x lo hi)]) := by
    intro H locs ls hz hl
    exact z_zret (pc := 15) hx hb hr hlk hQ hz (inF_n x lo hi) dX4_in_15 (by rfl) (by rfl)
  refine lv_icmp_lt (pc := 2) (tgt := 14) hx hb dX4_in_2 (by decide) (fun c_2 => ?_) (fun c_2 => ?_)
  · refine lv_iconst (v := 0) (pc := 14) hx hb dX4_in_14 (by decide) ?_
    exact z_top (by first | rfl | (simp only [inF, if_pos c_2])) (J1 _ _ _ hz (lv_sub hl [0, 1, 2] rfl))
  · refine lv_iload_n (pc := 5) hx hb dX4_in_5 rfl (lv_at hl 0 rfl) ?_
    refine lv_iload_n (pc := 6) hx hb dX4_in_6 rfl (lv_at hl 2 rfl) ?_
    refine lv_icmp_gt (pc := 7) (tgt := 14) hx hb dX4_in_7 (by decide) (fun c_7 => ?_) (fun c_7 => ?_)
    · refine lv_iconst (v := 0) (pc := 14) hx hb dX4_in_14 (by decide) ?_
      exact z_top (by first | rfl | (simp only [inF, if_neg c_2, if_pos c_7])) (J1 _ _ _ hz (lv_sub hl [0, 1, 2] rfl))
    · refine lv_iconst (v := 1) (pc := 10) hx hb dX4_in_10 (by decide) ?_
      refine lv_goto (tgt := 15) (pc := 11) hx hb dX4_in_11 (by decide) ?_
      exact z_top (by first | rfl | (simp only [inF, if_neg c_2, if_neg c_7])) (J1 _ _ _ hz (lv_sub hl [0, 1, 2] rfl))

def rm_X4_isCup : Room := { frames := 1, cells := 0, slots := 0, locals := 22 }
set_option maxRecDepth 20000 in
theorem hdV_X4_isCup : yX4_isCup.cls = RX4 ∧ yX4_isCup.cls ≠ "java/lang/invoke/MethodHandle" ∧ yX4_isCup.cls ≠ "java/lang/invoke/VarHandle" ∧ (parseMethodDescriptor yX4_isCup.desc).map (fun d => d.parameters.length) = some 1 := by decide +kernel
set_option maxHeartbeats 4000000 in
set_option maxRecDepth 100000 in
theorem k_X4_isCup (l : Launch) (G : va_G) (ca : Nat → ClassId) (x : Int32) : Zc l G ca yX4_isCup (zws yX4_isCup cX4_isCup 1 (some .boolean)) rm_X4_isCup [.int x] ([]) (some (.int (inF x 0 7))) ([]) := by
  refine Zc.of (cc := cX4_isCup) (maxL := 1) (ret := (some .boolean)) (by decide) rfl (Nat.le_of_ble_eq_true rfl) ?_
  intro pg ev s0 mt below meth cd A args Q ls hx hb hr hml hown hts hlk hQ hl hz
  have hl : lv_has ls 1 [(0, .int x)] := hl
  refine lv_iload_n (pc := 0) hx hb dX4_isCup_0 rfl (lv_at hl 0 rfl) ?_
  refine lv_iconst (v := 0) (pc := 1) hx hb dX4_isCup_1 (by decide) ?_
  refine lv_bipush (v := 7) (pc := 2) hx hb dX4_isCup_2 (by decide) ?_
  refine z_runS (pc := 4) (As := [.int x, .int 0, .int 7]) (rest := []) (ws1 := []) ⟨hx, hb, hml, hown, hts⟩ (k_X4_in l G ca x 0 7) (cwS 3 hts (zgoodS zsub wq_7_5 wq_7_6 wq_1_5 wq_7_7) rfl rfl rfl hdV_X4_in ⟨Nat.le_of_ble_eq_true rfl, Nat.le_of_ble_eq_true rfl⟩) hz ([]) zp_no (List.Perm.refl _) rfl hl.1 (Nat.le_of_ble_eq_true rfl) (st1 := [.int (inF x 0 7)]) rfl dX4_isCup_4 ⟨Nat.zero_le _, Nat.zero_le _⟩ (fun H locs hz => ?_)
  exact z_zret (pc := 7) hx hb hr hlk hQ hz (inF_n _ _ _) dX4_isCup_7 (by first | rfl | (simp only [])) (by first | rfl | (simp only []))

def rm_X4_of : Room := { frames := 0, cells := 0, slots := 0, locals := 0 }
set_option maxRecDepth 20000 in
theorem hdV_X4_of : yX4_of.cls = RX4 ∧ yX4_of.cls ≠ "java/lang/invoke/MethodHandle" ∧ yX4_of.cls ≠ "java/lang/invoke/VarHandle" ∧ (parseMethodDescriptor yX4_of.desc).map (fun d => d.parameters.length) = some 2 := by decide +kernel
set_option maxHeartbeats 4000000 in
set_option maxRecDepth 100000 in
theorem k_X4_of (l : Launch) (G : va_G) (ca : Nat → ClassId) (a : Nat → Nat) (f h : Nat → Int32) (c : Nat → Nat → Int32) (hi sn be tx ti : Nat → Int32) (k w : Nat) (hk : k < 8) (hw : w < 12) : Zc l G ca yX4_of (zws yX4_of cX4_of 3 (some .int)) rm_X4_of [.ref (a 0), .int (nI k), .int (nI w)] (mm ca a f h c hi sn be tx ti) (some (.int (c k w))) (mm ca a f h c hi sn be tx ti) := by
  refine Zc.of (cc := cX4_of) (maxL := 3) (ret := (some .int)) (by decide) rfl (Nat.le_of_ble_eq_true rfl) ?_
  intro pg ev s0 mt below meth cd A args Q ls hx hb hr hml hown hts hlk hQ hl hz
  have L7 : (Cond.fieldLink RX4 7 "CupFountainModel" "s" "[I").before args s0 = true := hts _ (zsub _ wq_4_5)
  have hinX4 : ∀ w ∈ wsX40, w ∈ zws yX4_of cX4_of 3 (some .int) := fun w h => zsub w (wl_wsX40 w h)
  have hl : lv_has ls 3 [(0, .ref (a 0)), (1, .int (nI k)), (2, .int (nI w))] := hl
  refine lv_aload_n (pc := 0) hx hb dX4_of_0 rfl (lv_at hl 0 rfl) ?_
  refine z_get (own := RX4) (ref := "CupFountainModel") (C := RX4) (T := TX4) (N := 17) (ci := 4) (v := .ref (a 1)) (pc := 1) hx hb hts hinX4 hown hz 0 rfl rfl 0 (by decide) L7 rfl rfl dX4_of_1 ?_
  refine lv_bipush (v := 8) (pc := 4) hx hb dX4_of_4 (by decide) ?_
  refine lv_bipush (v := 12) (pc := 6) hx hb dX4_of_6 (by decide) ?_
  refine lv_iload_n (pc := 8) hx hb dX4_of_8 rfl (lv_at hl 1 rfl) ?_
  refine lv_imul (pc := 9) hx hb dX4_of_9 ?_
  refine lv_iadd (pc := 10) hx hb dX4_of_10 ?_
  refine lv_iload_n (pc := 11) hx hb dX4_of_11 rfl (lv_at hl 2 rfl) ?_
  refine lv_iadd (pc := 12) hx hb dX4_of_12 ?_
  refine z_iald (x := c k w) (pc := 13) hx hb hz 1 rfl (8 + 12 * k + w) (nI_ix k w) (by omega) (by decide) (enc_c hw) dX4_of_13 ?_
  exact z_iret (pc := 14) hx hb hr hlk hQ hz dX4_of_14 (by first | rfl | (simp only [])) (by first | rfl | (simp only []))

def rm_X4_lay : Room := { frames := 0, cells := 0, slots := 0, locals := 0 }
set_option maxRecDepth 20000 in
theorem hdV_X4_lay : yX4_lay.cls = RX4 ∧ yX4_lay.cls ≠ "java/lang/invoke/MethodHandle" ∧ yX4_lay.cls ≠ "java/lang/invoke/VarHandle" ∧ (parseMethodDescriptor yX4_lay.desc).map (fun d => d.parameters.length) = some 3 := by decide +kernel
set_option maxHeartbeats 4000000 in
set_option maxRecDepth 100000 in
theorem k_X4_lay (l : Launch) (G : va_G) (ca : Nat → ClassId) (a : Nat → Nat) (f h : Nat → Int32) (c : Nat → Nat → Int32) (hi sn be tx ti : Nat → Int32) (k w : Nat) (x : Int32) (hk : k < 8) (hw : w < 12) : Zc l G ca yX4_lay (zws yX4_lay cX4_lay 4 none) rm_X4_lay [.ref (a 0), .int (nI k), .int (nI w), .int x] (mm ca a f h c hi sn be tx ti) none (mm ca a f h (u2 c k w x) hi sn be tx ti) := by
  refine Zc.of (cc := cX4_lay) (maxL := 4) (ret := none) (by decide) rfl (Nat.le_of_ble_eq_true rfl) ?_
  intro pg ev s0 mt below meth cd A args Q ls hx hb hr hml hown hts hlk hQ hl hz
  have L7 : (Cond.fieldLink RX4 7 "CupFountainModel" "s" "[I").before args s0 = true := hts _ (zsub _ wq_4_5)
  have hinX4 : ∀ w ∈ wsX40, w ∈ zws yX4_lay cX4_lay 4 none := fun w h => zsub w (wl_wsX40 w h)
  have hl : lv_has ls 4 [(0, .ref (a 0)), (1, .int (nI k)), (2, .int (nI w)), (3, .int x)] := hl
  refine lv_aload_n (pc := 0) hx hb dX4_lay_0 rfl (lv_at hl 0 rfl) ?_
  refine z_get (own := RX4) (ref := "CupFountainModel") (C := RX4) (T := TX4) (N := 17) (ci := 4) (v := .ref (a 1)) (pc := 1) hx hb hts hinX4 hown hz 0 rfl rfl 0 (by decide) L7 rfl rfl dX4_lay_1 ?_
  refine lv_bipush (v := 8) (pc := 4) hx hb dX4_lay_4 (by decide) ?_
  refine lv_bipush (v := 12) (pc := 6) hx hb dX4_lay_6 (by decide) ?_
  refine lv_iload_n (pc := 8) hx hb dX4_lay_8 rfl (lv_at hl 1 rfl) ?_
  refine lv_imul (pc := 9) hx hb dX4_lay_9 ?_
  refine lv_iadd (pc := 10) hx hb dX4_lay_10 ?_
  refine lv_iload_n (pc := 11) hx hb dX4_lay_11 rfl (lv_at hl 2 rfl) ?_
  refine lv_iadd (pc := 12) hx hb dX4_lay_12 ?_
  refine lv_iload_n (pc := 13) hx hb dX4_lay_13 rfl (lv_at hl 3 rfl) ?_
  refine z_iast (ws1 := mm ca a f h (u2 c k w x) hi sn be tx ti) (pc := 14) hx hb hz 1 rfl (8 + 12 * k + w) (nI_ix k w) (by omega) (by decide) (by rw [enc_uc hw]; rfl) dX4_lay_14 (fun H locs hz => ?_)
  exact z_vret (pc := 15) hx hb hr hlk hQ hz dX4_lay_15 rfl (by first | rfl | (simp only []))

def rm_X4_hourOf : Room := { frames := 0, cells := 0, slots := 0, locals := 0 }
set_option maxRecDepth 20000 in
theorem hdV_X4_hourOf : yX4_hourOf.cls = RX4 ∧ yX4_hourOf.cls ≠ "java/lang/invoke/MethodHandle" ∧ yX4_hourOf.cls ≠ "java/lang/invoke/VarHandle" ∧ (parseMethodDescriptor yX4_hourOf.desc).map (fun d => d.parameters.length) = some 1 := by decide +kernel
set_option maxHeartbeats 4000000 in
set_option maxRecDepth 100000 in
theorem k_X4_hourOf (l : Launch) (G : va_G) (ca : Nat → ClassId) (a : Nat → Nat) (f h : Nat → Int32) (c : Nat → Nat → Int32) (hi sn be tx ti : Nat → Int32) (x : Int32) (hd : ¬ h 7 = 0) : Zc l G ca yX4_hourOf (zws yX4_hourOf cX4_hourOf 2 (some .int)) rm_X4_hourOf [.ref (a 0), .int x] (mm ca a f h c hi sn be tx ti) (some (.int (hrF h x))) (mm ca a f h c hi sn be tx ti) := by
  refine Zc.of (cc := cX4_hourOf) (maxL := 2) (ret := (some .int)) (by decide) rfl (Nat.le_of_ble_eq_true rfl) ?_
  intro pg ev s0 mt below meth cd A args Q ls hx hb hr hml hown hts hlk hQ hl hz
  have L7 : (Cond.fieldLink RX4 7 "CupFountainModel" "s" "[I").before args s0 = true := hts _ (zsub _ wq_4_5)
  have hinX4 : ∀ w ∈ wsX40, w ∈ zws yX4_hourOf cX4_hourOf 2 (some .int) := fun w h => zsub w (wl_wsX40 w h)
  have hl : lv_has ls 2 [(0, .ref (a 0)), (1, .int x)] := hl
  refine lv_iload_n (pc := 0) hx hb dX4_hourOf_0 rfl (lv_at hl 1 rfl) ?_
  refine lv_aload_n (pc := 1) hx hb dX4_hourOf_1 rfl (lv_at hl 0 rfl) ?_
  refine z_get (own := RX4) (ref := "CupFountainModel") (C := RX4) (T := TX4) (N := 17) (ci := 4) (v := .ref (a 1)) (pc := 2) hx hb hts hinX4 hown hz 0 rfl rfl 0 (by decide) L7 rfl rfl dX4_hourOf_2 ?_
  refine lv_bipush (v := 7) (pc := 5) hx hb dX4_hourOf_5 (by decide) ?_
  refine z_iald (x := h 7) (pc := 7) hx hb hz 1 rfl 7 rfl (by decide) (by decide) (enc_h (by decide)) dX4_hourOf_7 ?_
  refine lv_irem (pc := 8) hx hb dX4_hourOf_8 hd ?_
  exact z_iret (pc := 9) hx hb hr hlk hQ hz dX4_hourOf_9 (by first | rfl | (simp only [hrF])) (by first | rfl | (simp only [hrF]))

def rm_X4_isFull : Room := { frames := 1, cells := 0, slots := 0, locals := 22 }
set_option maxRecDepth 20000 in
theorem hdV_X4_isFull : yX4_isFull.cls = RX4 ∧ yX4_isFull.cls ≠ "java/lang/invoke/MethodHandle" ∧ yX4_isFull.cls ≠ "java/lang/invoke/VarHandle" ∧ (parseMethodDescriptor yX4_isFull.desc).map (fun d => d.parameters.length) = some 1 := by decide +kernel
set_option maxHeartbeats 4000000 in
set_option maxRecDepth 100000 in
theorem k_X4_isFull (l : Launch) (G : va_G) (ca : Nat → ClassId) (a : Nat → Nat) (f h : Nat → Int32) (c : Nat → Nat → Int32) (hi sn be tx ti : Nat → Int32) (k : Nat) (hk : k < 8) : Zc l G ca yX4_isFull (zws yX4_isFull cX4_isFull 2 (some .boolean)) rm_X4_isFull [.ref (a 0), .int (nI k)] (mm ca a f h c hi sn be tx ti) (some (.int (fullF c k))) (mm ca a f h c hi sn be tx ti) := by
  refine Zc.of (cc := cX4_isFull) (maxL := 2) (ret := (some .boolean)) (by decide) rfl (Nat.le_of_ble_eq_true rfl) ?_
  intro pg ev s0 mt below meth cd A args Q ls hx hb hr hml hown hts hlk hQ hl hz
  have hl : lv_has ls 2 [(0, .ref (a 0)), (1, .int (nI k))] := hl
  refine lv_aload_n (pc := 0) hx hb dX4_isFull_0 rfl (lv_at hl 0 rfl) ?_
  refine lv_iload_n (pc := 1) hx hb dX4_isFull_1 rfl (lv_at hl 1 rfl) ?_
  refine lv_iconst (v := 3) (pc := 2) hx hb dX4_isFull_2 (by decide) ?_
  refine z_runV (pc := 3) (As := [.int (nI k), .int 3]) (rest := []) (ws1 := mm ca a f h c hi sn be tx ti) ⟨hx, hb, hml, hown, hts⟩ (k_X4_of l G ca a f h c hi sn be tx ti k 3 (by assumption) (by decide)) (cwV 2 hts (zgoodV zsub wq_7_11 wq_7_12 wq_7_13 wq_1_5 wq_7_14) rfl rfl rfl hdV_X4_of ⟨Nat.le_of_ble_eq_true rfl, Nat.le_of_ble_eq_true rfl⟩) hz [] zp_all zp_all' rfl rfl rfl hl.1 (Nat.le_of_ble_eq_true rfl) (st1 := [.int (c k 3)]) rfl dX4_isFull_3 ⟨Nat.zero_le _, Nat.zero_le _⟩ (fun H locs hz => ?_)
  refine lv_aload_n (pc := 6) hx hb dX4_isFull_6 rfl (lv_at hl 0 rfl) ?_
  refine lv_iload_n (pc := 7) hx hb dX4_isFull_7 rfl (lv_at hl 1 rfl) ?_
  refine lv_iconst (v := 0) (pc := 8) hx hb dX4_isFull_8 (by decide) ?_
  refine z_runV (pc := 9) (As := [.int (nI k), .int 0]) (rest := [.int (c k 3)]) (ws1 := mm ca a f h c hi sn be tx ti) ⟨hx, hb, hml, hown, hts⟩ (k_X4_of l G ca a f h c hi sn be tx ti k 0 (by assumption) (by decide)) (cwV 2 hts (zgoodV zsub wq_7_11 wq_7_12 wq_7_13 wq_1_5 wq_7_14) rfl rfl rfl hdV_X4_of ⟨Nat.le_of_ble_eq_true rfl, Nat.le_of_ble_eq_true rfl⟩) hz [] zp_all zp_all' rfl rfl rfl hl.1 (Nat.le_of_ble_eq_true rfl) (st1 := [.int (c k 0), .int (c k 3)]) rfl dX4_isFull_9 ⟨Nat.zero_le _, Nat.zero_le _⟩ (fun H locs hz => ?_)
  have J1 : ∀ (H : Heap) (locs : List Loc) (ls : Array Slot), zw G ca A s0.heap s0 (mm ca a f h c hi sn be tx ti) H locs → lv_has ls 2 [(0, .ref (a 0)), (1, .int (nI k))] → W pg l ev rm_X4_isFull s0 mt args below meth cd H locs 0 0 Q (F0 mt 20 ls [.int (fullF c k)]) := by
    intro H locs ls hz hl
    exact z_zret (pc := 20) hx hb hr hlk hQ hz (fullF_n c k) dX4_isFull_20 (by first | rfl | (simp only [fullF])) (by first | rfl | (simp only [fullF]))
  refine lv_icmp_lt (pc := 12) (tgt := 19) hx hb dX4_isFull_12 (by decide) (fun c_12 => ?_) (fun c_12 => ?_)
  · refine lv_iconst (v := 0) (pc := 19) hx hb dX4_isFull_19 (by decide) ?_
    exact z_top (by first | rfl | (simp only [fullF, if_pos c_12])) (J1 _ _ _ hz (lv_sub hl [0, 1] rfl))
  · refine lv_iconst (v := 1) (pc := 15) hx hb dX4_isFull_15 (by decide) ?_
    refine lv_goto (tgt := 20) (pc := 16) hx hb dX4_isFull_16 (by decide) ?_
    exact z_top (by first | rfl | (simp only [fullF, if_neg c_12])) (J1 _ _ _ hz (lv_sub hl [0, 1] rfl))

def rm_X4_pour : Room := { frames := 1, cells := 0, slots := 0, locals := 23 }
set_option maxRecDepth 20000 in
theorem hdV_X4_pour : yX4_pour.cls = RX4 ∧ yX4_pour.cls ≠ "java/lang/invoke/MethodHandle" ∧ yX4_pour.cls ≠ "java/lang/invoke/VarHandle" ∧ (parseMethodDescriptor yX4_pour.desc).map (fun d => d.parameters.length) = some 2 := by decide +kernel
set_option maxHeartbeats 4000000 in
set_option maxRecDepth 100000 in
theorem k_X4_pour (l : Launch) (G : va_G) (ca : Nat → ClassId) (a : Nat → Nat) (f h : Nat → Int32) (c : Nat → Nat → Int32) (hi sn be tx ti : Nat → Int32) (t : Nat) (y x : Int32) (hy : y = nI t) (ht : t ≤ 8) : Zc l G ca yX4_pour (zws yX4_pour cX4_pour 3 none) rm_X4_pour [.ref (a 0), .int y, .int x] (mm ca a f h c hi sn be tx ti) none (mm ca a f (pourH h t x) (pourC c t x) hi sn be tx ti) := by
  refine Zc.of (cc := cX4_pour) (maxL := 3) (ret := none) (by decide) rfl (Nat.le_of_ble_eq_true rfl) ?_
  intro pg ev s0 mt below meth cd A args Q ls hx hb hr hml hown hts hlk hQ hl hz
  have L7 : (Cond.fieldLink RX4 7 "CupFountainModel" "s" "[I").before args s0 = true := hts _ (zsub _ wq_4_5)
  have hinX4 : ∀ w ∈ wsX40, w ∈ zws yX4_pour cX4_pour 3 none := fun w h => zsub w (wl_wsX40 w h)
  have hl : lv_has ls 3 [(0, .ref (a 0)), (1, .int y), (2, .int x)] := hl
  subst hy
  refine lv_iload_n (pc := 0) hx hb dX4_pour_0 rfl (lv_at hl 1 rfl) ?_
  refine lv_bipush (v := 8) (pc := 1) hx hb dX4_pour_1 (by decide) ?_
  refine lv_icmp_ne (pc := 3) (tgt := 19) hx hb dX4_pour_3 (by decide) (fun c_3 => ?_) (fun c_3 => ?_)
  · have ht8 : ¬ t = 8 := fun q => c_3 (by rw [q]; rfl)
    have ht7 : t < 8 := by omega
    refine lv_aload_n (pc := 19) hx hb dX4_pour_19 rfl (lv_at hl 0 rfl) ?_
    refine lv_iload_n (pc := 20) hx hb dX4_pour_20 rfl (lv_at hl 1 rfl) ?_
    refine lv_iconst (v := 3) (pc := 21) hx hb dX4_pour_21 (by decide) ?_
    refine lv_aload_n (pc := 22) hx hb dX4_pour_22 rfl (lv_at hl 0 rfl) ?_
    refine lv_iload_n (pc := 23) hx hb dX4_pour_23 rfl (lv_at hl 1 rfl) ?_
    refine lv_iconst (v := 3) (pc := 24) hx hb dX4_pour_24 (by decide) ?_
    refine z_runV (pc := 25) (As := [.int (nI t), .int 3]) (rest := [.int 3, .int (nI t), .ref (a 0)]) (ws1 := mm ca a f h c hi sn be tx ti) ⟨hx, hb, hml, hown, hts⟩ (k_X4_of l G ca a f h c hi sn be tx ti t 3 ht7 (by decide)) (cwV 2 hts (zgoodV zsub wq_7_11 wq_7_12 wq_7_13 wq_1_5 wq_7_14) rfl rfl rfl hdV_X4_of ⟨Nat.le_of_ble_eq_true rfl, Nat.le_of_ble_eq_true rfl⟩) hz [] zp_all zp_all' rfl rfl rfl hl.1 (Nat.le_of_ble_eq_true rfl) (st1 := [.int (c t 3), .int 3, .int (nI t), .ref (a 0)]) rfl dX4_pour_25 ⟨Nat.zero_le _, Nat.zero_le _⟩ (fun H locs hz => ?_)
    refine lv_iload_n (pc := 28) hx hb dX4_pour_28 rfl (lv_at hl 2 rfl) ?_
    refine lv_iadd (pc := 29) hx hb dX4_pour_29 ?_
    refine z_runV (pc := 30) (As := [.int (nI t), .int 3, .int ((c t 3) + x)]) (rest := []) (ws1 := mm ca a f h (u2 c t 3 ((c t 3) + x)) hi sn be tx ti) ⟨hx, hb, hml, hown, hts⟩ (k_X4_lay l G ca a f h c hi sn be tx ti t 3 ((c t 3) + x) ht7 (by decide)) (cwV 3 hts (zgoodV zsub wq_4_13 wq_4_14 wq_4_15 wq_1_5 wq_4_16) rfl rfl rfl hdV_X4_lay ⟨Nat.le_of_ble_eq_true rfl, Nat.le_of_ble_eq_true rfl⟩) hz [] zp_all zp_all' rfl rfl rfl hl.1 (Nat.le_of_ble_eq_true rfl) (st1 := []) rfl dX4_pour_30 ⟨Nat.zero_le _, Nat.zero_le _⟩ (fun H locs hz => ?_)
    exact z_vret (pc := 33) hx hb hr hlk hQ hz dX4_pour_33 rfl (by first | rfl | (simp only [pourH, pourC, if_neg c_3, if_neg ht8]))
  · have ht8 : t = 8 := (nI_eq (by omega) (by decide)).mp c_3
    refine lv_aload_n (pc := 6) hx hb dX4_pour_6 rfl (lv_at hl 0 rfl) ?_
    refine z_get (own := RX4) (ref := "CupFountainModel") (C := RX4) (T := TX4) (N := 17) (ci := 4) (v := .ref (a 1)) (pc := 7) hx hb hts hinX4 hown hz 0 rfl rfl 0 (by decide) L7 rfl rfl dX4_pour_7 ?_
    refine lv_iconst (v := 1) (pc := 10) hx hb dX4_pour_10 (by decide) ?_
    refine lv_dup2_11 (pc := 11) hx hb dX4_pour_11 rfl rfl ?_
    refine z_iald (x := h 1) (pc := 12) hx hb hz 1 rfl 1 rfl (by decide) (by decide) (enc_h (by decide)) dX4_pour_12 ?_
    refine lv_iload_n (pc := 13) hx hb dX4_pour_13 rfl (lv_at hl 2 rfl) ?_
    refine lv_iadd (pc := 14) hx hb dX4_pour_14 ?_
    refine z_iast (ws1 := mm ca a f (upd h 1 ((h 1) + x)) c hi sn be tx ti) (pc := 15) hx hb hz 1 rfl 1 rfl (by decide) (by decide) (by rw [enc_uh (by decide)]; rfl) dX4_pour_15 (fun H locs hz => ?_)
    refine lv_goto (tgt := 33) (pc := 16) hx hb dX4_pour_16 (by decide) ?_
    exact z_vret (pc := 33) hx hb hr hlk hQ hz dX4_pour_33 rfl (by first | rfl | (simp only [pourH, pourC, if_pos c_3, if_pos ht8]))

theorem k_X4_pour_c (l : Launch) (G : va_G) (ca : Nat → ClassId) (a : Nat → Nat) (f h : Nat → Int32) (c : Nat → Nat → Int32) (hi sn be tx ti : Nat → Int32) (t : Nat) (x : Int32) (ht : t < 8) : Zc l G ca yX4_pour (zws yX4_pour cX4_pour 3 none) rm_X4_pour [.ref (a 0), .int (nI t), .int x] (mm ca a f h c hi sn be tx ti) none (mm ca a f h (u2 c t 3 (c t 3 + x)) hi sn be tx ti) := by
  have h9 := k_X4_pour l G ca a f h c hi sn be tx ti t _ x rfl (by omega)
  have hne : ¬ t = 8 := by omega
  simp only [pourH, pourC, if_neg hne] at h9
  exact h9

def rm_X4_countTip : Room := { frames := 1, cells := 0, slots := 0, locals := 23 }
set_option maxRecDepth 20000 in
theorem hdV_X4_countTip : yX4_countTip.cls = RX4 ∧ yX4_countTip.cls ≠ "java/lang/invoke/MethodHandle" ∧ yX4_countTip.cls ≠ "java/lang/invoke/VarHandle" ∧ (parseMethodDescriptor yX4_countTip.desc).map (fun d => d.parameters.length) = some 2 := by decide +kernel
set_option maxHeartbeats 4000000 in
set_option maxRecDepth 100000 in
theorem k_X4_countTip (l : Launch) (G : va_G) (ca : Nat → ClassId) (a : Nat → Nat) (f h : Nat → Int32) (c : Nat → Nat → Int32) (hi sn be tx ti : Nat → Int32) (k : Nat) (hour : Int32) (hk : k < 8) : Zc l G ca yX4_countTip (zws yX4_countTip cX4_countTip 5 none) rm_X4_countTip [.ref (a 0), .int (nI k), .int hour] (mm ca a f h c hi sn be tx ti) none (mm ca a f h (tipC c k hour) hi sn be tx ti) := by
  refine Zc.of (cc := cX4_countTip) (maxL := 5) (ret := none) (by decide) rfl (Nat.le_of_ble_eq_true rfl) ?_
  intro pg ev s0 mt below meth cd A args Q ls hx hb hr hml hown hts hlk hQ hl hz
  have hl : lv_has ls 5 [(0, .ref (a 0)), (1, .int (nI k)), (2, .int hour)] := hl
  refine lv_aload_n (pc := 0) hx hb dX4_countTip_0 rfl (lv_at hl 0 rfl) ?_
  refine lv_iload_n (pc := 1) hx hb dX4_countTip_1 rfl (lv_at hl 1 rfl) ?_
  refine lv_iconst (v := 4) (pc := 2) hx hb dX4_countTip_2 (by decide) ?_
  refine z_runV (pc := 3) (As := [.int (nI k), .int 4]) (rest := []) (ws1 := mm ca a f h c hi sn be tx ti) ⟨hx, hb, hml, hown, hts⟩ (k_X4_of l G ca a f h c hi sn be tx ti k 4 (by assumption) (by decide)) (cwV 2 hts (zgoodV zsub wq_7_11 wq_7_12 wq_7_13 wq_1_5 wq_7_14) rfl rfl rfl hdV_X4_of ⟨Nat.le_of_ble_eq_true rfl, Nat.le_of_ble_eq_true rfl⟩) hz [] zp_all zp_all' rfl rfl rfl hl.1 (Nat.le_of_ble_eq_true rfl) (st1 := [.int (c k 4)]) rfl dX4_countTip_3 ⟨Nat.zero_le _, Nat.zero_le _⟩ (fun H locs hz => ?_)
  refine lv_istore_n (lv' := [(3, .int (c k 4)), (0, .ref (a 0)), (1, .int (nI k)), (2, .int hour)]) (pc := 6) hx hb dX4_countTip_6 rfl hl (by decide) rfl (fun ls hl => ?_)
  refine lv_aload_n (pc := 7) hx hb dX4_countTip_7 rfl (lv_at hl 1 rfl) ?_
  refine lv_iload_n (pc := 8) hx hb dX4_countTip_8 rfl (lv_at hl 2 rfl) ?_
  refine lv_bipush (v := 8) (pc := 9) hx hb dX4_countTip_9 (by decide) ?_
  refine lv_aload_n (pc := 11) hx hb dX4_countTip_11 rfl (lv_at hl 1 rfl) ?_
  refine lv_iload_n (pc := 12) hx hb dX4_countTip_12 rfl (lv_at hl 2 rfl) ?_
  refine lv_bipush (v := 8) (pc := 13) hx hb dX4_countTip_13 (by decide) ?_
  refine z_runV (pc := 15) (As := [.int (nI k), .int 8]) (rest := [.int 8, .int (nI k), .ref (a 0)]) (ws1 := mm ca a f h c hi sn be tx ti) ⟨hx, hb, hml, hown, hts⟩ (k_X4_of l G ca a f h c hi sn be tx ti k 8 (by assumption) (by decide)) (cwV 2 hts (zgoodV zsub wq_7_11 wq_7_12 wq_7_13 wq_1_5 wq_7_14) rfl rfl rfl hdV_X4_of ⟨Nat.le_of_ble_eq_true rfl, Nat.le_of_ble_eq_true rfl⟩) hz [] zp_all zp_all' rfl rfl rfl hl.1 (Nat.le_of_ble_eq_true rfl) (st1 := [.int (c k 8), .int 8, .int (nI k), .ref (a 0)]) rfl dX4_countTip_15 ⟨Nat.zero_le _, Nat.zero_le _⟩ (fun H locs hz => ?_)
  refine lv_iconst (v := 1) (pc := 18) hx hb dX4_countTip_18 (by decide) ?_
  refine lv_iadd (pc := 19) hx hb dX4_countTip_19 ?_
  refine z_runV (pc := 20) (As := [.int (nI k), .int 8, .int ((c k 8) + 1)]) (rest := []) (ws1 := mm ca a f h (u2 c k 8 ((c k 8) + 1)) hi sn be tx ti) ⟨hx, hb, hml, hown, hts⟩ (k_X4_lay l G ca a f h c hi sn be tx ti k 8 ((c k 8) + 1) (by assumption) (by decide)) (cwV 3 hts (zgoodV zsub wq_4_13 wq_4_14 wq_4_15 wq_1_5 wq_4_16) rfl rfl rfl hdV_X4_lay ⟨Nat.le_of_ble_eq_true rfl, Nat.le_of_ble_eq_true rfl⟩) hz [] zp_all zp_all' rfl rfl rfl hl.1 (Nat.le_of_ble_eq_true rfl) (st1 := []) rfl dX4_countTip_20 ⟨Nat.zero_le _, Nat.zero_le _⟩ (fun H locs hz => ?_)
  refine lv_iload_n (pc := 23) hx hb dX4_countTip_23 rfl (lv_at hl 0 rfl) ?_
  refine lv_iconst (v := -1) (pc := 24) hx hb dX4_countTip_24 (by decide) ?_
  refine lv_icmp_eq (pc := 25) (tgt := 68) hx hb dX4_countTip_25 (by decide) (fun c_25 => ?_) (fun c_25 => ?_)
  · exact z_vret (pc := 68) hx hb hr hlk hQ hz dX4_countTip_68 rfl (by simp only [tipC, if_pos c_25])
  · refine lv_iload_n (pc := 28) hx hb dX4_countTip_28 rfl (lv_at hl 3 rfl) ?_
    refine lv_iload_n (pc := 29) hx hb dX4_countTip_29 rfl (lv_at hl 0 rfl) ?_
    have J1 : ∀ (H : Heap) (locs : List Loc) (ls : Array Slot), zw G ca A s0.heap s0 (mm ca a f h (u2 c k 8 ((c k 8) + 1)) hi sn be tx ti) H locs → lv_has ls 5 [(3, .int (c k 4)), (0, .ref (a 0)), (1, .int (nI k)), (2, .int hour)] → W pg l ev rm_X4_countTip s0 mt args below meth cd H locs 0 0 Q (F0 mt 50 ls [.int (nI (whenF hour (c k 4)))]) := by
      intro H locs ls hz hl
      refine lv_istore (lv' := [(4, .int (nI (whenF hour (c k 4)))), (3, .int (c k 4)), (0, .ref (a 0)), (1, .int (nI k)), (2, .int hour)]) (pc := 50) hx hb dX4_countTip_50 hl (by decide) rfl (fun ls hl => ?_)
      refine lv_aload_n (pc := 52) hx hb dX4_countTip_52 rfl (lv_at hl 2 rfl) ?_
      refine lv_iload_n (pc := 53) hx hb dX4_countTip_53 rfl (lv_at hl 3 rfl) ?_
      refine lv_iload (pc := 54) hx hb dX4_countTip_54 (lv_at hl 0 rfl) ?_
      refine lv_aload_n (pc := 56) hx hb dX4_countTip_56 rfl (lv_at hl 2 rfl) ?_
      refine lv_iload_n (pc := 57) hx hb dX4_countTip_57 rfl (lv_at hl 3 rfl) ?_
      refine lv_iload (pc := 58) hx hb dX4_countTip_58 (lv_at hl 0 rfl) ?_
      refine z_runV (pc := 60) (As := [.int (nI k), .int (nI (whenF hour (c k 4)))]) (rest := [.int (nI (whenF hour (c k 4))), .int (nI k), .ref (a 0)]) (ws1 := mm ca a f h (u2 c k 8 ((c k 8) + 1)) hi sn be tx ti) ⟨hx, hb, hml, hown, hts⟩ (k_X4_of l G ca a f h (u2 c k 8 ((c k 8) + 1)) hi sn be tx ti k (whenF hour (c k 4)) (by assumption) (whenF_lt _ _)) (cwV 2 hts (zgoodV zsub wq_7_11 wq_7_12 wq_7_13 wq_1_5 wq_7_14) rfl rfl rfl hdV_X4_of ⟨Nat.le_of_ble_eq_true rfl, Nat.le_of_ble_eq_true rfl⟩) hz [] zp_all zp_all' rfl rfl rfl hl.1 (Nat.le_of_ble_eq_true rfl) (st1 := [.int ((u2 c k 8 ((c k 8) + 1)) k (whenF hour (c k 4))), .int (nI (whenF hour (c k 4))), .int (nI k), .ref (a 0)]) rfl dX4_countTip_60 ⟨Nat.zero_le _, Nat.zero_le _⟩ (fun H locs hz => ?_)
      refine lv_iconst (v := 1) (pc := 63) hx hb dX4_countTip_63 (by decide) ?_
      refine lv_iadd (pc := 64) hx hb dX4_countTip_64 ?_
      refine z_runV (pc := 65) (As := [.int (nI k), .int (nI (whenF hour (c k 4))), .int (((u2 c k 8 ((c k 8) + 1)) k (whenF hour (c k 4))) + 1)]) (rest := []) (ws1 := mm ca a f h (u2 (u2 c k 8 ((c k 8) + 1)) k (whenF hour (c k 4)) (((u2 c k 8 ((c k 8) + 1)) k (whenF hour (c k 4))) + 1)) hi sn be tx ti) ⟨hx, hb, hml, hown, hts⟩ (k_X4_lay l G ca a f h (u2 c k 8 ((c k 8) + 1)) hi sn be tx ti k (whenF hour (c k 4)) (((u2 c k 8 ((c k 8) + 1)) k (whenF hour (c k 4))) + 1) (by assumption) (whenF_lt _ _)) (cwV 3 hts (zgoodV zsub wq_4_13 wq_4_14 wq_4_15 wq_1_5 wq_4_16) rfl rfl rfl hdV_X4_lay ⟨Nat.le_of_ble_eq_true rfl, Nat.le_of_ble_eq_true rfl⟩) hz [] zp_all zp_all' rfl rfl rfl hl.1 (Nat.le_of_ble_eq_true rfl) (st1 := []) rfl dX4_countTip_65 ⟨Nat.zero_le _, Nat.zero_le _⟩ (fun H locs hz => ?_)
      exact z_vret (pc := 68) hx hb hr hlk hQ hz dX4_countTip_68 rfl (by simp only [tipC, if_neg c_25])
    refine lv_icmp_ne (pc := 30) (tgt := 38) hx hb dX4_countTip_30 (by decide) (fun c_30 => ?_) (fun c_30 => ?_)
    · refine lv_iload_n (pc := 38) hx hb dX4_countTip_38 rfl (lv_at hl 3 rfl) ?_
      refine lv_iload_n (pc := 39) hx hb dX4_countTip_39 rfl (lv_at hl 0 rfl) ?_
      refine lv_icmp_ge (pc := 40) (tgt := 48) hx hb dX4_countTip_40 (by decide) (fun c_40 => ?_) (fun c_40 => ?_)
      · refine lv_bipush (v := 11) (pc := 48) hx hb dX4_countTip_48 (by decide) ?_
        exact z_top (by unfold whenF; simp only [if_neg c_30, if_pos c_40]; rfl) (J1 _ _ _ hz (lv_sub hl [0, 1, 2, 3] rfl))
      · refine lv_bipush (v := 10) (pc := 43) hx hb dX4_countTip_43 (by decide) ?_
        refine lv_goto (tgt := 50) (pc := 45) hx hb dX4_countTip_45 (by decide) ?_
        exact z_top (by unfold whenF; simp only [if_neg c_30, if_neg c_40]; rfl) (J1 _ _ _ hz (lv_sub hl [0, 1, 2, 3] rfl))
    · refine lv_bipush (v := 9) (pc := 33) hx hb dX4_countTip_33 (by decide) ?_
      refine lv_goto (tgt := 50) (pc := 35) hx hb dX4_countTip_35 (by decide) ?_
      exact z_top (by unfold whenF; simp only [if_pos c_30]; rfl) (J1 _ _ _ hz (lv_sub hl [0, 1, 2, 3] rfl))

def rm_X4_tipOrKeep : Room := { frames := 2, cells := 0, slots := 0, locals := 47 }
set_option maxRecDepth 20000 in
theorem hdV_X4_tipOrKeep : yX4_tipOrKeep.cls = RX4 ∧ yX4_tipOrKeep.cls ≠ "java/lang/invoke/MethodHandle" ∧ yX4_tipOrKeep.cls ≠ "java/lang/invoke/VarHandle" ∧ (parseMethodDescriptor yX4_tipOrKeep.desc).map (fun d => d.parameters.length) = some 2 := by decide +kernel
set_option maxHeartbeats 4000000 in
set_option maxRecDepth 100000 in
theorem k_X4_tipOrKeep (l : Launch) (G : va_G) (ca : Nat → ClassId) (a : Nat → Nat) (f h : Nat → Int32) (c : Nat → Nat → Int32) (hi sn be tx ti : Nat → Int32) (k : Nat) (hour : Int32) (hk : k < 8) (hsz : ¬ c k 0 = 0) (ht1 : c k 2 = nI (nn (c k 2))) (ht2 : nn (c k 2) ≤ 8) : Zc l G ca yX4_tipOrKeep (zws yX4_tipOrKeep cX4_tipOrKeep 6 none) rm_X4_tipOrKeep [.ref (a 0), .int (nI k), .int hour] (mm ca a f h c hi sn be tx ti) none (mm ca a f (tokH h c k hour) (tokC c k hour) hi sn be tx (upd ti k (tpF c k hour))) := by
  refine Zc.of (cc := cX4_tipOrKeep) (maxL := 6) (ret := none) (by decide) rfl (Nat.le_of_ble_eq_true rfl) ?_
  intro pg ev s0 mt below meth cd A args Q ls hx hb hr hml hown hts hlk hQ hl hz
  have L30 : (Cond.fieldLink RX4 30 "CupFountainModel" "tipped" "[Z").before args s0 = true := hts _ (zsub _ wq_4_12)
  have L7 : (Cond.fieldLink RX4 7 "CupFountainModel" "s" "[I").before args s0 = true := hts _ (zsub _ wq_4_5)
  have hinX4 : ∀ w ∈ wsX40, w ∈ zws yX4_tipOrKeep cX4_tipOrKeep 6 none := fun w h => zsub w (wl_wsX40 w h)
  have hl : lv_has ls 6 [(0, .ref (a 0)), (1, .int (nI k)), (2, .int hour)] := hl
  refine lv_aload_n (pc := 0) hx hb dX4_tipOrKeep_0 rfl (lv_at hl 0 rfl) ?_
  refine lv_iload_n (pc := 1) hx hb dX4_tipOrKeep_1 rfl (lv_at hl 1 rfl) ?_
  refine lv_bipush (v := 6) (pc := 2) hx hb dX4_tipOrKeep_2 (by decide) ?_
  refine z_runV (pc := 4) (As := [.int (nI k), .int 6]) (rest := []) (ws1 := mm ca a f h c hi sn be tx ti) ⟨hx, hb, hml, hown, hts⟩ (k_X4_of l G ca a f h c hi sn be tx ti k 6 (by assumption) (by decide)) (cwV 2 hts (zgoodV zsub wq_7_11 wq_7_12 wq_7_13 wq_1_5 wq_7_14) rfl rfl rfl hdV_X4_of ⟨Nat.le_of_ble_eq_true rfl, Nat.le_of_ble_eq_true rfl⟩) hz [] zp_all zp_all' rfl rfl rfl hl.1 (Nat.le_of_ble_eq_true rfl) (st1 := [.int (c k 6)]) rfl dX4_tipOrKeep_4 ⟨Nat.zero_le _, Nat.zero_le _⟩ (fun H locs hz => ?_)
  refine lv_iconst (v := 1) (pc := 7) hx hb dX4_tipOrKeep_7 (by decide) ?_
  have J1 : ∀ (H : Heap) (locs : List Loc) (ls : Array Slot), zw G ca A s0.heap s0 (mm ca a f h c hi sn be tx ti) H locs → lv_has ls 6 [(0, .ref (a 0)), (1, .int (nI k)), (2, .int hour)] → W pg l ev rm_X4_tipOrKeep s0 mt args below meth cd H locs 0 0 Q (F0 mt 44 ls [.int (opF c k hour)]) := by
    intro H locs ls hz hl
    refine lv_istore_n (lv' := [(3, .int (opF c k hour)), (0, .ref (a 0)), (1, .int (nI k)), (2, .int hour)]) (pc := 44) hx hb dX4_tipOrKeep_44 rfl hl (by decide) rfl (fun ls hl => ?_)
    refine lv_aload_n (pc := 45) hx hb dX4_tipOrKeep_45 rfl (lv_at hl 1 rfl) ?_
    refine lv_iload_n (pc := 46) hx hb dX4_tipOrKeep_46 rfl (lv_at hl 2 rfl) ?_
    refine lv_iconst (v := 3) (pc := 47) hx hb dX4_tipOrKeep_47 (by decide) ?_
    refine z_runV (pc := 48) (As := [.int (nI k), .int 3]) (rest := []) (ws1 := mm ca a f h c hi sn be tx ti) ⟨hx, hb, hml, hown, hts⟩ (k_X4_of l G ca a f h c hi sn be tx ti k 3 (by assumption) (by decide)) (cwV 2 hts (zgoodV zsub wq_7_11 wq_7_12 wq_7_13 wq_1_5 wq_7_14) rfl rfl rfl hdV_X4_of ⟨Nat.le_of_ble_eq_true rfl, Nat.le_of_ble_eq_true rfl⟩) hz [] zp_all zp_all' rfl rfl rfl hl.1 (Nat.le_of_ble_eq_true rfl) (st1 := [.int (c k 3)]) rfl dX4_tipOrKeep_48 ⟨Nat.zero_le _, Nat.zero_le _⟩ (fun H locs hz => ?_)
    refine lv_istore (lv' := [(4, .int (c k 3)), (3, .int (opF c k hour)), (0, .ref (a 0)), (1, .int (nI k)), (2, .int hour)]) (pc := 51) hx hb dX4_tipOrKeep_51 hl (by decide) rfl (fun ls hl => ?_)
    refine lv_aload_n (pc := 53) hx hb dX4_tipOrKeep_53 rfl (lv_at hl 2 rfl) ?_
    refine z_get (own := RX4) (ref := "CupFountainModel") (C := RX4) (T := TX4) (N := 17) (ci := 4) (v := .ref (a 6)) (pc := 54) hx hb hts hinX4 hown hz 0 rfl rfl 10 (by decide) L30 rfl rfl dX4_tipOrKeep_54 ?_
    refine lv_iload_n (pc := 57) hx hb dX4_tipOrKeep_57 rfl (lv_at hl 3 rfl) ?_
    refine lv_aload_n (pc := 58) hx hb dX4_tipOrKeep_58 rfl (lv_at hl 2 rfl) ?_
    refine lv_iload_n (pc := 59) hx hb dX4_tipOrKeep_59 rfl (lv_at hl 3 rfl) ?_
    refine z_runV (pc := 60) (As := [.int (nI k)]) (rest := [.int (nI k), .ref (a 6)]) (ws1 := mm ca a f h c hi sn be tx ti) ⟨hx, hb, hml, hown, hts⟩ (k_X4_isFull l G ca a f h c hi sn be tx ti k (by assumption)) (cwV 1 hts (zgoodV zsub wq_15_5 wq_15_6 wq_15_7 wq_1_5 wq_15_8) rfl rfl rfl hdV_X4_isFull ⟨Nat.le_of_ble_eq_true rfl, Nat.le_of_ble_eq_true rfl⟩) hz [] zp_all zp_all' rfl rfl rfl hl.1 (Nat.le_of_ble_eq_true rfl) (st1 := [.int (fullF c k), .int (nI k), .ref (a 6)]) rfl dX4_tipOrKeep_60 ⟨Nat.zero_le _, Nat.zero_le _⟩ (fun H locs hz => ?_)
    have J2 : ∀ (H : Heap) (locs : List Loc) (ls : Array Slot), zw G ca A s0.heap s0 (mm ca a f h c hi sn be tx ti) H locs → lv_has ls 6 [(4, .int (c k 3)), (3, .int (opF c k hour)), (0, .ref (a 0)), (1, .int (nI k)), (2, .int hour)] → W pg l ev rm_X4_tipOrKeep s0 mt args below meth cd H locs 0 0 Q (F0 mt 75 ls [.int (tpF c k hour), .int (nI k), .ref (a 6)]) := by
      intro H locs ls hz hl
      refine z_zast (ws1 := mm ca a f h c hi sn be tx (upd ti k (tpF c k hour))) (pc := 75) hx hb hz 6 rfl k rfl hk (by decide) (by rw [tpF_n]; rfl) dX4_tipOrKeep_75 (fun H locs hz => ?_)
      refine lv_aload_n (pc := 76) hx hb dX4_tipOrKeep_76 rfl (lv_at hl 2 rfl) ?_
      refine z_get (own := RX4) (ref := "CupFountainModel") (C := RX4) (T := TX4) (N := 17) (ci := 4) (v := .ref (a 6)) (pc := 77) hx hb hts hinX4 hown hz 0 rfl rfl 10 (by decide) L30 rfl rfl dX4_tipOrKeep_77 ?_
      refine lv_iload_n (pc := 80) hx hb dX4_tipOrKeep_80 rfl (lv_at hl 3 rfl) ?_
      refine z_zald (x := tpF c k hour) (pc := 81) hx hb hz 6 rfl k rfl hk (by decide) pk_us dX4_tipOrKeep_81 ?_
      refine lv_if_eq (pc := 82) (tgt := 148) hx hb dX4_tipOrKeep_82 (by decide) (fun c_82 => ?_) (fun c_82 => ?_)
      · refine lv_aload_n (pc := 148) hx hb dX4_tipOrKeep_148 rfl (lv_at hl 2 rfl) ?_
        refine lv_iload_n (pc := 149) hx hb dX4_tipOrKeep_149 rfl (lv_at hl 3 rfl) ?_
        refine lv_bipush (v := 7) (pc := 150) hx hb dX4_tipOrKeep_150 (by decide) ?_
        refine lv_iconst (v := 0) (pc := 152) hx hb dX4_tipOrKeep_152 (by decide) ?_
        refine z_runV (pc := 153) (As := [.int (nI k), .int 7, .int 0]) (rest := []) (ws1 := mm ca a f h (u2 c k 7 0) hi sn be tx (upd ti k (tpF c k hour))) ⟨hx, hb, hml, hown, hts⟩ (k_X4_lay l G ca a f h c hi sn be tx (upd ti k (tpF c k hour)) k 7 0 (by assumption) (by decide)) (cwV 3 hts (zgoodV zsub wq_4_13 wq_4_14 wq_4_15 wq_1_5 wq_4_16) rfl rfl rfl hdV_X4_lay ⟨Nat.le_of_ble_eq_true rfl, Nat.le_of_ble_eq_true rfl⟩) hz [] zp_all zp_all' rfl rfl rfl hl.1 (Nat.le_of_ble_eq_true rfl) (st1 := []) rfl dX4_tipOrKeep_153 ⟨Nat.zero_le _, Nat.zero_le _⟩ (fun H locs hz => ?_)
        refine lv_iload (pc := 156) hx hb dX4_tipOrKeep_156 (lv_at hl 0 rfl) ?_
        refine lv_sipush (v := 9999) (pc := 158) hx hb dX4_tipOrKeep_158 (by decide) ?_
        refine lv_icmp_le (pc := 161) (tgt := 188) hx hb dX4_tipOrKeep_161 (by decide) (fun c_161 => ?_) (fun c_161 => ?_)
        · exact z_vret (pc := 188) hx hb hr hlk hQ hz dX4_tipOrKeep_188 rfl (by simp only [tokH, tokC, if_pos c_82, if_pos c_161])
        · refine lv_aload_n (pc := 164) hx hb dX4_tipOrKeep_164 rfl (lv_at hl 2 rfl) ?_
          refine lv_iload_n (pc := 165) hx hb dX4_tipOrKeep_165 rfl (lv_at hl 3 rfl) ?_
          refine lv_iconst (v := 3) (pc := 166) hx hb dX4_tipOrKeep_166 (by decide) ?_
          refine lv_sipush (v := 9999) (pc := 167) hx hb dX4_tipOrKeep_167 (by decide) ?_
          refine z_runV (pc := 170) (As := [.int (nI k), .int 3, .int 9999]) (rest := []) (ws1 := mm ca a f h (u2 (u2 c k 7 0) k 3 9999) hi sn be tx (upd ti k (tpF c k hour))) ⟨hx, hb, hml, hown, hts⟩ (k_X4_lay l G ca a f h (u2 c k 7 0) hi sn be tx (upd ti k (tpF c k hour)) k 3 9999 (by assumption) (by decide)) (cwV 3 hts (zgoodV zsub wq_4_13 wq_4_14 wq_4_15 wq_1_5 wq_4_16) rfl rfl rfl hdV_X4_lay ⟨Nat.le_of_ble_eq_true rfl, Nat.le_of_ble_eq_true rfl⟩) hz [] zp_all zp_all' rfl rfl rfl hl.1 (Nat.le_of_ble_eq_true rfl) (st1 := []) rfl dX4_tipOrKeep_170 ⟨Nat.zero_le _, Nat.zero_le _⟩ (fun H locs hz => ?_)
          refine lv_aload_n (pc := 173) hx hb dX4_tipOrKeep_173 rfl (lv_at hl 2 rfl) ?_
          refine z_get (own := RX4) (ref := "CupFountainModel") (C := RX4) (T := TX4) (N := 17) (ci := 4) (v := .ref (a 1)) (pc := 174) hx hb hts hinX4 hown hz 0 rfl rfl 0 (by decide) L7 rfl rfl dX4_tipOrKeep_174 ?_
          refine lv_iconst (v := 1) (pc := 177) hx hb dX4_tipOrKeep_177 (by decide) ?_
          refine lv_dup2_11 (pc := 178) hx hb dX4_tipOrKeep_178 rfl rfl ?_
          refine z_iald (x := h 1) (pc := 179) hx hb hz 1 rfl 1 rfl (by decide) (by decide) (enc_h (by decide)) dX4_tipOrKeep_179 ?_
          refine lv_iload (pc := 180) hx hb dX4_tipOrKeep_180 (lv_at hl 0 rfl) ?_
          refine lv_sipush (v := 9999) (pc := 182) hx hb dX4_tipOrKeep_182 (by decide) ?_
          refine lv_isub (pc := 185) hx hb dX4_tipOrKeep_185 ?_
          refine lv_iadd (pc := 186) hx hb dX4_tipOrKeep_186 ?_
          refine z_iast (ws1 := mm ca a f (upd h 1 ((h 1) + ((c k 3) - 9999))) (u2 (u2 c k 7 0) k 3 9999) hi sn be tx (upd ti k (tpF c k hour))) (pc := 187) hx hb hz 1 rfl 1 rfl (by decide) (by decide) (by rw [enc_uh (by decide)]; rfl) dX4_tipOrKeep_187 (fun H locs hz => ?_)
          exact z_vret (pc := 188) hx hb hr hlk hQ hz dX4_tipOrKeep_188 rfl (by simp only [tokH, tokC, if_pos c_82, if_neg c_161])
      · refine lv_bipush (v := 10) (pc := 85) hx hb dX4_tipOrKeep_85 (by decide) ?_
        refine lv_iload (pc := 87) hx hb dX4_tipOrKeep_87 (lv_at hl 0 rfl) ?_
        refine lv_imul (pc := 89) hx hb dX4_tipOrKeep_89 ?_
        refine lv_aload_n (pc := 90) hx hb dX4_tipOrKeep_90 rfl (lv_at hl 2 rfl) ?_
        refine lv_iload_n (pc := 91) hx hb dX4_tipOrKeep_91 rfl (lv_at hl 3 rfl) ?_
        refine lv_iconst (v := 0) (pc := 92) hx hb dX4_tipOrKeep_92 (by decide) ?_
        refine z_runV (pc := 93) (As := [.int (nI k), .int 0]) (rest := [.int (10 * (c k 3))]) (ws1 := mm ca a f h c hi sn be tx (upd ti k (tpF c k hour))) ⟨hx, hb, hml, hown, hts⟩ (k_X4_of l G ca a f h c hi sn be tx (upd ti k (tpF c k hour)) k 0 (by assumption) (by decide)) (cwV 2 hts (zgoodV zsub wq_7_11 wq_7_12 wq_7_13 wq_1_5 wq_7_14) rfl rfl rfl hdV_X4_of ⟨Nat.le_of_ble_eq_true rfl, Nat.le_of_ble_eq_true rfl⟩) hz [] zp_all zp_all' rfl rfl rfl hl.1 (Nat.le_of_ble_eq_true rfl) (st1 := [.int (c k 0), .int (10 * (c k 3))]) rfl dX4_tipOrKeep_93 ⟨Nat.zero_le _, Nat.zero_le _⟩ (fun H locs hz => ?_)
        refine lv_idiv (pc := 96) hx hb dX4_tipOrKeep_96 hsz ?_
        refine lv_istore (lv' := [(5, .int ((10 * (c k 3)) / (c k 0))), (4, .int (c k 3)), (3, .int (opF c k hour)), (0, .ref (a 0)), (1, .int (nI k)), (2, .int hour)]) (pc := 97) hx hb dX4_tipOrKeep_97 hl (by decide) rfl (fun ls hl => ?_)
        refine lv_aload_n (pc := 99) hx hb dX4_tipOrKeep_99 rfl (lv_at hl 3 rfl) ?_
        refine lv_iload_n (pc := 100) hx hb dX4_tipOrKeep_100 rfl (lv_at hl 4 rfl) ?_
        refine lv_bipush (v := 7) (pc := 101) hx hb dX4_tipOrKeep_101 (by decide) ?_
        refine lv_iload (pc := 103) hx hb dX4_tipOrKeep_103 (lv_at hl 0 rfl) ?_
        refine lv_bipush (v := 30) (pc := 105) hx hb dX4_tipOrKeep_105 (by decide) ?_
        have J3 : ∀ (H : Heap) (locs : List Loc) (ls : Array Slot), zw G ca A s0.heap s0 (mm ca a f h c hi sn be tx (upd ti k (tpF c k hour))) H locs → lv_has ls 6 [(5, .int ((10 * (c k 3)) / (c k 0))), (4, .int (c k 3)), (3, .int (opF c k hour)), (0, .ref (a 0)), (1, .int (nI k)), (2, .int hour)] → W pg l ev rm_X4_tipOrKeep s0 mt args below meth cd H locs 0 0 Q (F0 mt 117 ls [.int (jetF c k), .int 7, .int (nI k), .ref (a 0)]) := by
          intro H locs ls hz hl
          refine z_runV (pc := 117) (As := [.int (nI k), .int 7, .int (jetF c k)]) (rest := []) (ws1 := mm ca a f h (u2 c k 7 (jetF c k)) hi sn be tx (upd ti k (tpF c k hour))) ⟨hx, hb, hml, hown, hts⟩ (k_X4_lay l G ca a f h c hi sn be tx (upd ti k (tpF c k hour)) k 7 (jetF c k) (by assumption) (by decide)) (cwV 3 hts (zgoodV zsub wq_4_13 wq_4_14 wq_4_15 wq_1_5 wq_4_16) rfl rfl rfl hdV_X4_lay ⟨Nat.le_of_ble_eq_true rfl, Nat.le_of_ble_eq_true rfl⟩) hz [] zp_all zp_all' rfl rfl rfl hl.1 (Nat.le_of_ble_eq_true rfl) (st1 := []) rfl dX4_tipOrKeep_117 ⟨Nat.zero_le _, Nat.zero_le _⟩ (fun H locs hz => ?_)
          refine lv_aload_n (pc := 120) hx hb dX4_tipOrKeep_120 rfl (lv_at hl 3 rfl) ?_
          refine lv_iload_n (pc := 121) hx hb dX4_tipOrKeep_121 rfl (lv_at hl 4 rfl) ?_
          refine lv_iconst (v := 3) (pc := 122) hx hb dX4_tipOrKeep_122 (by decide) ?_
          refine lv_iconst (v := 0) (pc := 123) hx hb dX4_tipOrKeep_123 (by decide) ?_
          refine z_runV (pc := 124) (As := [.int (nI k), .int 3, .int 0]) (rest := []) (ws1 := mm ca a f h (u2 (u2 c k 7 (jetF c k)) k 3 0) hi sn be tx (upd ti k (tpF c k hour))) ⟨hx, hb, hml, hown, hts⟩ (k_X4_lay l G ca a f h (u2 c k 7 (jetF c k)) hi sn be tx (upd ti k (tpF c k hour)) k 3 0 (by assumption) (by decide)) (cwV 3 hts (zgoodV zsub wq_4_13 wq_4_14 wq_4_15 wq_1_5 wq_4_16) rfl rfl rfl hdV_X4_lay ⟨Nat.le_of_ble_eq_true rfl, Nat.le_of_ble_eq_true rfl⟩) hz [] zp_all zp_all' rfl rfl rfl hl.1 (Nat.le_of_ble_eq_true rfl) (st1 := []) rfl dX4_tipOrKeep_124 ⟨Nat.zero_le _, Nat.zero_le _⟩ (fun H locs hz => ?_)
          refine lv_aload_n (pc := 127) hx hb dX4_tipOrKeep_127 rfl (lv_at hl 3 rfl) ?_
          refine lv_aload_n (pc := 128) hx hb dX4_tipOrKeep_128 rfl (lv_at hl 3 rfl) ?_
          refine lv_iload_n (pc := 129) hx hb dX4_tipOrKeep_129 rfl (lv_at hl 4 rfl) ?_
          refine lv_iconst (v := 2) (pc := 130) hx hb dX4_tipOrKeep_130 (by decide) ?_
          refine z_runV (pc := 131) (As := [.int (nI k), .int 2]) (rest := [.ref (a 0)]) (ws1 := mm ca a f h (u2 (u2 c k 7 (jetF c k)) k 3 0) hi sn be tx (upd ti k (tpF c k hour))) ⟨hx, hb, hml, hown, hts⟩ (k_X4_of l G ca a f h (u2 (u2 c k 7 (jetF c k)) k 3 0) hi sn be tx (upd ti k (tpF c k hour)) k 2 (by assumption) (by decide)) (cwV 2 hts (zgoodV zsub wq_7_11 wq_7_12 wq_7_13 wq_1_5 wq_7_14) rfl rfl rfl hdV_X4_of ⟨Nat.le_of_ble_eq_true rfl, Nat.le_of_ble_eq_true rfl⟩) hz [] zp_all zp_all' rfl rfl rfl hl.1 (Nat.le_of_ble_eq_true rfl) (st1 := [.int ((u2 (u2 c k 7 (jetF c k)) k 3 0) k 2), .ref (a 0)]) rfl dX4_tipOrKeep_131 ⟨Nat.zero_le _, Nat.zero_le _⟩ (fun H locs hz => ?_)
          refine z_top (y := c k 2) (by rw [u2_nw (by decide), u2_nw (by decide)]) ?_
          refine lv_iload (pc := 134) hx hb dX4_tipOrKeep_134 (lv_at hl 1 rfl) ?_
          refine z_runV (pc := 136) (As := [.int (c k 2), .int (c k 3)]) (rest := []) (ws1 := mm ca a f (pourH h (nn (c k 2)) (c k 3)) (pourC (u2 (u2 c k 7 (jetF c k)) k 3 0) (nn (c k 2)) (c k 3)) hi sn be tx (upd ti k (tpF c k hour))) ⟨hx, hb, hml, hown, hts⟩ (k_X4_pour l G ca a f h (u2 (u2 c k 7 (jetF c k)) k 3 0) hi sn be tx (upd ti k (tpF c k hour)) (nn (c k 2)) (c k 2) (c k 3) ht1 ht2) (cwV 2 hts (zgoodV zsub wq_14_21 wq_14_22 wq_14_23 wq_1_5 wq_15_0) rfl rfl rfl hdV_X4_pour ⟨Nat.le_of_ble_eq_true rfl, Nat.le_of_ble_eq_true rfl⟩) hz [] zp_all zp_all' rfl rfl rfl hl.1 (Nat.le_of_ble_eq_true rfl) (st1 := []) rfl dX4_tipOrKeep_136 ⟨Nat.zero_le _, Nat.zero_le _⟩ (fun H locs hz => ?_)
          refine lv_aload_n (pc := 139) hx hb dX4_tipOrKeep_139 rfl (lv_at hl 3 rfl) ?_
          refine lv_iload_n (pc := 140) hx hb dX4_tipOrKeep_140 rfl (lv_at hl 4 rfl) ?_
          refine lv_iload_n (pc := 141) hx hb dX4_tipOrKeep_141 rfl (lv_at hl 5 rfl) ?_
          refine z_runV (pc := 142) (As := [.int (nI k), .int hour]) (rest := []) (ws1 := mm ca a f (pourH h (nn (c k 2)) (c k 3)) (tipC (pourC (u2 (u2 c k 7 (jetF c k)) k 3 0) (nn (c k 2)) (c k 3)) k hour) hi sn be tx (upd ti k (tpF c k hour))) ⟨hx, hb, hml, hown, hts⟩ (k_X4_countTip l G ca a f (pourH h (nn (c k 2)) (c k 3)) (pourC (u2 (u2 c k 7 (jetF c k)) k 3 0) (nn (c k 2)) (c k 3)) hi sn be tx (upd ti k (tpF c k hour)) k hour (by assumption)) (cwV 2 hts (zgoodV zsub wq_15_9 wq_15_10 wq_15_11 wq_1_5 wq_15_12) rfl rfl rfl hdV_X4_countTip ⟨Nat.le_of_ble_eq_true rfl, Nat.le_of_ble_eq_true rfl⟩) hz [] zp_all zp_all' rfl rfl rfl hl.1 (Nat.le_of_ble_eq_true rfl) (st1 := []) rfl dX4_tipOrKeep_142 ⟨Nat.zero_le _, Nat.zero_le _⟩ (fun H locs hz => ?_)
          refine lv_goto (tgt := 188) (pc := 145) hx hb dX4_tipOrKeep_145 (by decide) ?_
          exact z_vret (pc := 188) hx hb hr hlk hQ hz dX4_tipOrKeep_188 rfl (by simp only [tokH, tokC, if_neg c_82])
        refine lv_icmp_le (pc := 107) (tgt := 115) hx hb dX4_tipOrKeep_107 (by decide) (fun c_107 => ?_) (fun c_107 => ?_)
        · refine lv_iload (pc := 115) hx hb dX4_tipOrKeep_115 (lv_at hl 0 rfl) ?_
          exact z_top (by simp only [jetF, if_pos c_107]) (J3 _ _ _ hz (lv_sub hl [0, 1, 2, 3, 4, 5] rfl))
        · refine lv_bipush (v := 30) (pc := 110) hx hb dX4_tipOrKeep_110 (by decide) ?_
          refine lv_goto (tgt := 117) (pc := 112) hx hb dX4_tipOrKeep_112 (by decide) ?_
          exact z_top (by simp only [jetF, if_neg c_107]) (J3 _ _ _ hz (lv_sub hl [0, 1, 2, 3, 4, 5] rfl))
    refine lv_if_eq (pc := 63) (tgt := 74) hx hb dX4_tipOrKeep_63 (by decide) (fun c_63 => ?_) (fun c_63 => ?_)
    · refine lv_iconst (v := 0) (pc := 74) hx hb dX4_tipOrKeep_74 (by decide) ?_
      exact z_top (by simp only [tpF, if_pos c_63]) (J2 _ _ _ hz (lv_sub hl [0, 1, 2, 3, 4] rfl))
    · refine lv_iload_n (pc := 66) hx hb dX4_tipOrKeep_66 rfl (lv_at hl 1 rfl) ?_
      refine lv_if_eq (pc := 67) (tgt := 74) hx hb dX4_tipOrKeep_67 (by decide) (fun c_67 => ?_) (fun c_67 => ?_)
      · refine lv_iconst (v := 0) (pc := 74) hx hb dX4_tipOrKeep_74 (by decide) ?_
        exact z_top (by simp only [tpF, if_neg c_63, if_pos c_67]) (J2 _ _ _ hz (lv_sub hl [0, 1, 2, 3, 4] rfl))
      · refine lv_iconst (v := 1) (pc := 70) hx hb dX4_tipOrKeep_70 (by decide) ?_
        refine lv_goto (tgt := 75) (pc := 71) hx hb dX4_tipOrKeep_71 (by decide) ?_
        exact z_top (by simp only [tpF, if_neg c_63, if_neg c_67]) (J2 _ _ _ hz (lv_sub hl [0, 1, 2, 3, 4] rfl))
  refine lv_icmp_ne (pc := 8) (tgt := 29) hx hb dX4_tipOrKeep_8 (by decide) (fun c_8 => ?_) (fun c_8 => ?_)
  · refine lv_aload_n (pc := 29) hx hb dX4_tipOrKeep_29 rfl (lv_at hl 0 rfl) ?_
    refine lv_iload_n (pc := 30) hx hb dX4_tipOrKeep_30 rfl (lv_at hl 1 rfl) ?_
    refine lv_iconst (v := 5) (pc := 31) hx hb dX4_tipOrKeep_31 (by decide) ?_
    refine z_runV (pc := 32) (As := [.int (nI k), .int 5]) (rest := []) (ws1 := mm ca a f h c hi sn be tx ti) ⟨hx, hb, hml, hown, hts⟩ (k_X4_of l G ca a f h c hi sn be tx ti k 5 (by assumption) (by decide)) (cwV 2 hts (zgoodV zsub wq_7_11 wq_7_12 wq_7_13 wq_1_5 wq_7_14) rfl rfl rfl hdV_X4_of ⟨Nat.le_of_ble_eq_true rfl, Nat.le_of_ble_eq_true rfl⟩) hz [] zp_all zp_all' rfl rfl rfl hl.1 (Nat.le_of_ble_eq_true rfl) (st1 := [.int (c k 5)]) rfl dX4_tipOrKeep_32 ⟨Nat.zero_le _, Nat.zero_le _⟩ (fun H locs hz => ?_)
    refine lv_iconst (v := 1) (pc := 35) hx hb dX4_tipOrKeep_35 (by decide) ?_
    refine lv_icmp_ne (pc := 36) (tgt := 43) hx hb dX4_tipOrKeep_36 (by decide) (fun c_36 => ?_) (fun c_36 => ?_)
    · refine lv_iconst (v := 0) (pc := 43) hx hb dX4_tipOrKeep_43 (by decide) ?_
      exact z_top (by simp only [opF, if_neg c_8, if_neg c_36]) (J1 _ _ _ hz (lv_sub hl [0, 1, 2] rfl))
    · refine lv_iconst (v := 1) (pc := 39) hx hb dX4_tipOrKeep_39 (by decide) ?_
      refine lv_goto (tgt := 44) (pc := 40) hx hb dX4_tipOrKeep_40 (by decide) ?_
      exact z_top (by simp only [opF, if_neg c_8, if_pos c_36]) (J1 _ _ _ hz (lv_sub hl [0, 1, 2] rfl))
  · refine lv_iload_n (pc := 11) hx hb dX4_tipOrKeep_11 rfl (lv_at hl 2 rfl) ?_
    refine lv_aload_n (pc := 12) hx hb dX4_tipOrKeep_12 rfl (lv_at hl 0 rfl) ?_
    refine lv_iload_n (pc := 13) hx hb dX4_tipOrKeep_13 rfl (lv_at hl 1 rfl) ?_
    refine lv_iconst (v := 4) (pc := 14) hx hb dX4_tipOrKeep_14 (by decide) ?_
    refine z_runV (pc := 15) (As := [.int (nI k), .int 4]) (rest := [.int hour]) (ws1 := mm ca a f h c hi sn be tx ti) ⟨hx, hb, hml, hown, hts⟩ (k_X4_of l G ca a f h c hi sn be tx ti k 4 (by assumption) (by decide)) (cwV 2 hts (zgoodV zsub wq_7_11 wq_7_12 wq_7_13 wq_1_5 wq_7_14) rfl rfl rfl hdV_X4_of ⟨Nat.le_of_ble_eq_true rfl, Nat.le_of_ble_eq_true rfl⟩) hz [] zp_all zp_all' rfl rfl rfl hl.1 (Nat.le_of_ble_eq_true rfl) (st1 := [.int (c k 4), .int hour]) rfl dX4_tipOrKeep_15 ⟨Nat.zero_le _, Nat.zero_le _⟩ (fun H locs hz => ?_)
    refine lv_icmp_ne (pc := 18) (tgt := 25) hx hb dX4_tipOrKeep_18 (by decide) (fun c_18 => ?_) (fun c_18 => ?_)
    · refine lv_iconst (v := 0) (pc := 25) hx hb dX4_tipOrKeep_25 (by decide) ?_
      refine lv_goto (tgt := 44) (pc := 26) hx hb dX4_tipOrKeep_26 (by decide) ?_
      exact z_top (by simp only [opF, if_pos c_8, if_neg c_18]) (J1 _ _ _ hz (lv_sub hl [0, 1, 2] rfl))
    · refine lv_iconst (v := 1) (pc := 21) hx hb dX4_tipOrKeep_21 (by decide) ?_
      refine lv_goto (tgt := 44) (pc := 22) hx hb dX4_tipOrKeep_22 (by decide) ?_
      exact z_top (by simp only [opF, if_pos c_8, if_pos c_18]) (J1 _ _ _ hz (lv_sub hl [0, 1, 2] rfl))
