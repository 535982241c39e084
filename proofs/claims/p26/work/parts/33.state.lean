def rm_X2_find : Room := { frames := 0, cells := 0, slots := 0, locals := 0 }
set_option maxRecDepth 20000 in
theorem hdV_X2_find : yX2_find.cls = RX2 ∧ yX2_find.cls ≠ "java/lang/invoke/MethodHandle" ∧ yX2_find.cls ≠ "java/lang/invoke/VarHandle" ∧ (parseMethodDescriptor yX2_find.desc).map (fun d => d.parameters.length) = some 1 := by decide +kernel
set_option maxHeartbeats 4000000 in
set_option maxRecDepth 100000 in
theorem k_X2_find_r (l : Launch) (G : va_G) (ca : Nat → ClassId) (a : Nat → Nat) (h : Nat → Int32) (c : Nat → Nat → Int32) (z : Nat → Int32) (k : Nat) (hk : k < 8) : Zc l G ca yX2_find (zws yX2_find cX2_find 2 (some (.object "CupFountain$Cup"))) rm_X2_find [.ref (a 0), .int (nI k)] (wS ca a h c z) (some (.ref (a (2 + k)))) (wS ca a h c z) := by
  refine Zc.of (cc := cX2_find) (maxL := 2) (ret := (some (.object "CupFountain$Cup"))) (by decide) rfl (Nat.le_of_ble_eq_true rfl) ?_
  intro pg ev s0 mt below meth cd A args Q ls hx hb hr hml hown hts hlk hQ hl hz
  have L11 : (Cond.fieldLink RX2 11 "CupFountain$State" "cups" "[LCupFountain$Cup;").before args s0 = true := hts _ (zsub _ wq_3_6)
  have hinX2 : ∀ w ∈ wsX20, w ∈ zws yX2_find cX2_find 2 (some (.object "CupFountain$Cup")) := fun w h => zsub w (wl_wsX20 w h)
  have hl : lv_has ls 2 [(0, .ref (a 0)), (1, .int (nI k))] := hl
  refine lv_iload_n (pc := 0) hx hb dX2_find_0 rfl (lv_at hl 1 rfl) ?_
  refine lv_if_lt (pc := 1) (tgt := 19) hx hb dX2_find_1 (by decide) (fun c9 => absurd c9 (nI_pos (by omega))) (fun c_1 => ?_)
  refine lv_iload_n (pc := 4) hx hb dX2_find_4 rfl (lv_at hl 1 rfl) ?_
  refine lv_bipush (v := 8) (pc := 5) hx hb dX2_find_5 (by decide) ?_
  refine lv_icmp_ge (pc := 7) (tgt := 19) hx hb dX2_find_7 (by decide) (fun c9 => absurd c9 (nI_ge hk (by decide))) (fun c_7 => ?_)
  refine lv_aload_n (pc := 10) hx hb dX2_find_10 rfl (lv_at hl 0 rfl) ?_
  refine z_get (own := RX2) (ref := "CupFountain$State") (C := RX2) (T := TX2) (N := 9) (ci := 2) (v := .ref (a 1)) (pc := 11) hx hb hts hinX2 hown hz 0 rfl rfl 0 (by decide) L11 rfl rfl dX2_find_11 ?_
  refine lv_iload_n (pc := 14) hx hb dX2_find_14 rfl (lv_at hl 1 rfl) ?_
  refine z_aald (pc := 15) hx hb hz 1 3 rfl rfl k rfl hk (by decide) rfl dX2_find_15 ?_
  refine lv_goto (tgt := 20) (pc := 16) hx hb dX2_find_16 (by decide) ?_
  exact z_aret (pc := 20) hx hb hr (Or.inl ⟨_, rfl⟩) hlk hQ hz (Or.inr ⟨_, rfl⟩) dX2_find_20 (by rfl) (by rfl)

set_option maxHeartbeats 4000000 in
set_option maxRecDepth 100000 in
theorem k_X2_find_n (l : Launch) (G : va_G) (ca : Nat → ClassId) (a : Nat → Nat) (h : Nat → Int32) (c : Nat → Nat → Int32) (z : Nat → Int32) (x : Int32) (hn : inF x 0 7 = 0) : Zc l G ca yX2_find (zws yX2_find cX2_find 2 (some (.object "CupFountain$Cup"))) rm_X2_find [.ref (a 0), .int x] (wS ca a h c z) (some .null) (wS ca a h c z) := by
  refine Zc.of (cc := cX2_find) (maxL := 2) (ret := (some (.object "CupFountain$Cup"))) (by decide) rfl (Nat.le_of_ble_eq_true rfl) ?_
  intro pg ev s0 mt below meth cd A args Q ls hx hb hr hml hown hts hlk hQ hl hz
  have hl : lv_has ls 2 [(0, .ref (a 0)), (1, .int x)] := hl
  refine lv_iload_n (pc := 0) hx hb dX2_find_0 rfl (lv_at hl 1 rfl) ?_
  refine lv_if_lt (pc := 1) (tgt := 19) hx hb dX2_find_1 (by decide) (fun c_1 => ?_) (fun c_1 => ?_)
  · refine lv_null (pc := 19) hx hb dX2_find_19 ?_
    exact z_aret (pc := 20) hx hb hr (Or.inl ⟨_, rfl⟩) hlk hQ hz (Or.inl rfl) dX2_find_20 (by rfl) (by rfl)
  · refine lv_iload_n (pc := 4) hx hb dX2_find_4 rfl (lv_at hl 1 rfl) ?_
    refine lv_bipush (v := 8) (pc := 5) hx hb dX2_find_5 (by decide) ?_
    refine lv_icmp_ge (pc := 7) (tgt := 19) hx hb dX2_find_7 (by decide) (fun c_7 => ?_) (fun c9 => absurd (inF_ge7 hn c_1) c9)
    refine lv_null (pc := 19) hx hb dX2_find_19 ?_
    exact z_aret (pc := 20) hx hb hr (Or.inl ⟨_, rfl⟩) hlk hQ hz (Or.inl rfl) dX2_find_20 (by rfl) (by rfl)

set_option maxHeartbeats 4000000 in
set_option maxRecDepth 100000 in
theorem k_X2_find_8 (l : Launch) (G : va_G) (ca : Nat → ClassId) (a : Nat → Nat) (h : Nat → Int32) (c : Nat → Nat → Int32) (z : Nat → Int32) : Zc l G ca yX2_find (zws yX2_find cX2_find 2 (some (.object "CupFountain$Cup"))) rm_X2_find [.ref (a 0), .int 8] (wS ca a h c z) (some .null) (wS ca a h c z) := by
  refine Zc.of (cc := cX2_find) (maxL := 2) (ret := (some (.object "CupFountain$Cup"))) (by decide) rfl (Nat.le_of_ble_eq_true rfl) ?_
  intro pg ev s0 mt below meth cd A args Q ls hx hb hr hml hown hts hlk hQ hl hz
  have hl : lv_has ls 2 [(0, .ref (a 0)), (1, .int 8)] := hl
  refine lv_iload_n (pc := 0) hx hb dX2_find_0 rfl (lv_at hl 1 rfl) ?_
  refine lv_if_lt (pc := 1) (tgt := 19) hx hb dX2_find_1 (by decide) (fun c9 => absurd c9 (by decide)) (fun c_1 => ?_)
  refine lv_iload_n (pc := 4) hx hb dX2_find_4 rfl (lv_at hl 1 rfl) ?_
  refine lv_bipush (v := 8) (pc := 5) hx hb dX2_find_5 (by decide) ?_
  refine lv_icmp_ge (pc := 7) (tgt := 19) hx hb dX2_find_7 (by decide) (fun c_7 => ?_) (fun c9 => absurd (by decide) c9)
  refine lv_null (pc := 19) hx hb dX2_find_19 ?_
  exact z_aret (pc := 20) hx hb hr (Or.inl ⟨_, rfl⟩) hlk hQ hz (Or.inl rfl) dX2_find_20 (by rfl) (by rfl)

def rm_X2_hourOf : Room := { frames := 0, cells := 0, slots := 0, locals := 0 }
set_option maxRecDepth 20000 in
theorem hdV_X2_hourOf : yX2_hourOf.cls = RX2 ∧ yX2_hourOf.cls ≠ "java/lang/invoke/MethodHandle" ∧ yX2_hourOf.cls ≠ "java/lang/invoke/VarHandle" ∧ (parseMethodDescriptor yX2_hourOf.desc).map (fun d => d.parameters.length) = some 1 := by decide +kernel
set_option maxHeartbeats 4000000 in
set_option maxRecDepth 100000 in
theorem k_X2_hourOf (l : Launch) (G : va_G) (ca : Nat → ClassId) (a : Nat → Nat) (h : Nat → Int32) (c : Nat → Nat → Int32) (z : Nat → Int32) (x : Int32) : Zc l G ca yX2_hourOf (zws yX2_hourOf cX2_hourOf 2 (some .int)) rm_X2_hourOf [.ref (a 0), .int x] (wS ca a h c z) (some (.int (hoR h x))) (wS ca a h c z) := by
  refine Zc.of (cc := cX2_hourOf) (maxL := 2) (ret := (some .int)) (by decide) rfl (Nat.le_of_ble_eq_true rfl) ?_
  intro pg ev s0 mt below meth cd A args Q ls hx hb hr hml hown hts hlk hQ hl hz
  have L27 : (Cond.fieldLink RX2 27 "CupFountain$State" "day" "I").before args s0 = true := hts _ (zsub _ wq_3_10)
  have hinX2 : ∀ w ∈ wsX20, w ∈ zws yX2_hourOf cX2_hourOf 2 (some .int) := fun w h => zsub w (wl_wsX20 w h)
  have hl : lv_has ls 2 [(0, .ref (a 0)), (1, .int x)] := hl
  refine lv_aload_n (pc := 0) hx hb dX2_hourOf_0 rfl (lv_at hl 0 rfl) ?_
  refine z_get (own := RX2) (ref := "CupFountain$State") (C := RX2) (T := TX2) (N := 9) (ci := 2) (v := .int (h 7)) (pc := 1) hx hb hts hinX2 hown hz 0 rfl rfl 4 (by decide) L27 rfl rfl dX2_hourOf_1 ?_
  refine lv_if_le (pc := 4) (tgt := 16) hx hb dX2_hourOf_4 (by decide) (fun c_4 => ?_) (fun c_4 => ?_)
  · refine lv_iconst (v := 0) (pc := 16) hx hb dX2_hourOf_16 (by decide) ?_
    exact z_iret (pc := 17) hx hb hr hlk hQ hz dX2_hourOf_17 (by simp only [hoR, hrF, if_pos c_4]) (by rfl)
  · refine lv_iload_n (pc := 7) hx hb dX2_hourOf_7 rfl (lv_at hl 1 rfl) ?_
    refine lv_aload_n (pc := 8) hx hb dX2_hourOf_8 rfl (lv_at hl 0 rfl) ?_
    refine z_get (own := RX2) (ref := "CupFountain$State") (C := RX2) (T := TX2) (N := 9) (ci := 2) (v := .int (h 7)) (pc := 9) hx hb hts hinX2 hown hz 0 rfl rfl 4 (by decide) L27 rfl rfl dX2_hourOf_9 ?_
    refine lv_irem (pc := 12) hx hb dX2_hourOf_12 (fun q => c_4 (by rw [q]; exact Int32.le_refl 0)) ?_
    refine lv_goto (tgt := 17) (pc := 13) hx hb dX2_hourOf_13 (by decide) ?_
    exact z_iret (pc := 17) hx hb hr hlk hQ hz dX2_hourOf_17 (by simp only [hoR, hrF, if_neg c_4]) (by rfl)

def rm_X2_tellSetting : Room := { frames := 0, cells := 0, slots := 0, locals := 0 }
set_option maxRecDepth 20000 in
theorem hdV_X2_tellSetting : yX2_tellSetting.cls = RX2 ∧ yX2_tellSetting.cls ≠ "java/lang/invoke/MethodHandle" ∧ yX2_tellSetting.cls ≠ "java/lang/invoke/VarHandle" ∧ (parseMethodDescriptor yX2_tellSetting.desc).map (fun d => d.parameters.length) = some 1 := by decide +kernel
set_option maxHeartbeats 4000000 in
set_option maxRecDepth 100000 in
theorem k_X2_tellSetting (l : Launch) (G : va_G) (ca : Nat → ClassId) (a : Nat → Nat) (h : Nat → Int32) (c : Nat → Nat → Int32) (z : Nat → Int32) (x : Int32) : Zc l G ca yX2_tellSetting (zws yX2_tellSetting cX2_tellSetting 2 (some .int)) rm_X2_tellSetting [.ref (a 0), .int x] (wS ca a h c z) (some (.int (setF h x))) (wS ca a h c z) := by
  refine Zc.of (cc := cX2_tellSetting) (maxL := 2) (ret := (some .int)) (by decide) rfl (Nat.le_of_ble_eq_true rfl) ?_
  intro pg ev s0 mt below meth cd A args Q ls hx hb hr hml hown hts hlk hQ hl hz
  have L21 : (Cond.fieldLink RX2 21 "CupFountain$State" "spring" "I").before args s0 = true := hts _ (zsub _ wq_3_8)
  have L24 : (Cond.fieldLink RX2 24 "CupFountain$State" "comesBack" "I").before args s0 = true := hts _ (zsub _ wq_3_9)
  have L27 : (Cond.fieldLink RX2 27 "CupFountain$State" "day" "I").before args s0 = true := hts _ (zsub _ wq_3_10)
  have hinX2 : ∀ w ∈ wsX20, w ∈ zws yX2_tellSetting cX2_tellSetting 2 (some .int) := fun w h => zsub w (wl_wsX20 w h)
  have hl : lv_has ls 2 [(0, .ref (a 0)), (1, .int x)] := hl
  refine lv_iload_n (pc := 0) hx hb dX2_tellSetting_0 rfl (lv_at hl 1 rfl) ?_
  refine lv_if_ne (pc := 1) (tgt := 9) hx hb dX2_tellSetting_1 (by decide) (fun c_1 => ?_) (fun c_1 => ?_)
  · refine lv_iload_n (pc := 9) hx hb dX2_tellSetting_9 rfl (lv_at hl 1 rfl) ?_
    refine lv_iconst (v := 1) (pc := 10) hx hb dX2_tellSetting_10 (by decide) ?_
    refine lv_icmp_ne (pc := 11) (tgt := 21) hx hb dX2_tellSetting_11 (by decide) (fun c_11 => ?_) (fun c_11 => ?_)
    · refine lv_aload_n (pc := 21) hx hb dX2_tellSetting_21 rfl (lv_at hl 0 rfl) ?_
      refine z_get (own := RX2) (ref := "CupFountain$State") (C := RX2) (T := TX2) (N := 9) (ci := 2) (v := .int (h 7)) (pc := 22) hx hb hts hinX2 hown hz 0 rfl rfl 4 (by decide) L27 rfl rfl dX2_tellSetting_22 ?_
      exact z_iret (pc := 25) hx hb hr hlk hQ hz dX2_tellSetting_25 (by simp only [setF, if_neg c_1, if_neg c_11]) (by rfl)
    · refine lv_aload_n (pc := 14) hx hb dX2_tellSetting_14 rfl (lv_at hl 0 rfl) ?_
      refine z_get (own := RX2) (ref := "CupFountain$State") (C := RX2) (T := TX2) (N := 9) (ci := 2) (v := .int (h 6)) (pc := 15) hx hb hts hinX2 hown hz 0 rfl rfl 3 (by decide) L24 rfl rfl dX2_tellSetting_15 ?_
      refine lv_goto (tgt := 25) (pc := 18) hx hb dX2_tellSetting_18 (by decide) ?_
      exact z_iret (pc := 25) hx hb hr hlk hQ hz dX2_tellSetting_25 (by simp only [setF, if_neg c_1, if_pos c_11]) (by rfl)
  · refine lv_aload_n (pc := 4) hx hb dX2_tellSetting_4 rfl (lv_at hl 0 rfl) ?_
    refine z_get (own := RX2) (ref := "CupFountain$State") (C := RX2) (T := TX2) (N := 9) (ci := 2) (v := .int (h 5)) (pc := 5) hx hb hts hinX2 hown hz 0 rfl rfl 2 (by decide) L21 rfl rfl dX2_tellSetting_5 ?_
    exact z_iret (pc := 8) hx hb hr hlk hQ hz dX2_tellSetting_8 (by simp only [setF, if_pos c_1]) (by rfl)

def rm_X2_openGuarded : Room := { frames := 0, cells := 0, slots := 0, locals := 0 }
set_option maxRecDepth 20000 in
theorem hdV_X2_openGuarded : yX2_openGuarded.cls = RX2 ∧ yX2_openGuarded.cls ≠ "java/lang/invoke/MethodHandle" ∧ yX2_openGuarded.cls ≠ "java/lang/invoke/VarHandle" ∧ (parseMethodDescriptor yX2_openGuarded.desc).map (fun d => d.parameters.length) = some 1 := by decide +kernel
set_option maxHeartbeats 4000000 in
set_option maxRecDepth 100000 in
theorem k_X2_openGuarded (l : Launch) (G : va_G) (ca : Nat → ClassId) (a : Nat → Nat) (h : Nat → Int32) (c : Nat → Nat → Int32) (z : Nat → Int32) (hour : Int32) : Zc l G ca yX2_openGuarded (zws yX2_openGuarded cX2_openGuarded 3 none) rm_X2_openGuarded [.ref (a 0), .int hour] (wS ca a h c z) none (wS ca a h (opn c hour 8) z) := by
  refine Zc.of (cc := cX2_openGuarded) (maxL := 3) (ret := none) (by decide) rfl (Nat.le_of_ble_eq_true rfl) ?_
  intro pg ev s0 mt below meth cd A args Q ls hx hb hr hml hown hts hlk hQ hl hz
  have L11 : (Cond.fieldLink RX2 11 "CupFountain$State" "cups" "[LCupFountain$Cup;").before args s0 = true := hts _ (zsub _ wq_3_6)
  have L73 : (Cond.fieldLink RX2 73 "CupFountain$Cup" "guarded" "Z").before args s0 = true := hts _ (zsub _ wq_13_6)
  have L77 : (Cond.fieldLink RX2 77 "CupFountain$Cup" "open" "Z").before args s0 = true := hts _ (zsub _ wq_13_8)
  have L84 : (Cond.fieldLink RX2 84 "CupFountain$Cup" "hour" "I").before args s0 = true := hts _ (zsub _ wq_13_7)
  have hinX0 : ∀ w ∈ wsX00, w ∈ zws yX2_openGuarded cX2_openGuarded 3 none := fun w h => zsub w (wl_wsX00 w h)
  have hinX2 : ∀ w ∈ wsX20, w ∈ zws yX2_openGuarded cX2_openGuarded 3 none := fun w h => zsub w (wl_wsX20 w h)
  have hl : lv_has ls 3 [(0, .ref (a 0)), (1, .int hour)] := hl
  refine lv_iconst (v := 0) (pc := 0) hx hb dX2_openGuarded_0 (by decide) ?_
  refine lv_istore_n (lv' := [(2, .int 0), (0, .ref (a 0)), (1, .int hour)]) (pc := 1) hx hb dX2_openGuarded_1 rfl hl (by decide) rfl (fun ls hl => ?_)
  have loop1 : ∀ cnt k : Nat, k + cnt = 8 → ∀ (H : Heap) (locs : List Loc) (ls : Array Slot), zw G ca A s0.heap s0 (wS ca a h (opn c hour k) z) H locs → lv_has ls 3 [(2, .int (nI k)), (0, .ref (a 0)), (1, .int hour)] → W pg l ev rm_X2_openGuarded s0 mt args below meth cd H locs 0 0 Q (F0 mt 2 ls []) := by
    intro cnt
    induction cnt with
    | zero =>
      intro k hk9 H locs ls hz hl
      obtain rfl : 8 = k := by omega
      refine lv_iload_n (pc := 2) hx hb dX2_openGuarded_2 rfl (lv_at hl 0 rfl) ?_
      refine lv_bipush (v := 8) (pc := 3) hx hb dX2_openGuarded_3 (by decide) ?_
      refine lv_icmp_ge (pc := 5) (tgt := 49) hx hb dX2_openGuarded_5 (by decide) (fun c_5 => ?_) (fun c9 => absurd (by decide) c9)
      exact z_vret (pc := 49) hx hb hr hlk hQ hz dX2_openGuarded_49 rfl (by rfl)
    | succ cnt ih =>
      intro k hk9 H locs ls hz hl
      have hk : k < 8 := by omega
      refine lv_iload_n (pc := 2) hx hb dX2_openGuarded_2 rfl (lv_at hl 0 rfl) ?_
      refine lv_bipush (v := 8) (pc := 3) hx hb dX2_openGuarded_3 (by decide) ?_
      refine lv_icmp_ge (pc := 5) (tgt := 49) hx hb dX2_openGuarded_5 (by decide) (fun c9 => absurd c9 (nI_ge hk (by decide))) (fun c_5 => ?_)
      refine lv_aload_n (pc := 8) hx hb dX2_openGuarded_8 rfl (lv_at hl 1 rfl) ?_
      refine z_get (own := RX2) (ref := "CupFountain$State") (C := RX2) (T := TX2) (N := 9) (ci := 2) (v := .ref (a 1)) (pc := 9) hx hb hts hinX2 hown hz 0 rfl rfl 0 (by decide) L11 rfl rfl dX2_openGuarded_9 ?_
      refine lv_iload_n (pc := 12) hx hb dX2_openGuarded_12 rfl (lv_at hl 0 rfl) ?_
      refine z_aald (pc := 13) hx hb hz 1 3 rfl rfl k rfl hk (by decide) rfl dX2_openGuarded_13 ?_
      refine z_get (own := RX2) (ref := "CupFountain$Cup") (C := RX0) (T := TX0) (N := 13) (ci := 0) (v := .int ((opn c hour k) k 6)) (pc := 14) hx hb hts hinX0 hown hz (2 + k) (wS_at (by assumption)) rfl 6 (by decide) L73 rfl rfl dX2_openGuarded_14 ?_
      have J2 : ∀ (H : Heap) (locs : List Loc) (ls : Array Slot), zw G ca A s0.heap s0 (wS ca a h (opn c hour (k + 1)) z) H locs → lv_has ls 3 [(2, .int (nI k)), (0, .ref (a 0)), (1, .int hour)] → W pg l ev rm_X2_openGuarded s0 mt args below meth cd H locs 0 0 Q (F0 mt 43 ls []) := by
        intro H locs ls hz hl
        refine lv_iinc (v := nI (k + 1)) (lv' := [(2, .int (nI (k + 1))), (0, .ref (a 0)), (1, .int hour)]) (pc := 43) hx hb dX2_openGuarded_43 hl (k := 0) rfl (nI_add k 1) (by decide) rfl (fun ls hl => ?_)
        refine lv_goto (tgt := 2) (pc := 46) hx hb dX2_openGuarded_46 (by decide) ?_
        exact ih (k + 1) (by omega) _ _ _ hz (lv_sub hl [0, 1, 2] rfl)
      refine lv_if_eq (pc := 17) (tgt := 43) hx hb dX2_openGuarded_17 (by decide) (fun c_17 => ?_) (fun c_17 => ?_)
      · exact J2 _ _ _ (hz.as (by simp only [opn, if_pos c_17])) (lv_sub hl [0, 1, 2] rfl)
      · refine lv_aload_n (pc := 20) hx hb dX2_openGuarded_20 rfl (lv_at hl 1 rfl) ?_
        refine z_get (own := RX2) (ref := "CupFountain$State") (C := RX2) (T := TX2) (N := 9) (ci := 2) (v := .ref (a 1)) (pc := 21) hx hb hts hinX2 hown hz 0 rfl rfl 0 (by decide) L11 rfl rfl dX2_openGuarded_21 ?_
        refine lv_iload_n (pc := 24) hx hb dX2_openGuarded_24 rfl (lv_at hl 0 rfl) ?_
        refine z_aald (pc := 25) hx hb hz 1 3 rfl rfl k rfl hk (by decide) rfl dX2_openGuarded_25 ?_
        refine z_get (own := RX2) (ref := "CupFountain$Cup") (C := RX0) (T := TX0) (N := 13) (ci := 0) (v := .int ((opn c hour k) k 4)) (pc := 26) hx hb hts hinX0 hown hz (2 + k) (wS_at (by assumption)) rfl 4 (by decide) L84 rfl rfl dX2_openGuarded_26 ?_
        refine lv_iload_n (pc := 29) hx hb dX2_openGuarded_29 rfl (lv_at hl 2 rfl) ?_
        refine lv_icmp_ne (pc := 30) (tgt := 43) hx hb dX2_openGuarded_30 (by decide) (fun c_30 => ?_) (fun c_30 => ?_)
        · exact J2 _ _ _ (hz.as (by simp only [opn, if_neg c_17, if_neg c_30])) (lv_sub hl [0, 1, 2] rfl)
        · refine lv_aload_n (pc := 33) hx hb dX2_openGuarded_33 rfl (lv_at hl 1 rfl) ?_
          refine z_get (own := RX2) (ref := "CupFountain$State") (C := RX2) (T := TX2) (N := 9) (ci := 2) (v := .ref (a 1)) (pc := 34) hx hb hts hinX2 hown hz 0 rfl rfl 0 (by decide) L11 rfl rfl dX2_openGuarded_34 ?_
          refine lv_iload_n (pc := 37) hx hb dX2_openGuarded_37 rfl (lv_at hl 0 rfl) ?_
          refine z_aald (pc := 38) hx hb hz 1 3 rfl rfl k rfl hk (by decide) rfl dX2_openGuarded_38 ?_
          refine lv_iconst (v := 1) (pc := 39) hx hb dX2_openGuarded_39 (by decide) ?_
          refine z_put (own := RX2) (ref := "CupFountain$Cup") (C := RX0) (T := TX0) (N := 13) (ci := 0) (v := .int 1) (ws1 := wS ca a h (u2 (opn c hour k) k 5 1) z) (pc := 40) hx hb hts hinX0 tyX0 tyX0_ok nmX0 hown hz (2 + k) (wS_at (by assumption)) rfl 5 (by decide) L77 rfl rfl rfl rfl (Nat.le_of_ble_eq_true rfl) (wS_set (by assumption) (by decide)) dX2_openGuarded_40 (fun H locs hz => ?_)
          exact J2 _ _ _ (hz.as (by simp only [opn, if_neg c_17, if_pos c_30])) (lv_sub hl [0, 1, 2] rfl)
  exact loop1 8 0 (by omega) _ _ _ (hz.as (by rfl)) (lv_sub hl [0, 1, 2] rfl)

def rm_X2_shutGuarded : Room := { frames := 0, cells := 0, slots := 0, locals := 0 }
set_option maxRecDepth 20000 in
theorem hdV_X2_shutGuarded : yX2_shutGuarded.cls = RX2 ∧ yX2_shutGuarded.cls ≠ "java/lang/invoke/MethodHandle" ∧ yX2_shutGuarded.cls ≠ "java/lang/invoke/VarHandle" ∧ (parseMethodDescriptor yX2_shutGuarded.desc).map (fun d => d.parameters.length) = some 0 := by decide +kernel
set_option maxHeartbeats 4000000 in
set_option maxRecDepth 100000 in
theorem k_X2_shutGuarded (l : Launch) (G : va_G) (ca : Nat → ClassId) (a : Nat → Nat) (h : Nat → Int32) (c : Nat → Nat → Int32) (z : Nat → Int32) : Zc l G ca yX2_shutGuarded (zws yX2_shutGuarded cX2_shutGuarded 2 none) rm_X2_shutGuarded [.ref (a 0)] (wS ca a h c z) none (wS ca a h (shn c 8) z) := by
  refine Zc.of (cc := cX2_shutGuarded) (maxL := 2) (ret := none) (by decide) rfl (Nat.le_of_ble_eq_true rfl) ?_
  intro pg ev s0 mt below meth cd A args Q ls hx hb hr hml hown hts hlk hQ hl hz
  have L11 : (Cond.fieldLink RX2 11 "CupFountain$State" "cups" "[LCupFountain$Cup;").before args s0 = true := hts _ (zsub _ wq_3_6)
  have L73 : (Cond.fieldLink RX2 73 "CupFountain$Cup" "guarded" "Z").before args s0 = true := hts _ (zsub _ wq_13_6)
  have L77 : (Cond.fieldLink RX2 77 "CupFountain$Cup" "open" "Z").before args s0 = true := hts _ (zsub _ wq_13_8)
  have hinX0 : ∀ w ∈ wsX00, w ∈ zws yX2_shutGuarded cX2_shutGuarded 2 none := fun w h => zsub w (wl_wsX00 w h)
  have hinX2 : ∀ w ∈ wsX20, w ∈ zws yX2_shutGuarded cX2_shutGuarded 2 none := fun w h => zsub w (wl_wsX20 w h)
  have hl : lv_has ls 2 [(0, .ref (a 0))] := hl
  refine lv_iconst (v := 0) (pc := 0) hx hb dX2_shutGuarded_0 (by decide) ?_
  refine lv_istore_n (lv' := [(1, .int 0), (0, .ref (a 0))]) (pc := 1) hx hb dX2_shutGuarded_1 rfl hl (by decide) rfl (fun ls hl => ?_)
  have loop1 : ∀ cnt k : Nat, k + cnt = 8 → ∀ (H : Heap) (locs : List Loc) (ls : Array Slot), zw G ca A s0.heap s0 (wS ca a h (shn c k) z) H locs → lv_has ls 2 [(1, .int (nI k)), (0, .ref (a 0))] → W pg l ev rm_X2_shutGuarded s0 mt args below meth cd H locs 0 0 Q (F0 mt 2 ls []) := by
    intro cnt
    induction cnt with
    | zero =>
      intro k hk9 H locs ls hz hl
      obtain rfl : 8 = k := by omega
      refine lv_iload_n (pc := 2) hx hb dX2_shutGuarded_2 rfl (lv_at hl 0 rfl) ?_
      refine lv_bipush (v := 8) (pc := 3) hx hb dX2_shutGuarded_3 (by decide) ?_
      refine lv_icmp_ge (pc := 5) (tgt := 36) hx hb dX2_shutGuarded_5 (by decide) (fun c_5 => ?_) (fun c9 => absurd (by decide) c9)
      exact z_vret (pc := 36) hx hb hr hlk hQ hz dX2_shutGuarded_36 rfl (by rfl)
    | succ cnt ih =>
      intro k hk9 H locs ls hz hl
      have hk : k < 8 := by omega
      refine lv_iload_n (pc := 2) hx hb dX2_shutGuarded_2 rfl (lv_at hl 0 rfl) ?_
      refine lv_bipush (v := 8) (pc := 3) hx hb dX2_shutGuarded_3 (by decide) ?_
      refine lv_icmp_ge (pc := 5) (tgt := 36) hx hb dX2_shutGuarded_5 (by decide) (fun c9 => absurd c9 (nI_ge hk (by decide))) (fun c_5 => ?_)
      refine lv_aload_n (pc := 8) hx hb dX2_shutGuarded_8 rfl (lv_at hl 1 rfl) ?_
      refine z_get (own := RX2) (ref := "CupFountain$State") (C := RX2) (T := TX2) (N := 9) (ci := 2) (v := .ref (a 1)) (pc := 9) hx hb hts hinX2 hown hz 0 rfl rfl 0 (by decide) L11 rfl rfl dX2_shutGuarded_9 ?_
      refine lv_iload_n (pc := 12) hx hb dX2_shutGuarded_12 rfl (lv_at hl 0 rfl) ?_
      refine z_aald (pc := 13) hx hb hz 1 3 rfl rfl k rfl hk (by decide) rfl dX2_shutGuarded_13 ?_
      refine z_get (own := RX2) (ref := "CupFountain$Cup") (C := RX0) (T := TX0) (N := 13) (ci := 0) (v := .int ((shn c k) k 6)) (pc := 14) hx hb hts hinX0 hown hz (2 + k) (wS_at (by assumption)) rfl 6 (by decide) L73 rfl rfl dX2_shutGuarded_14 ?_
      have J2 : ∀ (H : Heap) (locs : List Loc) (ls : Array Slot), zw G ca A s0.heap s0 (wS ca a h (shn c (k + 1)) z) H locs → lv_has ls 2 [(1, .int (nI k)), (0, .ref (a 0))] → W pg l ev rm_X2_shutGuarded s0 mt args below meth cd H locs 0 0 Q (F0 mt 30 ls []) := by
        intro H locs ls hz hl
        refine lv_iinc (v := nI (k + 1)) (lv' := [(1, .int (nI (k + 1))), (0, .ref (a 0))]) (pc := 30) hx hb dX2_shutGuarded_30 hl (k := 0) rfl (nI_add k 1) (by decide) rfl (fun ls hl => ?_)
        refine lv_goto (tgt := 2) (pc := 33) hx hb dX2_shutGuarded_33 (by decide) ?_
        exact ih (k + 1) (by omega) _ _ _ hz (lv_sub hl [0, 1] rfl)
      refine lv_if_eq (pc := 17) (tgt := 30) hx hb dX2_shutGuarded_17 (by decide) (fun c_17 => ?_) (fun c_17 => ?_)
      · exact J2 _ _ _ (hz.as (by simp only [shn, if_pos c_17])) (lv_sub hl [0, 1] rfl)
      · refine lv_aload_n (pc := 20) hx hb dX2_shutGuarded_20 rfl (lv_at hl 1 rfl) ?_
        refine z_get (own := RX2) (ref := "CupFountain$State") (C := RX2) (T := TX2) (N := 9) (ci := 2) (v := .ref (a 1)) (pc := 21) hx hb hts hinX2 hown hz 0 rfl rfl 0 (by decide) L11 rfl rfl dX2_shutGuarded_21 ?_
        refine lv_iload_n (pc := 24) hx hb dX2_shutGuarded_24 rfl (lv_at hl 0 rfl) ?_
        refine z_aald (pc := 25) hx hb hz 1 3 rfl rfl k rfl hk (by decide) rfl dX2_shutGuarded_25 ?_
        refine lv_iconst (v := 0) (pc := 26) hx hb dX2_shutGuarded_26 (by decide) ?_
        refine z_put (own := RX2) (ref := "CupFountain$Cup") (C := RX0) (T := TX0) (N := 13) (ci := 0) (v := .int 0) (ws1 := wS ca a h (u2 (shn c k) k 5 0) z) (pc := 27) hx hb hts hinX0 tyX0 tyX0_ok nmX0 hown hz (2 + k) (wS_at (by assumption)) rfl 5 (by decide) L77 rfl rfl rfl rfl (Nat.le_of_ble_eq_true rfl) (wS_set (by assumption) (by decide)) dX2_shutGuarded_27 (fun H locs hz => ?_)
        exact J2 _ _ _ (hz.as (by simp only [shn, if_neg c_17])) (lv_sub hl [0, 1] rfl)
  exact loop1 8 0 (by omega) _ _ _ (hz.as (by rfl)) (lv_sub hl [0, 1] rfl)

def rm_X2_springs : Room := { frames := 1, cells := 0, slots := 0, locals := 21 }
set_option maxRecDepth 20000 in
theorem hdV_X2_springs : yX2_springs.cls = RX2 ∧ yX2_springs.cls ≠ "java/lang/invoke/MethodHandle" ∧ yX2_springs.cls ≠ "java/lang/invoke/VarHandle" ∧ (parseMethodDescriptor yX2_springs.desc).map (fun d => d.parameters.length) = some 0 := by decide +kernel
set_option maxHeartbeats 4000000 in
set_option maxRecDepth 100000 in
theorem k_X2_springs (l : Launch) (G : va_G) (ca : Nat → ClassId) (a : Nat → Nat) (h : Nat → Int32) (c : Nat → Nat → Int32) (z : Nat → Int32) : Zc l G ca yX2_springs (zws yX2_springs cX2_springs 2 none) rm_X2_springs [.ref (a 0)] (wS ca a h c z) none (wS ca a (kspH h) (kspC h c) z) := by
  refine Zc.of (cc := cX2_springs) (maxL := 2) (ret := none) (by decide) rfl (Nat.le_of_ble_eq_true rfl) ?_
  intro pg ev s0 mt below meth cd A args Q ls hx hb hr hml hown hts hlk hQ hl hz
  have L11 : (Cond.fieldLink RX2 11 "CupFountain$State" "cups" "[LCupFountain$Cup;").before args s0 = true := hts _ (zsub _ wq_3_6)
  have L21 : (Cond.fieldLink RX2 21 "CupFountain$State" "spring" "I").before args s0 = true := hts _ (zsub _ wq_3_8)
  have L24 : (Cond.fieldLink RX2 24 "CupFountain$State" "comesBack" "I").before args s0 = true := hts _ (zsub _ wq_3_9)
  have L30 : (Cond.fieldLink RX2 30 "CupFountain$State" "basin" "I").before args s0 = true := hts _ (zsub _ wq_3_11)
  have L36 : (Cond.fieldLink RX2 36 "CupFountain$State" "sprung" "I").before args s0 = true := hts _ (zsub _ wq_4_1)
  have L87 : (Cond.fieldLink RX2 87 "CupFountain$Cup" "water" "I").before args s0 = true := hts _ (zsub _ wq_14_5)
  have hinX0 : ∀ w ∈ wsX00, w ∈ zws yX2_springs cX2_springs 2 none := fun w h => zsub w (wl_wsX00 w h)
  have hinX2 : ∀ w ∈ wsX20, w ∈ zws yX2_springs cX2_springs 2 none := fun w h => zsub w (wl_wsX20 w h)
  have hl : lv_has ls 2 [(0, .ref (a 0))] := hl
  refine lv_aload_n (pc := 0) hx hb dX2_springs_0 rfl (lv_at hl 0 rfl) ?_
  refine z_get (own := RX2) (ref := "CupFountain$State") (C := RX2) (T := TX2) (N := 9) (ci := 2) (v := .int (h 1)) (pc := 1) hx hb hts hinX2 hown hz 0 rfl rfl 5 (by decide) L30 rfl rfl dX2_springs_1 ?_
  refine lv_aload_n (pc := 4) hx hb dX2_springs_4 rfl (lv_at hl 0 rfl) ?_
  refine z_get (own := RX2) (ref := "CupFountain$State") (C := RX2) (T := TX2) (N := 9) (ci := 2) (v := .int (h 6)) (pc := 5) hx hb hts hinX2 hown hz 0 rfl rfl 3 (by decide) L24 rfl rfl dX2_springs_5 ?_
  refine va_mmin (own := RX2) (pc := 8) hx hb (by rw [hml]; exact hl.1.symm) hown (hts _ (zsub _ wq_14_1)) (hts _ (zsub _ wq_14_2)) (hts _ (zsub _ wq_14_3)) (hts _ (zsub _ wq_14_4)) (Nat.le_of_ble_eq_true rfl) (Nat.le_of_ble_eq_true rfl) (Nat.zero_le _) (Nat.zero_le _) dX2_springs_8 ?_
  refine z_top (y := bkF h) rfl ?_
  refine lv_istore_n (lv' := [(1, .int (bkF h)), (0, .ref (a 0))]) (pc := 11) hx hb dX2_springs_11 rfl hl (by decide) rfl (fun ls hl => ?_)
  refine lv_aload_n (pc := 12) hx hb dX2_springs_12 rfl (lv_at hl 1 rfl) ?_
  refine lv_dup (pc := 13) hx hb dX2_springs_13 rfl ?_
  refine z_get (own := RX2) (ref := "CupFountain$State") (C := RX2) (T := TX2) (N := 9) (ci := 2) (v := .int (h 1)) (pc := 14) hx hb hts hinX2 hown hz 0 rfl rfl 5 (by decide) L30 rfl rfl dX2_springs_14 ?_
  refine lv_iload_n (pc := 17) hx hb dX2_springs_17 rfl (lv_at hl 0 rfl) ?_
  refine lv_isub (pc := 18) hx hb dX2_springs_18 ?_
  refine z_put (own := RX2) (ref := "CupFountain$State") (C := RX2) (T := TX2) (N := 9) (ci := 2) (v := .int ((h 1) - (bkF h))) (ws1 := wS ca a (upd h 1 ((h 1) - (bkF h))) c z) (pc := 19) hx hb hts hinX2 tyX2 tyX2_ok nmX2 hown hz 0 rfl rfl 5 (by decide) L30 rfl rfl rfl rfl (Nat.le_of_ble_eq_true rfl) rfl dX2_springs_19 (fun H locs hz => ?_)
  refine lv_aload_n (pc := 22) hx hb dX2_springs_22 rfl (lv_at hl 1 rfl) ?_
  refine lv_dup (pc := 23) hx hb dX2_springs_23 rfl ?_
  refine z_get (own := RX2) (ref := "CupFountain$State") (C := RX2) (T := TX2) (N := 9) (ci := 2) (v := .int (h 3)) (pc := 24) hx hb hts hinX2 hown hz 0 rfl rfl 7 (by decide) L36 rfl rfl dX2_springs_24 ?_
  refine lv_aload_n (pc := 27) hx hb dX2_springs_27 rfl (lv_at hl 1 rfl) ?_
  refine z_get (own := RX2) (ref := "CupFountain$State") (C := RX2) (T := TX2) (N := 9) (ci := 2) (v := .int (h 5)) (pc := 28) hx hb hts hinX2 hown hz 0 rfl rfl 2 (by decide) L21 rfl rfl dX2_springs_28 ?_
  refine lv_iadd (pc := 31) hx hb dX2_springs_31 ?_
  refine z_put (own := RX2) (ref := "CupFountain$State") (C := RX2) (T := TX2) (N := 9) (ci := 2) (v := .int ((h 3) + (h 5))) (ws1 := wS ca a (upd (upd h 1 ((h 1) - (bkF h))) 3 ((h 3) + (h 5))) c z) (pc := 32) hx hb hts hinX2 tyX2 tyX2_ok nmX2 hown hz 0 rfl rfl 7 (by decide) L36 rfl rfl rfl rfl (Nat.le_of_ble_eq_true rfl) rfl dX2_springs_32 (fun H locs hz => ?_)
  refine lv_aload_n (pc := 35) hx hb dX2_springs_35 rfl (lv_at hl 1 rfl) ?_
  refine z_get (own := RX2) (ref := "CupFountain$State") (C := RX2) (T := TX2) (N := 9) (ci := 2) (v := .ref (a 1)) (pc := 36) hx hb hts hinX2 hown hz 0 rfl rfl 0 (by decide) L11 rfl rfl dX2_springs_36 ?_
  refine lv_iconst (v := 0) (pc := 39) hx hb dX2_springs_39 (by decide) ?_
  refine z_aald (pc := 40) hx hb hz 1 3 rfl rfl 0 rfl (by decide) (by decide) rfl dX2_springs_40 ?_
  refine lv_dup (pc := 41) hx hb dX2_springs_41 rfl ?_
  refine z_get (own := RX2) (ref := "CupFountain$Cup") (C := RX0) (T := TX0) (N := 13) (ci := 0) (v := .int (c 0 3)) (pc := 42) hx hb hts hinX0 hown hz (2 + 0) (wS_at (by decide)) rfl 3 (by decide) L87 rfl rfl dX2_springs_42 ?_
  refine lv_aload_n (pc := 45) hx hb dX2_springs_45 rfl (lv_at hl 1 rfl) ?_
  refine z_get (own := RX2) (ref := "CupFountain$State") (C := RX2) (T := TX2) (N := 9) (ci := 2) (v := .int (h 5)) (pc := 46) hx hb hts hinX2 hown hz 0 rfl rfl 2 (by decide) L21 rfl rfl dX2_springs_46 ?_
  refine lv_iload_n (pc := 49) hx hb dX2_springs_49 rfl (lv_at hl 0 rfl) ?_
  refine lv_iadd (pc := 50) hx hb dX2_springs_50 ?_
  refine lv_iadd (pc := 51) hx hb dX2_springs_51 ?_
  refine z_put (own := RX2) (ref := "CupFountain$Cup") (C := RX0) (T := TX0) (N := 13) (ci := 0) (v := .int ((c 0 3) + ((h 5) + (bkF h)))) (ws1 := wS ca a (upd (upd h 1 ((h 1) - (bkF h))) 3 ((h 3) + (h 5))) (u2 c 0 3 ((c 0 3) + ((h 5) + (bkF h)))) z) (pc := 52) hx hb hts hinX0 tyX0 tyX0_ok nmX0 hown hz (2 + 0) (wS_at (by decide)) rfl 3 (by decide) L87 rfl rfl rfl rfl (Nat.le_of_ble_eq_true rfl) (wS_set (by decide) (by decide)) dX2_springs_52 (fun H locs hz => ?_)
  exact z_vret (pc := 55) hx hb hr hlk hQ hz dX2_springs_55 rfl (by rfl)

def rm_X2_tipOrKeep : Room := { frames := 1, cells := 0, slots := 0, locals := 23 }
set_option maxRecDepth 20000 in
theorem hdV_X2_tipOrKeep : yX2_tipOrKeep.cls = RX2 ∧ yX2_tipOrKeep.cls ≠ "java/lang/invoke/MethodHandle" ∧ yX2_tipOrKeep.cls ≠ "java/lang/invoke/VarHandle" ∧ (parseMethodDescriptor yX2_tipOrKeep.desc).map (fun d => d.parameters.length) = some 2 := by decide +kernel
set_option maxHeartbeats 4000000 in
set_option maxRecDepth 100000 in
theorem k_X2_tipOrKeep (l : Launch) (G : va_G) (ca : Nat → ClassId) (a : Nat → Nat) (h : Nat → Int32) (c : Nat → Nat → Int32) (z : Nat → Int32) (k : Nat) (hour : Int32) (hk : k < 8) (ht1 : c k 2 = nI (nn (c k 2))) (ht2 : nn (c k 2) ≤ 8) : Zc l G ca yX2_tipOrKeep (zws yX2_tipOrKeep cX2_tipOrKeep 5 (some .int)) rm_X2_tipOrKeep [.ref (a 0), .ref (a (2 + k)), .int hour] (wS ca a h c z) (some (.int (ksT c k))) (wS ca a (ksH h c k) (ksC c k hour) (upd z k (rqR (c k)))) := by
  refine Zc.of (cc := cX2_tipOrKeep) (maxL := 5) (ret := (some .int)) (by decide) rfl (Nat.le_of_ble_eq_true rfl) ?_
  intro pg ev s0 mt below meth cd A args Q ls hx hb hr hml hown hts hlk hQ hl hz
  have L126 : (Cond.fieldLink RX2 126 "CupFountain$Cup" "ready" "I").before args s0 = true := hts _ (zsub _ wq_14_10)
  have L129 : (Cond.fieldLink RX2 129 "CupFountain$Cup" "jet" "I").before args s0 = true := hts _ (zsub _ wq_15_0)
  have L30 : (Cond.fieldLink RX2 30 "CupFountain$State" "basin" "I").before args s0 = true := hts _ (zsub _ wq_3_11)
  have L61 : (Cond.fieldLink RX2 61 "CupFountain$Cup" "size" "I").before args s0 = true := hts _ (zsub _ wq_14_11)
  have L67 : (Cond.fieldLink RX2 67 "CupFountain$Cup" "next" "I").before args s0 = true := hts _ (zsub _ wq_15_1)
  have L77 : (Cond.fieldLink RX2 77 "CupFountain$Cup" "open" "Z").before args s0 = true := hts _ (zsub _ wq_13_8)
  have L87 : (Cond.fieldLink RX2 87 "CupFountain$Cup" "water" "I").before args s0 = true := hts _ (zsub _ wq_14_5)
  have hinX0 : ∀ w ∈ wsX00, w ∈ zws yX2_tipOrKeep cX2_tipOrKeep 5 (some .int) := fun w h => zsub w (wl_wsX00 w h)
  have hinX2 : ∀ w ∈ wsX20, w ∈ zws yX2_tipOrKeep cX2_tipOrKeep 5 (some .int) := fun w h => zsub w (wl_wsX20 w h)
  have hl : lv_has ls 5 [(0, .ref (a 0)), (1, .ref (a (2 + k))), (2, .int hour)] := hl
  refine lv_aload_n (pc := 0) hx hb dX2_tipOrKeep_0 rfl (lv_at hl 1 rfl) ?_
  refine lv_aload_n (pc := 1) hx hb dX2_tipOrKeep_1 rfl (lv_at hl 1 rfl) ?_
  refine z_get (own := RX2) (ref := "CupFountain$Cup") (C := RX0) (T := TX0) (N := 13) (ci := 0) (v := .int (c k 5)) (pc := 2) hx hb hts hinX0 hown hz (2 + k) (wS_at (by assumption)) rfl 5 (by decide) L77 rfl rfl dX2_tipOrKeep_2 ?_
  have J1 : ∀ (H : Heap) (locs : List Loc) (ls : Array Slot), zw G ca A s0.heap s0 (wS ca a h c z) H locs → lv_has ls 5 [(0, .ref (a 0)), (1, .ref (a (2 + k))), (2, .int hour)] → W pg l ev rm_X2_tipOrKeep s0 mt args below meth cd H locs 0 0 Q (F0 mt 16 ls [.int (rqR (c k)), .ref (a (2 + k))]) := by
    intro H locs ls hz hl
    refine z_put (own := RX2) (ref := "CupFountain$Cup") (C := RX0) (T := TX0) (N := 13) (ci := 0) (v := .int (rqR (c k))) (ws1 := wS ca a h c (upd z k (rqR (c k)))) (pc := 16) hx hb hts hinX0 tyX0 tyX0_ok nmX0 hown hz (2 + k) (wS_at (by assumption)) rfl 12 (by decide) L126 rfl rfl rfl rfl (Nat.le_of_ble_eq_true rfl) (wS_setz (by assumption)) dX2_tipOrKeep_16 (fun H locs hz => ?_)
    refine lv_aload_n (pc := 19) hx hb dX2_tipOrKeep_19 rfl (lv_at hl 1 rfl) ?_
    refine z_get (own := RX2) (ref := "CupFountain$Cup") (C := RX0) (T := TX0) (N := 13) (ci := 0) (v := .int ((upd z k (rqR (c k))) k)) (pc := 20) hx hb hts hinX0 hown hz (2 + k) (wS_at (by assumption)) rfl 12 (by decide) L126 rfl rfl dX2_tipOrKeep_20 ?_
    refine z_top (y := rqR (c k)) pk_us ?_
    refine lv_aload_n (pc := 23) hx hb dX2_tipOrKeep_23 rfl (lv_at hl 1 rfl) ?_
    refine z_get (own := RX2) (ref := "CupFountain$Cup") (C := RX0) (T := TX0) (N := 13) (ci := 0) (v := .int (c k 0)) (pc := 24) hx hb hts hinX0 hown hz (2 + k) (wS_at (by assumption)) rfl 0 (by decide) L61 rfl rfl dX2_tipOrKeep_24 ?_
    refine lv_icmp_ge (pc := 27) (tgt := 50) hx hb dX2_tipOrKeep_27 (by decide) (fun c_27 => ?_) (fun c_27 => ?_)
    · refine lv_aload_n (pc := 50) hx hb dX2_tipOrKeep_50 rfl (lv_at hl 1 rfl) ?_
      refine lv_iload_n (pc := 51) hx hb dX2_tipOrKeep_51 rfl (lv_at hl 2 rfl) ?_
      refine z_runV (pc := 52) (As := [.int hour]) (rest := []) (ws1 := wS ca a h (va_up c k (tipR (c k) hour)) (upd z k (rqR (c k)))) ⟨hx, hb, hml, hown, hts⟩ (k_X0_tip l G ca (a (2 + k)) (c k) ((upd z k (rqR (c k))) k) hour) (cwV 1 hts (zgoodV zsub wq_15_6 wq_15_7 wq_15_8 wq_4_4 wq_15_9) rfl rfl rfl hdV_X0_tip ⟨Nat.le_of_ble_eq_true rfl, Nat.le_of_ble_eq_true rfl⟩) hz (wSr ca a h c (upd z k (rqR (c k))) k) (wS_pm (by assumption)) (wS_pm1 (by assumption)) rfl rfl rfl hl.1 (Nat.le_of_ble_eq_true rfl) (st1 := [.int ((c k) 3)]) rfl dX2_tipOrKeep_52 ⟨Nat.zero_le _, Nat.zero_le _⟩ (fun H locs hz => ?_)
      refine lv_istore_n (lv' := [(3, .int ((c k) 3)), (0, .ref (a 0)), (1, .ref (a (2 + k))), (2, .int hour)]) (pc := 55) hx hb dX2_tipOrKeep_55 rfl hl (by decide) rfl (fun ls hl => ?_)
      refine lv_aload_n (pc := 56) hx hb dX2_tipOrKeep_56 rfl (lv_at hl 1 rfl) ?_
      refine lv_aload_n (pc := 57) hx hb dX2_tipOrKeep_57 rfl (lv_at hl 2 rfl) ?_
      refine z_get (own := RX2) (ref := "CupFountain$Cup") (C := RX0) (T := TX0) (N := 13) (ci := 0) (v := .int ((va_up c k (tipR (c k) hour)) k 2)) (pc := 58) hx hb hts hinX0 hown hz (2 + k) (wS_at (by assumption)) rfl 2 (by decide) L67 rfl rfl dX2_tipOrKeep_58 ?_
      have e2 : (va_up c k (tipR (c k) hour)) k 2 = c k 2 := by rw [up_s]; exact tipR_w (by decide) (by decide) (by decide)
      by_cases ht8 : nn (c k 2) = 8
      · refine z_top (y := 8) (by rw [e2, ht1, ht8]; rfl) ?_
        refine z_runV (pc := 61) (As := [.int 8]) (rest := []) (ws1 := wS ca a h (va_up c k (tipR (c k) hour)) (upd z k (rqR (c k)))) ⟨hx, hb, hml, hown, hts⟩ (k_X2_find_8 l G ca a h (va_up c k (tipR (c k) hour)) (upd z k (rqR (c k)))) (cwV 1 hts (zgoodV zsub wq_15_10 wq_8_0 wq_8_1 wq_1_11 wq_8_2) rfl rfl rfl hdV_X2_find ⟨Nat.le_of_ble_eq_true rfl, Nat.le_of_ble_eq_true rfl⟩) hz [] zp_all zp_all' rfl rfl rfl hl.1 (Nat.le_of_ble_eq_true rfl) (st1 := [.null]) rfl dX2_tipOrKeep_61 ⟨Nat.zero_le _, Nat.zero_le _⟩ (fun H locs hz => ?_)
        refine lv_astoreN (lv' := [(4, .null), (3, .int ((c k) 3)), (0, .ref (a 0)), (1, .ref (a (2 + k))), (2, .int hour)]) (pc := 64) hx hb dX2_tipOrKeep_64 hl (by decide) rfl (fun ls hl => ?_)
        refine lv_aloadN (pc := 66) hx hb dX2_tipOrKeep_66 (lv_at hl 0 rfl) ?_
        refine lv_ifnonnullN (pc := 68) hx hb dX2_tipOrKeep_68 ?_
        refine lv_aload_n (pc := 71) hx hb dX2_tipOrKeep_71 rfl (lv_at hl 2 rfl) ?_
        refine lv_dup (pc := 72) hx hb dX2_tipOrKeep_72 rfl ?_
        refine z_get (own := RX2) (ref := "CupFountain$State") (C := RX2) (T := TX2) (N := 9) (ci := 2) (v := .int (h 1)) (pc := 73) hx hb hts hinX2 hown hz 0 rfl rfl 5 (by decide) L30 rfl rfl dX2_tipOrKeep_73 ?_
        refine lv_iload_n (pc := 76) hx hb dX2_tipOrKeep_76 rfl (lv_at hl 1 rfl) ?_
        refine lv_iadd (pc := 77) hx hb dX2_tipOrKeep_77 ?_
        refine z_put (own := RX2) (ref := "CupFountain$State") (C := RX2) (T := TX2) (N := 9) (ci := 2) (v := .int ((h 1) + ((c k) 3))) (ws1 := wS ca a (upd h 1 ((h 1) + ((c k) 3))) (va_up c k (tipR (c k) hour)) (upd z k (rqR (c k)))) (pc := 78) hx hb hts hinX2 tyX2 tyX2_ok nmX2 hown hz 0 rfl rfl 5 (by decide) L30 rfl rfl rfl rfl (Nat.le_of_ble_eq_true rfl) rfl dX2_tipOrKeep_78 (fun H locs hz => ?_)
        refine lv_goto (tgt := 95) (pc := 81) hx hb dX2_tipOrKeep_81 (by decide) ?_
        refine lv_iconst (v := 1) (pc := 95) hx hb dX2_tipOrKeep_95 (by decide) ?_
        exact z_iret (pc := 96) hx hb hr hlk hQ hz dX2_tipOrKeep_96 (by simp only [ksT, if_pos c_27, if_pos ht8]) (by simp only [ksH, ksC, ksT, pourH, pourC, if_neg i10, if_pos c_27, if_pos ht8])
      · have htk : nn (c k 2) < 8 := by omega
        refine z_top (y := nI (nn (c k 2))) (e2.trans ht1) ?_
        refine z_runV (pc := 61) (As := [.int (nI (nn (c k 2)))]) (rest := []) (ws1 := wS ca a h (va_up c k (tipR (c k) hour)) (upd z k (rqR (c k)))) ⟨hx, hb, hml, hown, hts⟩ (k_X2_find_r l G ca a h (va_up c k (tipR (c k) hour)) (upd z k (rqR (c k))) (nn (c k 2)) htk) (cwV 1 hts (zgoodV zsub wq_15_10 wq_8_0 wq_8_1 wq_1_11 wq_8_2) rfl rfl rfl hdV_X2_find ⟨Nat.le_of_ble_eq_true rfl, Nat.le_of_ble_eq_true rfl⟩) hz [] zp_all zp_all' rfl rfl rfl hl.1 (Nat.le_of_ble_eq_true rfl) (st1 := [.ref (a (2 + (nn (c k 2))))]) rfl dX2_tipOrKeep_61 ⟨Nat.zero_le _, Nat.zero_le _⟩ (fun H locs hz => ?_)
        refine lv_astore (lv' := [(4, .ref (a (2 + (nn (c k 2))))), (3, .int ((c k) 3)), (0, .ref (a 0)), (1, .ref (a (2 + k))), (2, .int hour)]) (pc := 64) hx hb dX2_tipOrKeep_64 hl (by decide) rfl (fun ls hl => ?_)
        refine lv_aload (pc := 66) hx hb dX2_tipOrKeep_66 (lv_at hl 0 rfl) ?_
        refine lv_ifnonnull (tgt := 84) (pc := 68) hx hb dX2_tipOrKeep_68 (by decide) ?_
        refine lv_aload (pc := 84) hx hb dX2_tipOrKeep_84 (lv_at hl 0 rfl) ?_
        refine lv_dup (pc := 86) hx hb dX2_tipOrKeep_86 rfl ?_
        refine z_get (own := RX2) (ref := "CupFountain$Cup") (C := RX0) (T := TX0) (N := 13) (ci := 0) (v := .int ((va_up c k (tipR (c k) hour)) (nn (c k 2)) 3)) (pc := 87) hx hb hts hinX0 hown hz (2 + (nn (c k 2))) (wS_at (by assumption)) rfl 3 (by decide) L87 rfl rfl dX2_tipOrKeep_87 ?_
        refine lv_iload_n (pc := 90) hx hb dX2_tipOrKeep_90 rfl (lv_at hl 1 rfl) ?_
        refine lv_iadd (pc := 91) hx hb dX2_tipOrKeep_91 ?_
        refine z_put (own := RX2) (ref := "CupFountain$Cup") (C := RX0) (T := TX0) (N := 13) (ci := 0) (v := .int (((va_up c k (tipR (c k) hour)) (nn (c k 2)) 3) + ((c k) 3))) (ws1 := wS ca a h (u2 (va_up c k (tipR (c k) hour)) (nn (c k 2)) 3 (((va_up c k (tipR (c k) hour)) (nn (c k 2)) 3) + ((c k) 3))) (upd z k (rqR (c k)))) (pc := 92) hx hb hts hinX0 tyX0 tyX0_ok nmX0 hown hz (2 + (nn (c k 2))) (wS_at (by assumption)) rfl 3 (by decide) L87 rfl rfl rfl rfl (Nat.le_of_ble_eq_true rfl) (wS_set (by assumption) (by decide)) dX2_tipOrKeep_92 (fun H locs hz => ?_)
        refine lv_iconst (v := 1) (pc := 95) hx hb dX2_tipOrKeep_95 (by decide) ?_
        exact z_iret (pc := 96) hx hb hr hlk hQ hz dX2_tipOrKeep_96 (by simp only [ksT, if_pos c_27, if_neg ht8]) (by simp only [ksH, ksC, ksT, pourH, pourC, if_neg i10, if_pos c_27, if_neg ht8])
    · refine lv_aload_n (pc := 30) hx hb dX2_tipOrKeep_30 rfl (lv_at hl 1 rfl) ?_
      refine lv_iconst (v := 0) (pc := 31) hx hb dX2_tipOrKeep_31 (by decide) ?_
      refine z_put (own := RX2) (ref := "CupFountain$Cup") (C := RX0) (T := TX0) (N := 13) (ci := 0) (v := .int 0) (ws1 := wS ca a h (u2 c k 7 0) (upd z k (rqR (c k)))) (pc := 32) hx hb hts hinX0 tyX0 tyX0_ok nmX0 hown hz (2 + k) (wS_at (by assumption)) rfl 7 (by decide) L129 rfl rfl rfl rfl (Nat.le_of_ble_eq_true rfl) (wS_set (by assumption) (by decide)) dX2_tipOrKeep_32 (fun H locs hz => ?_)
      refine lv_aload_n (pc := 35) hx hb dX2_tipOrKeep_35 rfl (lv_at hl 0 rfl) ?_
      refine lv_dup (pc := 36) hx hb dX2_tipOrKeep_36 rfl ?_
      refine z_get (own := RX2) (ref := "CupFountain$State") (C := RX2) (T := TX2) (N := 9) (ci := 2) (v := .int (h 1)) (pc := 37) hx hb hts hinX2 hown hz 0 rfl rfl 5 (by decide) L30 rfl rfl dX2_tipOrKeep_37 ?_
      refine lv_aload_n (pc := 40) hx hb dX2_tipOrKeep_40 rfl (lv_at hl 1 rfl) ?_
      refine z_runV (pc := 41) (As := []) (rest := [.int (h 1), .ref (a 0)]) (ws1 := wS ca a h (va_up (u2 c k 7 0) k (upd ((u2 c k 7 0) k) 3 (((u2 c k 7 0) k) 3 - overR ((u2 c k 7 0) k)))) (upd z k (rqR (c k)))) ⟨hx, hb, hml, hown, hts⟩ (k_X0_runOver l G ca (a (2 + k)) ((u2 c k 7 0) k) ((upd z k (rqR (c k))) k)) (cwV 0 hts (zgoodV zsub wq_15_2 wq_15_3 wq_15_4 wq_4_4 wq_15_5) rfl rfl rfl hdV_X0_runOver ⟨Nat.le_of_ble_eq_true rfl, Nat.le_of_ble_eq_true rfl⟩) hz (wSr ca a h (u2 c k 7 0) (upd z k (rqR (c k))) k) (wS_pm (by assumption)) (wS_pm1 (by assumption)) rfl rfl rfl hl.1 (Nat.le_of_ble_eq_true rfl) (st1 := [.int (overR ((u2 c k 7 0) k)), .int (h 1), .ref (a 0)]) rfl dX2_tipOrKeep_41 ⟨Nat.zero_le _, Nat.zero_le _⟩ (fun H locs hz => ?_)
      refine lv_iadd (pc := 44) hx hb dX2_tipOrKeep_44 ?_
      refine z_put (own := RX2) (ref := "CupFountain$State") (C := RX2) (T := TX2) (N := 9) (ci := 2) (v := .int ((h 1) + (overR ((u2 c k 7 0) k)))) (ws1 := wS ca a (upd h 1 ((h 1) + (overR ((u2 c k 7 0) k)))) (va_up (u2 c k 7 0) k (upd ((u2 c k 7 0) k) 3 (((u2 c k 7 0) k) 3 - overR ((u2 c k 7 0) k)))) (upd z k (rqR (c k)))) (pc := 45) hx hb hts hinX2 tyX2 tyX2_ok nmX2 hown hz 0 rfl rfl 5 (by decide) L30 rfl rfl rfl rfl (Nat.le_of_ble_eq_true rfl) rfl dX2_tipOrKeep_45 (fun H locs hz => ?_)
      refine lv_iconst (v := 0) (pc := 48) hx hb dX2_tipOrKeep_48 (by decide) ?_
      exact z_iret (pc := 49) hx hb hr hlk hQ hz dX2_tipOrKeep_49 (by simp only [ksT, if_neg c_27]) (by simp only [ksH, ksC, ksT, if_true, if_neg c_27]; rw [up_u2, show overR (u2 c k 7 0 k) = overR (c k) from by simp only [overR, u2_nw (show (3 : Nat) ≠ 7 by decide)], u2_nw (show (3 : Nat) ≠ 7 by decide)])
  refine lv_if_eq (pc := 5) (tgt := 15) hx hb dX2_tipOrKeep_5 (by decide) (fun c_5 => ?_) (fun c_5 => ?_)
  · refine lv_iconst (v := 0) (pc := 15) hx hb dX2_tipOrKeep_15 (by decide) ?_
    exact z_top (by simp only [rqR, if_pos c_5]) (J1 _ _ _ hz (lv_sub hl [0, 1, 2] rfl))
  · refine lv_aload_n (pc := 8) hx hb dX2_tipOrKeep_8 rfl (lv_at hl 1 rfl) ?_
    refine z_get (own := RX2) (ref := "CupFountain$Cup") (C := RX0) (T := TX0) (N := 13) (ci := 0) (v := .int (c k 3)) (pc := 9) hx hb hts hinX0 hown hz (2 + k) (wS_at (by assumption)) rfl 3 (by decide) L87 rfl rfl dX2_tipOrKeep_9 ?_
    refine lv_goto (tgt := 16) (pc := 12) hx hb dX2_tipOrKeep_12 (by decide) ?_
    exact z_top (by simp only [rqR, if_neg c_5]) (J1 _ _ _ hz (lv_sub hl [0, 1, 2] rfl))
