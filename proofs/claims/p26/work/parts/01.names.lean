-- ===== PART A: goes FIRST, ahead of the names: the tables' words, and 'selects' of the private methods out of them =====
/-- a private method of a class that the tables say can be made, by its rows of tables_1 -/
def lw_okq (q : MethodName × Nat) : Prop := (q.1.cls ≠ "java/lang/invoke/MethodHandle" ∧ q.1.cls ≠ "java/lang/invoke/VarHandle") ∧ Cond.instantiable q.1.cls q.2 ∈ tables_1 ∧ Cond.privateMethod q.1 ∈ tables_1 ∧ Cond.instanceMethod q.1 ∈ tables_1
theorem lw_p0 : lw_okq (⟨"CupFountain$State", "openGuarded", "(I)V"⟩, 9) := ⟨⟨by decide +kernel, by decide +kernel⟩, List.mem_of_getElem? (i := 15) (by decide +kernel), List.mem_of_getElem? (i := 201) (by decide +kernel), List.mem_of_getElem? (i := 202) (by decide +kernel)⟩
theorem lw_p1 : lw_okq (⟨"CupFountain$State", "springs", "()V"⟩, 9) := ⟨⟨by decide +kernel, by decide +kernel⟩, List.mem_of_getElem? (i := 15) (by decide +kernel), List.mem_of_getElem? (i := 205) (by decide +kernel), List.mem_of_getElem? (i := 206) (by decide +kernel)⟩
theorem lw_p2 : lw_okq (⟨"CupFountain$State", "tipOrKeep", "(LCupFountain$Cup;I)I"⟩, 9) := ⟨⟨by decide +kernel, by decide +kernel⟩, List.mem_of_getElem? (i := 15) (by decide +kernel), List.mem_of_getElem? (i := 212) (by decide +kernel), List.mem_of_getElem? (i := 213) (by decide +kernel)⟩
theorem lw_p3 : lw_okq (⟨"CupFountain$State", "shutGuarded", "()V"⟩, 9) := ⟨⟨by decide +kernel, by decide +kernel⟩, List.mem_of_getElem? (i := 15) (by decide +kernel), List.mem_of_getElem? (i := 233) (by decide +kernel), List.mem_of_getElem? (i := 234) (by decide +kernel)⟩
theorem lw_p4 : lw_okq (⟨"CupFountain$State", "sumFull", "()I"⟩, 9) := ⟨⟨by decide +kernel, by decide +kernel⟩, List.mem_of_getElem? (i := 15) (by decide +kernel), List.mem_of_getElem? (i := 281) (by decide +kernel), List.mem_of_getElem? (i := 282) (by decide +kernel)⟩
theorem lw_p5 : lw_okq (⟨"CupFountain$State", "tellSetting", "(I)I"⟩, 9) := ⟨⟨by decide +kernel, by decide +kernel⟩, List.mem_of_getElem? (i := 15) (by decide +kernel), List.mem_of_getElem? (i := 290) (by decide +kernel), List.mem_of_getElem? (i := 291) (by decide +kernel)⟩
theorem lw_p6 : lw_okq (⟨"CupFountain", "ticksTillTip", "(I)I"⟩, 10) := ⟨⟨by decide +kernel, by decide +kernel⟩, List.mem_of_getElem? (i := 7) (by decide +kernel), List.mem_of_getElem? (i := 307) (by decide +kernel), List.mem_of_getElem? (i := 308) (by decide +kernel)⟩
theorem lw_p7 : lw_okq (⟨"CupFountain", "recorded", "(I)I"⟩, 10) := ⟨⟨by decide +kernel, by decide +kernel⟩, List.mem_of_getElem? (i := 7) (by decide +kernel), List.mem_of_getElem? (i := 324) (by decide +kernel), List.mem_of_getElem? (i := 325) (by decide +kernel)⟩
theorem lw_p8 : lw_okq (⟨"CupFountain", "dropOldest", "()V"⟩, 10) := ⟨⟨by decide +kernel, by decide +kernel⟩, List.mem_of_getElem? (i := 7) (by decide +kernel), List.mem_of_getElem? (i := 328) (by decide +kernel), List.mem_of_getElem? (i := 329) (by decide +kernel)⟩
theorem lw_p9 : lw_okq (⟨"CupFountain", "hourOfTip", "(I)I"⟩, 10) := ⟨⟨by decide +kernel, by decide +kernel⟩, List.mem_of_getElem? (i := 7) (by decide +kernel), List.mem_of_getElem? (i := 339) (by decide +kernel), List.mem_of_getElem? (i := 340) (by decide +kernel)⟩
def lw_privs_1 : List (MethodName × Nat) := [(⟨"CupFountain$State", "openGuarded", "(I)V"⟩, 9), (⟨"CupFountain$State", "springs", "()V"⟩, 9), (⟨"CupFountain$State", "tipOrKeep", "(LCupFountain$Cup;I)I"⟩, 9), (⟨"CupFountain$State", "shutGuarded", "()V"⟩, 9), (⟨"CupFountain$State", "sumFull", "()I"⟩, 9), (⟨"CupFountain$State", "tellSetting", "(I)I"⟩, 9), (⟨"CupFountain", "ticksTillTip", "(I)I"⟩, 10), (⟨"CupFountain", "recorded", "(I)I"⟩, 10), (⟨"CupFountain", "dropOldest", "()V"⟩, 10), (⟨"CupFountain", "hourOfTip", "(I)I"⟩, 10)]
theorem lw_r1 : ∀ q ∈ lw_privs_1, lw_okq q := List.forall_mem_cons.mpr ⟨lw_p0, List.forall_mem_cons.mpr ⟨lw_p1, List.forall_mem_cons.mpr ⟨lw_p2, List.forall_mem_cons.mpr ⟨lw_p3, List.forall_mem_cons.mpr ⟨lw_p4, List.forall_mem_cons.mpr ⟨lw_p5, List.forall_mem_cons.mpr ⟨lw_p6, List.forall_mem_cons.mpr ⟨lw_p7, List.forall_mem_cons.mpr ⟨lw_p8, List.forall_mem_cons.mpr ⟨lw_p9, fun _ h => absurd h List.not_mem_nil⟩⟩⟩⟩⟩⟩⟩⟩⟩⟩
def lw_privs : List (MethodName × Nat) := lw_privs_1
def lw_tbl : List Cond := k2_sels lw_privs ++ tables_1
theorem lw_privs_ok : ∀ q ∈ lw_privs, lw_okq q := lw_r1
-- ===== end of PART A =====
/-! ===== BEGIN words of one list among another's, by their places ===== -/
theorem goodIn_r {big : List Cond} (ws : List Cond) (ps : List Nat) (hp : ws = ps.filterMap (fun i => big[i]?)) (h : ws.all goodWord = true) : GoodIn big ws := by
  intro w hw
  have h1 := List.all_eq_true.mp h w hw
  rw [hp] at hw
  obtain ⟨i, -, hi⟩ := List.mem_filterMap.mp hw
  have hm : w ∈ big := by first | exact List.mem_of_getElem? hi | exact List.getElem?_mem hi
  exact ⟨hm, good_of_word h1⟩
theorem goodIn_app {big a b : List Cond} (ha : GoodIn big a) (hb : GoodIn big b) : GoodIn big (a ++ b) := fun w h => (List.mem_append.mp h).elim (ha w) (hb w)
theorem goodIn_ca {big a b : List Cond} {c : Cond} (ha : GoodIn big (c :: a)) (hb : GoodIn big b) : GoodIn big (c :: (a ++ b)) := fun w h => (List.mem_cons.mp h).elim (fun e => ha w (List.mem_cons.mpr (Or.inl e))) (fun h => (List.mem_append.mp h).elim (fun h => ha w (List.mem_cons.mpr (Or.inr h))) (hb w))
theorem goodIn_sub {big ws : List Cond} (hm : ∀ w ∈ ws, w ∈ big) (h : ws.all goodWord = true) : GoodIn big ws := fun w hw => ⟨hm w hw, good_of_word (List.all_eq_true.mp h w hw)⟩
/-! ===== END ===== -/

/-! ===== BEGIN printed: names, fields, word lists, decode rows ===== -/
def RX0 : String := "CupFountain$Cup"
def TX0 : u_T := fun k => match k with
  | 0 => ("CupFountain$Cup", "size", "I", false)
  | 1 => ("CupFountain$Cup", "leak", "I", false)
  | 2 => ("CupFountain$Cup", "next", "I", false)
  | 3 => ("CupFountain$Cup", "water", "I", false)
  | 4 => ("CupFountain$Cup", "hour", "I", false)
  | 5 => ("CupFountain$Cup", "open", "Z", false)
  | 6 => ("CupFountain$Cup", "guarded", "Z", false)
  | 7 => ("CupFountain$Cup", "jet", "I", false)
  | 8 => ("CupFountain$Cup", "tips", "I", false)
  | 9 => ("CupFountain$Cup", "onTime", "I", false)
  | 10 => ("CupFountain$Cup", "early", "I", false)
  | 11 => ("CupFountain$Cup", "late", "I", false)
  | _ => ("CupFountain$Cup", "ready", "I", false)
def tyX0 : Nat → FieldType := fun k => match k with
  | 0 => .int
  | 1 => .int
  | 2 => .int
  | 3 => .int
  | 4 => .int
  | 5 => .boolean
  | 6 => .boolean
  | 7 => .int
  | 8 => .int
  | 9 => .int
  | 10 => .int
  | 11 => .int
  | _ => .int
abbrev wsX00 : List Cond := u_ws RX0 TX0 13
theorem nmX0 : ∀ a, a < 13 → ∀ b, b < 13 → a ≠ b → (TX0 a).2.1 ≠ (TX0 b).2.1 := by decide +kernel
theorem tyX0_ok : ∀ k, k < 13 → parseFieldDescriptor (TX0 k).2.2.1 = some (tyX0 k) := by decide +kernel
abbrev cX0_init : ByteArray := prog_2_method_1_code
def yX0_init : MethodName := ⟨RX0, "<init>", "(I)V"⟩
abbrev cX0_copyFrom : ByteArray := prog_2_method_2_code
def yX0_copyFrom : MethodName := ⟨RX0, "copyFrom", "(LCupFountain$Cup;)V"⟩
abbrev cX0_isFull : ByteArray := prog_2_method_3_code
def yX0_isFull : MethodName := ⟨RX0, "isFull", "()Z"⟩
abbrev cX0_tip : ByteArray := prog_2_method_4_code
def yX0_tip : MethodName := ⟨RX0, "tip", "(I)I"⟩
abbrev cX0_runOver : ByteArray := prog_2_method_5_code
def yX0_runOver : MethodName := ⟨RX0, "runOver", "()I"⟩
abbrev cX0_drip : ByteArray := prog_2_method_6_code
def yX0_drip : MethodName := ⟨RX0, "drip", "()I"⟩
abbrev cX0_tell : ByteArray := prog_2_method_7_code
def yX0_tell : MethodName := ⟨RX0, "tell", "(I)I"⟩
def RX1 : String := "CupFountain$Plan"
def TX1 : u_T := fun k => match k with
  | 0 => ("CupFountain$Plan", "text", "[C", true)
  | 1 => ("CupFountain$Plan", "length", "I", false)
  | 2 => ("CupFountain$Plan", "kinds", "[I", true)
  | 3 => ("CupFountain$Plan", "whose", "[I", true)
  | 4 => ("CupFountain$Plan", "numbers", "[I", true)
  | 5 => ("CupFountain$Plan", "things", "I", false)
  | _ => ("CupFountain$Plan", "place", "I", false)
def tyX1 : Nat → FieldType := fun k => match k with
  | 0 => .array .char
  | 1 => .int
  | 2 => .array .int
  | 3 => .array .int
  | 4 => .array .int
  | 5 => .int
  | _ => .int
abbrev wsX10 : List Cond := u_ws RX1 TX1 7
theorem nmX1 : ∀ a, a < 7 → ∀ b, b < 7 → a ≠ b → (TX1 a).2.1 ≠ (TX1 b).2.1 := by decide +kernel
theorem tyX1_ok : ∀ k, k < 7 → parseFieldDescriptor (TX1 k).2.2.1 = some (tyX1 k) := by decide +kernel
abbrev cX1_init : ByteArray := prog_3_method_1_code
def yX1_init : MethodName := ⟨RX1, "<init>", "()V"⟩
def RX2 : String := "CupFountain$State"
def TX2 : u_T := fun k => match k with
  | 0 => ("CupFountain$State", "cups", "[LCupFountain$Cup;", true)
  | 1 => ("CupFountain$State", "tick", "I", false)
  | 2 => ("CupFountain$State", "spring", "I", false)
  | 3 => ("CupFountain$State", "comesBack", "I", false)
  | 4 => ("CupFountain$State", "day", "I", false)
  | 5 => ("CupFountain$State", "basin", "I", false)
  | 6 => ("CupFountain$State", "lost", "I", false)
  | 7 => ("CupFountain$State", "sprung", "I", false)
  | _ => ("CupFountain$State", "filled", "I", false)
def tyX2 : Nat → FieldType := fun k => match k with
  | 0 => .array (.object "CupFountain$Cup")
  | 1 => .int
  | 2 => .int
  | 3 => .int
  | 4 => .int
  | 5 => .int
  | 6 => .int
  | 7 => .int
  | _ => .int
abbrev wsX20 : List Cond := u_ws RX2 TX2 9
theorem nmX2 : ∀ a, a < 9 → ∀ b, b < 9 → a ≠ b → (TX2 a).2.1 ≠ (TX2 b).2.1 := by decide +kernel
theorem tyX2_ok : ∀ k, k < 9 → parseFieldDescriptor (TX2 k).2.2.1 = some (tyX2 k) := by decide +kernel
abbrev cX2_init : ByteArray := prog_4_method_1_code
def yX2_init : MethodName := ⟨RX2, "<init>", "()V"⟩
abbrev cX2_copyFrom : ByteArray := prog_4_method_2_code
def yX2_copyFrom : MethodName := ⟨RX2, "copyFrom", "(LCupFountain$State;)V"⟩
abbrev cX2_find : ByteArray := prog_4_method_3_code
def yX2_find : MethodName := ⟨RX2, "find", "(I)LCupFountain$Cup;"⟩
abbrev cX2_hourOf : ByteArray := prog_4_method_4_code
def yX2_hourOf : MethodName := ⟨RX2, "hourOf", "(I)I"⟩
abbrev cX2_changeCup : ByteArray := prog_4_method_5_code
def yX2_changeCup : MethodName := ⟨RX2, "changeCup", "(III)I"⟩
abbrev cX2_isCupValue : ByteArray := prog_4_method_6_code
def yX2_isCupValue : MethodName := ⟨RX2, "isCupValue", "(III)Z"⟩
abbrev cX2_changeLock : ByteArray := prog_4_method_7_code
def yX2_changeLock : MethodName := ⟨RX2, "changeLock", "(I)I"⟩
abbrev cX2_changeHour : ByteArray := prog_4_method_8_code
def yX2_changeHour : MethodName := ⟨RX2, "changeHour", "(II)I"⟩
abbrev cX2_changeGuard : ByteArray := prog_4_method_9_code
def yX2_changeGuard : MethodName := ⟨RX2, "changeGuard", "(I)I"⟩
abbrev cX2_pour : ByteArray := prog_4_method_10_code
def yX2_pour : MethodName := ⟨RX2, "pour", "(II)I"⟩
abbrev cX2_changeSetting : ByteArray := prog_4_method_11_code
def yX2_changeSetting : MethodName := ⟨RX2, "changeSetting", "(II)I"⟩
abbrev cX2_tellSetting : ByteArray := prog_4_method_12_code
def yX2_tellSetting : MethodName := ⟨RX2, "tellSetting", "(I)I"⟩
abbrev cX2_letPass : ByteArray := prog_4_method_13_code
def yX2_letPass : MethodName := ⟨RX2, "letPass", "(I)I"⟩
abbrev cX2_tickOn : ByteArray := prog_4_method_14_code
def yX2_tickOn : MethodName := ⟨RX2, "tickOn", "(I)I"⟩
abbrev cX2_tickOnce : ByteArray := prog_4_method_15_code
def yX2_tickOnce : MethodName := ⟨RX2, "tickOnce", "()I"⟩
abbrev cX2_openGuarded : ByteArray := prog_4_method_16_code
def yX2_openGuarded : MethodName := ⟨RX2, "openGuarded", "(I)V"⟩
abbrev cX2_shutGuarded : ByteArray := prog_4_method_17_code
def yX2_shutGuarded : MethodName := ⟨RX2, "shutGuarded", "()V"⟩
abbrev cX2_springs : ByteArray := prog_4_method_18_code
def yX2_springs : MethodName := ⟨RX2, "springs", "()V"⟩
abbrev cX2_tipOrKeep : ByteArray := prog_4_method_19_code
def yX2_tipOrKeep : MethodName := ⟨RX2, "tipOrKeep", "(LCupFountain$Cup;I)I"⟩
abbrev cX2_tell : ByteArray := prog_4_method_20_code
def yX2_tell : MethodName := ⟨RX2, "tell", "(I)I"⟩
abbrev cX2_sumOf : ByteArray := prog_4_method_21_code
def yX2_sumOf : MethodName := ⟨RX2, "sumOf", "(I)I"⟩
abbrev cX2_sumFull : ByteArray := prog_4_method_22_code
def yX2_sumFull : MethodName := ⟨RX2, "sumFull", "()I"⟩
def RX3 : String := "CupFountain"
def TX3 : u_T := fun k => match k with
  | 0 => ("CupFountain", "now", "LCupFountain$State;", true)
  | 1 => ("CupFountain", "ahead", "LCupFountain$State;", true)
  | 2 => ("CupFountain", "before", "LCupFountain$State;", true)
  | 3 => ("CupFountain", "snapshot", "LCupFountain$State;", true)
  | 4 => ("CupFountain", "past", "[LCupFountain$State;", true)
  | 5 => ("CupFountain", "plan", "LCupFountain$Plan;", true)
  | 6 => ("CupFountain", "pastCount", "I", false)
  | 7 => ("CupFountain", "hasSnapshot", "Z", false)
  | 8 => ("CupFountain", "stopNumber", "I", false)
  | _ => ("CupFountain", "stopError", "I", false)
def tyX3 : Nat → FieldType := fun k => match k with
  | 0 => .object "CupFountain$State"
  | 1 => .object "CupFountain$State"
  | 2 => .object "CupFountain$State"
  | 3 => .object "CupFountain$State"
  | 4 => .array (.object "CupFountain$State")
  | 5 => .object "CupFountain$Plan"
  | 6 => .int
  | 7 => .boolean
  | 8 => .int
  | _ => .int
abbrev wsX30 : List Cond := u_ws RX3 TX3 10
theorem nmX3 : ∀ a, a < 10 → ∀ b, b < 10 → a ≠ b → (TX3 a).2.1 ≠ (TX3 b).2.1 := by decide +kernel
theorem tyX3_ok : ∀ k, k < 10 → parseFieldDescriptor (TX3 k).2.2.1 = some (tyX3 k) := by decide +kernel
abbrev cX3_init : ByteArray := prog_1_method_1_code
def yX3_init : MethodName := ⟨RX3, "<init>", "()V"⟩
abbrev cX3_setCup : ByteArray := prog_1_method_2_code
def yX3_setCup : MethodName := ⟨RX3, "setCup", "(III)I"⟩
abbrev cX3_turnLock : ByteArray := prog_1_method_3_code
def yX3_turnLock : MethodName := ⟨RX3, "turnLock", "(I)I"⟩
abbrev cX3_setHour : ByteArray := prog_1_method_4_code
def yX3_setHour : MethodName := ⟨RX3, "setHour", "(II)I"⟩
abbrev cX3_guard : ByteArray := prog_1_method_5_code
def yX3_guard : MethodName := ⟨RX3, "guard", "(I)I"⟩
abbrev cX3_fill : ByteArray := prog_1_method_6_code
def yX3_fill : MethodName := ⟨RX3, "fill", "(II)I"⟩
abbrev cX3_set : ByteArray := prog_1_method_7_code
def yX3_set : MethodName := ⟨RX3, "set", "(II)I"⟩
abbrev cX3_pass : ByteArray := prog_1_method_8_code
def yX3_pass : MethodName := ⟨RX3, "pass", "(I)I"⟩
abbrev cX3_keep : ByteArray := prog_1_method_14_code
def yX3_keep : MethodName := ⟨RX3, "keep", "()I"⟩
abbrev cX3_restore : ByteArray := prog_1_method_15_code
def yX3_restore : MethodName := ⟨RX3, "restore", "()I"⟩
abbrev cX3_cup : ByteArray := prog_1_method_16_code
def yX3_cup : MethodName := ⟨RX3, "cup", "(II)I"⟩
abbrev cX3_reason : ByteArray := prog_1_method_17_code
def yX3_reason : MethodName := ⟨RX3, "reason", "(I)I"⟩
abbrev cX3_tipsIn : ByteArray := prog_1_method_18_code
def yX3_tipsIn : MethodName := ⟨RX3, "tipsIn", "(I)I"⟩
abbrev cX3_tipsAt : ByteArray := prog_1_method_19_code
def yX3_tipsAt : MethodName := ⟨RX3, "tipsAt", "(I)I"⟩
abbrev cX3_starving : ByteArray := prog_1_method_20_code
def yX3_starving : MethodName := ⟨RX3, "starving", "()I"⟩
abbrev cX3_bestSize : ByteArray := prog_1_method_21_code
def yX3_bestSize : MethodName := ⟨RX3, "bestSize", "(I)I"⟩
abbrev cX3_ifTicks : ByteArray := prog_1_method_22_code
def yX3_ifTicks : MethodName := ⟨RX3, "ifTicks", "(II)I"⟩
abbrev cX3_highest : ByteArray := prog_1_method_23_code
def yX3_highest : MethodName := ⟨RX3, "highest", "()I"⟩
abbrev cX3_count : ByteArray := prog_1_method_24_code
def yX3_count : MethodName := ⟨RX3, "count", "(I)I"⟩
abbrev cX3_recorded : ByteArray := prog_1_method_25_code
def yX3_recorded : MethodName := ⟨RX3, "recorded", "(I)I"⟩
abbrev cX3_dropOldest : ByteArray := prog_1_method_26_code
def yX3_dropOldest : MethodName := ⟨RX3, "dropOldest", "()V"⟩
abbrev cX3_ticksTillTip : ByteArray := prog_1_method_27_code
def yX3_ticksTillTip : MethodName := ⟨RX3, "ticksTillTip", "(I)I"⟩
abbrev cX3_hourOfTip : ByteArray := prog_1_method_28_code
def yX3_hourOfTip : MethodName := ⟨RX3, "hourOfTip", "(I)I"⟩
abbrev cX3_isWithin : ByteArray := prog_1_method_29_code
def yX3_isWithin : MethodName := ⟨RX3, "isWithin", "(III)Z"⟩
abbrev cX3_asNumber : ByteArray := prog_1_method_31_code
def yX3_asNumber : MethodName := ⟨RX3, "asNumber", "(Z)I"⟩
def RX4 : String := "CupFountainModel"
def TX4 : u_T := fun k => match k with
  | _ => ("", "", "", false)
def tyX4 : Nat → FieldType := fun k => match k with
  | _ => .int
abbrev wsX40 : List Cond := u_ws RX4 TX4 0
theorem nmX4 : ∀ a, a < 0 → ∀ b, b < 0 → a ≠ b → (TX4 a).2.1 ≠ (TX4 b).2.1 := by decide +kernel
theorem tyX4_ok : ∀ k, k < 0 → parseFieldDescriptor (TX4 k).2.2.1 = some (tyX4 k) := by decide +kernel
def RJ9 : String := "java/lang/Math"
def TJ9 : u_T := fun k => match k with
  | _ => ("", "", "", false)
def tyJ9 : Nat → FieldType := fun k => match k with
  | _ => .int
abbrev wsJ90 : List Cond := u_ws RJ9 TJ9 0
theorem nmJ9 : ∀ a, a < 0 → ∀ b, b < 0 → a ≠ b → (TJ9 a).2.1 ≠ (TJ9 b).2.1 := by decide +kernel
theorem tyJ9_ok : ∀ k, k < 0 → parseFieldDescriptor (TJ9 k).2.2.1 = some (tyJ9 k) := by decide +kernel
abbrev cJ9_max_7cf53 : ByteArray := prog_7_method_65_code
def yJ9_max_7cf53 : MethodName := ⟨RJ9, "max", "(II)I"⟩
abbrev cJ9_min_7cf53 : ByteArray := prog_7_method_69_code
def yJ9_min_7cf53 : MethodName := ⟨RJ9, "min", "(II)I"⟩
def RL : String := "CupFountainLaw"
abbrev cL_cell : ByteArray := method_2_code
def yL_cell : MethodName := ⟨RL, "cell", "([II)I"⟩
abbrev cL_low : ByteArray := method_3_code
def yL_low : MethodName := ⟨RL, "low", "(II)I"⟩
abbrev cL_isCup : ByteArray := method_4_code
def yL_isCup : MethodName := ⟨RL, "isCup", "(LCupFountain;I)Z"⟩
abbrev cL_holds : ByteArray := method_5_code
def yL_holds : MethodName := ⟨RL, "holds", "(LCupFountain;)Z"⟩
abbrev cL_ticks : ByteArray := method_6_code
def yL_ticks : MethodName := ⟨RL, "ticks", "(LCupFountain;)Z"⟩
abbrev cL_waits : ByteArray := method_7_code
def yL_waits : MethodName := ⟨RL, "waits", "(LCupFountain;I)Z"⟩
abbrev cL_starves : ByteArray := method_8_code
def yL_starves : MethodName := ⟨RL, "starves", "(LCupFountain;)Z"⟩
abbrev cL_bestSo : ByteArray := method_9_code
def yL_bestSo : MethodName := ⟨RL, "bestSo", "(LCupFountain;I)Z"⟩
abbrev cL_ifs : ByteArray := method_10_code
def yL_ifs : MethodName := ⟨RL, "ifs", "(LCupFountain;I)Z"⟩
abbrev cL_act : ByteArray := method_11_code
def yL_act : MethodName := ⟨RL, "act", "(LCupFountain;II)Z"⟩
abbrev cL_law : ByteArray := code
def yL_law : MethodName := ⟨RL, "law", "([I)Z"⟩
def wsL_cell : List Cond := .code yL_cell cL_cell 2 (some .int) :: ([.constant RL 7 (833214435), .constant RL 8 (801485273)])
def wsL_low : List Cond := .code yL_low cL_low 2 (some .int) :: ([.constant RL 9 (2147483647)])
def wsL_isCup_r1 : List Cond := [Cond.methodLink RL 10 yX3_cup, Cond.instanceMethod yX3_cup, Cond.selects RX3 yX3_cup yX3_cup, Cond.initialized RX3, Cond.code yX3_cup cX3_cup 4 (some .int), Cond.fieldLink RX3 10 "CupFountain" "now" "LCupFountain$State;", Cond.methodLink RX3 110 yX2_find, Cond.instanceMethod yX2_find, Cond.selects RX2 yX2_find yX2_find, Cond.initialized RX2, Cond.code yX2_find cX2_find 2 (some (.object "CupFountain$Cup")), Cond.fieldLink RX2 11 "CupFountain$State" "cups" "[LCupFountain$Cup;", Cond.methodLink RX3 114 yX0_tell, Cond.instanceMethod yX0_tell, Cond.selects RX0 yX0_tell yX0_tell, Cond.initialized RX0, Cond.code yX0_tell cX0_tell 2 (some .int), Cond.fieldLink RX0 9 "CupFountain$Cup" "size" "I", Cond.fieldLink RX0 15 "CupFountain$Cup" "leak" "I", Cond.fieldLink RX0 49 "CupFountain$Cup" "next" "I", Cond.fieldLink RX0 18 "CupFountain$Cup" "water" "I", Cond.fieldLink RX0 21 "CupFountain$Cup" "hour" "I", Cond.fieldLink RX0 24 "CupFountain$Cup" "open" "Z", Cond.fieldLink RX0 28 "CupFountain$Cup" "guarded" "Z"]
def wsL_isCup_r2 : List Cond := [Cond.fieldLink RX0 31 "CupFountain$Cup" "jet" "I", Cond.fieldLink RX0 34 "CupFountain$Cup" "tips" "I", Cond.fieldLink RX0 37 "CupFountain$Cup" "onTime" "I", Cond.fieldLink RX0 40 "CupFountain$Cup" "early" "I", Cond.fieldLink RX0 43 "CupFountain$Cup" "late" "I", Cond.static yX3_asNumber, Cond.code yX3_asNumber cX3_asNumber 1 (some .int)]
def wsL_isCup : List Cond := .code yL_isCup cL_isCup 5 (some .boolean) :: ((wsL_isCup_r1 ++ wsL_isCup_r2) ++ wsX30 ++ wsX20 ++ wsX00)
def wsL_holds_r1 : List Cond := [Cond.methodLink RL 16 yX3_highest, Cond.instanceMethod yX3_highest, Cond.selects RX3 yX3_highest yX3_highest, Cond.initialized RX3, Cond.code yX3_highest cX3_highest 4 (some .int), Cond.fieldLink RX3 10 "CupFountain" "now" "LCupFountain$State;", Cond.fieldLink RX3 146 "CupFountain$State" "cups" "[LCupFountain$Cup;", Cond.fieldLink RX3 164 "CupFountain$Cup" "jet" "I", Cond.methodLink RL 10 yX3_cup, Cond.instanceMethod yX3_cup, Cond.selects RX3 yX3_cup yX3_cup, Cond.code yX3_cup cX3_cup 4 (some .int), Cond.methodLink RX3 110 yX2_find, Cond.instanceMethod yX2_find, Cond.selects RX2 yX2_find yX2_find, Cond.initialized RX2, Cond.code yX2_find cX2_find 2 (some (.object "CupFountain$Cup")), Cond.fieldLink RX2 11 "CupFountain$State" "cups" "[LCupFountain$Cup;", Cond.methodLink RX3 114 yX0_tell, Cond.instanceMethod yX0_tell, Cond.selects RX0 yX0_tell yX0_tell, Cond.initialized RX0, Cond.code yX0_tell cX0_tell 2 (some .int), Cond.fieldLink RX0 9 "CupFountain$Cup" "size" "I"]
def wsL_holds_r2 : List Cond := [Cond.fieldLink RX0 15 "CupFountain$Cup" "leak" "I", Cond.fieldLink RX0 49 "CupFountain$Cup" "next" "I", Cond.fieldLink RX0 18 "CupFountain$Cup" "water" "I", Cond.fieldLink RX0 21 "CupFountain$Cup" "hour" "I", Cond.fieldLink RX0 24 "CupFountain$Cup" "open" "Z", Cond.fieldLink RX0 28 "CupFountain$Cup" "guarded" "Z", Cond.fieldLink RX0 31 "CupFountain$Cup" "jet" "I", Cond.fieldLink RX0 34 "CupFountain$Cup" "tips" "I", Cond.fieldLink RX0 37 "CupFountain$Cup" "onTime" "I", Cond.fieldLink RX0 40 "CupFountain$Cup" "early" "I", Cond.fieldLink RX0 43 "CupFountain$Cup" "late" "I", Cond.static yX3_asNumber, Cond.code yX3_asNumber cX3_asNumber 1 (some .int), Cond.methodLink RL 20 yL_isCup, Cond.static yL_isCup, Cond.initialized RL, Cond.code yL_isCup cL_isCup 5 (some .boolean), Cond.methodLink RL 26 yX3_count, Cond.instanceMethod yX3_count, Cond.selects RX3 yX3_count yX3_count, Cond.code yX3_count cX3_count 2 (some .int), Cond.fieldLink RX3 36 "CupFountain" "pastCount" "I", Cond.fieldLink RX3 32 "CupFountain" "plan" "LCupFountain$Plan;", Cond.fieldLink RX3 167 "CupFountain$Plan" "length" "I"]
def wsL_holds_r3 : List Cond := [Cond.methodLink RX3 170 yX2_tell, Cond.instanceMethod yX2_tell, Cond.selects RX2 yX2_tell yX2_tell, Cond.code yX2_tell cX2_tell 2 (some .int), Cond.fieldLink RX2 17 "CupFountain$State" "tick" "I", Cond.fieldLink RX2 30 "CupFountain$State" "basin" "I", Cond.fieldLink RX2 33 "CupFountain$State" "lost" "I", Cond.fieldLink RX2 36 "CupFountain$State" "sprung" "I", Cond.fieldLink RX2 39 "CupFountain$State" "filled" "I", Cond.methodLink RX2 101 yX2_hourOf, Cond.instanceMethod yX2_hourOf, Cond.selects RX2 yX2_hourOf yX2_hourOf, Cond.code yX2_hourOf cX2_hourOf 2 (some .int), Cond.fieldLink RX2 27 "CupFountain$State" "day" "I", Cond.methodLink RX2 138 yX2_sumOf, Cond.instanceMethod yX2_sumOf, Cond.selects RX2 yX2_sumOf yX2_sumOf, Cond.code yX2_sumOf cX2_sumOf 4 (some .int), Cond.methodLink RX2 57 yX0_tell, Cond.methodLink RX2 141 yX2_sumFull, Cond.instanceMethod yX2_sumFull, Cond.selects RX2 yX2_sumFull yX2_sumFull, Cond.code yX2_sumFull cX2_sumFull 3 (some .int), Cond.methodLink RX2 144 yX0_isFull]
def wsL_holds_r4 : List Cond := [Cond.instanceMethod yX0_isFull, Cond.selects RX0 yX0_isFull yX0_isFull, Cond.code yX0_isFull cX0_isFull 1 (some .boolean), Cond.methodLink RX2 90 yX2_tellSetting, Cond.instanceMethod yX2_tellSetting, Cond.selects RX2 yX2_tellSetting yX2_tellSetting, Cond.code yX2_tellSetting cX2_tellSetting 2 (some .int), Cond.fieldLink RX2 21 "CupFountain$State" "spring" "I", Cond.fieldLink RX2 24 "CupFountain$State" "comesBack" "I"]
def wsL_holds : List Cond := .code yL_holds cL_holds 7 (some .boolean) :: ((wsL_holds_r1 ++ (wsL_holds_r2 ++ (wsL_holds_r3 ++ wsL_holds_r4))) ++ wsX30 ++ wsX20 ++ wsX00 ++ wsX10)
def wsL_ticks_r1 : List Cond := [Cond.arrayClass .int, Cond.methodLink RL 26 yX3_count, Cond.instanceMethod yX3_count, Cond.selects RX3 yX3_count yX3_count, Cond.initialized RX3, Cond.code yX3_count cX3_count 2 (some .int), Cond.fieldLink RX3 36 "CupFountain" "pastCount" "I", Cond.fieldLink RX3 32 "CupFountain" "plan" "LCupFountain$Plan;", Cond.fieldLink RX3 167 "CupFountain$Plan" "length" "I", Cond.fieldLink RX3 10 "CupFountain" "now" "LCupFountain$State;", Cond.methodLink RX3 170 yX2_tell, Cond.instanceMethod yX2_tell, Cond.selects RX2 yX2_tell yX2_tell, Cond.initialized RX2, Cond.code yX2_tell cX2_tell 2 (some .int), Cond.fieldLink RX2 17 "CupFountain$State" "tick" "I", Cond.fieldLink RX2 30 "CupFountain$State" "basin" "I", Cond.fieldLink RX2 33 "CupFountain$State" "lost" "I", Cond.fieldLink RX2 36 "CupFountain$State" "sprung" "I", Cond.fieldLink RX2 39 "CupFountain$State" "filled" "I", Cond.methodLink RX2 101 yX2_hourOf, Cond.instanceMethod yX2_hourOf, Cond.selects RX2 yX2_hourOf yX2_hourOf, Cond.code yX2_hourOf cX2_hourOf 2 (some .int)]
def wsL_ticks_r2 : List Cond := [Cond.fieldLink RX2 27 "CupFountain$State" "day" "I", Cond.methodLink RX2 138 yX2_sumOf, Cond.instanceMethod yX2_sumOf, Cond.selects RX2 yX2_sumOf yX2_sumOf, Cond.code yX2_sumOf cX2_sumOf 4 (some .int), Cond.fieldLink RX2 11 "CupFountain$State" "cups" "[LCupFountain$Cup;", Cond.methodLink RX2 57 yX0_tell, Cond.instanceMethod yX0_tell, Cond.selects RX0 yX0_tell yX0_tell, Cond.initialized RX0, Cond.code yX0_tell cX0_tell 2 (some .int), Cond.fieldLink RX0 9 "CupFountain$Cup" "size" "I", Cond.fieldLink RX0 15 "CupFountain$Cup" "leak" "I", Cond.fieldLink RX0 49 "CupFountain$Cup" "next" "I", Cond.fieldLink RX0 18 "CupFountain$Cup" "water" "I", Cond.fieldLink RX0 21 "CupFountain$Cup" "hour" "I", Cond.fieldLink RX0 24 "CupFountain$Cup" "open" "Z", Cond.fieldLink RX0 28 "CupFountain$Cup" "guarded" "Z", Cond.fieldLink RX0 31 "CupFountain$Cup" "jet" "I", Cond.fieldLink RX0 34 "CupFountain$Cup" "tips" "I", Cond.fieldLink RX0 37 "CupFountain$Cup" "onTime" "I", Cond.fieldLink RX0 40 "CupFountain$Cup" "early" "I", Cond.fieldLink RX0 43 "CupFountain$Cup" "late" "I", Cond.static yX3_asNumber]
def wsL_ticks_r3 : List Cond := [Cond.code yX3_asNumber cX3_asNumber 1 (some .int), Cond.methodLink RX2 141 yX2_sumFull, Cond.instanceMethod yX2_sumFull, Cond.selects RX2 yX2_sumFull yX2_sumFull, Cond.code yX2_sumFull cX2_sumFull 3 (some .int), Cond.methodLink RX2 144 yX0_isFull, Cond.instanceMethod yX0_isFull, Cond.selects RX0 yX0_isFull yX0_isFull, Cond.code yX0_isFull cX0_isFull 1 (some .boolean), Cond.methodLink RX2 90 yX2_tellSetting, Cond.instanceMethod yX2_tellSetting, Cond.selects RX2 yX2_tellSetting yX2_tellSetting, Cond.code yX2_tellSetting cX2_tellSetting 2 (some .int), Cond.fieldLink RX2 21 "CupFountain$State" "spring" "I", Cond.fieldLink RX2 24 "CupFountain$State" "comesBack" "I", Cond.methodLink RL 30 yX3_reason, Cond.instanceMethod yX3_reason, Cond.selects RX3 yX3_reason yX3_reason, Cond.code yX3_reason cX3_reason 4 (some .int), Cond.fieldLink RX3 16 "CupFountain" "ahead" "LCupFountain$State;", Cond.fieldLink RX3 122 "CupFountain$Cup" "tips" "I", Cond.fieldLink RX3 125 "CupFountain$Cup" "guarded" "Z", Cond.fieldLink RX3 128 "CupFountain$Cup" "hour" "I", Cond.fieldLink RX3 107 "CupFountain$State" "tick" "I"]
def wsL_ticks_r4 : List Cond := [Cond.fieldLink RX3 134 "CupFountain$Cup" "open" "Z", Cond.methodLink RX3 110 yX2_find, Cond.instanceMethod yX2_find, Cond.selects RX2 yX2_find yX2_find, Cond.code yX2_find cX2_find 2 (some (.object "CupFountain$Cup")), Cond.methodLink RX3 50 yX2_copyFrom, Cond.instanceMethod yX2_copyFrom, Cond.selects RX2 yX2_copyFrom yX2_copyFrom, Cond.code yX2_copyFrom cX2_copyFrom 3 none, Cond.methodLink RX2 45 yX0_copyFrom, Cond.instanceMethod yX0_copyFrom, Cond.selects RX0 yX0_copyFrom yX0_copyFrom, Cond.code yX0_copyFrom cX0_copyFrom 2 none, Cond.methodLink RX3 119 yX2_tickOnce, Cond.instanceMethod yX2_tickOnce, Cond.selects RX2 yX2_tickOnce yX2_tickOnce, Cond.code yX2_tickOnce cX2_tickOnce 4 (some .int), Cond.methodLink RX2 104 yX2_openGuarded, Cond.instanceMethod yX2_openGuarded, Cond.selects RX2 yX2_openGuarded yX2_openGuarded, Cond.code yX2_openGuarded cX2_openGuarded 3 none, Cond.fieldLink RX2 73 "CupFountain$Cup" "guarded" "Z", Cond.fieldLink RX2 84 "CupFountain$Cup" "hour" "I", Cond.fieldLink RX2 77 "CupFountain$Cup" "open" "Z"]
def wsL_ticks_r5 : List Cond := [Cond.methodLink RX2 107 yX2_springs, Cond.instanceMethod yX2_springs, Cond.selects RX2 yX2_springs yX2_springs, Cond.code yX2_springs cX2_springs 2 none, Cond.methodLink RX2 120 Lib.Math.min.name, Cond.static Lib.Math.min.name, Cond.initialized "java/lang/Math", Cond.code Lib.Math.min.name Lib.Math.min.code 2 (some .int), Cond.fieldLink RX2 87 "CupFountain$Cup" "water" "I", Cond.methodLink RX2 110 yX2_tipOrKeep, Cond.instanceMethod yX2_tipOrKeep, Cond.selects RX2 yX2_tipOrKeep yX2_tipOrKeep, Cond.code yX2_tipOrKeep cX2_tipOrKeep 5 (some .int), Cond.fieldLink RX2 126 "CupFountain$Cup" "ready" "I", Cond.fieldLink RX2 61 "CupFountain$Cup" "size" "I", Cond.fieldLink RX2 129 "CupFountain$Cup" "jet" "I", Cond.fieldLink RX2 67 "CupFountain$Cup" "next" "I", Cond.methodLink RX2 132 yX0_runOver, Cond.instanceMethod yX0_runOver, Cond.selects RX0 yX0_runOver yX0_runOver, Cond.code yX0_runOver cX0_runOver 2 (some .int), Cond.methodLink RX2 135 yX0_tip, Cond.instanceMethod yX0_tip, Cond.selects RX0 yX0_tip yX0_tip]
def wsL_ticks_r6 : List Cond := [Cond.code yX0_tip cX0_tip 4 (some .int), Cond.methodLink RX2 49 yX2_find, Cond.methodLink RX2 114 yX0_drip, Cond.instanceMethod yX0_drip, Cond.selects RX0 yX0_drip yX0_drip, Cond.code yX0_drip cX0_drip 2 (some .int), Cond.methodLink RX0 52 Lib.Math.min.name, Cond.methodLink RX2 117 yX2_shutGuarded, Cond.instanceMethod yX2_shutGuarded, Cond.selects RX2 yX2_shutGuarded yX2_shutGuarded, Cond.code yX2_shutGuarded cX2_shutGuarded 2 none, Cond.methodLink RX3 131 yX2_hourOf, Cond.methodLink RL 10 yX3_cup, Cond.instanceMethod yX3_cup, Cond.selects RX3 yX3_cup yX3_cup, Cond.code yX3_cup cX3_cup 4 (some .int), Cond.methodLink RX3 114 yX0_tell, Cond.methodLink RL 33 yX3_tipsIn, Cond.instanceMethod yX3_tipsIn, Cond.selects RX3 yX3_tipsIn yX3_tipsIn, Cond.code yX3_tipsIn cX3_tipsIn 2 (some .int), Cond.methodLink RX3 137 yX3_ticksTillTip, Cond.instanceMethod yX3_ticksTillTip, Cond.selects RX3 yX3_ticksTillTip yX3_ticksTillTip]
def wsL_ticks_r7 : List Cond := [Cond.code yX3_ticksTillTip cX3_ticksTillTip 5 (some .int), Cond.methodLink RL 36 yX3_pass, Cond.instanceMethod yX3_pass, Cond.selects RX3 yX3_pass yX3_pass, Cond.code yX3_pass cX3_pass 2 (some .int), Cond.fieldLink RX3 19 "CupFountain" "before" "LCupFountain$State;", Cond.methodLink RX3 78 yX2_letPass, Cond.instanceMethod yX2_letPass, Cond.selects RX2 yX2_letPass yX2_letPass, Cond.code yX2_letPass cX2_letPass 2 (some .int), Cond.constant RX2 93 (99999), Cond.static yX3_isWithin, Cond.code yX3_isWithin cX3_isWithin 3 (some .boolean), Cond.methodLink RX2 94 yX2_tickOn, Cond.instanceMethod yX2_tickOn, Cond.selects RX2 yX2_tickOn yX2_tickOn, Cond.code yX2_tickOn cX2_tickOn 4 (some .int), Cond.methodLink RX2 97 yX2_tickOnce, Cond.methodLink RX3 58 yX3_recorded, Cond.instanceMethod yX3_recorded, Cond.selects RX3 yX3_recorded yX3_recorded, Cond.code yX3_recorded cX3_recorded 2 (some .int), Cond.fieldLink RX3 25 "CupFountain" "past" "[LCupFountain$State;", Cond.methodLink RX3 171 yX3_dropOldest]
def wsL_ticks_r8 : List Cond := [Cond.instanceMethod yX3_dropOldest, Cond.selects RX3 yX3_dropOldest yX3_dropOldest, Cond.code yX3_dropOldest cX3_dropOldest 3 none]
def wsL_ticks : List Cond := .code yL_ticks cL_ticks 10 (some .boolean) :: ((wsL_ticks_r1 ++ (wsL_ticks_r2 ++ (wsL_ticks_r3 ++ (wsL_ticks_r4 ++ (wsL_ticks_r5 ++ (wsL_ticks_r6 ++ (wsL_ticks_r7 ++ wsL_ticks_r8))))))) ++ wsX30 ++ wsX10 ++ wsX20 ++ wsX00)
def wsL_waits_r1 : List Cond := [Cond.methodLink RL 33 yX3_tipsIn, Cond.instanceMethod yX3_tipsIn, Cond.selects RX3 yX3_tipsIn yX3_tipsIn, Cond.initialized RX3, Cond.code yX3_tipsIn cX3_tipsIn 2 (some .int), Cond.fieldLink RX3 16 "CupFountain" "ahead" "LCupFountain$State;", Cond.fieldLink RX3 10 "CupFountain" "now" "LCupFountain$State;", Cond.methodLink RX3 50 yX2_copyFrom, Cond.instanceMethod yX2_copyFrom, Cond.selects RX2 yX2_copyFrom yX2_copyFrom, Cond.initialized RX2, Cond.code yX2_copyFrom cX2_copyFrom 3 none, Cond.fieldLink RX2 11 "CupFountain$State" "cups" "[LCupFountain$Cup;", Cond.fieldLink RX2 17 "CupFountain$State" "tick" "I", Cond.fieldLink RX2 21 "CupFountain$State" "spring" "I", Cond.fieldLink RX2 24 "CupFountain$State" "comesBack" "I", Cond.fieldLink RX2 27 "CupFountain$State" "day" "I", Cond.fieldLink RX2 30 "CupFountain$State" "basin" "I", Cond.fieldLink RX2 33 "CupFountain$State" "lost" "I", Cond.fieldLink RX2 36 "CupFountain$State" "sprung" "I", Cond.fieldLink RX2 39 "CupFountain$State" "filled" "I", Cond.methodLink RX2 45 yX0_copyFrom, Cond.instanceMethod yX0_copyFrom, Cond.selects RX0 yX0_copyFrom yX0_copyFrom]
def wsL_waits_r2 : List Cond := [Cond.initialized RX0, Cond.code yX0_copyFrom cX0_copyFrom 2 none, Cond.fieldLink RX0 9 "CupFountain$Cup" "size" "I", Cond.fieldLink RX0 15 "CupFountain$Cup" "leak" "I", Cond.fieldLink RX0 49 "CupFountain$Cup" "next" "I", Cond.fieldLink RX0 18 "CupFountain$Cup" "water" "I", Cond.fieldLink RX0 21 "CupFountain$Cup" "hour" "I", Cond.fieldLink RX0 24 "CupFountain$Cup" "open" "Z", Cond.fieldLink RX0 28 "CupFountain$Cup" "guarded" "Z", Cond.fieldLink RX0 31 "CupFountain$Cup" "jet" "I", Cond.fieldLink RX0 34 "CupFountain$Cup" "tips" "I", Cond.fieldLink RX0 37 "CupFountain$Cup" "onTime" "I", Cond.fieldLink RX0 40 "CupFountain$Cup" "early" "I", Cond.fieldLink RX0 43 "CupFountain$Cup" "late" "I", Cond.methodLink RX3 137 yX3_ticksTillTip, Cond.instanceMethod yX3_ticksTillTip, Cond.selects RX3 yX3_ticksTillTip yX3_ticksTillTip, Cond.code yX3_ticksTillTip cX3_ticksTillTip 5 (some .int), Cond.fieldLink RX3 122 "CupFountain$Cup" "tips" "I", Cond.methodLink RX3 110 yX2_find, Cond.instanceMethod yX2_find, Cond.selects RX2 yX2_find yX2_find, Cond.code yX2_find cX2_find 2 (some (.object "CupFountain$Cup")), Cond.methodLink RX3 119 yX2_tickOnce]
def wsL_waits_r3 : List Cond := [Cond.instanceMethod yX2_tickOnce, Cond.selects RX2 yX2_tickOnce yX2_tickOnce, Cond.code yX2_tickOnce cX2_tickOnce 4 (some .int), Cond.methodLink RX2 101 yX2_hourOf, Cond.instanceMethod yX2_hourOf, Cond.selects RX2 yX2_hourOf yX2_hourOf, Cond.code yX2_hourOf cX2_hourOf 2 (some .int), Cond.methodLink RX2 104 yX2_openGuarded, Cond.instanceMethod yX2_openGuarded, Cond.selects RX2 yX2_openGuarded yX2_openGuarded, Cond.code yX2_openGuarded cX2_openGuarded 3 none, Cond.fieldLink RX2 73 "CupFountain$Cup" "guarded" "Z", Cond.fieldLink RX2 84 "CupFountain$Cup" "hour" "I", Cond.fieldLink RX2 77 "CupFountain$Cup" "open" "Z", Cond.methodLink RX2 107 yX2_springs, Cond.instanceMethod yX2_springs, Cond.selects RX2 yX2_springs yX2_springs, Cond.code yX2_springs cX2_springs 2 none, Cond.methodLink RX2 120 Lib.Math.min.name, Cond.static Lib.Math.min.name, Cond.initialized "java/lang/Math", Cond.code Lib.Math.min.name Lib.Math.min.code 2 (some .int), Cond.fieldLink RX2 87 "CupFountain$Cup" "water" "I", Cond.methodLink RX2 110 yX2_tipOrKeep]
def wsL_waits_r4 : List Cond := [Cond.instanceMethod yX2_tipOrKeep, Cond.selects RX2 yX2_tipOrKeep yX2_tipOrKeep, Cond.code yX2_tipOrKeep cX2_tipOrKeep 5 (some .int), Cond.fieldLink RX2 126 "CupFountain$Cup" "ready" "I", Cond.fieldLink RX2 61 "CupFountain$Cup" "size" "I", Cond.fieldLink RX2 129 "CupFountain$Cup" "jet" "I", Cond.fieldLink RX2 67 "CupFountain$Cup" "next" "I", Cond.methodLink RX2 132 yX0_runOver, Cond.instanceMethod yX0_runOver, Cond.selects RX0 yX0_runOver yX0_runOver, Cond.code yX0_runOver cX0_runOver 2 (some .int), Cond.methodLink RX2 135 yX0_tip, Cond.instanceMethod yX0_tip, Cond.selects RX0 yX0_tip yX0_tip, Cond.code yX0_tip cX0_tip 4 (some .int), Cond.methodLink RX2 49 yX2_find, Cond.methodLink RX2 114 yX0_drip, Cond.instanceMethod yX0_drip, Cond.selects RX0 yX0_drip yX0_drip, Cond.code yX0_drip cX0_drip 2 (some .int), Cond.methodLink RX0 52 Lib.Math.min.name, Cond.methodLink RX2 117 yX2_shutGuarded, Cond.instanceMethod yX2_shutGuarded, Cond.selects RX2 yX2_shutGuarded yX2_shutGuarded]
def wsL_waits_r5 : List Cond := [Cond.code yX2_shutGuarded cX2_shutGuarded 2 none, Cond.methodLink RL 39 yX3_tipsAt, Cond.instanceMethod yX3_tipsAt, Cond.selects RX3 yX3_tipsAt yX3_tipsAt, Cond.code yX3_tipsAt cX3_tipsAt 2 (some .int), Cond.methodLink RX3 140 yX3_hourOfTip, Cond.instanceMethod yX3_hourOfTip, Cond.selects RX3 yX3_hourOfTip yX3_hourOfTip, Cond.code yX3_hourOfTip cX3_hourOfTip 3 (some .int), Cond.fieldLink RX3 107 "CupFountain$State" "tick" "I", Cond.methodLink RX3 131 yX2_hourOf, Cond.methodLink RL 42 yX3_keep, Cond.instanceMethod yX3_keep, Cond.selects RX3 yX3_keep yX3_keep, Cond.code yX3_keep cX3_keep 1 (some .int), Cond.fieldLink RX3 22 "CupFountain" "snapshot" "LCupFountain$State;", Cond.fieldLink RX3 40 "CupFountain" "hasSnapshot" "Z", Cond.methodLink RL 10 yX3_cup, Cond.instanceMethod yX3_cup, Cond.selects RX3 yX3_cup yX3_cup, Cond.code yX3_cup cX3_cup 4 (some .int), Cond.methodLink RX3 114 yX0_tell, Cond.instanceMethod yX0_tell, Cond.selects RX0 yX0_tell yX0_tell]
def wsL_waits_r6 : List Cond := [Cond.code yX0_tell cX0_tell 2 (some .int), Cond.static yX3_asNumber, Cond.code yX3_asNumber cX3_asNumber 1 (some .int), Cond.methodLink RL 26 yX3_count, Cond.instanceMethod yX3_count, Cond.selects RX3 yX3_count yX3_count, Cond.code yX3_count cX3_count 2 (some .int), Cond.fieldLink RX3 36 "CupFountain" "pastCount" "I", Cond.fieldLink RX3 32 "CupFountain" "plan" "LCupFountain$Plan;", Cond.fieldLink RX3 167 "CupFountain$Plan" "length" "I", Cond.methodLink RX3 170 yX2_tell, Cond.instanceMethod yX2_tell, Cond.selects RX2 yX2_tell yX2_tell, Cond.code yX2_tell cX2_tell 2 (some .int), Cond.methodLink RX2 138 yX2_sumOf, Cond.instanceMethod yX2_sumOf, Cond.selects RX2 yX2_sumOf yX2_sumOf, Cond.code yX2_sumOf cX2_sumOf 4 (some .int), Cond.methodLink RX2 57 yX0_tell, Cond.methodLink RX2 141 yX2_sumFull, Cond.instanceMethod yX2_sumFull, Cond.selects RX2 yX2_sumFull yX2_sumFull, Cond.code yX2_sumFull cX2_sumFull 3 (some .int), Cond.methodLink RX2 144 yX0_isFull]
def wsL_waits_r7 : List Cond := [Cond.instanceMethod yX0_isFull, Cond.selects RX0 yX0_isFull yX0_isFull, Cond.code yX0_isFull cX0_isFull 1 (some .boolean), Cond.methodLink RX2 90 yX2_tellSetting, Cond.instanceMethod yX2_tellSetting, Cond.selects RX2 yX2_tellSetting yX2_tellSetting, Cond.code yX2_tellSetting cX2_tellSetting 2 (some .int), Cond.methodLink RL 45 yX3_starving, Cond.instanceMethod yX3_starving, Cond.selects RX3 yX3_starving yX3_starving, Cond.code yX3_starving cX3_starving 2 (some .int), Cond.fieldLink RX3 146 "CupFountain$State" "cups" "[LCupFountain$Cup;", Cond.methodLink RX3 143 yX2_tickOn, Cond.instanceMethod yX2_tickOn, Cond.selects RX2 yX2_tickOn yX2_tickOn, Cond.code yX2_tickOn cX2_tickOn 4 (some .int), Cond.methodLink RX2 97 yX2_tickOnce, Cond.methodLink RL 36 yX3_pass, Cond.instanceMethod yX3_pass, Cond.selects RX3 yX3_pass yX3_pass, Cond.code yX3_pass cX3_pass 2 (some .int), Cond.fieldLink RX3 19 "CupFountain" "before" "LCupFountain$State;", Cond.methodLink RX3 78 yX2_letPass, Cond.instanceMethod yX2_letPass]
def wsL_waits_r8 : List Cond := [Cond.selects RX2 yX2_letPass yX2_letPass, Cond.code yX2_letPass cX2_letPass 2 (some .int), Cond.constant RX2 93 (99999), Cond.static yX3_isWithin, Cond.code yX3_isWithin cX3_isWithin 3 (some .boolean), Cond.methodLink RX2 94 yX2_tickOn, Cond.methodLink RX3 58 yX3_recorded, Cond.instanceMethod yX3_recorded, Cond.selects RX3 yX3_recorded yX3_recorded, Cond.code yX3_recorded cX3_recorded 2 (some .int), Cond.fieldLink RX3 25 "CupFountain" "past" "[LCupFountain$State;", Cond.methodLink RX3 171 yX3_dropOldest, Cond.instanceMethod yX3_dropOldest, Cond.selects RX3 yX3_dropOldest yX3_dropOldest, Cond.code yX3_dropOldest cX3_dropOldest 3 none, Cond.methodLink RL 48 yX3_restore, Cond.instanceMethod yX3_restore, Cond.selects RX3 yX3_restore yX3_restore, Cond.code yX3_restore cX3_restore 1 (some .int)]
def wsL_waits : List Cond := .code yL_waits cL_waits 9 (some .boolean) :: ((wsL_waits_r1 ++ (wsL_waits_r2 ++ (wsL_waits_r3 ++ (wsL_waits_r4 ++ (wsL_waits_r5 ++ (wsL_waits_r6 ++ (wsL_waits_r7 ++ wsL_waits_r8))))))) ++ wsX30 ++ wsX20 ++ wsX00 ++ wsX10)
def wsL_starves_r1 : List Cond := [Cond.methodLink RL 45 yX3_starving, Cond.instanceMethod yX3_starving, Cond.selects RX3 yX3_starving yX3_starving, Cond.initialized RX3, Cond.code yX3_starving cX3_starving 2 (some .int), Cond.fieldLink RX3 16 "CupFountain" "ahead" "LCupFountain$State;", Cond.fieldLink RX3 10 "CupFountain" "now" "LCupFountain$State;", Cond.fieldLink RX3 146 "CupFountain$State" "cups" "[LCupFountain$Cup;", Cond.fieldLink RX3 122 "CupFountain$Cup" "tips" "I", Cond.methodLink RX3 50 yX2_copyFrom, Cond.instanceMethod yX2_copyFrom, Cond.selects RX2 yX2_copyFrom yX2_copyFrom, Cond.initialized RX2, Cond.code yX2_copyFrom cX2_copyFrom 3 none, Cond.fieldLink RX2 11 "CupFountain$State" "cups" "[LCupFountain$Cup;", Cond.fieldLink RX2 17 "CupFountain$State" "tick" "I", Cond.fieldLink RX2 21 "CupFountain$State" "spring" "I", Cond.fieldLink RX2 24 "CupFountain$State" "comesBack" "I", Cond.fieldLink RX2 27 "CupFountain$State" "day" "I", Cond.fieldLink RX2 30 "CupFountain$State" "basin" "I", Cond.fieldLink RX2 33 "CupFountain$State" "lost" "I", Cond.fieldLink RX2 36 "CupFountain$State" "sprung" "I", Cond.fieldLink RX2 39 "CupFountain$State" "filled" "I", Cond.methodLink RX2 45 yX0_copyFrom]
def wsL_starves_r2 : List Cond := [Cond.instanceMethod yX0_copyFrom, Cond.selects RX0 yX0_copyFrom yX0_copyFrom, Cond.initialized RX0, Cond.code yX0_copyFrom cX0_copyFrom 2 none, Cond.fieldLink RX0 9 "CupFountain$Cup" "size" "I", Cond.fieldLink RX0 15 "CupFountain$Cup" "leak" "I", Cond.fieldLink RX0 49 "CupFountain$Cup" "next" "I", Cond.fieldLink RX0 18 "CupFountain$Cup" "water" "I", Cond.fieldLink RX0 21 "CupFountain$Cup" "hour" "I", Cond.fieldLink RX0 24 "CupFountain$Cup" "open" "Z", Cond.fieldLink RX0 28 "CupFountain$Cup" "guarded" "Z", Cond.fieldLink RX0 31 "CupFountain$Cup" "jet" "I", Cond.fieldLink RX0 34 "CupFountain$Cup" "tips" "I", Cond.fieldLink RX0 37 "CupFountain$Cup" "onTime" "I", Cond.fieldLink RX0 40 "CupFountain$Cup" "early" "I", Cond.fieldLink RX0 43 "CupFountain$Cup" "late" "I", Cond.methodLink RX3 143 yX2_tickOn, Cond.instanceMethod yX2_tickOn, Cond.selects RX2 yX2_tickOn yX2_tickOn, Cond.code yX2_tickOn cX2_tickOn 4 (some .int), Cond.methodLink RX2 97 yX2_tickOnce, Cond.instanceMethod yX2_tickOnce, Cond.selects RX2 yX2_tickOnce yX2_tickOnce, Cond.code yX2_tickOnce cX2_tickOnce 4 (some .int)]
def wsL_starves_r3 : List Cond := [Cond.methodLink RX2 101 yX2_hourOf, Cond.instanceMethod yX2_hourOf, Cond.selects RX2 yX2_hourOf yX2_hourOf, Cond.code yX2_hourOf cX2_hourOf 2 (some .int), Cond.methodLink RX2 104 yX2_openGuarded, Cond.instanceMethod yX2_openGuarded, Cond.selects RX2 yX2_openGuarded yX2_openGuarded, Cond.code yX2_openGuarded cX2_openGuarded 3 none, Cond.fieldLink RX2 73 "CupFountain$Cup" "guarded" "Z", Cond.fieldLink RX2 84 "CupFountain$Cup" "hour" "I", Cond.fieldLink RX2 77 "CupFountain$Cup" "open" "Z", Cond.methodLink RX2 107 yX2_springs, Cond.instanceMethod yX2_springs, Cond.selects RX2 yX2_springs yX2_springs, Cond.code yX2_springs cX2_springs 2 none, Cond.methodLink RX2 120 Lib.Math.min.name, Cond.static Lib.Math.min.name, Cond.initialized "java/lang/Math", Cond.code Lib.Math.min.name Lib.Math.min.code 2 (some .int), Cond.fieldLink RX2 87 "CupFountain$Cup" "water" "I", Cond.methodLink RX2 110 yX2_tipOrKeep, Cond.instanceMethod yX2_tipOrKeep, Cond.selects RX2 yX2_tipOrKeep yX2_tipOrKeep, Cond.code yX2_tipOrKeep cX2_tipOrKeep 5 (some .int)]
def wsL_starves_r4 : List Cond := [Cond.fieldLink RX2 126 "CupFountain$Cup" "ready" "I", Cond.fieldLink RX2 61 "CupFountain$Cup" "size" "I", Cond.fieldLink RX2 129 "CupFountain$Cup" "jet" "I", Cond.fieldLink RX2 67 "CupFountain$Cup" "next" "I", Cond.methodLink RX2 132 yX0_runOver, Cond.instanceMethod yX0_runOver, Cond.selects RX0 yX0_runOver yX0_runOver, Cond.code yX0_runOver cX0_runOver 2 (some .int), Cond.methodLink RX2 135 yX0_tip, Cond.instanceMethod yX0_tip, Cond.selects RX0 yX0_tip yX0_tip, Cond.code yX0_tip cX0_tip 4 (some .int), Cond.methodLink RX2 49 yX2_find, Cond.instanceMethod yX2_find, Cond.selects RX2 yX2_find yX2_find, Cond.code yX2_find cX2_find 2 (some (.object "CupFountain$Cup")), Cond.methodLink RX2 114 yX0_drip, Cond.instanceMethod yX0_drip, Cond.selects RX0 yX0_drip yX0_drip, Cond.code yX0_drip cX0_drip 2 (some .int), Cond.methodLink RX0 52 Lib.Math.min.name, Cond.methodLink RX2 117 yX2_shutGuarded, Cond.instanceMethod yX2_shutGuarded, Cond.selects RX2 yX2_shutGuarded yX2_shutGuarded]
def wsL_starves_r5 : List Cond := [Cond.code yX2_shutGuarded cX2_shutGuarded 2 none, Cond.methodLink RL 33 yX3_tipsIn, Cond.instanceMethod yX3_tipsIn, Cond.selects RX3 yX3_tipsIn yX3_tipsIn, Cond.code yX3_tipsIn cX3_tipsIn 2 (some .int), Cond.methodLink RX3 137 yX3_ticksTillTip, Cond.instanceMethod yX3_ticksTillTip, Cond.selects RX3 yX3_ticksTillTip yX3_ticksTillTip, Cond.code yX3_ticksTillTip cX3_ticksTillTip 5 (some .int), Cond.methodLink RX3 110 yX2_find, Cond.methodLink RX3 119 yX2_tickOnce]
def wsL_starves : List Cond := .code yL_starves cL_starves 4 (some .boolean) :: ((wsL_starves_r1 ++ (wsL_starves_r2 ++ (wsL_starves_r3 ++ (wsL_starves_r4 ++ wsL_starves_r5)))) ++ wsX30 ++ wsX20 ++ wsX00)
def wsL_bestSo_r1 : List Cond := [Cond.methodLink RL 51 yX3_bestSize, Cond.instanceMethod yX3_bestSize, Cond.selects RX3 yX3_bestSize yX3_bestSize, Cond.initialized RX3, Cond.code yX3_bestSize cX3_bestSize 6 (some .int), Cond.fieldLink RX3 16 "CupFountain" "ahead" "LCupFountain$State;", Cond.fieldLink RX3 10 "CupFountain" "now" "LCupFountain$State;", Cond.fieldLink RX3 128 "CupFountain$Cup" "hour" "I", Cond.fieldLink RX3 150 "CupFountain$Cup" "size" "I", Cond.fieldLink RX3 107 "CupFountain$State" "tick" "I", Cond.fieldLink RX3 153 "CupFountain$Cup" "ready" "I", Cond.methodLink RX3 156 Lib.Math.max.name, Cond.static Lib.Math.max.name, Cond.initialized "java/lang/Math", Cond.code Lib.Math.max.name Lib.Math.max.code 2 (some .int), Cond.methodLink RX3 50 yX2_copyFrom, Cond.instanceMethod yX2_copyFrom, Cond.selects RX2 yX2_copyFrom yX2_copyFrom, Cond.initialized RX2, Cond.code yX2_copyFrom cX2_copyFrom 3 none, Cond.fieldLink RX2 11 "CupFountain$State" "cups" "[LCupFountain$Cup;", Cond.fieldLink RX2 17 "CupFountain$State" "tick" "I", Cond.fieldLink RX2 21 "CupFountain$State" "spring" "I", Cond.fieldLink RX2 24 "CupFountain$State" "comesBack" "I"]
def wsL_bestSo_r2 : List Cond := [Cond.fieldLink RX2 27 "CupFountain$State" "day" "I", Cond.fieldLink RX2 30 "CupFountain$State" "basin" "I", Cond.fieldLink RX2 33 "CupFountain$State" "lost" "I", Cond.fieldLink RX2 36 "CupFountain$State" "sprung" "I", Cond.fieldLink RX2 39 "CupFountain$State" "filled" "I", Cond.methodLink RX2 45 yX0_copyFrom, Cond.instanceMethod yX0_copyFrom, Cond.selects RX0 yX0_copyFrom yX0_copyFrom, Cond.initialized RX0, Cond.code yX0_copyFrom cX0_copyFrom 2 none, Cond.fieldLink RX0 9 "CupFountain$Cup" "size" "I", Cond.fieldLink RX0 15 "CupFountain$Cup" "leak" "I", Cond.fieldLink RX0 49 "CupFountain$Cup" "next" "I", Cond.fieldLink RX0 18 "CupFountain$Cup" "water" "I", Cond.fieldLink RX0 21 "CupFountain$Cup" "hour" "I", Cond.fieldLink RX0 24 "CupFountain$Cup" "open" "Z", Cond.fieldLink RX0 28 "CupFountain$Cup" "guarded" "Z", Cond.fieldLink RX0 31 "CupFountain$Cup" "jet" "I", Cond.fieldLink RX0 34 "CupFountain$Cup" "tips" "I", Cond.fieldLink RX0 37 "CupFountain$Cup" "onTime" "I", Cond.fieldLink RX0 40 "CupFountain$Cup" "early" "I", Cond.fieldLink RX0 43 "CupFountain$Cup" "late" "I", Cond.methodLink RX3 110 yX2_find, Cond.instanceMethod yX2_find]
def wsL_bestSo_r3 : List Cond := [Cond.selects RX2 yX2_find yX2_find, Cond.code yX2_find cX2_find 2 (some (.object "CupFountain$Cup")), Cond.methodLink RX3 131 yX2_hourOf, Cond.instanceMethod yX2_hourOf, Cond.selects RX2 yX2_hourOf yX2_hourOf, Cond.code yX2_hourOf cX2_hourOf 2 (some .int), Cond.methodLink RX3 119 yX2_tickOnce, Cond.instanceMethod yX2_tickOnce, Cond.selects RX2 yX2_tickOnce yX2_tickOnce, Cond.code yX2_tickOnce cX2_tickOnce 4 (some .int), Cond.methodLink RX2 101 yX2_hourOf, Cond.methodLink RX2 104 yX2_openGuarded, Cond.instanceMethod yX2_openGuarded, Cond.selects RX2 yX2_openGuarded yX2_openGuarded, Cond.code yX2_openGuarded cX2_openGuarded 3 none, Cond.fieldLink RX2 73 "CupFountain$Cup" "guarded" "Z", Cond.fieldLink RX2 84 "CupFountain$Cup" "hour" "I", Cond.fieldLink RX2 77 "CupFountain$Cup" "open" "Z", Cond.methodLink RX2 107 yX2_springs, Cond.instanceMethod yX2_springs, Cond.selects RX2 yX2_springs yX2_springs, Cond.code yX2_springs cX2_springs 2 none, Cond.methodLink RX2 120 Lib.Math.min.name, Cond.static Lib.Math.min.name]
def wsL_bestSo_r4 : List Cond := [Cond.code Lib.Math.min.name Lib.Math.min.code 2 (some .int), Cond.fieldLink RX2 87 "CupFountain$Cup" "water" "I", Cond.methodLink RX2 110 yX2_tipOrKeep, Cond.instanceMethod yX2_tipOrKeep, Cond.selects RX2 yX2_tipOrKeep yX2_tipOrKeep, Cond.code yX2_tipOrKeep cX2_tipOrKeep 5 (some .int), Cond.fieldLink RX2 126 "CupFountain$Cup" "ready" "I", Cond.fieldLink RX2 61 "CupFountain$Cup" "size" "I", Cond.fieldLink RX2 129 "CupFountain$Cup" "jet" "I", Cond.fieldLink RX2 67 "CupFountain$Cup" "next" "I", Cond.methodLink RX2 132 yX0_runOver, Cond.instanceMethod yX0_runOver, Cond.selects RX0 yX0_runOver yX0_runOver, Cond.code yX0_runOver cX0_runOver 2 (some .int), Cond.methodLink RX2 135 yX0_tip, Cond.instanceMethod yX0_tip, Cond.selects RX0 yX0_tip yX0_tip, Cond.code yX0_tip cX0_tip 4 (some .int), Cond.methodLink RX2 49 yX2_find, Cond.methodLink RX2 114 yX0_drip, Cond.instanceMethod yX0_drip, Cond.selects RX0 yX0_drip yX0_drip, Cond.code yX0_drip cX0_drip 2 (some .int), Cond.methodLink RX0 52 Lib.Math.min.name]
def wsL_bestSo_r5 : List Cond := [Cond.methodLink RX2 117 yX2_shutGuarded, Cond.instanceMethod yX2_shutGuarded, Cond.selects RX2 yX2_shutGuarded yX2_shutGuarded, Cond.code yX2_shutGuarded cX2_shutGuarded 2 none, Cond.methodLink RL 10 yX3_cup, Cond.instanceMethod yX3_cup, Cond.selects RX3 yX3_cup yX3_cup, Cond.code yX3_cup cX3_cup 4 (some .int), Cond.methodLink RX3 114 yX0_tell, Cond.instanceMethod yX0_tell, Cond.selects RX0 yX0_tell yX0_tell, Cond.code yX0_tell cX0_tell 2 (some .int), Cond.static yX3_asNumber, Cond.code yX3_asNumber cX3_asNumber 1 (some .int), Cond.methodLink RL 42 yX3_keep, Cond.instanceMethod yX3_keep, Cond.selects RX3 yX3_keep yX3_keep, Cond.code yX3_keep cX3_keep 1 (some .int), Cond.fieldLink RX3 22 "CupFountain" "snapshot" "LCupFountain$State;", Cond.fieldLink RX3 40 "CupFountain" "hasSnapshot" "Z", Cond.methodLink RL 54 yX3_setCup, Cond.instanceMethod yX3_setCup, Cond.selects RX3 yX3_setCup yX3_setCup, Cond.code yX3_setCup cX3_setCup 4 (some .int)]
def wsL_bestSo_r6 : List Cond := [Cond.fieldLink RX3 19 "CupFountain" "before" "LCupFountain$State;", Cond.methodLink RX3 54 yX2_changeCup, Cond.instanceMethod yX2_changeCup, Cond.selects RX2 yX2_changeCup yX2_changeCup, Cond.code yX2_changeCup cX2_changeCup 6 (some .int), Cond.fieldLink RX2 64 "CupFountain$Cup" "leak" "I", Cond.methodLink RX2 53 yX2_isCupValue, Cond.static yX2_isCupValue, Cond.code yX2_isCupValue cX2_isCupValue 3 (some .boolean), Cond.static yX3_isWithin, Cond.code yX3_isWithin cX3_isWithin 3 (some .boolean), Cond.methodLink RX2 57 yX0_tell, Cond.methodLink RX3 58 yX3_recorded, Cond.instanceMethod yX3_recorded, Cond.selects RX3 yX3_recorded yX3_recorded, Cond.code yX3_recorded cX3_recorded 2 (some .int), Cond.fieldLink RX3 36 "CupFountain" "pastCount" "I", Cond.fieldLink RX3 25 "CupFountain" "past" "[LCupFountain$State;", Cond.methodLink RX3 171 yX3_dropOldest, Cond.instanceMethod yX3_dropOldest, Cond.selects RX3 yX3_dropOldest yX3_dropOldest, Cond.code yX3_dropOldest cX3_dropOldest 3 none, Cond.methodLink RL 39 yX3_tipsAt, Cond.instanceMethod yX3_tipsAt]
def wsL_bestSo_r7 : List Cond := [Cond.selects RX3 yX3_tipsAt yX3_tipsAt, Cond.code yX3_tipsAt cX3_tipsAt 2 (some .int), Cond.methodLink RX3 140 yX3_hourOfTip, Cond.instanceMethod yX3_hourOfTip, Cond.selects RX3 yX3_hourOfTip yX3_hourOfTip, Cond.code yX3_hourOfTip cX3_hourOfTip 3 (some .int), Cond.methodLink RX3 137 yX3_ticksTillTip, Cond.instanceMethod yX3_ticksTillTip, Cond.selects RX3 yX3_ticksTillTip yX3_ticksTillTip, Cond.code yX3_ticksTillTip cX3_ticksTillTip 5 (some .int), Cond.fieldLink RX3 122 "CupFountain$Cup" "tips" "I", Cond.methodLink RL 48 yX3_restore, Cond.instanceMethod yX3_restore, Cond.selects RX3 yX3_restore yX3_restore, Cond.code yX3_restore cX3_restore 1 (some .int)]
def wsL_bestSo : List Cond := .code yL_bestSo cL_bestSo 9 (some .boolean) :: ((wsL_bestSo_r1 ++ (wsL_bestSo_r2 ++ (wsL_bestSo_r3 ++ (wsL_bestSo_r4 ++ (wsL_bestSo_r5 ++ (wsL_bestSo_r6 ++ wsL_bestSo_r7)))))) ++ wsX30 ++ wsX00 ++ wsX20)
def wsL_ifs_r1 : List Cond := [Cond.arrayClass .int, Cond.methodLink RL 58 yL_low, Cond.static yL_low, Cond.initialized RL, Cond.code yL_low cL_low 2 (some .int), Cond.constant RL 9 (2147483647), Cond.methodLink RL 61 yX3_ifTicks, Cond.instanceMethod yX3_ifTicks, Cond.selects RX3 yX3_ifTicks yX3_ifTicks, Cond.initialized RX3, Cond.code yX3_ifTicks cX3_ifTicks 4 (some .int), Cond.fieldLink RX3 16 "CupFountain" "ahead" "LCupFountain$State;", Cond.fieldLink RX3 10 "CupFountain" "now" "LCupFountain$State;", Cond.methodLink RX3 103 yX3_isWithin, Cond.static yX3_isWithin, Cond.code yX3_isWithin cX3_isWithin 3 (some .boolean), Cond.methodLink RX3 50 yX2_copyFrom, Cond.instanceMethod yX2_copyFrom, Cond.selects RX2 yX2_copyFrom yX2_copyFrom, Cond.initialized RX2, Cond.code yX2_copyFrom cX2_copyFrom 3 none, Cond.fieldLink RX2 11 "CupFountain$State" "cups" "[LCupFountain$Cup;", Cond.fieldLink RX2 17 "CupFountain$State" "tick" "I", Cond.fieldLink RX2 21 "CupFountain$State" "spring" "I"]
def wsL_ifs_r2 : List Cond := [Cond.fieldLink RX2 24 "CupFountain$State" "comesBack" "I", Cond.fieldLink RX2 27 "CupFountain$State" "day" "I", Cond.fieldLink RX2 30 "CupFountain$State" "basin" "I", Cond.fieldLink RX2 33 "CupFountain$State" "lost" "I", Cond.fieldLink RX2 36 "CupFountain$State" "sprung" "I", Cond.fieldLink RX2 39 "CupFountain$State" "filled" "I", Cond.methodLink RX2 45 yX0_copyFrom, Cond.instanceMethod yX0_copyFrom, Cond.selects RX0 yX0_copyFrom yX0_copyFrom, Cond.initialized RX0, Cond.code yX0_copyFrom cX0_copyFrom 2 none, Cond.fieldLink RX0 9 "CupFountain$Cup" "size" "I", Cond.fieldLink RX0 15 "CupFountain$Cup" "leak" "I", Cond.fieldLink RX0 49 "CupFountain$Cup" "next" "I", Cond.fieldLink RX0 18 "CupFountain$Cup" "water" "I", Cond.fieldLink RX0 21 "CupFountain$Cup" "hour" "I", Cond.fieldLink RX0 24 "CupFountain$Cup" "open" "Z", Cond.fieldLink RX0 28 "CupFountain$Cup" "guarded" "Z", Cond.fieldLink RX0 31 "CupFountain$Cup" "jet" "I", Cond.fieldLink RX0 34 "CupFountain$Cup" "tips" "I", Cond.fieldLink RX0 37 "CupFountain$Cup" "onTime" "I", Cond.fieldLink RX0 40 "CupFountain$Cup" "early" "I", Cond.fieldLink RX0 43 "CupFountain$Cup" "late" "I", Cond.methodLink RX3 143 yX2_tickOn]
def wsL_ifs_r3 : List Cond := [Cond.instanceMethod yX2_tickOn, Cond.selects RX2 yX2_tickOn yX2_tickOn, Cond.code yX2_tickOn cX2_tickOn 4 (some .int), Cond.methodLink RX2 97 yX2_tickOnce, Cond.instanceMethod yX2_tickOnce, Cond.selects RX2 yX2_tickOnce yX2_tickOnce, Cond.code yX2_tickOnce cX2_tickOnce 4 (some .int), Cond.methodLink RX2 101 yX2_hourOf, Cond.instanceMethod yX2_hourOf, Cond.selects RX2 yX2_hourOf yX2_hourOf, Cond.code yX2_hourOf cX2_hourOf 2 (some .int), Cond.methodLink RX2 104 yX2_openGuarded, Cond.instanceMethod yX2_openGuarded, Cond.selects RX2 yX2_openGuarded yX2_openGuarded, Cond.code yX2_openGuarded cX2_openGuarded 3 none, Cond.fieldLink RX2 73 "CupFountain$Cup" "guarded" "Z", Cond.fieldLink RX2 84 "CupFountain$Cup" "hour" "I", Cond.fieldLink RX2 77 "CupFountain$Cup" "open" "Z", Cond.methodLink RX2 107 yX2_springs, Cond.instanceMethod yX2_springs, Cond.selects RX2 yX2_springs yX2_springs, Cond.code yX2_springs cX2_springs 2 none, Cond.methodLink RX2 120 Lib.Math.min.name, Cond.static Lib.Math.min.name]
def wsL_ifs_r4 : List Cond := [Cond.initialized "java/lang/Math", Cond.code Lib.Math.min.name Lib.Math.min.code 2 (some .int), Cond.fieldLink RX2 87 "CupFountain$Cup" "water" "I", Cond.methodLink RX2 110 yX2_tipOrKeep, Cond.instanceMethod yX2_tipOrKeep, Cond.selects RX2 yX2_tipOrKeep yX2_tipOrKeep, Cond.code yX2_tipOrKeep cX2_tipOrKeep 5 (some .int), Cond.fieldLink RX2 126 "CupFountain$Cup" "ready" "I", Cond.fieldLink RX2 61 "CupFountain$Cup" "size" "I", Cond.fieldLink RX2 129 "CupFountain$Cup" "jet" "I", Cond.fieldLink RX2 67 "CupFountain$Cup" "next" "I", Cond.methodLink RX2 132 yX0_runOver, Cond.instanceMethod yX0_runOver, Cond.selects RX0 yX0_runOver yX0_runOver, Cond.code yX0_runOver cX0_runOver 2 (some .int), Cond.methodLink RX2 135 yX0_tip, Cond.instanceMethod yX0_tip, Cond.selects RX0 yX0_tip yX0_tip, Cond.code yX0_tip cX0_tip 4 (some .int), Cond.methodLink RX2 49 yX2_find, Cond.instanceMethod yX2_find, Cond.selects RX2 yX2_find yX2_find, Cond.code yX2_find cX2_find 2 (some (.object "CupFountain$Cup")), Cond.methodLink RX2 114 yX0_drip]
def wsL_ifs_r5 : List Cond := [Cond.instanceMethod yX0_drip, Cond.selects RX0 yX0_drip yX0_drip, Cond.code yX0_drip cX0_drip 2 (some .int), Cond.methodLink RX0 52 Lib.Math.min.name, Cond.methodLink RX2 117 yX2_shutGuarded, Cond.instanceMethod yX2_shutGuarded, Cond.selects RX2 yX2_shutGuarded yX2_shutGuarded, Cond.code yX2_shutGuarded cX2_shutGuarded 2 none, Cond.methodLink RX3 161 yX2_sumOf, Cond.instanceMethod yX2_sumOf, Cond.selects RX2 yX2_sumOf yX2_sumOf, Cond.code yX2_sumOf cX2_sumOf 4 (some .int), Cond.methodLink RX2 57 yX0_tell, Cond.instanceMethod yX0_tell, Cond.selects RX0 yX0_tell yX0_tell, Cond.code yX0_tell cX0_tell 2 (some .int), Cond.static yX3_asNumber, Cond.code yX3_asNumber cX3_asNumber 1 (some .int), Cond.methodLink RL 10 yX3_cup, Cond.instanceMethod yX3_cup, Cond.selects RX3 yX3_cup yX3_cup, Cond.code yX3_cup cX3_cup 4 (some .int), Cond.methodLink RX3 110 yX2_find, Cond.methodLink RX3 114 yX0_tell]
def wsL_ifs_r6 : List Cond := [Cond.methodLink RL 36 yX3_pass, Cond.instanceMethod yX3_pass, Cond.selects RX3 yX3_pass yX3_pass, Cond.code yX3_pass cX3_pass 2 (some .int), Cond.fieldLink RX3 19 "CupFountain" "before" "LCupFountain$State;", Cond.methodLink RX3 78 yX2_letPass, Cond.instanceMethod yX2_letPass, Cond.selects RX2 yX2_letPass yX2_letPass, Cond.code yX2_letPass cX2_letPass 2 (some .int), Cond.constant RX2 93 (99999), Cond.methodLink RX2 94 yX2_tickOn, Cond.methodLink RX3 58 yX3_recorded, Cond.instanceMethod yX3_recorded, Cond.selects RX3 yX3_recorded yX3_recorded, Cond.code yX3_recorded cX3_recorded 2 (some .int), Cond.fieldLink RX3 36 "CupFountain" "pastCount" "I", Cond.fieldLink RX3 25 "CupFountain" "past" "[LCupFountain$State;", Cond.methodLink RX3 171 yX3_dropOldest, Cond.instanceMethod yX3_dropOldest, Cond.selects RX3 yX3_dropOldest yX3_dropOldest, Cond.code yX3_dropOldest cX3_dropOldest 3 none]
def wsL_ifs : List Cond := .code yL_ifs cL_ifs 9 (some .boolean) :: ((wsL_ifs_r1 ++ (wsL_ifs_r2 ++ (wsL_ifs_r3 ++ (wsL_ifs_r4 ++ (wsL_ifs_r5 ++ wsL_ifs_r6))))) ++ wsX30 ++ wsX20 ++ wsX00)
def wsL_act_r1 : List Cond := [Cond.methodLink RL 58 yL_low, Cond.static yL_low, Cond.initialized RL, Cond.code yL_low cL_low 2 (some .int), Cond.constant RL 9 (2147483647), Cond.methodLink RL 64 yL_ifs, Cond.static yL_ifs, Cond.code yL_ifs cL_ifs 9 (some .boolean), Cond.arrayClass .int, Cond.methodLink RL 61 yX3_ifTicks, Cond.instanceMethod yX3_ifTicks, Cond.selects RX3 yX3_ifTicks yX3_ifTicks, Cond.initialized RX3, Cond.code yX3_ifTicks cX3_ifTicks 4 (some .int), Cond.fieldLink RX3 16 "CupFountain" "ahead" "LCupFountain$State;", Cond.fieldLink RX3 10 "CupFountain" "now" "LCupFountain$State;", Cond.methodLink RX3 103 yX3_isWithin, Cond.static yX3_isWithin, Cond.code yX3_isWithin cX3_isWithin 3 (some .boolean), Cond.methodLink RX3 50 yX2_copyFrom, Cond.instanceMethod yX2_copyFrom, Cond.selects RX2 yX2_copyFrom yX2_copyFrom, Cond.initialized RX2, Cond.code yX2_copyFrom cX2_copyFrom 3 none]
def wsL_act_r2 : List Cond := [Cond.fieldLink RX2 11 "CupFountain$State" "cups" "[LCupFountain$Cup;", Cond.fieldLink RX2 17 "CupFountain$State" "tick" "I", Cond.fieldLink RX2 21 "CupFountain$State" "spring" "I", Cond.fieldLink RX2 24 "CupFountain$State" "comesBack" "I", Cond.fieldLink RX2 27 "CupFountain$State" "day" "I", Cond.fieldLink RX2 30 "CupFountain$State" "basin" "I", Cond.fieldLink RX2 33 "CupFountain$State" "lost" "I", Cond.fieldLink RX2 36 "CupFountain$State" "sprung" "I", Cond.fieldLink RX2 39 "CupFountain$State" "filled" "I", Cond.methodLink RX2 45 yX0_copyFrom, Cond.instanceMethod yX0_copyFrom, Cond.selects RX0 yX0_copyFrom yX0_copyFrom, Cond.initialized RX0, Cond.code yX0_copyFrom cX0_copyFrom 2 none, Cond.fieldLink RX0 9 "CupFountain$Cup" "size" "I", Cond.fieldLink RX0 15 "CupFountain$Cup" "leak" "I", Cond.fieldLink RX0 49 "CupFountain$Cup" "next" "I", Cond.fieldLink RX0 18 "CupFountain$Cup" "water" "I", Cond.fieldLink RX0 21 "CupFountain$Cup" "hour" "I", Cond.fieldLink RX0 24 "CupFountain$Cup" "open" "Z", Cond.fieldLink RX0 28 "CupFountain$Cup" "guarded" "Z", Cond.fieldLink RX0 31 "CupFountain$Cup" "jet" "I", Cond.fieldLink RX0 34 "CupFountain$Cup" "tips" "I", Cond.fieldLink RX0 37 "CupFountain$Cup" "onTime" "I"]
def wsL_act_r3 : List Cond := [Cond.fieldLink RX0 40 "CupFountain$Cup" "early" "I", Cond.fieldLink RX0 43 "CupFountain$Cup" "late" "I", Cond.methodLink RX3 143 yX2_tickOn, Cond.instanceMethod yX2_tickOn, Cond.selects RX2 yX2_tickOn yX2_tickOn, Cond.code yX2_tickOn cX2_tickOn 4 (some .int), Cond.methodLink RX2 97 yX2_tickOnce, Cond.instanceMethod yX2_tickOnce, Cond.selects RX2 yX2_tickOnce yX2_tickOnce, Cond.code yX2_tickOnce cX2_tickOnce 4 (some .int), Cond.methodLink RX2 101 yX2_hourOf, Cond.instanceMethod yX2_hourOf, Cond.selects RX2 yX2_hourOf yX2_hourOf, Cond.code yX2_hourOf cX2_hourOf 2 (some .int), Cond.methodLink RX2 104 yX2_openGuarded, Cond.instanceMethod yX2_openGuarded, Cond.selects RX2 yX2_openGuarded yX2_openGuarded, Cond.code yX2_openGuarded cX2_openGuarded 3 none, Cond.fieldLink RX2 73 "CupFountain$Cup" "guarded" "Z", Cond.fieldLink RX2 84 "CupFountain$Cup" "hour" "I", Cond.fieldLink RX2 77 "CupFountain$Cup" "open" "Z", Cond.methodLink RX2 107 yX2_springs, Cond.instanceMethod yX2_springs, Cond.selects RX2 yX2_springs yX2_springs]
def wsL_act_r4 : List Cond := [Cond.code yX2_springs cX2_springs 2 none, Cond.methodLink RX2 120 Lib.Math.min.name, Cond.static Lib.Math.min.name, Cond.initialized "java/lang/Math", Cond.code Lib.Math.min.name Lib.Math.min.code 2 (some .int), Cond.fieldLink RX2 87 "CupFountain$Cup" "water" "I", Cond.methodLink RX2 110 yX2_tipOrKeep, Cond.instanceMethod yX2_tipOrKeep, Cond.selects RX2 yX2_tipOrKeep yX2_tipOrKeep, Cond.code yX2_tipOrKeep cX2_tipOrKeep 5 (some .int), Cond.fieldLink RX2 126 "CupFountain$Cup" "ready" "I", Cond.fieldLink RX2 61 "CupFountain$Cup" "size" "I", Cond.fieldLink RX2 129 "CupFountain$Cup" "jet" "I", Cond.fieldLink RX2 67 "CupFountain$Cup" "next" "I", Cond.methodLink RX2 132 yX0_runOver, Cond.instanceMethod yX0_runOver, Cond.selects RX0 yX0_runOver yX0_runOver, Cond.code yX0_runOver cX0_runOver 2 (some .int), Cond.methodLink RX2 135 yX0_tip, Cond.instanceMethod yX0_tip, Cond.selects RX0 yX0_tip yX0_tip, Cond.code yX0_tip cX0_tip 4 (some .int), Cond.methodLink RX2 49 yX2_find, Cond.instanceMethod yX2_find]
def wsL_act_r5 : List Cond := [Cond.selects RX2 yX2_find yX2_find, Cond.code yX2_find cX2_find 2 (some (.object "CupFountain$Cup")), Cond.methodLink RX2 114 yX0_drip, Cond.instanceMethod yX0_drip, Cond.selects RX0 yX0_drip yX0_drip, Cond.code yX0_drip cX0_drip 2 (some .int), Cond.methodLink RX0 52 Lib.Math.min.name, Cond.methodLink RX2 117 yX2_shutGuarded, Cond.instanceMethod yX2_shutGuarded, Cond.selects RX2 yX2_shutGuarded yX2_shutGuarded, Cond.code yX2_shutGuarded cX2_shutGuarded 2 none, Cond.methodLink RX3 161 yX2_sumOf, Cond.instanceMethod yX2_sumOf, Cond.selects RX2 yX2_sumOf yX2_sumOf, Cond.code yX2_sumOf cX2_sumOf 4 (some .int), Cond.methodLink RX2 57 yX0_tell, Cond.instanceMethod yX0_tell, Cond.selects RX0 yX0_tell yX0_tell, Cond.code yX0_tell cX0_tell 2 (some .int), Cond.static yX3_asNumber, Cond.code yX3_asNumber cX3_asNumber 1 (some .int), Cond.methodLink RL 10 yX3_cup, Cond.instanceMethod yX3_cup, Cond.selects RX3 yX3_cup yX3_cup]
def wsL_act_r6 : List Cond := [Cond.code yX3_cup cX3_cup 4 (some .int), Cond.methodLink RX3 110 yX2_find, Cond.methodLink RX3 114 yX0_tell, Cond.methodLink RL 36 yX3_pass, Cond.instanceMethod yX3_pass, Cond.selects RX3 yX3_pass yX3_pass, Cond.code yX3_pass cX3_pass 2 (some .int), Cond.fieldLink RX3 19 "CupFountain" "before" "LCupFountain$State;", Cond.methodLink RX3 78 yX2_letPass, Cond.instanceMethod yX2_letPass, Cond.selects RX2 yX2_letPass yX2_letPass, Cond.code yX2_letPass cX2_letPass 2 (some .int), Cond.constant RX2 93 (99999), Cond.methodLink RX2 94 yX2_tickOn, Cond.methodLink RX3 58 yX3_recorded, Cond.instanceMethod yX3_recorded, Cond.selects RX3 yX3_recorded yX3_recorded, Cond.code yX3_recorded cX3_recorded 2 (some .int), Cond.fieldLink RX3 36 "CupFountain" "pastCount" "I", Cond.fieldLink RX3 25 "CupFountain" "past" "[LCupFountain$State;", Cond.methodLink RX3 171 yX3_dropOldest, Cond.instanceMethod yX3_dropOldest, Cond.selects RX3 yX3_dropOldest yX3_dropOldest, Cond.code yX3_dropOldest cX3_dropOldest 3 none]
def wsL_act_r7 : List Cond := [Cond.methodLink RL 67 yL_ticks, Cond.static yL_ticks, Cond.code yL_ticks cL_ticks 10 (some .boolean), Cond.methodLink RL 26 yX3_count, Cond.instanceMethod yX3_count, Cond.selects RX3 yX3_count yX3_count, Cond.code yX3_count cX3_count 2 (some .int), Cond.fieldLink RX3 32 "CupFountain" "plan" "LCupFountain$Plan;", Cond.fieldLink RX3 167 "CupFountain$Plan" "length" "I", Cond.methodLink RX3 170 yX2_tell, Cond.instanceMethod yX2_tell, Cond.selects RX2 yX2_tell yX2_tell, Cond.code yX2_tell cX2_tell 2 (some .int), Cond.methodLink RX2 138 yX2_sumOf, Cond.methodLink RX2 141 yX2_sumFull, Cond.instanceMethod yX2_sumFull, Cond.selects RX2 yX2_sumFull yX2_sumFull, Cond.code yX2_sumFull cX2_sumFull 3 (some .int), Cond.methodLink RX2 144 yX0_isFull, Cond.instanceMethod yX0_isFull, Cond.selects RX0 yX0_isFull yX0_isFull, Cond.code yX0_isFull cX0_isFull 1 (some .boolean), Cond.methodLink RX2 90 yX2_tellSetting, Cond.instanceMethod yX2_tellSetting]
def wsL_act_r8 : List Cond := [Cond.selects RX2 yX2_tellSetting yX2_tellSetting, Cond.code yX2_tellSetting cX2_tellSetting 2 (some .int), Cond.methodLink RL 30 yX3_reason, Cond.instanceMethod yX3_reason, Cond.selects RX3 yX3_reason yX3_reason, Cond.code yX3_reason cX3_reason 4 (some .int), Cond.fieldLink RX3 122 "CupFountain$Cup" "tips" "I", Cond.fieldLink RX3 125 "CupFountain$Cup" "guarded" "Z", Cond.fieldLink RX3 128 "CupFountain$Cup" "hour" "I", Cond.fieldLink RX3 107 "CupFountain$State" "tick" "I", Cond.fieldLink RX3 134 "CupFountain$Cup" "open" "Z", Cond.methodLink RX3 119 yX2_tickOnce, Cond.methodLink RX3 131 yX2_hourOf, Cond.methodLink RL 33 yX3_tipsIn, Cond.instanceMethod yX3_tipsIn, Cond.selects RX3 yX3_tipsIn yX3_tipsIn, Cond.code yX3_tipsIn cX3_tipsIn 2 (some .int), Cond.methodLink RX3 137 yX3_ticksTillTip, Cond.instanceMethod yX3_ticksTillTip, Cond.selects RX3 yX3_ticksTillTip yX3_ticksTillTip, Cond.code yX3_ticksTillTip cX3_ticksTillTip 5 (some .int), Cond.methodLink RL 71 yL_waits, Cond.static yL_waits, Cond.code yL_waits cL_waits 9 (some .boolean)]
def wsL_act_r9 : List Cond := [Cond.methodLink RL 39 yX3_tipsAt, Cond.instanceMethod yX3_tipsAt, Cond.selects RX3 yX3_tipsAt yX3_tipsAt, Cond.code yX3_tipsAt cX3_tipsAt 2 (some .int), Cond.methodLink RX3 140 yX3_hourOfTip, Cond.instanceMethod yX3_hourOfTip, Cond.selects RX3 yX3_hourOfTip yX3_hourOfTip, Cond.code yX3_hourOfTip cX3_hourOfTip 3 (some .int), Cond.methodLink RL 42 yX3_keep, Cond.instanceMethod yX3_keep, Cond.selects RX3 yX3_keep yX3_keep, Cond.code yX3_keep cX3_keep 1 (some .int), Cond.fieldLink RX3 22 "CupFountain" "snapshot" "LCupFountain$State;", Cond.fieldLink RX3 40 "CupFountain" "hasSnapshot" "Z", Cond.methodLink RL 45 yX3_starving, Cond.instanceMethod yX3_starving, Cond.selects RX3 yX3_starving yX3_starving, Cond.code yX3_starving cX3_starving 2 (some .int), Cond.fieldLink RX3 146 "CupFountain$State" "cups" "[LCupFountain$Cup;", Cond.methodLink RL 48 yX3_restore, Cond.instanceMethod yX3_restore, Cond.selects RX3 yX3_restore yX3_restore, Cond.code yX3_restore cX3_restore 1 (some .int), Cond.methodLink RL 74 yL_bestSo]
def wsL_act_r10 : List Cond := [Cond.static yL_bestSo, Cond.code yL_bestSo cL_bestSo 9 (some .boolean), Cond.methodLink RL 51 yX3_bestSize, Cond.instanceMethod yX3_bestSize, Cond.selects RX3 yX3_bestSize yX3_bestSize, Cond.code yX3_bestSize cX3_bestSize 6 (some .int), Cond.fieldLink RX3 150 "CupFountain$Cup" "size" "I", Cond.fieldLink RX3 153 "CupFountain$Cup" "ready" "I", Cond.methodLink RX3 156 Lib.Math.max.name, Cond.static Lib.Math.max.name, Cond.code Lib.Math.max.name Lib.Math.max.code 2 (some .int), Cond.methodLink RL 54 yX3_setCup, Cond.instanceMethod yX3_setCup, Cond.selects RX3 yX3_setCup yX3_setCup, Cond.code yX3_setCup cX3_setCup 4 (some .int), Cond.methodLink RX3 54 yX2_changeCup, Cond.instanceMethod yX2_changeCup, Cond.selects RX2 yX2_changeCup yX2_changeCup, Cond.code yX2_changeCup cX2_changeCup 6 (some .int), Cond.fieldLink RX2 64 "CupFountain$Cup" "leak" "I", Cond.methodLink RX2 53 yX2_isCupValue, Cond.static yX2_isCupValue, Cond.code yX2_isCupValue cX2_isCupValue 3 (some .boolean), Cond.methodLink RL 77 yL_starves]
def wsL_act_r11 : List Cond := [Cond.static yL_starves, Cond.code yL_starves cL_starves 4 (some .boolean), Cond.methodLink RL 80 yX3_turnLock, Cond.instanceMethod yX3_turnLock, Cond.selects RX3 yX3_turnLock yX3_turnLock, Cond.code yX3_turnLock cX3_turnLock 2 (some .int), Cond.methodLink RX3 62 yX2_changeLock, Cond.instanceMethod yX2_changeLock, Cond.selects RX2 yX2_changeLock yX2_changeLock, Cond.code yX2_changeLock cX2_changeLock 3 (some .int), Cond.methodLink RL 83 yX3_setHour, Cond.instanceMethod yX3_setHour, Cond.selects RX3 yX3_setHour yX3_setHour, Cond.code yX3_setHour cX3_setHour 3 (some .int), Cond.methodLink RX3 65 yX2_changeHour, Cond.instanceMethod yX2_changeHour, Cond.selects RX2 yX2_changeHour yX2_changeHour, Cond.code yX2_changeHour cX2_changeHour 5 (some .int), Cond.methodLink RL 86 yX3_guard, Cond.instanceMethod yX3_guard, Cond.selects RX3 yX3_guard yX3_guard, Cond.code yX3_guard cX3_guard 2 (some .int), Cond.methodLink RX3 69 yX2_changeGuard, Cond.instanceMethod yX2_changeGuard]
def wsL_act_r12 : List Cond := [Cond.selects RX2 yX2_changeGuard yX2_changeGuard, Cond.code yX2_changeGuard cX2_changeGuard 3 (some .int), Cond.methodLink RL 89 yX3_fill, Cond.instanceMethod yX3_fill, Cond.selects RX3 yX3_fill yX3_fill, Cond.code yX3_fill cX3_fill 3 (some .int), Cond.methodLink RX3 72 yX2_pour, Cond.instanceMethod yX2_pour, Cond.selects RX2 yX2_pour yX2_pour, Cond.code yX2_pour cX2_pour 4 (some .int), Cond.methodLink RL 92 yX3_set, Cond.instanceMethod yX3_set, Cond.selects RX3 yX3_set yX3_set, Cond.code yX3_set cX3_set 3 (some .int), Cond.methodLink RX3 75 yX2_changeSetting, Cond.instanceMethod yX2_changeSetting, Cond.selects RX2 yX2_changeSetting yX2_changeSetting, Cond.code yX2_changeSetting cX2_changeSetting 4 (some .int)]
def wsL_act : List Cond := .code yL_act cL_act 8 (some .boolean) :: ((wsL_act_r1 ++ (wsL_act_r2 ++ (wsL_act_r3 ++ (wsL_act_r4 ++ (wsL_act_r5 ++ (wsL_act_r6 ++ (wsL_act_r7 ++ (wsL_act_r8 ++ (wsL_act_r9 ++ (wsL_act_r10 ++ (wsL_act_r11 ++ wsL_act_r12))))))))))) ++ wsX30 ++ wsX20 ++ wsX00 ++ wsX10)
def wsL_law_r1 : List Cond := [Cond.classLink RL 11 RX3, Cond.instantiable RX3 10, Cond.initialized RX3, Cond.methodLink RL 95 yX3_init, Cond.instanceMethod yX3_init, Cond.code yX3_init cX3_init 2 none, Cond.methodLink RX3 1 objectInit, Cond.instanceMethod objectInit, Cond.code objectInit ⟨#[0xb1]⟩ 1 none, Cond.classLink RX3 7 RX2, Cond.instantiable RX2 9, Cond.initialized RX2]
def wsL_law_r2 : List Cond := [Cond.fieldLink RX3 10 "CupFountain" "now" "LCupFountain$State;", Cond.fieldLink RX3 16 "CupFountain" "ahead" "LCupFountain$State;", Cond.fieldLink RX3 19 "CupFountain" "before" "LCupFountain$State;", Cond.fieldLink RX3 22 "CupFountain" "snapshot" "LCupFountain$State;", Cond.fieldLink RX3 25 "CupFountain" "past" "[LCupFountain$State;", Cond.classLink RX3 29 RX1, Cond.instantiable RX1 7, Cond.initialized RX1, Cond.fieldLink RX3 32 "CupFountain" "plan" "LCupFountain$Plan;", Cond.fieldLink RX3 36 "CupFountain" "pastCount" "I", Cond.fieldLink RX3 40 "CupFountain" "hasSnapshot" "Z", Cond.fieldLink RX3 44 "CupFountain" "stopNumber" "I"]
def wsL_law_r3 : List Cond := [Cond.fieldLink RX3 47 "CupFountain" "stopError" "I", Cond.methodLink RX3 9 yX2_init, Cond.instanceMethod yX2_init, Cond.code yX2_init cX2_init 2 none, Cond.methodLink RX2 3 objectInit, Cond.classLink RX2 9 RX0, Cond.fieldLink RX2 11 "CupFountain$State" "cups" "[LCupFountain$Cup;", Cond.fieldLink RX2 17 "CupFountain$State" "tick" "I", Cond.fieldLink RX2 21 "CupFountain$State" "spring" "I", Cond.fieldLink RX2 24 "CupFountain$State" "comesBack" "I", Cond.fieldLink RX2 27 "CupFountain$State" "day" "I", Cond.fieldLink RX2 30 "CupFountain$State" "basin" "I"]
def wsL_law_r4 : List Cond := [Cond.fieldLink RX2 33 "CupFountain$State" "lost" "I", Cond.fieldLink RX2 36 "CupFountain$State" "sprung" "I", Cond.fieldLink RX2 39 "CupFountain$State" "filled" "I", Cond.instantiable RX0 13, Cond.initialized RX0, Cond.methodLink RX2 42 yX0_init, Cond.instanceMethod yX0_init, Cond.code yX0_init cX0_init 2 none, Cond.methodLink RX0 3 objectInit, Cond.fieldLink RX0 9 "CupFountain$Cup" "size" "I", Cond.fieldLink RX0 15 "CupFountain$Cup" "leak" "I", Cond.fieldLink RX0 18 "CupFountain$Cup" "water" "I"]
def wsL_law_r5 : List Cond := [Cond.fieldLink RX0 21 "CupFountain$Cup" "hour" "I", Cond.fieldLink RX0 24 "CupFountain$Cup" "open" "Z", Cond.fieldLink RX0 28 "CupFountain$Cup" "guarded" "Z", Cond.fieldLink RX0 31 "CupFountain$Cup" "jet" "I", Cond.fieldLink RX0 34 "CupFountain$Cup" "tips" "I", Cond.fieldLink RX0 37 "CupFountain$Cup" "onTime" "I", Cond.fieldLink RX0 40 "CupFountain$Cup" "early" "I", Cond.fieldLink RX0 43 "CupFountain$Cup" "late" "I", Cond.fieldLink RX0 46 "CupFountain$Cup" "ready" "I", Cond.fieldLink RX0 49 "CupFountain$Cup" "next" "I", Cond.instanceMethod yX1_init, Cond.code yX1_init cX1_init 1 none]
def wsL_law_r6 : List Cond := [Cond.methodLink RX1 3 objectInit, Cond.arrayClass .char, Cond.fieldLink RX1 9 "CupFountain$Plan" "text" "[C", Cond.fieldLink RX1 15 "CupFountain$Plan" "length" "I", Cond.arrayClass .int, Cond.fieldLink RX1 19 "CupFountain$Plan" "kinds" "[I", Cond.fieldLink RX1 23 "CupFountain$Plan" "whose" "[I", Cond.fieldLink RX1 26 "CupFountain$Plan" "numbers" "[I", Cond.fieldLink RX1 29 "CupFountain$Plan" "things" "I", Cond.fieldLink RX1 32 "CupFountain$Plan" "place" "I", Cond.methodLink RL 96 yL_holds, Cond.static yL_holds]
def wsL_law_r7 : List Cond := [Cond.initialized RL, Cond.methodLink RL 16 yX3_highest, Cond.instanceMethod yX3_highest, Cond.selects RX3 yX3_highest yX3_highest, Cond.code yX3_highest cX3_highest 4 (some .int), Cond.fieldLink RX3 146 "CupFountain$State" "cups" "[LCupFountain$Cup;", Cond.fieldLink RX3 164 "CupFountain$Cup" "jet" "I", Cond.methodLink RL 10 yX3_cup, Cond.instanceMethod yX3_cup, Cond.selects RX3 yX3_cup yX3_cup, Cond.code yX3_cup cX3_cup 4 (some .int), Cond.methodLink RX3 110 yX2_find]
def wsL_law_r8 : List Cond := [Cond.instanceMethod yX2_find, Cond.selects RX2 yX2_find yX2_find, Cond.code yX2_find cX2_find 2 (some (.object "CupFountain$Cup")), Cond.methodLink RX3 114 yX0_tell, Cond.instanceMethod yX0_tell, Cond.selects RX0 yX0_tell yX0_tell, Cond.code yX0_tell cX0_tell 2 (some .int), Cond.static yX3_asNumber, Cond.code yX3_asNumber cX3_asNumber 1 (some .int), Cond.methodLink RL 20 yL_isCup, Cond.static yL_isCup, Cond.methodLink RL 26 yX3_count]
def wsL_law_r9 : List Cond := [Cond.instanceMethod yX3_count, Cond.selects RX3 yX3_count yX3_count, Cond.code yX3_count cX3_count 2 (some .int), Cond.fieldLink RX3 167 "CupFountain$Plan" "length" "I", Cond.methodLink RX3 170 yX2_tell, Cond.instanceMethod yX2_tell, Cond.selects RX2 yX2_tell yX2_tell, Cond.code yX2_tell cX2_tell 2 (some .int), Cond.methodLink RX2 101 yX2_hourOf, Cond.instanceMethod yX2_hourOf, Cond.selects RX2 yX2_hourOf yX2_hourOf, Cond.code yX2_hourOf cX2_hourOf 2 (some .int)]
def wsL_law_r10 : List Cond := [Cond.methodLink RX2 138 yX2_sumOf, Cond.instanceMethod yX2_sumOf, Cond.selects RX2 yX2_sumOf yX2_sumOf, Cond.code yX2_sumOf cX2_sumOf 4 (some .int), Cond.methodLink RX2 57 yX0_tell, Cond.methodLink RX2 141 yX2_sumFull, Cond.instanceMethod yX2_sumFull, Cond.selects RX2 yX2_sumFull yX2_sumFull, Cond.code yX2_sumFull cX2_sumFull 3 (some .int), Cond.methodLink RX2 144 yX0_isFull, Cond.instanceMethod yX0_isFull, Cond.selects RX0 yX0_isFull yX0_isFull]
def wsL_law_r11 : List Cond := [Cond.code yX0_isFull cX0_isFull 1 (some .boolean), Cond.methodLink RX2 90 yX2_tellSetting, Cond.instanceMethod yX2_tellSetting, Cond.selects RX2 yX2_tellSetting yX2_tellSetting, Cond.code yX2_tellSetting cX2_tellSetting 2 (some .int), Cond.methodLink RL 45 yX3_starving, Cond.instanceMethod yX3_starving, Cond.selects RX3 yX3_starving yX3_starving, Cond.code yX3_starving cX3_starving 2 (some .int), Cond.fieldLink RX3 122 "CupFountain$Cup" "tips" "I", Cond.methodLink RX3 50 yX2_copyFrom, Cond.instanceMethod yX2_copyFrom]
def wsL_law_r12 : List Cond := [Cond.selects RX2 yX2_copyFrom yX2_copyFrom, Cond.code yX2_copyFrom cX2_copyFrom 3 none, Cond.methodLink RX2 45 yX0_copyFrom, Cond.instanceMethod yX0_copyFrom, Cond.selects RX0 yX0_copyFrom yX0_copyFrom, Cond.code yX0_copyFrom cX0_copyFrom 2 none, Cond.methodLink RX3 143 yX2_tickOn, Cond.instanceMethod yX2_tickOn, Cond.selects RX2 yX2_tickOn yX2_tickOn, Cond.code yX2_tickOn cX2_tickOn 4 (some .int), Cond.methodLink RX2 97 yX2_tickOnce, Cond.instanceMethod yX2_tickOnce]
def wsL_law_r13 : List Cond := [Cond.selects RX2 yX2_tickOnce yX2_tickOnce, Cond.code yX2_tickOnce cX2_tickOnce 4 (some .int), Cond.methodLink RX2 104 yX2_openGuarded, Cond.instanceMethod yX2_openGuarded, Cond.selects RX2 yX2_openGuarded yX2_openGuarded, Cond.code yX2_openGuarded cX2_openGuarded 3 none, Cond.fieldLink RX2 73 "CupFountain$Cup" "guarded" "Z", Cond.fieldLink RX2 84 "CupFountain$Cup" "hour" "I", Cond.fieldLink RX2 77 "CupFountain$Cup" "open" "Z", Cond.methodLink RX2 107 yX2_springs, Cond.instanceMethod yX2_springs, Cond.selects RX2 yX2_springs yX2_springs]
def wsL_law_r14 : List Cond := [Cond.code yX2_springs cX2_springs 2 none, Cond.methodLink RX2 120 Lib.Math.min.name, Cond.static Lib.Math.min.name, Cond.initialized "java/lang/Math", Cond.code Lib.Math.min.name Lib.Math.min.code 2 (some .int), Cond.fieldLink RX2 87 "CupFountain$Cup" "water" "I", Cond.methodLink RX2 110 yX2_tipOrKeep, Cond.instanceMethod yX2_tipOrKeep, Cond.selects RX2 yX2_tipOrKeep yX2_tipOrKeep, Cond.code yX2_tipOrKeep cX2_tipOrKeep 5 (some .int), Cond.fieldLink RX2 126 "CupFountain$Cup" "ready" "I", Cond.fieldLink RX2 61 "CupFountain$Cup" "size" "I"]
def wsL_law_r15 : List Cond := [Cond.fieldLink RX2 129 "CupFountain$Cup" "jet" "I", Cond.fieldLink RX2 67 "CupFountain$Cup" "next" "I", Cond.methodLink RX2 132 yX0_runOver, Cond.instanceMethod yX0_runOver, Cond.selects RX0 yX0_runOver yX0_runOver, Cond.code yX0_runOver cX0_runOver 2 (some .int), Cond.methodLink RX2 135 yX0_tip, Cond.instanceMethod yX0_tip, Cond.selects RX0 yX0_tip yX0_tip, Cond.code yX0_tip cX0_tip 4 (some .int), Cond.methodLink RX2 49 yX2_find, Cond.methodLink RX2 114 yX0_drip]
def wsL_law_r16 : List Cond := [Cond.instanceMethod yX0_drip, Cond.selects RX0 yX0_drip yX0_drip, Cond.code yX0_drip cX0_drip 2 (some .int), Cond.methodLink RX0 52 Lib.Math.min.name, Cond.methodLink RX2 117 yX2_shutGuarded, Cond.instanceMethod yX2_shutGuarded, Cond.selects RX2 yX2_shutGuarded yX2_shutGuarded, Cond.code yX2_shutGuarded cX2_shutGuarded 2 none, Cond.methodLink RL 99 yL_cell, Cond.static yL_cell, Cond.methodLink RL 103 yL_act, Cond.static yL_act]
def wsL_law_r17 : List Cond := [Cond.methodLink RL 58 yL_low, Cond.static yL_low, Cond.methodLink RL 64 yL_ifs, Cond.static yL_ifs, Cond.methodLink RL 61 yX3_ifTicks, Cond.instanceMethod yX3_ifTicks, Cond.selects RX3 yX3_ifTicks yX3_ifTicks, Cond.code yX3_ifTicks cX3_ifTicks 4 (some .int), Cond.methodLink RX3 103 yX3_isWithin, Cond.static yX3_isWithin, Cond.code yX3_isWithin cX3_isWithin 3 (some .boolean), Cond.methodLink RX3 161 yX2_sumOf]
def wsL_law_r18 : List Cond := [Cond.methodLink RL 36 yX3_pass, Cond.instanceMethod yX3_pass, Cond.selects RX3 yX3_pass yX3_pass, Cond.code yX3_pass cX3_pass 2 (some .int), Cond.methodLink RX3 78 yX2_letPass, Cond.instanceMethod yX2_letPass, Cond.selects RX2 yX2_letPass yX2_letPass, Cond.code yX2_letPass cX2_letPass 2 (some .int), Cond.constant RX2 93 (99999), Cond.methodLink RX2 94 yX2_tickOn, Cond.methodLink RX3 58 yX3_recorded, Cond.instanceMethod yX3_recorded]
def wsL_law_r19 : List Cond := [Cond.selects RX3 yX3_recorded yX3_recorded, Cond.code yX3_recorded cX3_recorded 2 (some .int), Cond.methodLink RX3 171 yX3_dropOldest, Cond.instanceMethod yX3_dropOldest, Cond.selects RX3 yX3_dropOldest yX3_dropOldest, Cond.code yX3_dropOldest cX3_dropOldest 3 none, Cond.methodLink RL 67 yL_ticks, Cond.static yL_ticks, Cond.methodLink RL 30 yX3_reason, Cond.instanceMethod yX3_reason, Cond.selects RX3 yX3_reason yX3_reason, Cond.code yX3_reason cX3_reason 4 (some .int)]
def wsL_law_r20 : List Cond := [Cond.fieldLink RX3 125 "CupFountain$Cup" "guarded" "Z", Cond.fieldLink RX3 128 "CupFountain$Cup" "hour" "I", Cond.fieldLink RX3 107 "CupFountain$State" "tick" "I", Cond.fieldLink RX3 134 "CupFountain$Cup" "open" "Z", Cond.methodLink RX3 119 yX2_tickOnce, Cond.methodLink RX3 131 yX2_hourOf, Cond.methodLink RL 33 yX3_tipsIn, Cond.instanceMethod yX3_tipsIn, Cond.selects RX3 yX3_tipsIn yX3_tipsIn, Cond.code yX3_tipsIn cX3_tipsIn 2 (some .int), Cond.methodLink RX3 137 yX3_ticksTillTip, Cond.instanceMethod yX3_ticksTillTip]
def wsL_law_r21 : List Cond := [Cond.selects RX3 yX3_ticksTillTip yX3_ticksTillTip, Cond.code yX3_ticksTillTip cX3_ticksTillTip 5 (some .int), Cond.methodLink RL 71 yL_waits, Cond.static yL_waits, Cond.methodLink RL 39 yX3_tipsAt, Cond.instanceMethod yX3_tipsAt, Cond.selects RX3 yX3_tipsAt yX3_tipsAt, Cond.code yX3_tipsAt cX3_tipsAt 2 (some .int), Cond.methodLink RX3 140 yX3_hourOfTip, Cond.instanceMethod yX3_hourOfTip, Cond.selects RX3 yX3_hourOfTip yX3_hourOfTip, Cond.code yX3_hourOfTip cX3_hourOfTip 3 (some .int)]
def wsL_law_r22 : List Cond := [Cond.methodLink RL 42 yX3_keep, Cond.instanceMethod yX3_keep, Cond.selects RX3 yX3_keep yX3_keep, Cond.code yX3_keep cX3_keep 1 (some .int), Cond.methodLink RL 48 yX3_restore, Cond.instanceMethod yX3_restore, Cond.selects RX3 yX3_restore yX3_restore, Cond.code yX3_restore cX3_restore 1 (some .int), Cond.methodLink RL 74 yL_bestSo, Cond.static yL_bestSo, Cond.methodLink RL 51 yX3_bestSize, Cond.instanceMethod yX3_bestSize]
def wsL_law_r23 : List Cond := [Cond.selects RX3 yX3_bestSize yX3_bestSize, Cond.code yX3_bestSize cX3_bestSize 6 (some .int), Cond.fieldLink RX3 150 "CupFountain$Cup" "size" "I", Cond.fieldLink RX3 153 "CupFountain$Cup" "ready" "I", Cond.methodLink RX3 156 Lib.Math.max.name, Cond.static Lib.Math.max.name, Cond.code Lib.Math.max.name Lib.Math.max.code 2 (some .int), Cond.methodLink RL 54 yX3_setCup, Cond.instanceMethod yX3_setCup, Cond.selects RX3 yX3_setCup yX3_setCup, Cond.code yX3_setCup cX3_setCup 4 (some .int), Cond.methodLink RX3 54 yX2_changeCup]
def wsL_law_r24 : List Cond := [Cond.instanceMethod yX2_changeCup, Cond.selects RX2 yX2_changeCup yX2_changeCup, Cond.code yX2_changeCup cX2_changeCup 6 (some .int), Cond.fieldLink RX2 64 "CupFountain$Cup" "leak" "I", Cond.methodLink RX2 53 yX2_isCupValue, Cond.static yX2_isCupValue, Cond.code yX2_isCupValue cX2_isCupValue 3 (some .boolean), Cond.methodLink RL 77 yL_starves, Cond.static yL_starves, Cond.methodLink RL 80 yX3_turnLock, Cond.instanceMethod yX3_turnLock, Cond.selects RX3 yX3_turnLock yX3_turnLock]
def wsL_law_r25 : List Cond := [Cond.code yX3_turnLock cX3_turnLock 2 (some .int), Cond.methodLink RX3 62 yX2_changeLock, Cond.instanceMethod yX2_changeLock, Cond.selects RX2 yX2_changeLock yX2_changeLock, Cond.code yX2_changeLock cX2_changeLock 3 (some .int), Cond.methodLink RL 83 yX3_setHour, Cond.instanceMethod yX3_setHour, Cond.selects RX3 yX3_setHour yX3_setHour, Cond.code yX3_setHour cX3_setHour 3 (some .int), Cond.methodLink RX3 65 yX2_changeHour, Cond.instanceMethod yX2_changeHour, Cond.selects RX2 yX2_changeHour yX2_changeHour]
def wsL_law_r26 : List Cond := [Cond.code yX2_changeHour cX2_changeHour 5 (some .int), Cond.methodLink RL 86 yX3_guard, Cond.instanceMethod yX3_guard, Cond.selects RX3 yX3_guard yX3_guard, Cond.code yX3_guard cX3_guard 2 (some .int), Cond.methodLink RX3 69 yX2_changeGuard, Cond.instanceMethod yX2_changeGuard, Cond.selects RX2 yX2_changeGuard yX2_changeGuard, Cond.code yX2_changeGuard cX2_changeGuard 3 (some .int), Cond.methodLink RL 89 yX3_fill, Cond.instanceMethod yX3_fill, Cond.selects RX3 yX3_fill yX3_fill]
def wsL_law_r27 : List Cond := [Cond.code yX3_fill cX3_fill 3 (some .int), Cond.methodLink RX3 72 yX2_pour, Cond.instanceMethod yX2_pour, Cond.selects RX2 yX2_pour yX2_pour, Cond.code yX2_pour cX2_pour 4 (some .int), Cond.methodLink RL 92 yX3_set, Cond.instanceMethod yX3_set, Cond.selects RX3 yX3_set yX3_set, Cond.code yX3_set cX3_set 3 (some .int), Cond.methodLink RX3 75 yX2_changeSetting, Cond.instanceMethod yX2_changeSetting, Cond.selects RX2 yX2_changeSetting yX2_changeSetting]
def wsL_law_r28 : List Cond := [Cond.code yX2_changeSetting cX2_changeSetting 4 (some .int)]
def wsL_law_r29 : List Cond := [Cond.code yL_holds cL_holds 7 (some .boolean)]
def wsL_law_r30 : List Cond := [Cond.code yL_isCup cL_isCup 5 (some .boolean)]
def wsL_law_r31 : List Cond := [Cond.code yL_cell cL_cell 2 (some .int)]
def wsL_law_r32 : List Cond := [Cond.constant RL 7 (833214435)]
def wsL_law_r33 : List Cond := [Cond.constant RL 8 (801485273)]
def wsL_law_r34 : List Cond := [Cond.code yL_act cL_act 8 (some .boolean)]
def wsL_law_r35 : List Cond := [Cond.code yL_low cL_low 2 (some .int)]
def wsL_law_r36 : List Cond := [Cond.constant RL 9 (2147483647)]
def wsL_law_r37 : List Cond := [Cond.code yL_ifs cL_ifs 9 (some .boolean)]
def wsL_law_r38 : List Cond := [Cond.code yL_ticks cL_ticks 10 (some .boolean)]
def wsL_law_r39 : List Cond := [Cond.code yL_waits cL_waits 9 (some .boolean)]
def wsL_law_r40 : List Cond := [Cond.code yL_bestSo cL_bestSo 9 (some .boolean)]
def wsL_law_r41 : List Cond := [Cond.code yL_starves cL_starves 4 (some .boolean)]
def wsL_law : List Cond := (wsL_law_r1 ++ (wsL_law_r2 ++ (wsL_law_r3 ++ (wsL_law_r4 ++ (wsL_law_r5 ++ (wsL_law_r6 ++ (wsL_law_r7 ++ (wsL_law_r8 ++ (wsL_law_r9 ++ (wsL_law_r10 ++ (wsL_law_r11 ++ (wsL_law_r12 ++ (wsL_law_r13 ++ (wsL_law_r14 ++ (wsL_law_r15 ++ (wsL_law_r16 ++ (wsL_law_r17 ++ (wsL_law_r18 ++ (wsL_law_r19 ++ (wsL_law_r20 ++ (wsL_law_r21 ++ (wsL_law_r22 ++ (wsL_law_r23 ++ (wsL_law_r24 ++ (wsL_law_r25 ++ (wsL_law_r26 ++ (wsL_law_r27 ++ (wsL_law_r28 ++ (wsL_law_r29 ++ (wsL_law_r30 ++ (wsL_law_r31 ++ (wsL_law_r32 ++ (wsL_law_r33 ++ (wsL_law_r34 ++ (wsL_law_r35 ++ (wsL_law_r36 ++ (wsL_law_r37 ++ (wsL_law_r38 ++ (wsL_law_r39 ++ (wsL_law_r40 ++ wsL_law_r41)))))))))))))))))))))))))))))))))))))))) ++ wsX30 ++ wsX20 ++ wsX10 ++ wsX00 ++ ([] : List Cond)
theorem dJ9_max_7cf53_0 : decode cJ9_max_7cf53 0 = .ok (.iload_n 0, 1) := by decide +kernel
theorem dJ9_max_7cf53_1 : decode cJ9_max_7cf53 1 = .ok (.iload_n 1, 1) := by decide +kernel
theorem dJ9_max_7cf53_2 : decode cJ9_max_7cf53 2 = .ok (.if_icmp .lt 7, 3) := by decide +kernel
theorem dJ9_max_7cf53_5 : decode cJ9_max_7cf53 5 = .ok (.iload_n 0, 1) := by decide +kernel
theorem dJ9_max_7cf53_6 : decode cJ9_max_7cf53 6 = .ok (.goto 4, 3) := by decide +kernel
theorem dJ9_max_7cf53_9 : decode cJ9_max_7cf53 9 = .ok (.iload_n 1, 1) := by decide +kernel
theorem dJ9_max_7cf53_10 : decode cJ9_max_7cf53 10 = .ok (.ireturn, 1) := by decide +kernel
theorem dJ9_min_7cf53_0 : decode cJ9_min_7cf53 0 = .ok (.iload_n 0, 1) := by decide +kernel
theorem dJ9_min_7cf53_1 : decode cJ9_min_7cf53 1 = .ok (.iload_n 1, 1) := by decide +kernel
theorem dJ9_min_7cf53_2 : decode cJ9_min_7cf53 2 = .ok (.if_icmp .gt 7, 3) := by decide +kernel
theorem dJ9_min_7cf53_5 : decode cJ9_min_7cf53 5 = .ok (.iload_n 0, 1) := by decide +kernel
theorem dJ9_min_7cf53_6 : decode cJ9_min_7cf53 6 = .ok (.goto 4, 3) := by decide +kernel
theorem dJ9_min_7cf53_9 : decode cJ9_min_7cf53 9 = .ok (.iload_n 1, 1) := by decide +kernel
theorem dJ9_min_7cf53_10 : decode cJ9_min_7cf53 10 = .ok (.ireturn, 1) := by decide +kernel
abbrev vwCl : List vw_C := [(RX0, TX0, 13), (RX1, TX1, 7), (RX2, TX2, 9), (RX3, TX3, 10)]
theorem zin_r {big : List Cond} (ws : List Cond) (ps : List Nat) (hp : ws = ps.filterMap (fun i => big[i]?)) : ∀ w ∈ ws, w ∈ big := by
  intro w hw
  rw [hp] at hw
  obtain ⟨i, -, hi⟩ := List.mem_filterMap.mp hw
  exact List.mem_of_getElem? hi
set_option maxRecDepth 20000 in
theorem wsL_law_r1_in : ∀ w ∈ wsL_law_r1, w ∈ lw_tbl := zin_r _ [16, 17, 11, 18, 19, 20, 21, 22, 23, 24, 25, 12] (by decide +kernel)
set_option maxRecDepth 20000 in
theorem wsL_law_r2_in : ∀ w ∈ wsL_law_r2, w ∈ lw_tbl := zin_r _ [155, 156, 157, 158, 159, 124, 125, 14, 160, 161, 162, 163] (by decide +kernel)
set_option maxRecDepth 20000 in
theorem wsL_law_r3_in : ∀ w ∈ wsL_law_r3, w ∈ lw_tbl := zin_r _ [164, 26, 27, 28, 29, 30, 93, 95, 97, 98, 99, 100] (by decide +kernel)
set_option maxRecDepth 20000 in
theorem wsL_law_r4_in : ∀ w ∈ wsL_law_r4, w ∈ lw_tbl := zin_r _ [101, 102, 103, 32, 13, 33, 34, 35, 36, 37, 40, 44] (by decide +kernel)
set_option maxRecDepth 20000 in
theorem wsL_law_r5_in : ∀ w ∈ wsL_law_r5, w ∈ lw_tbl := zin_r _ [46, 49, 52, 55, 58, 60, 61, 62, 63, 42, 127, 128] (by decide +kernel)
set_option maxRecDepth 20000 in
theorem wsL_law_r6_in : ∀ w ∈ wsL_law_r6, w ∈ lw_tbl := zin_r _ [129, 153, 130, 131, 154, 133, 134, 135, 136, 137, 259, 260] (by decide +kernel)
set_option maxRecDepth 20000 in
theorem wsL_law_r7_in : ∀ w ∈ wsL_law_r7, w ∈ lw_tbl := zin_r _ [10, 246, 247, 248, 249, 94, 57, 262, 263, 264, 265, 266] (by decide +kernel)
set_option maxRecDepth 20000 in
theorem wsL_law_r8_in : ∀ w ∈ wsL_law_r8, w ∈ lw_tbl := zin_r _ [234, 235, 236, 267, 268, 269, 270, 272, 273, 274, 275, 277] (by decide +kernel)
set_option maxRecDepth 20000 in
theorem wsL_law_r9_in : ∀ w ∈ wsL_law_r9, w ∈ lw_tbl := zin_r _ [278, 279, 280, 132, 281, 282, 283, 284, 206, 207, 208, 209] (by decide +kernel)
set_option maxRecDepth 20000 in
theorem wsL_law_r10_in : ∀ w ∈ wsL_law_r10, w ∈ lw_tbl := zin_r _ [285, 286, 287, 288, 289, 290, 292, 4, 293, 294, 295, 296] (by decide +kernel)
set_option maxRecDepth 20000 in
theorem wsL_law_r11_in : ∀ w ∈ wsL_law_r11, w ∈ lw_tbl := zin_r _ [297, 299, 301, 5, 302, 186, 187, 188, 189, 59, 190, 191] (by decide +kernel)
set_option maxRecDepth 20000 in
theorem wsL_law_r12_in : ∀ w ∈ wsL_law_r12, w ∈ lw_tbl := zin_r _ [192, 193, 194, 195, 196, 197, 198, 199, 200, 201, 202, 203] (by decide +kernel)
set_option maxRecDepth 20000 in
theorem wsL_law_r13_in : ∀ w ∈ wsL_law_r13, w ∈ lw_tbl := zin_r _ [204, 205, 210, 212, 0, 213, 53, 47, 50, 214, 216, 1] (by decide +kernel)
set_option maxRecDepth 20000 in
theorem wsL_law_r14_in : ∀ w ∈ wsL_law_r14, w ∈ lw_tbl := zin_r _ [217, 218, 219, 15, 220, 45, 221, 223, 2, 224, 64, 38] (by decide +kernel)
set_option maxRecDepth 20000 in
theorem wsL_law_r15_in : ∀ w ∈ wsL_law_r15, w ∈ lw_tbl := zin_r _ [56, 43, 225, 226, 227, 228, 229, 230, 231, 232, 233, 237] (by decide +kernel)
set_option maxRecDepth 20000 in
theorem wsL_law_r16_in : ∀ w ∈ wsL_law_r16, w ∈ lw_tbl := zin_r _ [238, 239, 240, 241, 242, 244, 3, 245, 250, 251, 363, 364] (by decide +kernel)
set_option maxRecDepth 20000 in
theorem wsL_law_r17_in : ∀ w ∈ wsL_law_r17, w ∈ lw_tbl := zin_r _ [255, 256, 366, 367, 369, 370, 371, 372, 373, 329, 330, 374] (by decide +kernel)
set_option maxRecDepth 20000 in
theorem wsL_law_r18_in : ∀ w ∈ wsL_law_r18, w ∈ lw_tbl := zin_r _ [320, 321, 322, 323, 324, 325, 326, 327, 331, 332, 333, 335] (by decide +kernel)
set_option maxRecDepth 20000 in
theorem wsL_law_r19_in : ∀ w ∈ wsL_law_r19, w ∈ lw_tbl := zin_r _ [7, 336, 337, 339, 8, 340, 303, 304, 306, 307, 308, 309] (by decide +kernel)
set_option maxRecDepth 20000 in
theorem wsL_law_r20_in : ∀ w ∈ wsL_law_r20, w ∈ lw_tbl := zin_r _ [54, 48, 96, 51, 310, 311, 312, 313, 314, 315, 316, 318] (by decide +kernel)
set_option maxRecDepth 20000 in
theorem wsL_law_r21_in : ∀ w ∈ wsL_law_r21, w ∈ lw_tbl := zin_r _ [6, 319, 341, 342, 344, 345, 346, 347, 348, 350, 9, 351] (by decide +kernel)
set_option maxRecDepth 20000 in
theorem wsL_law_r22_in : ∀ w ∈ wsL_law_r22, w ∈ lw_tbl := zin_r _ [352, 353, 354, 355, 356, 357, 358, 359, 375, 376, 378, 379] (by decide +kernel)
set_option maxRecDepth 20000 in
theorem wsL_law_r23_in : ∀ w ∈ wsL_law_r23, w ∈ lw_tbl := zin_r _ [380, 381, 39, 65, 382, 383, 384, 385, 386, 387, 388, 389] (by decide +kernel)
set_option maxRecDepth 20000 in
theorem wsL_law_r24_in : ∀ w ∈ wsL_law_r24, w ∈ lw_tbl := zin_r _ [390, 391, 392, 41, 393, 394, 395, 360, 361, 396, 397, 398] (by decide +kernel)
set_option maxRecDepth 20000 in
theorem wsL_law_r25_in : ∀ w ∈ wsL_law_r25, w ∈ lw_tbl := zin_r _ [399, 400, 401, 402, 403, 404, 405, 406, 407, 408, 409, 410] (by decide +kernel)
set_option maxRecDepth 20000 in
theorem wsL_law_r26_in : ∀ w ∈ wsL_law_r26, w ∈ lw_tbl := zin_r _ [411, 412, 413, 414, 415, 416, 417, 418, 419, 420, 421, 422] (by decide +kernel)
set_option maxRecDepth 20000 in
theorem wsL_law_r27_in : ∀ w ∈ wsL_law_r27, w ∈ lw_tbl := zin_r _ [423, 424, 425, 426, 427, 428, 429, 430, 431, 432, 433, 434] (by decide +kernel)
set_option maxRecDepth 20000 in
theorem wsL_law_r28_in : ∀ w ∈ wsL_law_r28, w ∈ lw_tbl := zin_r _ [435] (by decide +kernel)
set_option maxRecDepth 20000 in
theorem wsL_law_r29_in : ∀ w ∈ wsL_law_r29, w ∈ lw_tbl := fun w h => by rw [List.mem_singleton.mp h]; exact List.mem_of_getElem? (i := 261) rfl
set_option maxRecDepth 20000 in
theorem wsL_law_r30_in : ∀ w ∈ wsL_law_r30, w ∈ lw_tbl := fun w h => by rw [List.mem_singleton.mp h]; exact List.mem_of_getElem? (i := 276) rfl
set_option maxRecDepth 20000 in
theorem wsL_law_r31_in : ∀ w ∈ wsL_law_r31, w ∈ lw_tbl := fun w h => by rw [List.mem_singleton.mp h]; exact List.mem_of_getElem? (i := 252) rfl
set_option maxRecDepth 20000 in
theorem wsL_law_r32_in : ∀ w ∈ wsL_law_r32, w ∈ lw_tbl := fun w h => by rw [List.mem_singleton.mp h]; exact List.mem_of_getElem? (i := 253) rfl
set_option maxRecDepth 20000 in
theorem wsL_law_r33_in : ∀ w ∈ wsL_law_r33, w ∈ lw_tbl := fun w h => by rw [List.mem_singleton.mp h]; exact List.mem_of_getElem? (i := 254) rfl
set_option maxRecDepth 20000 in
theorem wsL_law_r34_in : ∀ w ∈ wsL_law_r34, w ∈ lw_tbl := fun w h => by rw [List.mem_singleton.mp h]; exact List.mem_of_getElem? (i := 365) rfl
set_option maxRecDepth 20000 in
theorem wsL_law_r35_in : ∀ w ∈ wsL_law_r35, w ∈ lw_tbl := fun w h => by rw [List.mem_singleton.mp h]; exact List.mem_of_getElem? (i := 257) rfl
set_option maxRecDepth 20000 in
theorem wsL_law_r36_in : ∀ w ∈ wsL_law_r36, w ∈ lw_tbl := fun w h => by rw [List.mem_singleton.mp h]; exact List.mem_of_getElem? (i := 258) rfl
set_option maxRecDepth 20000 in
theorem wsL_law_r37_in : ∀ w ∈ wsL_law_r37, w ∈ lw_tbl := fun w h => by rw [List.mem_singleton.mp h]; exact List.mem_of_getElem? (i := 368) rfl
set_option maxRecDepth 20000 in
theorem wsL_law_r38_in : ∀ w ∈ wsL_law_r38, w ∈ lw_tbl := fun w h => by rw [List.mem_singleton.mp h]; exact List.mem_of_getElem? (i := 305) rfl
set_option maxRecDepth 20000 in
theorem wsL_law_r39_in : ∀ w ∈ wsL_law_r39, w ∈ lw_tbl := fun w h => by rw [List.mem_singleton.mp h]; exact List.mem_of_getElem? (i := 343) rfl
set_option maxRecDepth 20000 in
theorem wsL_law_r40_in : ∀ w ∈ wsL_law_r40, w ∈ lw_tbl := fun w h => by rw [List.mem_singleton.mp h]; exact List.mem_of_getElem? (i := 377) rfl
set_option maxRecDepth 20000 in
theorem wsL_law_r41_in : ∀ w ∈ wsL_law_r41, w ∈ lw_tbl := fun w h => by rw [List.mem_singleton.mp h]; exact List.mem_of_getElem? (i := 362) rfl
set_option maxRecDepth 20000 in
theorem wsX00_in : ∀ w ∈ wsX00, w ∈ lw_tbl := zin_r _ [66, 68, 70, 72, 74, 76, 78, 80, 82, 84, 86, 88, 90] (by decide +kernel)
set_option maxRecDepth 20000 in
theorem wsX10_in : ∀ w ∈ wsX10, w ∈ lw_tbl := zin_r _ [138, 140, 142, 144, 146, 148, 150] (by decide +kernel)
set_option maxRecDepth 20000 in
theorem wsX20_in : ∀ w ∈ wsX20, w ∈ lw_tbl := zin_r _ [104, 106, 108, 110, 112, 114, 116, 118, 120] (by decide +kernel)
set_option maxRecDepth 20000 in
theorem wsX30_in : ∀ w ∈ wsX30, w ∈ lw_tbl := zin_r _ [165, 167, 169, 171, 173, 175, 177, 179, 181, 183] (by decide +kernel)
set_option maxRecDepth 20000 in
theorem wsL_law_in : ∀ w ∈ wsL_law, w ∈ lw_tbl := by
  unfold wsL_law
  exact List.forall_mem_append.mpr ⟨List.forall_mem_append.mpr ⟨List.forall_mem_append.mpr ⟨List.forall_mem_append.mpr ⟨List.forall_mem_append.mpr ⟨List.forall_mem_append.mpr ⟨wsL_law_r1_in, List.forall_mem_append.mpr ⟨wsL_law_r2_in, List.forall_mem_append.mpr ⟨wsL_law_r3_in, List.forall_mem_append.mpr ⟨wsL_law_r4_in, List.forall_mem_append.mpr ⟨wsL_law_r5_in, List.forall_mem_append.mpr ⟨wsL_law_r6_in, List.forall_mem_append.mpr ⟨wsL_law_r7_in, List.forall_mem_append.mpr ⟨wsL_law_r8_in, List.forall_mem_append.mpr ⟨wsL_law_r9_in, List.forall_mem_append.mpr ⟨wsL_law_r10_in, List.forall_mem_append.mpr ⟨wsL_law_r11_in, List.forall_mem_append.mpr ⟨wsL_law_r12_in, List.forall_mem_append.mpr ⟨wsL_law_r13_in, List.forall_mem_append.mpr ⟨wsL_law_r14_in, List.forall_mem_append.mpr ⟨wsL_law_r15_in, List.forall_mem_append.mpr ⟨wsL_law_r16_in, List.forall_mem_append.mpr ⟨wsL_law_r17_in, List.forall_mem_append.mpr ⟨wsL_law_r18_in, List.forall_mem_append.mpr ⟨wsL_law_r19_in, List.forall_mem_append.mpr ⟨wsL_law_r20_in, List.forall_mem_append.mpr ⟨wsL_law_r21_in, List.forall_mem_append.mpr ⟨wsL_law_r22_in, List.forall_mem_append.mpr ⟨wsL_law_r23_in, List.forall_mem_append.mpr ⟨wsL_law_r24_in, List.forall_mem_append.mpr ⟨wsL_law_r25_in, List.forall_mem_append.mpr ⟨wsL_law_r26_in, List.forall_mem_append.mpr ⟨wsL_law_r27_in, List.forall_mem_append.mpr ⟨wsL_law_r28_in, List.forall_mem_append.mpr ⟨wsL_law_r29_in, List.forall_mem_append.mpr ⟨wsL_law_r30_in, List.forall_mem_append.mpr ⟨wsL_law_r31_in, List.forall_mem_append.mpr ⟨wsL_law_r32_in, List.forall_mem_append.mpr ⟨wsL_law_r33_in, List.forall_mem_append.mpr ⟨wsL_law_r34_in, List.forall_mem_append.mpr ⟨wsL_law_r35_in, List.forall_mem_append.mpr ⟨wsL_law_r36_in, List.forall_mem_append.mpr ⟨wsL_law_r37_in, List.forall_mem_append.mpr ⟨wsL_law_r38_in, List.forall_mem_append.mpr ⟨wsL_law_r39_in, List.forall_mem_append.mpr ⟨wsL_law_r40_in, wsL_law_r41_in⟩⟩⟩⟩⟩⟩⟩⟩⟩⟩⟩⟩⟩⟩⟩⟩⟩⟩⟩⟩⟩⟩⟩⟩⟩⟩⟩⟩⟩⟩⟩⟩⟩⟩⟩⟩⟩⟩⟩⟩, wsX30_in⟩, wsX20_in⟩, wsX10_in⟩, wsX00_in⟩, (fun _ h => absurd h List.not_mem_nil)⟩
