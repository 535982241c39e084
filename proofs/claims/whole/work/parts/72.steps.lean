/-! ===== a step of the law: the two calls answer alike ===== -/
def JI (ca : Nat → ClassId) (F o m : Nat) (wc wm : va_W) : Prop := ∃ (pa : Nat) (f : Nat → Int32) (sa : Nat → Nat → Nat) (sp : Nat → HC) (sz : Nat → Nat → Int32) (q : Nat → Nat) (g tx kd wh nu : Nat → Int32) (a : Nat → Nat) (f' hi sn be ti : Nat → Int32) (n ln : Nat),
  wc = wF ca o pa f sa sp sz q g tx kd wh nu ∧ a 0 = m ∧ wm = mm ca a f' (sp 0).1 (sp 0).2 hi sn be tx ti ∧ JP F f sp g f' hi sn n ln
def ST (l : Launch) (G : va_G) (ca : Nat → ClassId) (y1 : MethodName) (W1 : List Cond) (r1 : Room) (y2 : MethodName) (W2 : List Cond) (r2 : Room) (as : List Value) (F o m : Nat) (wc wm : va_W) : Prop :=
  ∃ (v : Int32) (wc' wm' : va_W), Zc l G ca y1 W1 r1 (.ref o :: as) wc (some (.int v)) wc' ∧ Zc l G ca y2 W2 r2 (.ref m :: as) wm (some (.int v)) wm' ∧ JI ca (F + 6000) o m wc' wm'
section STEPS
variable {l : Launch} {G : va_G} {ca : Nat → ClassId} {F o m : Nat} {wc wm : va_W}

theorem s_setCup (hF : F < 2 ^ 25) (h : JI ca F o m wc wm) (cup which value : Int32) : ST l G ca yX3_setCup (zws yX3_setCup cX3_setCup 4 (some .int)) rm_X3_setCup yX4_setCup (zws yX4_setCup cX4_setCup 4 (some .int)) rm_X4_setCup [.int cup, .int which, .int value] F o m wc wm := by
  obtain ⟨pa, f, sa, sp, sz, q, g, tx, kd, wh, nu, a, f', hi, sn, be, ti, n, ln, rfl, rfl, rfl, hj⟩ := h
  obtain ⟨hs, ⟨hn, h6, h2, hpa⟩, hsn, ⟨hln, hg1, h7⟩, hsp⟩ := id hj
  obtain ⟨n', j1, e0⟩ := hj.act (F' := F + 6000) (by omega) ((hs.setc cup which value).mono (by omega)) (setR (sp 0).2 cup which value)
  refine ⟨_, _, _, k_X3_setCup l G ca o pa f sa sp sz q g tx kd wh nu n hn h6 hs.1.bb cup which value, k_X4_setCup l G ca a f' (sp 0).1 (sp 0).2 hi sn be tx ti cup which value n hn h2, ?_⟩
  refine ⟨pa, _, _, _, _, q, g, tx, kd, wh, nu, a, _, _, sn, enc (sp 0).1 (sp 0).2, ti, n', ln, rfl, rfl, ?_, j1⟩
  rw [e0]

theorem s_turnLock (hF : F < 2 ^ 25) (h : JI ca F o m wc wm) (cup : Int32) : ST l G ca yX3_turnLock (zws yX3_turnLock cX3_turnLock 2 (some .int)) rm_X3_turnLock yX4_turnLock (zws yX4_turnLock cX4_turnLock 2 (some .int)) rm_X4_turnLock [.int cup] F o m wc wm := by
  obtain ⟨pa, f, sa, sp, sz, q, g, tx, kd, wh, nu, a, f', hi, sn, be, ti, n, ln, rfl, rfl, rfl, hj⟩ := h
  obtain ⟨hs, ⟨hn, h6, h2, hpa⟩, hsn, ⟨hln, hg1, h7⟩, hsp⟩ := id hj
  obtain ⟨n', j1, e0⟩ := hj.act (F' := F + 6000) (by omega) ((hs.turn cup).mono (by omega)) (turnR (sp 0).2 cup)
  refine ⟨_, _, _, k_X3_turnLock l G ca o pa f sa sp sz q g tx kd wh nu n hn h6 hs.1.bb cup, k_X4_turnLock l G ca a f' (sp 0).1 (sp 0).2 hi sn be tx ti cup n hn h2, ?_⟩
  refine ⟨pa, _, _, _, _, q, g, tx, kd, wh, nu, a, _, _, sn, enc (sp 0).1 (sp 0).2, ti, n', ln, rfl, rfl, ?_, j1⟩
  rw [e0]

theorem s_setHour (hF : F < 2 ^ 25) (h : JI ca F o m wc wm) (cup hour : Int32) : ST l G ca yX3_setHour (zws yX3_setHour cX3_setHour 3 (some .int)) rm_X3_setHour yX4_setHour (zws yX4_setHour cX4_setHour 3 (some .int)) rm_X4_setHour [.int cup, .int hour] F o m wc wm := by
  obtain ⟨pa, f, sa, sp, sz, q, g, tx, kd, wh, nu, a, f', hi, sn, be, ti, n, ln, rfl, rfl, rfl, hj⟩ := h
  obtain ⟨hs, ⟨hn, h6, h2, hpa⟩, hsn, ⟨hln, hg1, h7⟩, hsp⟩ := id hj
  obtain ⟨n', j1, e0⟩ := hj.act (F' := F + 6000) (by omega) ((hs.hour cup hour).mono (by omega)) (hourR (sp 0).2 cup hour)
  refine ⟨_, _, _, k_X3_setHour l G ca o pa f sa sp sz q g tx kd wh nu n hn h6 hs.1.bb cup hour, k_X4_setHour l G ca a f' (sp 0).1 (sp 0).2 hi sn be tx ti cup hour n hn h2, ?_⟩
  refine ⟨pa, _, _, _, _, q, g, tx, kd, wh, nu, a, _, _, sn, enc (sp 0).1 (sp 0).2, ti, n', ln, rfl, rfl, ?_, j1⟩
  rw [e0]

theorem s_guard (hF : F < 2 ^ 25) (h : JI ca F o m wc wm) (cup : Int32) : ST l G ca yX3_guard (zws yX3_guard cX3_guard 2 (some .int)) rm_X3_guard yX4_guard (zws yX4_guard cX4_guard 2 (some .int)) rm_X4_guard [.int cup] F o m wc wm := by
  obtain ⟨pa, f, sa, sp, sz, q, g, tx, kd, wh, nu, a, f', hi, sn, be, ti, n, ln, rfl, rfl, rfl, hj⟩ := h
  obtain ⟨hs, ⟨hn, h6, h2, hpa⟩, hsn, ⟨hln, hg1, h7⟩, hsp⟩ := id hj
  obtain ⟨n', j1, e0⟩ := hj.act (F' := F + 6000) (by omega) ((hs.guard cup).mono (by omega)) (guardR (sp 0).2 cup)
  refine ⟨_, _, _, k_X3_guard l G ca o pa f sa sp sz q g tx kd wh nu n hn h6 hs.1.bb cup, k_X4_guard l G ca a f' (sp 0).1 (sp 0).2 hi sn be tx ti cup n hn h2, ?_⟩
  refine ⟨pa, _, _, _, _, q, g, tx, kd, wh, nu, a, _, _, sn, enc (sp 0).1 (sp 0).2, ti, n', ln, rfl, rfl, ?_, j1⟩
  rw [e0]

theorem s_fill (hF : F < 2 ^ 25) (h : JI ca F o m wc wm) (cup water : Int32) : ST l G ca yX3_fill (zws yX3_fill cX3_fill 3 (some .int)) rm_X3_fill yX4_fill (zws yX4_fill cX4_fill 3 (some .int)) rm_X4_fill [.int cup, .int water] F o m wc wm := by
  obtain ⟨pa, f, sa, sp, sz, q, g, tx, kd, wh, nu, a, f', hi, sn, be, ti, n, ln, rfl, rfl, rfl, hj⟩ := h
  obtain ⟨hs, ⟨hn, h6, h2, hpa⟩, hsn, ⟨hln, hg1, h7⟩, hsp⟩ := id hj
  obtain ⟨n', j1, e0⟩ := hj.act (F' := F + 6000) (by omega) ((hs.fill cup water).mono (by omega)) (fillR (sp 0).2 cup water)
  refine ⟨_, _, _, k_X3_fill l G ca o pa f sa sp sz q g tx kd wh nu n hn h6 hs.1.bb cup water, k_X4_fill l G ca a f' (sp 0).1 (sp 0).2 hi sn be tx ti cup water n hn h2, ?_⟩
  refine ⟨pa, _, _, _, _, q, g, tx, kd, wh, nu, a, _, _, sn, enc (sp 0).1 (sp 0).2, ti, n', ln, rfl, rfl, ?_, j1⟩
  rw [e0]

theorem s_set (hF : F < 2 ^ 25) (h : JI ca F o m wc wm) (which value : Int32) : ST l G ca yX3_set (zws yX3_set cX3_set 3 (some .int)) rm_X3_set yX4_set (zws yX4_set cX4_set 3 (some .int)) rm_X4_set [.int which, .int value] F o m wc wm := by
  obtain ⟨pa, f, sa, sp, sz, q, g, tx, kd, wh, nu, a, f', hi, sn, be, ti, n, ln, rfl, rfl, rfl, hj⟩ := h
  obtain ⟨hs, ⟨hn, h6, h2, hpa⟩, hsn, ⟨hln, hg1, h7⟩, hsp⟩ := id hj
  obtain ⟨n', j1, e0⟩ := hj.act (F' := F + 6000) (by omega) ((hs.put which value).mono (by omega)) (putR (sp 0).1 which value)
  refine ⟨_, _, _, k_X3_set l G ca o pa f sa sp sz q g tx kd wh nu n hn h6 hs.1.bb which value, k_X4_set l G ca a f' (sp 0).1 (sp 0).2 hi sn be tx ti which value n hn h2, ?_⟩
  refine ⟨pa, _, _, _, _, q, g, tx, kd, wh, nu, a, _, _, sn, enc (sp 0).1 (sp 0).2, ti, n', ln, rfl, rfl, ?_, j1⟩
  rw [e0]

theorem s_pass (hF : F < 2 ^ 25) (h : JI ca F o m wc wm) (ticks : Int32) : ST l G ca yX3_pass (zws yX3_pass cX3_pass 2 (some .int)) rm_X3_pass yX4_pass (zws yX4_pass cX4_pass 2 (some .int)) rm_X4_pass [.int ticks] F o m wc wm := by
  obtain ⟨pa, f, sa, sp, sz, q, g, tx, kd, wh, nu, a, f', hi, sn, be, ti, n, ln, rfl, rfl, rfl, hj⟩ := h
  obtain ⟨hs, ⟨hn, h6, h2, hpa⟩, hsn, ⟨hln, hg1, h7⟩, hsp⟩ := id hj
  have kc := k_X3_pass l G ca o pa f sa sp sz q g tx kd wh nu n hn h6 hs.1.bb hs.1.nx ticks
  rw [pass_eq hs.1, kN_eq hs.1] at kc
  obtain ⟨n', j1, e0⟩ := hj.act (F' := F + 6000) (by omega) ((hs.pass (by omega) ticks).mono (by omega)) (passR (sp 0) ticks)
  refine ⟨_, _, _, kc, k_X4_pass l G ca a f' (sp 0).1 (sp 0).2 hi sn be tx ti ticks n hn h2 hs.1.ok, ?_⟩
  refine ⟨pa, _, _, _, _, q, g, tx, kd, wh, nu, a, _, _, sn, enc (sp 0).1 (sp 0).2, tkT (sp 0) ti (passN (sp 0) ticks), n', ln, rfl, rfl, ?_, j1⟩
  rw [e0]

theorem s_stopped (hF : F < 2 ^ 25) (h : JI ca F o m wc wm) (what : Int32) : ST l G ca yX3_stopped (zws yX3_stopped cX3_stopped 2 (some .int)) rm_X3_stopped yX4_stopped (zws yX4_stopped cX4_stopped 2 (some .int)) rm_X4_stopped [.int what] F o m wc wm := by
  obtain ⟨pa, f, sa, sp, sz, q, g, tx, kd, wh, nu, a, f', hi, sn, be, ti, n, ln, rfl, rfl, rfl, hj⟩ := h
  obtain ⟨hs, ⟨hn, h6, h2, hpa⟩, hsn, ⟨hln, hg1, h7⟩, hsp⟩ := id hj
  have kc := k_X3_stopped l G ca o pa f sa sp sz q g tx kd wh nu what
  rw [stop_eq hsp] at kc
  refine ⟨_, _, _, kc, k_X4_stopped l G ca a f' (sp 0).1 (sp 0).2 hi sn be tx ti what, ?_⟩
  refine ⟨pa, f, sa, _, _, q, g, tx, kd, wh, nu, a, f', hi, sn, be, ti, n, ln, rfl, rfl, rfl, hj.mono (by omega)⟩

theorem s_cup (hF : F < 2 ^ 25) (h : JI ca F o m wc wm) (cup what : Int32) : ST l G ca yX3_cup (zws yX3_cup cX3_cup 4 (some .int)) rm_X3_cup yX4_cup (zws yX4_cup cX4_cup 3 (some .int)) rm_X4_cup [.int cup, .int what] F o m wc wm := by
  obtain ⟨pa, f, sa, sp, sz, q, g, tx, kd, wh, nu, a, f', hi, sn, be, ti, n, ln, rfl, rfl, rfl, hj⟩ := h
  obtain ⟨hs, ⟨hn, h6, h2, hpa⟩, hsn, ⟨hln, hg1, h7⟩, hsp⟩ := id hj
  have kc := k_X3_cup l G ca o pa f sa sp sz q g tx kd wh nu cup what hs.1.bb
  rw [cup_eq] at kc
  refine ⟨_, _, _, kc, k_X4_cup l G ca a f' (sp 0).1 (sp 0).2 hi sn be tx ti cup what, ?_⟩
  refine ⟨pa, f, sa, _, _, q, g, tx, kd, wh, nu, a, f', hi, sn, be, ti, n, ln, rfl, rfl, rfl, hj.mono (by omega)⟩

theorem s_highest (hF : F < 2 ^ 25) (h : JI ca F o m wc wm) : ST l G ca yX3_highest (zws yX3_highest cX3_highest 4 (some .int)) rm_X3_highest yX4_highest (zws yX4_highest cX4_highest 3 (some .int)) rm_X4_highest [] F o m wc wm := by
  obtain ⟨pa, f, sa, sp, sz, q, g, tx, kd, wh, nu, a, f', hi, sn, be, ti, n, ln, rfl, rfl, rfl, hj⟩ := h
  obtain ⟨hs, ⟨hn, h6, h2, hpa⟩, hsn, ⟨hln, hg1, h7⟩, hsp⟩ := id hj
  have kc := k_X3_highest l G ca o pa f sa sp sz q g tx kd wh nu 
  rw [hi_eq _ hs.jets] at kc
  refine ⟨_, _, _, kc, k_X4_highest l G ca a f' (sp 0).1 (sp 0).2 hi sn be tx ti , ?_⟩
  refine ⟨pa, f, sa, _, _, q, g, tx, kd, wh, nu, a, f', hi, sn, be, ti, n, ln, rfl, rfl, rfl, hj.mono (by omega)⟩

theorem s_count (hF : F < 2 ^ 25) (h : JI ca F o m wc wm) (x : Int32) : ST l G ca yX3_count (zws yX3_count cX3_count 2 (some .int)) rm_X3_count yX4_count (zws yX4_count cX4_count 2 (some .int)) rm_X4_count [.int x] F o m wc wm := by
  obtain ⟨pa, f, sa, sp, sz, q, g, tx, kd, wh, nu, a, f', hi, sn, be, ti, n, ln, rfl, rfl, rfl, hj⟩ := h
  obtain ⟨hs, ⟨hn, h6, h2, hpa⟩, hsn, ⟨hln, hg1, h7⟩, hsp⟩ := id hj
  have kc := k_X3_count l G ca o pa f sa sp sz q g tx kd wh nu n ln h6 hg1 hs.1.bb x
  rw [cnt_eq hs.1] at kc
  refine ⟨_, _, _, kc, k_X4_count l G ca a f' (sp 0).1 (sp 0).2 hi sn be tx ti n ln x h2 h7 hs.1.ok, ?_⟩
  refine ⟨pa, f, sa, _, _, q, g, tx, kd, wh, nu, a, f', hi, sn, be, ti, n, ln, rfl, rfl, rfl, hj.mono (by omega)⟩

theorem s_reason (hF : F < 2 ^ 25) (h : JI ca F o m wc wm) (cup : Int32) : ST l G ca yX3_reason (zws yX3_reason cX3_reason 4 (some .int)) rm_X3_reason yX4_reason (zws yX4_reason cX4_reason 2 (some .int)) rm_X4_reason [.int cup] F o m wc wm := by
  obtain ⟨pa, f, sa, sp, sz, q, g, tx, kd, wh, nu, a, f', hi, sn, be, ti, n, ln, rfl, rfl, rfl, hj⟩ := h
  obtain ⟨hs, ⟨hn, h6, h2, hpa⟩, hsn, ⟨hln, hg1, h7⟩, hsp⟩ := id hj
  have kc := k_X3_reason l G ca o pa f sa sp sz q g tx kd wh nu cup hs.1.bb hs.1.nx
  rw [re_eq hs.1 hs.ti] at kc
  refine ⟨_, _, _, kc, k_X4_reason l G ca a f' (sp 0).1 (sp 0).2 hi sn be tx ti cup hs.1.ok, ?_⟩
  refine ⟨pa, f, sa, _, _, q, g, tx, kd, wh, nu, a, f', hi, sn, _, _, n, ln, rfl, rfl, rfl, (hj.mono (by omega)).sq (sq_up (Or.inl rfl))⟩

theorem s_tipsIn (hF : F < 2 ^ 25) (h : JI ca F o m wc wm) (cup : Int32) : ST l G ca yX3_tipsIn (zws yX3_tipsIn cX3_tipsIn 2 (some .int)) rm_X3_tipsIn yX4_tipsIn (zws yX4_tipsIn cX4_tipsIn 2 (some .int)) rm_X4_tipsIn [.int cup] F o m wc wm := by
  obtain ⟨pa, f, sa, sp, sz, q, g, tx, kd, wh, nu, a, f', hi, sn, be, ti, n, ln, rfl, rfl, rfl, hj⟩ := h
  obtain ⟨hs, ⟨hn, h6, h2, hpa⟩, hsn, ⟨hln, hg1, h7⟩, hsp⟩ := id hj
  have kc := k_X3_tipsIn l G ca o pa f sa sp sz q g tx kd wh nu cup hs.1.bb hs.1.nx
  rw [ti_eq hs.1 hs.ti] at kc
  refine ⟨_, _, _, kc, k_X4_tipsIn l G ca a f' (sp 0).1 (sp 0).2 hi sn be tx ti cup hs.1.ok, ?_⟩
  refine ⟨pa, f, sa, _, _, q, g, tx, kd, wh, nu, a, f', hi, sn, _, _, n, ln, rfl, rfl, rfl, (hj.mono (by omega)).sq (sq_up (Or.inl rfl))⟩

theorem s_tipsAt (hF : F < 2 ^ 25) (h : JI ca F o m wc wm) (cup : Int32) : ST l G ca yX3_tipsAt (zws yX3_tipsAt cX3_tipsAt 2 (some .int)) rm_X3_tipsAt yX4_tipsAt (zws yX4_tipsAt cX4_tipsAt 2 (some .int)) rm_X4_tipsAt [.int cup] F o m wc wm := by
  obtain ⟨pa, f, sa, sp, sz, q, g, tx, kd, wh, nu, a, f', hi, sn, be, ti, n, ln, rfl, rfl, rfl, hj⟩ := h
  obtain ⟨hs, ⟨hn, h6, h2, hpa⟩, hsn, ⟨hln, hg1, h7⟩, hsp⟩ := id hj
  have kc := k_X3_tipsAt l G ca o pa f sa sp sz q g tx kd wh nu cup hs.1.bb hs.1.nx
  rw [ho_eq hs.1 hs.ti] at kc
  refine ⟨_, _, _, kc, k_X4_tipsAt l G ca a f' (sp 0).1 (sp 0).2 hi sn be tx ti cup hs.1.ok, ?_⟩
  refine ⟨pa, f, sa, _, _, q, g, tx, kd, wh, nu, a, f', hi, sn, _, _, n, ln, rfl, rfl, rfl, (hj.mono (by omega)).sq (sq_up (Or.inl rfl))⟩

theorem s_starving (hF : F < 2 ^ 25) (h : JI ca F o m wc wm) : ST l G ca yX3_starving (zws yX3_starving cX3_starving 2 (some .int)) rm_X3_starving yX4_starving (zws yX4_starving cX4_starving 3 (some .int)) rm_X4_starving [] F o m wc wm := by
  obtain ⟨pa, f, sa, sp, sz, q, g, tx, kd, wh, nu, a, f', hi, sn, be, ti, n, ln, rfl, rfl, rfl, hj⟩ := h
  obtain ⟨hs, ⟨hn, h6, h2, hpa⟩, hsn, ⟨hln, hg1, h7⟩, hsp⟩ := id hj
  have kc := k_X3_starving l G ca o pa f sa sp sz q g tx kd wh nu hs.1.bb hs.1.nx
  rw [starve_eq hs.1 hs.ti] at kc
  refine ⟨_, _, _, kc, k_X4_starving l G ca a f' (sp 0).1 (sp 0).2 hi sn be tx ti hs.1.ok, ?_⟩
  refine ⟨pa, f, sa, _, _, q, g, tx, kd, wh, nu, a, f', hi, sn, _, _, n, ln, rfl, rfl, rfl, (hj.mono (by omega)).sq (sq_up (Or.inl rfl))⟩

theorem s_bestSize (hF : F < 2 ^ 25) (h : JI ca F o m wc wm) (cup : Int32) : ST l G ca yX3_bestSize (zws yX3_bestSize cX3_bestSize 6 (some .int)) rm_X3_bestSize yX4_bestSize (zws yX4_bestSize cX4_bestSize 5 (some .int)) rm_X4_bestSize [.int cup] F o m wc wm := by
  obtain ⟨pa, f, sa, sp, sz, q, g, tx, kd, wh, nu, a, f', hi, sn, be, ti, n, ln, rfl, rfl, rfl, hj⟩ := h
  obtain ⟨hs, ⟨hn, h6, h2, hpa⟩, hsn, ⟨hln, hg1, h7⟩, hsp⟩ := id hj
  have kc := k_X3_bestSize l G ca o pa f sa sp sz q g tx kd wh nu cup hs.1
  rw [be_eq hs.1 hs.2.1] at kc
  refine ⟨_, _, _, kc, k_X4_bestSize l G ca a f' (sp 0).1 (sp 0).2 hi sn be tx ti cup hs.1.ok, ?_⟩
  refine ⟨pa, f, sa, _, _, q, g, tx, kd, wh, nu, a, f', hi, sn, _, _, n, ln, rfl, rfl, rfl, (hj.mono (by omega)).sq (sq_up (Or.inl rfl))⟩

theorem s_ifTicks (hF : F < 2 ^ 25) (h : JI ca F o m wc wm) (ticks what : Int32) : ST l G ca yX3_ifTicks (zws yX3_ifTicks cX3_ifTicks 4 (some .int)) rm_X3_ifTicks yX4_ifTicks (zws yX4_ifTicks cX4_ifTicks 6 (some .int)) rm_X4_ifTicks [.int ticks, .int what] F o m wc wm := by
  obtain ⟨pa, f, sa, sp, sz, q, g, tx, kd, wh, nu, a, f', hi, sn, be, ti, n, ln, rfl, rfl, rfl, hj⟩ := h
  obtain ⟨hs, ⟨hn, h6, h2, hpa⟩, hsn, ⟨hln, hg1, h7⟩, hsp⟩ := id hj
  have kc := k_X3_ifTicks l G ca o pa f sa sp sz q g tx kd wh nu ticks what hs.1
  rw [if_eq hs.1] at kc
  refine ⟨_, _, _, kc, k_X4_ifTicks l G ca a f' (sp 0).1 (sp 0).2 hi sn be tx ti ticks what hs.1.ok, ?_⟩
  refine ⟨pa, f, sa, _, _, q, g, tx, kd, wh, nu, a, f', hi, sn, _, _, n, ln, rfl, rfl, rfl, (hj.mono (by omega)).sq (sq_up (Or.inl rfl))⟩

theorem s_type (hF : F < 2 ^ 25) (h : JI ca F o m wc wm) (x : Int32) : ST l G ca yX3_type (zws yX3_type cX3_type 2 (some .int)) rm_X3_type yX4_type (zws yX4_type cX4_type 2 (some .int)) rm_X4_type [.int ((x.toUInt32 % 65536).toInt32)] F o m wc wm := by
  obtain ⟨pa, f, sa, sp, sz, q, g, tx, kd, wh, nu, a, f', hi, sn, be, ti, n, ln, rfl, rfl, rfl, hj⟩ := h
  obtain ⟨hs, ⟨hn, h6, h2, hpa⟩, hsn, ⟨hln, hg1, h7⟩, hsp⟩ := id hj
  have hx : vp_nar .char ((x.toUInt32 % 65536).toInt32) = (x.toUInt32 % 65536).toInt32 := nar_c x
  refine ⟨_, _, _, k_X3_type l G ca o pa f sa sp sz q g tx kd wh nu ln hln hg1 _ hx, k_X4_type l G ca a f' (sp 0).1 (sp 0).2 hi sn be tx ti ln hln h7 _ hx, ?_⟩
  refine ⟨pa, f, sa, sp, _, q, _, _, kd, wh, nu, a, _, hi, sn, be, ti, n, (if ln = 60 then 60 else ln + 1), rfl, rfl, rfl, ?_⟩
  have e := (hj.mono (show F ≤ F + 6000 by omega))
  obtain ⟨hs, ⟨hn, h6, h2, hpa⟩, hsn, ⟨hln, hg1, h7⟩, hsp⟩ := e
  unfold apG typeF
  by_cases z : ln = 60
  · rw [if_pos z, if_pos z, if_pos z]
    subst z
    exact ⟨hs, ⟨hn, h6, h2, hpa⟩, hsn, ⟨hln, hg1, h7⟩, hsp⟩
  · rw [if_neg z, if_neg z, if_neg z]
    exact ⟨hs, ⟨hn, h6, (pk_un (by decide)).trans h2, hpa⟩, sn_f (pk_un (by decide)) hsn, ⟨by omega, pk_us, pk_us⟩, sp_f (pk_un (by decide)) (pk_un (by decide)) hsp⟩

theorem s_clearText (hF : F < 2 ^ 25) (h : JI ca F o m wc wm) : ST l G ca yX3_clearText (zws yX3_clearText cX3_clearText 1 (some .int)) rm_X3_clearText yX4_clearText (zws yX4_clearText cX4_clearText 2 (some .int)) rm_X4_clearText [] F o m wc wm := by
  obtain ⟨pa, f, sa, sp, sz, q, g, tx, kd, wh, nu, a, f', hi, sn, be, ti, n, ln, rfl, rfl, rfl, hj⟩ := h
  obtain ⟨hs, ⟨hn, h6, h2, hpa⟩, hsn, ⟨hln, hg1, h7⟩, hsp⟩ := id hj
  have kc := k_X3_clearText l G ca o pa f sa sp sz q g tx kd wh nu
  have km := k_X4_clearText l G ca a f' (sp 0).1 (sp 0).2 hi sn be tx ti
  rw [hg1] at kc
  rw [h7] at km
  refine ⟨_, _, _, kc, km, ?_⟩
  refine ⟨pa, f, sa, sp, _, q, _, tx, kd, wh, nu, a, _, hi, sn, be, ti, n, 0, rfl, rfl, rfl, ?_⟩
  obtain ⟨hs, ⟨hn, h6, h2, hpa⟩, hsn, ⟨hln, hg1, h7⟩, hsp⟩ := (hj.mono (show F ≤ F + 6000 by omega))
  exact ⟨hs, ⟨hn, h6, (pk_un (by decide)).trans h2, hpa⟩, sn_f (pk_un (by decide)) hsn, ⟨by omega, pk_us, pk_us⟩, sp_f (pk_un (by decide)) (pk_un (by decide)) hsp⟩

theorem s_undo (hF : F < 2 ^ 25) (h : JI ca F o m wc wm) : ST l G ca yX3_undo (zws yX3_undo cX3_undo 1 (some .int)) rm_X3_undo yX4_undo (zws yX4_undo cX4_undo 1 (some .int)) rm_X4_undo [] F o m wc wm := by
  obtain ⟨pa, f, sa, sp, sz, q, g, tx, kd, wh, nu, a, f', hi, sn, be, ti, n, ln, rfl, rfl, rfl, hj⟩ := h
  obtain ⟨hs, ⟨hn, h6, h2, hpa⟩, hsn, ⟨hln, hg1, h7⟩, hsp⟩ := id hj
  cases n with
  | zero =>
    refine ⟨_, _, _, k_X3_undo_a l G ca o pa f sa sp sz q g tx kd wh nu h6, k_X4_undo_a l G ca a f' (sp 0).1 (sp 0).2 hi sn be tx ti h2, ?_⟩
    exact ⟨pa, f, sa, sp, _, q, g, tx, kd, wh, nu, a, f', hi, sn, be, ti, 0, ln, rfl, rfl, rfl, hj.mono (by omega)⟩
  | succ n =>
    have hp := hpa n (by omega)
    refine ⟨_, _, _, k_X3_undo_b l G ca o pa f sa sp sz q g tx kd wh nu n (by omega) h6 hp.1.1.bb, k_X4_undo_b l G ca a f' (sp 0).1 (sp 0).2 hi sn be tx ti (sp (4 + n)).1 (sp (4 + n)).2 n (by omega) h2 hp.2, ?_⟩
    refine ⟨pa, _, sa, _, _, q, g, tx, kd, wh, nu, a, _, hi, sn, be, ti, n, ln, rfl, rfl, rfl, ?_⟩
    obtain ⟨hs, ⟨hn, h6, h2, hpa⟩, hsn, ⟨hln, hg1, h7⟩, hsp⟩ := (hj.mono (show F ≤ F + 6000 by omega))
    have e4 : ∀ i, i < 4 → va_up sp 0 (sp (4 + n)) (4 + i) = sp (4 + i) := fun i _ => vup_n (by omega)
    refine ⟨(hpa n (by omega)).1, ⟨by omega, pk_us, pk_us, fun i hi' => ?_⟩, ?_, ⟨hln, hg1, (pk_un (by decide)).trans h7⟩, ?_⟩
    · rw [e4 i (by omega)]; exact hpa i (by omega)
    · have g7 : upd f 6 (nI n) 7 = f 7 := pk_un (by decide)
      unfold SN
      rw [g7, show upd f' 2 (nI n) 4 = f' 4 from pk_un (by decide), show va_up sp 0 (sp (4 + n)) 3 = sp 3 from rfl]
      exact hsn
    · unfold SP
      rw [show upd f 6 (nI n) 8 = f 8 from pk_un (by decide), show upd f 6 (nI n) 9 = f 9 from pk_un (by decide), show upd f' 2 (nI n) 8 = f' 8 from pk_un (by decide), show upd f' 2 (nI n) 9 = f' 9 from pk_un (by decide)]
      exact hsp

theorem s_keep (hF : F < 2 ^ 25) (h : JI ca F o m wc wm) : ST l G ca yX3_keep (zws yX3_keep cX3_keep 1 (some .int)) rm_X3_keep yX4_keep (zws yX4_keep cX4_keep 1 (some .int)) rm_X4_keep [] F o m wc wm := by
  obtain ⟨pa, f, sa, sp, sz, q, g, tx, kd, wh, nu, a, f', hi, sn, be, ti, n, ln, rfl, rfl, rfl, hj⟩ := h
  obtain ⟨hs, ⟨hn, h6, h2, hpa⟩, hsn, ⟨hln, hg1, h7⟩, hsp⟩ := id hj
  refine ⟨_, _, _, k_X3_keep l G ca o pa f sa sp sz q g tx kd wh nu hs.1.bb, k_X4_keep l G ca a f' (sp 0).1 (sp 0).2 hi sn be tx ti, ?_⟩
  refine ⟨pa, _, sa, _, _, q, g, tx, kd, wh, nu, a, _, hi, _, be, ti, n, ln, rfl, rfl, rfl, ?_⟩
  obtain ⟨hs, ⟨hn, h6, h2, hpa⟩, hsn, ⟨hln, hg1, h7⟩, hsp⟩ := (hj.mono (show F ≤ F + 6000 by omega))
  refine ⟨hs, ⟨hn, (pk_un (by decide)).trans h6, (pk_un (by decide)).trans h2, hpa.sq hn (fun i _ => vup_n (by omega))⟩, Or.inr ⟨pk_us, pk_us, hs, fun j _ => rfl⟩, ⟨hln, hg1, (pk_un (by decide)).trans h7⟩, ?_⟩
  unfold SP
  rw [show upd f 7 1 8 = f 8 from pk_un (by decide), show upd f 7 1 9 = f 9 from pk_un (by decide), show upd f' 4 1 8 = f' 8 from pk_un (by decide), show upd f' 4 1 9 = f' 9 from pk_un (by decide)]
  exact hsp

theorem s_restore (hF : F < 2 ^ 25) (h : JI ca F o m wc wm) : ST l G ca yX3_restore (zws yX3_restore cX3_restore 1 (some .int)) rm_X3_restore yX4_restore (zws yX4_restore cX4_restore 1 (some .int)) rm_X4_restore [] F o m wc wm := by
  obtain ⟨pa, f, sa, sp, sz, q, g, tx, kd, wh, nu, a, f', hi, sn, be, ti, n, ln, rfl, rfl, rfl, hj⟩ := h
  obtain ⟨hs, ⟨hn, h6, h2, hpa⟩, hsn, ⟨hln, hg1, h7⟩, hsp⟩ := id hj
  rcases hsn with ⟨s1, s2⟩ | ⟨s1, s2, s3, s4⟩
  · refine ⟨_, _, _, k_X3_restore_a l G ca o pa f sa sp sz q g tx kd wh nu s1, k_X4_restore_a l G ca a f' (sp 0).1 (sp 0).2 hi sn be tx ti s2, ?_⟩
    exact ⟨pa, f, sa, sp, _, q, g, tx, kd, wh, nu, a, f', hi, sn, be, ti, n, ln, rfl, rfl, rfl, hj.mono (by omega)⟩
  · obtain ⟨n', j1, e0⟩ := hj.act (F' := F + 6000) (by omega) (s3.mono (by omega)) ((sp 3).1 0)
    have hp : ¬ (sp 3).1 0 < 0 := by
      obtain ⟨_, _, t, ht, ht2, _⟩ := s3
      rw [ht]
      exact nI_pos (by omega)
    unfold actF actHi at j1
    rw [if_neg hp, if_neg hp] at j1
    refine ⟨_, _, _, k_X3_restore_b l G ca o pa f sa sp sz q g tx kd wh nu n hn h6 hs.1.bb s3.1.bb (by rw [s1]; decide), k_X4_restore_b l G ca a f' (sp 0).1 (sp 0).2 hi sn be tx ti (sp 3).1 (sp 3).2 n hn h2 s2 s4, ?_⟩
    refine ⟨pa, _, _, _, _, q, g, tx, kd, wh, nu, a, _, _, sn, be, ti, n', ln, rfl, rfl, ?_, j1⟩
    rw [e0]

theorem s_perform (hF : F < 2 ^ 25) (h : JI ca F o m wc wm) : ST l G ca yX3_perform (zws yX3_perform cX3_perform 4 (some .int)) rm_X3_perform yX4_perform (zws yX4_perform cX4_perform 2 (some .int)) rm_X4_perform [] F o m wc wm := by
  obtain ⟨pa, f, sa, sp, sz, q, g, tx, kd, wh, nu, a, f', hi, sn, be, ti, n, ln, rfl, rfl, rfl, hj⟩ := h
  obtain ⟨hs, ⟨hn, h6, h2, hpa⟩, hsn, ⟨hln, hg1, h7⟩, hsp⟩ := id hj
  obtain ⟨R1, tn, T, hQX⟩ : ∃ (R1 : Int32) (tn : Nat) (T : PQ), qX tx ln (0, kd, wh, nu) = (R1, tn, T) := ⟨_, _, _, rfl⟩
  have gq : gQ g (nI tn) T.1 1 = g 1 := by
    unfold gQ
    rw [pk_un (by decide), pk_un (by decide)]
  have R := re_eq9 (tx := tx) (ln := ln) hln (s0 := (0, kd, wh, nu)) (s := (0, f' 13, f' 14)) rfl rfl
  rw [hQX] at R
  rcases R with ⟨r0, x, hx, ex, er⟩ | ⟨r1, rm, rt, r60, -, -, -⟩
  · have er : R1 = nI x := er
    have hR1 : ¬ R1 = -1 := by
      rw [er]
      intro z
      have := nI_pos (n := x) (by omega)
      rw [z] at this
      exact this (by decide)
    have kc := k_X3_perform_f l G ca o pa f sa sp sz q g tx kd wh nu ln hln hg1 R1 tn T hQX hR1
    rw [er] at kc
    have km := k_X4_perform_f l G ca a f' (sp 0).1 (sp 0).2 hi sn be tx ti ln hln h7 hs.1.ok _ _ _ rfl rfl rfl r0
    rw [ex] at km
    refine ⟨_, _, _, kc, km, ?_⟩
    refine ⟨pa, f, sa, sp, _, q, _, tx, _, _, _, a, _, hi, sn, be, ti, n, ln, rfl, rfl, rfl, ?_⟩
    exact (hj.mono (by omega)).fc gq (fun k hk => fS_o (by omega))
  · have rm : R1 = -1 := rm
    have rn : ¬ (rtX tx ln (0, f' 13, f' 14)).1 = 0 := by rw [r1]; decide
    have r60 : tn ≤ 60 := r60
    generalize hSr : (sI tx ln (0, f' 13, f' 14) (rtX tx ln (0, f' 13, f' 14)).2).2 = Sr
    have R' := re_eq9 (tx := tx) (ln := ln) hln (s0 := (0, kd, wh, nu)) (s := (0, Sr.2.1, Sr.2.2)) rfl rfl
    rw [hQX] at R'
    rcases R' with ⟨_, x, hx, _, er⟩ | ⟨_, _, et, _, hend, hbe, hsame⟩
    · have er : R1 = nI x := er
      have := nI_pos (n := x) (by omega)
      rw [← er, rm] at this
      exact absurd (by decide) this
    · have et : tn = (rtX tx ln (0, Sr.2.1, Sr.2.2)).2 + 1 := et
      generalize (rtX tx ln (0, Sr.2.1, Sr.2.2)).2 = n1 at et hend hbe hsame
      subst et
      have hsd : ∀ j, j ≤ n1 → sameDo (lI tx ln (0, Sr.2.1, Sr.2.2) j) (sI tx ln (0, Sr.2.1, Sr.2.2) j).2.2.1 (sI tx ln (0, Sr.2.1, Sr.2.2) j).2.2.2 T j := fun j hj9 => (hsame j hj9).2
      rcases rd_all (T := T) hs.1 hend hbe hsame 61 0 (by omega) (by omega) (fun j hj9 => absurd hj9 (by omega)) with ⟨hrd, hall⟩ | ⟨j0, hj0, hrd, hok, herr, hneg⟩
      · rw [← rdX_d] at hrd
        have hrd : rdX tx ln (0, Sr.2.1, Sr.2.2) ((sp 0).1, (sp 0).2) = (1, n1) := hrd
        have hp := (hs.things (T := T) (n1 + 1) (by omega)).mono (show F + 99 * (n1 + 1) ≤ F + 6000 by omega)
        obtain ⟨n', j1, e0⟩ := hj.act (F' := F + 6000) (by omega) hp (nI (n1 + 1))
        have hpos : ¬ nI (n1 + 1) < 0 := nI_pos (by omega)
        unfold actF actHi at j1
        rw [if_neg hpos, if_neg hpos] at j1
        have kc := k_X3_perform_d l G ca o pa f sa sp sz q g tx kd wh nu ln hln hg1 R1 (n1 + 1) T hQX n hn h6 hs.1 rm r60 (fun j hj9 => hall j (by omega))
        have km := k_X4_perform_d l G ca a f' (sp 0).1 (sp 0).2 hi sn be tx ti ln hln h7 hs.1.ok Sr _ _ hSr rfl rfl n hn h2 rn _ _ (nI (n1 + 1)) 0 1 (kI T (sp 0) (n1 + 1)) _ rfl rfl (by rw [hrd]; rfl) (by rw [hrd]; rfl) (by rw [hrd]; rfl) (by rw [hrd]; exact pI_eq (n := n1) hs.1 hsd (n1 + 1) (by omega)) rfl (Int32.le_refl 0) (by decide)
        rw [← e0] at km
        refine ⟨_, _, _, kc, km, ?_⟩
        refine ⟨pa, _, _, _, _, q, _, tx, _, _, _, a, _, _, sn, _, _, n', ln, rfl, rfl, rfl, j1.fc gq (fun k hk => ?_)⟩
        rw [fS_o (by omega)]
        by_cases z : k = 2
        · subst z; rw [pk_us, pk_us]
        · rw [pk_un z, pk_un z, fS_o (by omega)]
      · rw [← rdX_d] at hrd
        have hrd : rdX tx ln (0, Sr.2.1, Sr.2.2) ((sp 0).1, (sp 0).2) = (2, j0) := hrd
        have kc := k_X3_perform_s l G ca o pa f sa sp sz q g tx kd wh nu ln hln hg1 R1 (n1 + 1) T hQX hs.1 rm r60 j0 (by omega) hok herr
        have km := k_X4_perform_s l G ca a f' (sp 0).1 (sp 0).2 hi sn be tx ti ln hln h7 hs.1.ok Sr _ _ hSr rfl rfl rn _ _ (nI j0) (kRi T (sp 0) j0) 1 _ _ rfl rfl (by rw [hrd]; rfl) (by rw [hrd]; exact rI_eq (n := n1) hs.1 hsd hj0) (by rw [hrd]; rfl) rfl rfl hneg
        refine ⟨_, _, _, kc, km, ?_⟩
        refine ⟨pa, _, sa, _, _, q, _, tx, _, _, _, a, _, hi, sn, _, _, n, ln, rfl, rfl, rfl, ?_⟩
        have j2 := (hj.mono (show F ≤ F + 6000 by omega)).sq (sp' := va_up (va_up sp 2 (sp 0)) 0 (sp 0)) ⟨rfl, rfl, fun i _ => by rw [vup_n (by omega), vup_n (by omega)]⟩
        obtain ⟨hs9, ⟨hn9, h69, h29, hpa9⟩, hsn9, ⟨hln9, hg9, h79⟩, hsp9⟩ := j2
        refine ⟨hs9, ⟨hn9, ?_, ?_, hpa9⟩, ?_, ⟨hln9, gq.trans hg9, ?_⟩, ?_⟩
        · rw [pk_un (by decide), pk_un (by decide)]; exact h69
        · rw [fS_o (by decide), pk_un (by decide), pk_un (by decide), fS_o (by decide)]; exact h29
        · unfold SN at hsn9 ⊢
          rw [fS_o (by decide), pk_un (by decide), pk_un (by decide), pk_un (by decide), pk_un (by decide), fS_o (by decide)]
          exact hsn9
        · rw [fS_o (by decide), pk_un (by decide), pk_un (by decide), fS_o (by decide)]; exact h79
        · refine Or.inr ⟨?_, ?_, ?_, ?_⟩
          · rw [fS_o (by decide), pk_un (by decide), pk_us, pk_un (by decide), pk_us]
          · rw [pk_un (by decide), pk_us]
            intro z
            have := nI_pos (n := j0) (by omega)
            rw [z] at this
            exact this (by decide)
          · rw [fS_o (by decide), pk_un (by decide), pk_us]
            exact nI_n5 (by omega)
          · rw [fS_o (by decide), pk_us, pk_us]

end STEPS
