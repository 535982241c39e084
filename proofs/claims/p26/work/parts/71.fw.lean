/-! ===== a fountain's world, of which its state is said, and the snapshot; a call is a step ===== -/
def FW (ca : Nat → ClassId) (o : Nat) (p : HC) (K : Option HC) (w : va_W) : Prop := ∃ (pa : Nat) (f : Nat → Int32) (sa : Nat → Nat → Nat) (sp : Nat → HC) (sz : Nat → Nat → Int32) (q : Nat → Nat) (g tx kd wh nu : Nat → Int32) (n ln : Nat),
  w = wF ca o pa f sa sp sz q g tx kd wh nu ∧ sp 0 = p ∧ (n ≤ 4 ∧ f 6 = nI n) ∧ g 1 = nI ln ∧ ∀ s, K = some s → (¬ f 7 = 0 ∧ sp 3 = s)
theorem rot_lo9 {α : Type} {S : Nat → α} {i : Nat} (h : i < 4) : rot S i = S i := by unfold rot; rw [if_pos h]
theorem recSp_lo {S : Nat → HC} {n i : Nat} {r : Int32} (hi : i < 4) : recSp S n r i = S i := by
  unfold recSp
  split
  · rfl
  · split
    · rw [vup_n (by omega), rot_lo9 hi]
    · rw [vup_n (by omega)]
section FWS
variable {l : Launch} {G : va_G} {ca : Nat → ClassId} {o : Nat} {p : HC} {K : Option HC} {w : va_W}
theorem FW.h1 (h : FW ca o p K w) : ∃ (fs : List Value) (tl : va_W), w = (o, .inr (3, fs)) :: tl := by
  obtain ⟨pa, f, sa, sp, sz, q, g, tx, kd, wh, nu, n, ln, rfl, -⟩ := h
  exact ⟨_, _, rfl⟩
theorem FW.any (h : FW ca o p K w) : FW ca o p none w := by
  obtain ⟨pa, f, sa, sp, sz, q, g, tx, kd, wh, nu, n, ln, h1, h2, h3, h4, -⟩ := h
  exact ⟨pa, f, sa, sp, sz, q, g, tx, kd, wh, nu, n, ln, h1, h2, h3, h4, fun s hs => by cases hs⟩
theorem fw_rec {pa : Nat} {f : Nat → Int32} {sa : Nat → Nat → Nat} {sp : Nat → HC} {sz' : Nat → Nat → Int32} {q : Nat → Nat} {g tx kd wh nu : Nat → Int32} {n ln : Nat} {p' : HC} (hn : n ≤ 4) (h6 : f 6 = nI n) (hg : g 1 = nI ln) (hK : ∀ s, K = some s → (¬ f 7 = 0 ∧ sp 3 = s)) (r : Int32) :
    FW ca o p' K (wF ca o pa (recFf f n r) (recSa sa n r) (recSp (va_up (va_up sp 2 (sp 0)) 0 p') n r) sz' q g tx kd wh nu) := by
  refine ⟨pa, _, _, _, _, q, g, tx, kd, wh, nu, (if r < 0 then n else if n = 4 then 4 else n + 1), ln, rfl, recSp_lo (by decide), ⟨?_, ?_⟩, hg, fun s hs => ⟨?_, (recSp_lo (by decide)).trans (hK s hs).2⟩⟩
  · split
    · exact hn
    · split <;> omega
  · unfold recFf
    split
    · exact h6
    · exact pk_us
  · unfold recFf
    split
    · exact (hK s hs).1
    · rw [pk_un (by decide)]
      exact (hK s hs).1
theorem f_cup (h : FW ca o p K w) (hc : CI p) (cup what : Int32) : Zc l G ca yX3_cup (zws yX3_cup cX3_cup 4 (some .int)) rm_X3_cup [.ref o, .int cup, .int what] w (some (.int (kcupR p.2 cup what))) w := by
  obtain ⟨pa, f, sa, sp, sz, q, g, tx, kd, wh, nu, n, ln, rfl, rfl, ⟨hn, h6⟩, hg, hK⟩ := h
  exact k_X3_cup l G ca o pa f sa sp sz q g tx kd wh nu cup what hc.bb
theorem f_highest (h : FW ca o p K w) (hc : CI p) : Zc l G ca yX3_highest (zws yX3_highest cX3_highest 4 (some .int)) rm_X3_highest [.ref o] w (some (.int (khX p.2))) w := by
  obtain ⟨pa, f, sa, sp, sz, q, g, tx, kd, wh, nu, n, ln, rfl, rfl, ⟨hn, h6⟩, hg, hK⟩ := h
  exact k_X3_highest l G ca o pa f sa sp sz q g tx kd wh nu 
theorem f_count (h : FW ca o p K w) (hc : CI p) {x : Int32} (h3 : ¬ x = 13) (h4 : ¬ x = 14) : Zc l G ca yX3_count (zws yX3_count cX3_count 2 (some .int)) rm_X3_count [.ref o, .int x] w (some (.int (stellR p x))) w := by
  obtain ⟨pa, f, sa, sp, sz, q, g, tx, kd, wh, nu, n, ln, rfl, rfl, ⟨hn, h6⟩, hg, hK⟩ := h
  have k := k_X3_count l G ca o pa f sa sp sz q g tx kd wh nu n ln h6 hg hc.bb x
  unfold kcntR at k
  rw [if_neg h3, if_neg h4] at k
  exact k
theorem f_tipsIn (h : FW ca o p K w) (hc : CI p) (cup : Int32) : ∃ w1, Zc l G ca yX3_tipsIn (zws yX3_tipsIn cX3_tipsIn 2 (some .int)) rm_X3_tipsIn [.ref o, .int cup] w (some (.int (ktiR p cup))) w1 ∧ FW ca o p K w1 := by
  obtain ⟨pa, f, sa, sp, sz, q, g, tx, kd, wh, nu, n, ln, rfl, rfl, ⟨hn, h6⟩, hg, hK⟩ := h
  exact ⟨_, k_X3_tipsIn l G ca o pa f sa sp sz q g tx kd wh nu cup hc.bb hc.nx, pa, f, sa, _, _, q, g, tx, kd, wh, nu, n, ln, rfl, rfl, ⟨hn, h6⟩, hg, hK⟩
theorem f_tipsAt (h : FW ca o p K w) (hc : CI p) (cup : Int32) : ∃ w1, Zc l G ca yX3_tipsAt (zws yX3_tipsAt cX3_tipsAt 2 (some .int)) rm_X3_tipsAt [.ref o, .int cup] w (some (.int (khoR p cup))) w1 ∧ FW ca o p K w1 := by
  obtain ⟨pa, f, sa, sp, sz, q, g, tx, kd, wh, nu, n, ln, rfl, rfl, ⟨hn, h6⟩, hg, hK⟩ := h
  exact ⟨_, k_X3_tipsAt l G ca o pa f sa sp sz q g tx kd wh nu cup hc.bb hc.nx, pa, f, sa, _, _, q, g, tx, kd, wh, nu, n, ln, rfl, rfl, ⟨hn, h6⟩, hg, hK⟩
theorem f_starving (h : FW ca o p K w) (hc : CI p) : ∃ w1, Zc l G ca yX3_starving (zws yX3_starving cX3_starving 2 (some .int)) rm_X3_starving [.ref o] w (some (.int (kst3 (kN5 p) p))) w1 ∧ FW ca o p K w1 := by
  obtain ⟨pa, f, sa, sp, sz, q, g, tx, kd, wh, nu, n, ln, rfl, rfl, ⟨hn, h6⟩, hg, hK⟩ := h
  exact ⟨_, k_X3_starving l G ca o pa f sa sp sz q g tx kd wh nu hc.bb hc.nx, pa, f, sa, _, _, q, g, tx, kd, wh, nu, n, ln, rfl, rfl, ⟨hn, h6⟩, hg, hK⟩
theorem f_bestSize (h : FW ca o p K w) (hc : CI p) (cup : Int32) : ∃ w1, Zc l G ca yX3_bestSize (zws yX3_bestSize cX3_bestSize 6 (some .int)) rm_X3_bestSize [.ref o, .int cup] w (some (.int (kbeR p cup))) w1 ∧ FW ca o p K w1 := by
  obtain ⟨pa, f, sa, sp, sz, q, g, tx, kd, wh, nu, n, ln, rfl, rfl, ⟨hn, h6⟩, hg, hK⟩ := h
  exact ⟨_, k_X3_bestSize l G ca o pa f sa sp sz q g tx kd wh nu cup hc, pa, f, sa, _, _, q, g, tx, kd, wh, nu, n, ln, rfl, rfl, ⟨hn, h6⟩, hg, hK⟩
theorem f_ifTicks (h : FW ca o p K w) (hc : CI p) (ticks what : Int32) : ∃ w1, Zc l G ca yX3_ifTicks (zws yX3_ifTicks cX3_ifTicks 4 (some .int)) rm_X3_ifTicks [.ref o, .int ticks, .int what] w (some (.int (kifR p ticks what))) w1 ∧ FW ca o p K w1 := by
  obtain ⟨pa, f, sa, sp, sz, q, g, tx, kd, wh, nu, n, ln, rfl, rfl, ⟨hn, h6⟩, hg, hK⟩ := h
  exact ⟨_, k_X3_ifTicks l G ca o pa f sa sp sz q g tx kd wh nu ticks what hc, pa, f, sa, _, _, q, g, tx, kd, wh, nu, n, ln, rfl, rfl, ⟨hn, h6⟩, hg, hK⟩
theorem f_reason (h : FW ca o p K w) (hc : CI p) (cup : Int32) : ∃ w1, Zc l G ca yX3_reason (zws yX3_reason cX3_reason 4 (some .int)) rm_X3_reason [.ref o, .int cup] w (some (.int (kreR p cup))) w1 ∧ FW ca o p K w1 := by
  obtain ⟨pa, f, sa, sp, sz, q, g, tx, kd, wh, nu, n, ln, rfl, rfl, ⟨hn, h6⟩, hg, hK⟩ := h
  exact ⟨_, k_X3_reason l G ca o pa f sa sp sz q g tx kd wh nu cup hc.bb hc.nx, pa, f, sa, _, _, q, g, tx, kd, wh, nu, n, ln, rfl, rfl, ⟨hn, h6⟩, hg, hK⟩
theorem f_setCup (h : FW ca o p K w) (hc : CI p) (cup which value : Int32) : ∃ w1, Zc l G ca yX3_setCup (zws yX3_setCup cX3_setCup 4 (some .int)) rm_X3_setCup [.ref o, .int cup, .int which, .int value] w (some (.int (setR p.2 cup which value))) w1 ∧ FW ca o (p.1, setC p.2 cup which value) K w1 := by
  obtain ⟨pa, f, sa, sp, sz, q, g, tx, kd, wh, nu, n, ln, rfl, rfl, ⟨hn, h6⟩, hg, hK⟩ := h
  exact ⟨_, k_X3_setCup l G ca o pa f sa sp sz q g tx kd wh nu n hn h6 hc.bb cup which value, fw_rec hn h6 hg hK _⟩
theorem f_turnLock (h : FW ca o p K w) (hc : CI p) (cup : Int32) : ∃ w1, Zc l G ca yX3_turnLock (zws yX3_turnLock cX3_turnLock 2 (some .int)) rm_X3_turnLock [.ref o, .int cup] w (some (.int (turnR p.2 cup))) w1 ∧ FW ca o (p.1, turnC p.2 cup) K w1 := by
  obtain ⟨pa, f, sa, sp, sz, q, g, tx, kd, wh, nu, n, ln, rfl, rfl, ⟨hn, h6⟩, hg, hK⟩ := h
  exact ⟨_, k_X3_turnLock l G ca o pa f sa sp sz q g tx kd wh nu n hn h6 hc.bb cup, fw_rec hn h6 hg hK _⟩
theorem f_setHour (h : FW ca o p K w) (hc : CI p) (cup hour : Int32) : ∃ w1, Zc l G ca yX3_setHour (zws yX3_setHour cX3_setHour 3 (some .int)) rm_X3_setHour [.ref o, .int cup, .int hour] w (some (.int (hourR p.2 cup hour))) w1 ∧ FW ca o (p.1, hourC p.2 cup hour) K w1 := by
  obtain ⟨pa, f, sa, sp, sz, q, g, tx, kd, wh, nu, n, ln, rfl, rfl, ⟨hn, h6⟩, hg, hK⟩ := h
  exact ⟨_, k_X3_setHour l G ca o pa f sa sp sz q g tx kd wh nu n hn h6 hc.bb cup hour, fw_rec hn h6 hg hK _⟩
theorem f_guard (h : FW ca o p K w) (hc : CI p) (cup : Int32) : ∃ w1, Zc l G ca yX3_guard (zws yX3_guard cX3_guard 2 (some .int)) rm_X3_guard [.ref o, .int cup] w (some (.int (guardR p.2 cup))) w1 ∧ FW ca o (p.1, guardC p.2 cup) K w1 := by
  obtain ⟨pa, f, sa, sp, sz, q, g, tx, kd, wh, nu, n, ln, rfl, rfl, ⟨hn, h6⟩, hg, hK⟩ := h
  exact ⟨_, k_X3_guard l G ca o pa f sa sp sz q g tx kd wh nu n hn h6 hc.bb cup, fw_rec hn h6 hg hK _⟩
theorem f_fill (h : FW ca o p K w) (hc : CI p) (cup water : Int32) : ∃ w1, Zc l G ca yX3_fill (zws yX3_fill cX3_fill 3 (some .int)) rm_X3_fill [.ref o, .int cup, .int water] w (some (.int (fillR p.2 cup water))) w1 ∧ FW ca o (fillH p.1 p.2 cup water, fillC p.2 cup water) K w1 := by
  obtain ⟨pa, f, sa, sp, sz, q, g, tx, kd, wh, nu, n, ln, rfl, rfl, ⟨hn, h6⟩, hg, hK⟩ := h
  exact ⟨_, k_X3_fill l G ca o pa f sa sp sz q g tx kd wh nu n hn h6 hc.bb cup water, fw_rec hn h6 hg hK _⟩
theorem f_set (h : FW ca o p K w) (hc : CI p) (which value : Int32) : ∃ w1, Zc l G ca yX3_set (zws yX3_set cX3_set 3 (some .int)) rm_X3_set [.ref o, .int which, .int value] w (some (.int (putR p.1 which value))) w1 ∧ FW ca o (putH p.1 which value, p.2) K w1 := by
  obtain ⟨pa, f, sa, sp, sz, q, g, tx, kd, wh, nu, n, ln, rfl, rfl, ⟨hn, h6⟩, hg, hK⟩ := h
  exact ⟨_, k_X3_set l G ca o pa f sa sp sz q g tx kd wh nu n hn h6 hc.bb which value, fw_rec hn h6 hg hK _⟩
theorem f_pass (h : FW ca o p K w) (hc : CI p) (ticks : Int32) : ∃ w1, Zc l G ca yX3_pass (zws yX3_pass cX3_pass 2 (some .int)) rm_X3_pass [.ref o, .int ticks] w (some (.int (kpassR p ticks))) w1 ∧ FW ca o (kN p (passN p ticks)) K w1 := by
  obtain ⟨pa, f, sa, sp, sz, q, g, tx, kd, wh, nu, n, ln, rfl, rfl, ⟨hn, h6⟩, hg, hK⟩ := h
  exact ⟨_, k_X3_pass l G ca o pa f sa sp sz q g tx kd wh nu n hn h6 hc.bb hc.nx ticks, fw_rec hn h6 hg hK _⟩
theorem f_keep (h : FW ca o p K w) (hc : CI p) : ∃ w1, Zc l G ca yX3_keep (zws yX3_keep cX3_keep 1 (some .int)) rm_X3_keep [.ref o] w (some (.int (p.1 0))) w1 ∧ FW ca o p (some p) w1 := by
  obtain ⟨pa, f, sa, sp, sz, q, g, tx, kd, wh, nu, n, ln, rfl, rfl, ⟨hn, h6⟩, hg, hK⟩ := h
  exact ⟨_, k_X3_keep l G ca o pa f sa sp sz q g tx kd wh nu hc.bb, pa, _, sa, _, _, q, g, tx, kd, wh, nu, n, ln, rfl, rfl, ⟨hn, (pk_un (by decide)).trans h6⟩, hg, fun s hs => ⟨by rw [pk_us]; decide, by cases hs; rfl⟩⟩
theorem f_restore {s : HC} (h : FW ca o p (some s) w) (hc : CI p) (hs : CI s) : ∃ w1, Zc l G ca yX3_restore (zws yX3_restore cX3_restore 1 (some .int)) rm_X3_restore [.ref o] w (some (.int (s.1 0))) w1 ∧ FW ca o s (some s) w1 := by
  obtain ⟨pa, f, sa, sp, sz, q, g, tx, kd, wh, nu, n, ln, rfl, rfl, ⟨hn, h6⟩, hg, hK⟩ := h
  obtain ⟨h7, h3⟩ := hK s rfl
  subst h3
  exact ⟨_, k_X3_restore_b l G ca o pa f sa sp sz q g tx kd wh nu n hn h6 hc.bb hs.bb h7, fw_rec hn h6 hg hK _⟩
/-- what cup tells of the hour -/
def hr5 (x : Int32) : Int32 := if x = -1 then -5 else x
theorem isC8 {k : Nat} (hk : k < 8) : ¬ inF (nI k) 0 7 = 0 := by
  rcases k8_cases hk with rfl | rfl | rfl | rfl | rfl | rfl | rfl | rfl <;> decide
theorem kcup_w {c : Nat → Nat → Int32} {k w : Nat} (hk : k < 8) (hw : w < 12) (h4 : w ≠ 4) : kcupR c (nI k) (nI w) = c k w := by
  unfold kcupR
  rw [if_neg (isC8 hk), nn_nI (by omega)]
  unfold tellR
  have h1 : ¬ inF (nI w) 0 11 = 0 := by rcases w12_cases hw with rfl | rfl | rfl | rfl | rfl | rfl | rfl | rfl | rfl | rfl | rfl | rfl <;> decide
  have h2 : ¬ nI w = 4 := by rcases w12_cases hw with rfl | rfl | rfl | rfl | rfl | rfl | rfl | rfl | rfl | rfl | rfl | rfl <;> first | decide | exact absurd rfl h4
  rw [if_neg h1, if_neg h2, nn_nI (by omega)]
theorem kcup_4 {c : Nat → Nat → Int32} {k : Nat} (hk : k < 8) : kcupR c (nI k) 4 = hr5 (c k 4) := by
  unfold kcupR
  rw [if_neg (isC8 hk), nn_nI (by omega)]
  rfl
theorem f_cw (h : FW ca o p K w) (hc : CI p) {k : Nat} (hk : k < 8) {w9 : Nat} (hw : w9 < 12) (h4 : w9 ≠ 4) : Zc l G ca yX3_cup (zws yX3_cup cX3_cup 4 (some .int)) rm_X3_cup [.ref o, .int (nI k), .int (nI w9)] w (some (.int (p.2 k w9))) w := by
  have g := f_cup (l := l) (G := G) h hc (nI k) (nI w9)
  rw [kcup_w hk hw h4] at g
  exact g
theorem f_c4 (h : FW ca o p K w) (hc : CI p) {k : Nat} (hk : k < 8) : Zc l G ca yX3_cup (zws yX3_cup cX3_cup 4 (some .int)) rm_X3_cup [.ref o, .int (nI k), .int 4] w (some (.int (hr5 (p.2 k 4)))) w := by
  have g := f_cup (l := l) (G := G) h hc (nI k) 4
  rw [kcup_4 hk] at g
  exact g
end FWS
