def rm_L_act : Room := { frames := 7, cells := 4, slots := 80, locals := 165 }
set_option maxRecDepth 20000 in
theorem hdV_L_act : yL_act.cls = RL ∧ yL_act.cls ≠ "java/lang/invoke/MethodHandle" ∧ yL_act.cls ≠ "java/lang/invoke/VarHandle" ∧ (parseMethodDescriptor yL_act.desc).map (fun d => d.parameters.length) = some 3 := by decide +kernel
set_option maxHeartbeats 4000000 in
set_option maxRecDepth 100000 in
theorem k_L_act (l : Launch) (G : va_G) (ca : Nat → ClassId) (o : Nat) (w : va_W) (p : HC) (K : Option HC) (hF : FW ca o p K w) {F : Nat} (hP : PI F p) (x y : Int32) (hF26 : F < 2 ^ 26) {t0 : Nat} (ht0 : p.1 0 = nI t0) (ht9 : t0 + 501 ≤ 99999) : Zw l G ca yL_act (zws yL_act cL_act 8 (some .boolean)) rm_L_act [.ref o, .int x, .int y] w ((some (.int 1))) (fun w1 => ∃ (p1 : HC) (t1 : Nat), PI (F + 99) p1 ∧ p1.1 0 = nI t1 ∧ t1 ≤ t0 + 99 ∧ FW ca o p1 none w1) 4 80 := by
  refine Zw.of (cc := cL_act) (maxL := 8) (ret := (some .boolean)) (by decide) rfl (Nat.le_of_ble_eq_true rfl) ?_
  intro pg ev s0 mt below meth cd A args Q ls hx hb hr hml hown hts hlk hQ hl hz
  have hl : lv_has ls 8 [(0, .ref o), (1, .int x), (2, .int y)] := hl
  obtain ⟨fs0, tl0, ew⟩ := hF.h1
  have hci := hP.1.1
  have hP1 := hP.tick hF26 ht0 (by omega)
  have ht1 : (tickP p).1 0 = nI (t0 + 1) := by rw [tick0, ht0, nI_1]
  have hP2 := hP1.tick hF26 ht1 (by omega)
  have ht2 : (tickP (tickP p)).1 0 = nI (t0 + 1 + 1) := by rw [tick0, ht1, nI_1]
  obtain ⟨d9, hd91, hd92, ed9⟩ := hP.2.1
  refine lv_iload_n (pc := 0) hx hb dL_act_0 rfl (lv_at hl 1 rfl) ?_
  refine lv_bipush (v := 24) (pc := 1) hx hb dL_act_1 (by decide) ?_
  obtain ⟨j, hj, ej⟩ := low_nat x (n := 24) (by decide) (by decide)
  refine z_runS (pc := 3) (As := [.int x, .int 24]) (rest := []) (ws1 := w) ⟨hx, hb, hml, hown, hts⟩ (k_L_low l G ca x 24 (by decide)) (cwS 2 hts (zgoodS zsub wq_17_0 wq_17_1 wq_7_0 wq_35_0) rfl rfl rfl hdV_L_low ⟨Nat.le_of_ble_eq_true rfl, Nat.le_of_ble_eq_true rfl⟩) hz w zp_no (List.Perm.refl _) rfl hl.1 (Nat.le_of_ble_eq_true rfl) (st1 := [.int (lowF x 24)]) rfl dL_act_3 ⟨Nat.le_of_ble_eq_true rfl, Nat.le_of_ble_eq_true rfl⟩ (fun H locs hz => ?_)
  refine z_top (y := nI j) ej ?_
  refine lv_istore_n (lv' := [(3, .int (nI j)), (0, .ref o), (1, .int x), (2, .int y)]) (pc := 6) hx hb dL_act_6 rfl hl (by decide) rfl (fun ls hl => ?_)
  refine lv_iload_n (pc := 7) hx hb dL_act_7 rfl (lv_at hl 3 rfl) ?_
  refine lv_bipush (v := 8) (pc := 8) hx hb dL_act_8 (by decide) ?_
  obtain ⟨k, hk, ek⟩ := low_nat y (n := 8) (by decide) (by decide)
  refine z_runS (pc := 10) (As := [.int y, .int 8]) (rest := []) (ws1 := w) ⟨hx, hb, hml, hown, hts⟩ (k_L_low l G ca y 8 (by decide)) (cwS 2 hts (zgoodS zsub wq_17_0 wq_17_1 wq_7_0 wq_35_0) rfl rfl rfl hdV_L_low ⟨Nat.le_of_ble_eq_true rfl, Nat.le_of_ble_eq_true rfl⟩) hz w zp_no (List.Perm.refl _) rfl hl.1 (Nat.le_of_ble_eq_true rfl) (st1 := [.int (lowF y 8)]) rfl dL_act_10 ⟨Nat.le_of_ble_eq_true rfl, Nat.le_of_ble_eq_true rfl⟩ (fun H locs hz => ?_)
  refine z_top (y := nI k) ek ?_
  refine lv_istore (lv' := [(4, .int (nI k)), (3, .int (nI j)), (0, .ref o), (1, .int x), (2, .int y)]) (pc := 13) hx hb dL_act_13 hl (by decide) rfl (fun ls hl => ?_)
  refine lv_iload_n (pc := 15) hx hb dL_act_15 rfl (lv_at hl 1 rfl) ?_
  refine lv_iconst (v := 3) (pc := 16) hx hb dL_act_16 (by decide) ?_
  refine lv_icmp_ge (pc := 17) (tgt := 26) hx hb dL_act_17 (by decide) (fun c_17 => ?_) (fun c_17 => ?_)
  · refine lv_iload_n (pc := 26) hx hb dL_act_26 rfl (lv_at hl 1 rfl) ?_
    refine lv_bipush (v := 7) (pc := 27) hx hb dL_act_27 (by decide) ?_
    refine lv_icmp_ge (pc := 29) (tgt := 52) hx hb dL_act_29 (by decide) (fun c_29 => ?_) (fun c_29 => ?_)
    · refine lv_iload_n (pc := 52) hx hb dL_act_52 rfl (lv_at hl 1 rfl) ?_
      refine lv_bipush (v := 7) (pc := 53) hx hb dL_act_53 (by decide) ?_
      refine lv_icmp_ne (pc := 55) (tgt := 65) hx hb dL_act_55 (by decide) (fun c_55 => ?_) (fun c_55 => ?_)
      · refine lv_iload_n (pc := 65) hx hb dL_act_65 rfl (lv_at hl 1 rfl) ?_
        refine lv_bipush (v := 8) (pc := 66) hx hb dL_act_66 (by decide) ?_
        refine lv_icmp_ne (pc := 68) (tgt := 93) hx hb dL_act_68 (by decide) (fun c_68 => ?_) (fun c_68 => ?_)
        · refine lv_iload_n (pc := 93) hx hb dL_act_93 rfl (lv_at hl 1 rfl) ?_
          refine lv_bipush (v := 12) (pc := 94) hx hb dL_act_94 (by decide) ?_
          refine lv_icmp_ge (pc := 96) (tgt := 248) hx hb dL_act_96 (by decide) (fun c_96 => ?_) (fun c_96 => ?_)
          · refine lv_iload_n (pc := 248) hx hb dL_act_248 rfl (lv_at hl 1 rfl) ?_
            refine lv_bipush (v := 14) (pc := 249) hx hb dL_act_249 (by decide) ?_
            refine lv_icmp_ge (pc := 251) (tgt := 327) hx hb dL_act_251 (by decide) (fun c_251 => ?_) (fun c_251 => ?_)
            · refine lv_iload_n (pc := 327) hx hb dL_act_327 rfl (lv_at hl 1 rfl) ?_
              refine lv_bipush (v := 18) (pc := 328) hx hb dL_act_328 (by decide) ?_
              refine lv_icmp_ge (pc := 330) (tgt := 490) hx hb dL_act_330 (by decide) (fun c_330 => ?_) (fun c_330 => ?_)
              · refine lv_iload_n (pc := 490) hx hb dL_act_490 rfl (lv_at hl 1 rfl) ?_
                refine lv_bipush (v := 21) (pc := 491) hx hb dL_act_491 (by decide) ?_
                refine lv_icmp_ge (pc := 493) (tgt := 581) hx hb dL_act_493 (by decide) (fun c_493 => ?_) (fun c_493 => ?_)
                · refine lv_iload_n (pc := 581) hx hb dL_act_581 rfl (lv_at hl 1 rfl) ?_
                  refine lv_bipush (v := 21) (pc := 582) hx hb dL_act_582 (by decide) ?_
                  refine lv_icmp_ne (pc := 584) (tgt := 684) hx hb dL_act_584 (by decide) (fun c_584 => ?_) (fun c_584 => ?_)
                  · refine lv_iload_n (pc := 684) hx hb dL_act_684 rfl (lv_at hl 4 rfl) ?_
                    refine lv_iconst (v := 3) (pc := 685) hx hb dL_act_685 (by decide) ?_
                    obtain ⟨g, hg, eg⟩ := low_nat y (n := 3) (by decide) (by decide)
                    refine z_runS (pc := 686) (As := [.int y, .int 3]) (rest := []) (ws1 := w) ⟨hx, hb, hml, hown, hts⟩ (k_L_low l G ca y 3 (by decide)) (cwS 2 hts (zgoodS zsub wq_17_0 wq_17_1 wq_7_0 wq_35_0) rfl rfl rfl hdV_L_low ⟨Nat.le_of_ble_eq_true rfl, Nat.le_of_ble_eq_true rfl⟩) hz w zp_no (List.Perm.refl _) rfl hl.1 (Nat.le_of_ble_eq_true rfl) (st1 := [.int (lowF y 3)]) rfl dL_act_686 ⟨Nat.le_of_ble_eq_true rfl, Nat.le_of_ble_eq_true rfl⟩ (fun H locs hz => ?_)
                    refine z_top (y := nI g) eg ?_
                    refine lv_istore (lv' := [(5, .int (nI g)), (4, .int (nI k)), (3, .int (nI j)), (0, .ref o), (1, .int x), (2, .int y)]) (pc := 689) hx hb dL_act_689 hl (by decide) rfl (fun ls hl => ?_)
                    rcases (show g = 0 ∨ g = 1 ∨ g = 2 by omega) with rfl | rfl | rfl
                    · have h90 := hk
                      refine lv_aload_n (pc := 691) hx hb dL_act_691 rfl (lv_at hl 3 rfl) ?_
                      refine lv_bipush (v := 10) (pc := 692) hx hb dL_act_692 (by decide) ?_
                      refine lv_iload (pc := 694) hx hb dL_act_694 (lv_at hl 0 rfl) ?_
                      refine lv_iadd (pc := 696) hx hb dL_act_696 ?_
                      refine z_runV (pc := 697) (As := [.int (10 + (nI 0))]) (rest := []) (ws1 := w) ⟨hx, hb, hml, hown, hts⟩ (f_count (l := l) (G := G) hF hci (x := 10 + (nI 0)) (by decide) (by decide)) (cwV 1 hts (zgoodV zsub wq_8_11 wq_9_0 wq_9_1 wq_1_2 wq_9_2) rfl rfl rfl hdV_X3_count ⟨Nat.le_of_ble_eq_true rfl, Nat.le_of_ble_eq_true rfl⟩) hz [] zp_all zp_all' ew rfl rfl hl.1 (Nat.le_of_ble_eq_true rfl) (st1 := [.int (stellR p (10 + (nI 0)))]) rfl dL_act_697 ⟨Nat.le_of_ble_eq_true rfl, Nat.le_of_ble_eq_true rfl⟩ (fun H locs hz => ?_)
                      refine z_top (y := p.1 (5 + 0)) rfl ?_
                      refine lv_istore (lv' := [(6, .int (p.1 (5 + 0))), (5, .int (nI 0)), (4, .int (nI k)), (3, .int (nI j)), (0, .ref o), (1, .int x), (2, .int y)]) (pc := 700) hx hb dL_act_700 hl (by decide) rfl (fun ls hl => ?_)
                      refine lv_iload (pc := 702) hx hb dL_act_702 (lv_at hl 1 rfl) ?_
                      refine lv_iconst (v := 2) (pc := 704) hx hb dL_act_704 (by decide) ?_
                      refine lv_icmp_ne (pc := 705) (tgt := 738) hx hb dL_act_705 (by decide) (fun c_705 => ?_) (fun c9 => absurd c9 (by decide))
                      refine lv_iload_n (pc := 738) hx hb dL_act_738 rfl (lv_at hl 6 rfl) ?_
                      refine lv_iconst (v := 2) (pc := 739) hx hb dL_act_739 (by decide) ?_
                      refine lv_ishr (pc := 740) hx hb dL_act_740 ?_
                      refine lv_iload_n (pc := 741) hx hb dL_act_741 rfl (lv_at hl 6 rfl) ?_
                      refine lv_bipush (v := 12) (pc := 742) hx hb dL_act_742 (by decide) ?_
                      refine lv_ishr (pc := 744) hx hb dL_act_744 ?_
                      refine lv_iconst (v := 3) (pc := 745) hx hb dL_act_745 (by decide) ?_
                      refine z_runS (pc := 746) (As := [.int (shrF y 12), .int 3]) (rest := [.int (shrF y 2)]) (ws1 := w) ⟨hx, hb, hml, hown, hts⟩ (k_L_low l G ca (shrF y 12) 3 (by decide)) (cwS 2 hts (zgoodS zsub wq_17_0 wq_17_1 wq_7_0 wq_35_0) rfl rfl rfl hdV_L_low ⟨Nat.le_of_ble_eq_true rfl, Nat.le_of_ble_eq_true rfl⟩) hz w zp_no (List.Perm.refl _) rfl hl.1 (Nat.le_of_ble_eq_true rfl) (st1 := [.int (lowF (shrF y 12) 3), .int (shrF y 2)]) rfl dL_act_746 ⟨Nat.le_of_ble_eq_true rfl, Nat.le_of_ble_eq_true rfl⟩ (fun H locs hz => ?_)
                      have J1 : ∀ (H : Heap) (locs : List Loc) (ls : Array Slot), zw G ca A s0.heap s0 w H locs → lv_has ls 8 [(6, .int (p.1 (5 + 0))), (5, .int (nI 0)), (4, .int (nI k)), (3, .int (nI j)), (0, .ref o), (1, .int x), (2, .int y)] → W pg l ev rm_L_act s0 mt args below meth cd H locs 0 0 Q (F0 mt 759 ls [.int (if lowF (shrF y 12) 3 = 0 then 100 else 15), .int (shrF y 2)]) := by
                        intro H locs ls hz hl
                        obtain ⟨m9, hm1, hm2, em9⟩ : ∃ m : Nat, 1 ≤ m ∧ m ≤ 100 ∧ (if lowF (shrF y 12) 3 = 0 then 100 else 15) = nI m := by
                          split
                          · exact ⟨100, by decide, by decide, rfl⟩
                          · exact ⟨15, by decide, by decide, rfl⟩
                        refine z_top (y := nI m9) em9 ?_
                        obtain ⟨z9, hz9, ez9⟩ := low_nat (shrF y 2) (n := m9) (by omega) (by omega)
                        refine z_runS (pc := 759) (As := [.int (shrF y 2), .int (nI m9)]) (rest := []) (ws1 := w) ⟨hx, hb, hml, hown, hts⟩ (k_L_low l G ca (shrF y 2) (nI m9) (nI_ne0 (by omega) (by omega))) (cwS 2 hts (zgoodS zsub wq_17_0 wq_17_1 wq_7_0 wq_35_0) rfl rfl rfl hdV_L_low ⟨Nat.le_of_ble_eq_true rfl, Nat.le_of_ble_eq_true rfl⟩) hz w zp_no (List.Perm.refl _) rfl hl.1 (Nat.le_of_ble_eq_true rfl) (st1 := [.int (lowF (shrF y 2) (nI m9))]) rfl dL_act_759 ⟨Nat.le_of_ble_eq_true rfl, Nat.le_of_ble_eq_true rfl⟩ (fun H locs hz => ?_)
                        refine z_top (y := nI z9) ez9 ?_
                        have hpt := put_ok (h := p.1) (g := 0) (X := z9) (by decide) (fun _ => by omega) (fun _ => by omega)
                        refine lv_istore (lv' := [(7, .int (nI z9)), (6, .int (p.1 (5 + 0))), (5, .int (nI 0)), (4, .int (nI k)), (3, .int (nI j)), (0, .ref o), (1, .int x), (2, .int y)]) (pc := 762) hx hb dL_act_762 hl (by decide) rfl (fun ls hl => ?_)
                        refine lv_aload_n (pc := 764) hx hb dL_act_764 rfl (lv_at hl 5 rfl) ?_
                        refine lv_iload (pc := 765) hx hb dL_act_765 (lv_at hl 2 rfl) ?_
                        refine lv_iload (pc := 767) hx hb dL_act_767 (lv_at hl 0 rfl) ?_
                        obtain ⟨w1, z1, hF1⟩ := f_set (l := l) (G := G) hF hci (nI 0) (nI z9)
                        obtain ⟨fsw1, tlw1, ew1⟩ := hF1.h1
                        refine z_runV (pc := 769) (As := [.int (nI 0), .int (nI z9)]) (rest := []) (ws1 := w1) ⟨hx, hb, hml, hown, hts⟩ (z1) (cwV 2 hts (zgoodV zsub wq_27_5 wq_27_6 wq_27_7 wq_1_2 wq_27_8) rfl rfl rfl hdV_X3_set ⟨Nat.le_of_ble_eq_true rfl, Nat.le_of_ble_eq_true rfl⟩) hz [] zp_all zp_all' ew rfl rfl hl.1 (Nat.le_of_ble_eq_true rfl) (st1 := [.int (putR p.1 (nI 0) (nI z9))]) rfl dL_act_769 ⟨Nat.le_of_ble_eq_true rfl, Nat.le_of_ble_eq_true rfl⟩ (fun H locs hz => ?_)
                        refine z_top (y := if nI z9 = p.1 (5 + 0) then -5 else p.1 (5 + 0)) hpt.1 ?_
                        refine lv_iload (pc := 772) hx hb dL_act_772 (lv_at hl 0 rfl) ?_
                        refine lv_iload (pc := 774) hx hb dL_act_774 (lv_at hl 1 rfl) ?_
                        have J2 : ∀ (H : Heap) (locs : List Loc) (ls : Array Slot), zw G ca A s0.heap s0 w1 H locs → lv_has ls 8 [(7, .int (nI z9)), (6, .int (p.1 (5 + 0))), (5, .int (nI 0)), (4, .int (nI k)), (3, .int (nI j)), (0, .ref o), (1, .int x), (2, .int y)] → W pg l ev rm_L_act s0 mt args below meth cd H locs 0 0 Q (F0 mt 786 ls [.int (if nI z9 = p.1 (5 + 0) then -5 else p.1 (5 + 0)), .int (if nI z9 = p.1 (5 + 0) then -5 else p.1 (5 + 0))]) := by
                          intro H locs ls hz hl
                          refine lv_icmp_ne (pc := 786) (tgt := 807) hx hb dL_act_786 (by decide) (fun c9 => absurd rfl c9) (fun c_786 => ?_)
                          refine lv_aload_n (pc := 789) hx hb dL_act_789 rfl (lv_at hl 5 rfl) ?_
                          refine lv_bipush (v := 10) (pc := 790) hx hb dL_act_790 (by decide) ?_
                          refine lv_iload (pc := 792) hx hb dL_act_792 (lv_at hl 2 rfl) ?_
                          refine lv_iadd (pc := 794) hx hb dL_act_794 ?_
                          refine z_runV (pc := 795) (As := [.int (10 + (nI 0))]) (rest := []) (ws1 := w1) ⟨hx, hb, hml, hown, hts⟩ (f_count (l := l) (G := G) hF1 (hP.put (nI 0) (nI z9)).1.1 (x := 10 + (nI 0)) (by decide) (by decide)) (cwV 1 hts (zgoodV zsub wq_8_11 wq_9_0 wq_9_1 wq_1_2 wq_9_2) rfl rfl rfl hdV_X3_count ⟨Nat.le_of_ble_eq_true rfl, Nat.le_of_ble_eq_true rfl⟩) hz [] zp_all zp_all' ew1 rfl rfl hl.1 (Nat.le_of_ble_eq_true rfl) (st1 := [.int (stellR (putH p.1 (nI 0) (nI z9), p.2) (10 + (nI 0)))]) rfl dL_act_795 ⟨Nat.le_of_ble_eq_true rfl, Nat.le_of_ble_eq_true rfl⟩ (fun H locs hz => ?_)
                          refine z_top (y := nI z9) hpt.2 ?_
                          refine lv_iload (pc := 798) hx hb dL_act_798 (lv_at hl 0 rfl) ?_
                          refine lv_icmp_ne (pc := 800) (tgt := 807) hx hb dL_act_800 (by decide) (fun c9 => absurd rfl c9) (fun c_800 => ?_)
                          refine lv_iconst (v := 1) (pc := 803) hx hb dL_act_803 (by decide) ?_
                          refine lv_goto (tgt := 808) (pc := 804) hx hb dL_act_804 (by decide) ?_
                          exact z_zretW (pc := 808) hx hb hr hlk hQ hz (Nat.le_of_ble_eq_true rfl) (Nat.le_of_ble_eq_true rfl) rfl dL_act_808 (by rfl) (⟨_, _, (hP.put (nI 0) (nI z9)).mono (by omega), (put_t p (nI 0) (nI z9)).trans ht0, by omega, hF1.any⟩)
                        refine lv_icmp_ne (pc := 776) (tgt := 784) hx hb dL_act_776 (by decide) (fun c_776 => ?_) (fun c_776 => ?_)
                        · refine lv_iload (pc := 784) hx hb dL_act_784 (lv_at hl 1 rfl) ?_
                          exact z_top (by rw [if_neg c_776]) (J2 _ _ _ hz (lv_sub hl [0, 1, 2, 3, 4, 5, 6, 7] rfl))
                        · refine lv_bipush (v := -5) (pc := 779) hx hb dL_act_779 (by decide) ?_
                          refine lv_goto (tgt := 786) (pc := 781) hx hb dL_act_781 (by decide) ?_
                          exact z_top (by rw [if_pos c_776]) (J2 _ _ _ hz (lv_sub hl [0, 1, 2, 3, 4, 5, 6, 7] rfl))
                      refine lv_if_ne (pc := 749) (tgt := 757) hx hb dL_act_749 (by decide) (fun c_749 => ?_) (fun c_749 => ?_)
                      · refine lv_bipush (v := 15) (pc := 757) hx hb dL_act_757 (by decide) ?_
                        exact z_top (by rw [if_neg c_749]) (J1 _ _ _ hz (lv_sub hl [0, 1, 2, 3, 4, 5, 6] rfl))
                      · refine lv_bipush (v := 100) (pc := 752) hx hb dL_act_752 (by decide) ?_
                        refine lv_goto (tgt := 759) (pc := 754) hx hb dL_act_754 (by decide) ?_
                        exact z_top (by rw [if_pos c_749]) (J1 _ _ _ hz (lv_sub hl [0, 1, 2, 3, 4, 5, 6] rfl))
                    · have h91 := hk
                      refine lv_aload_n (pc := 691) hx hb dL_act_691 rfl (lv_at hl 3 rfl) ?_
                      refine lv_bipush (v := 10) (pc := 692) hx hb dL_act_692 (by decide) ?_
                      refine lv_iload (pc := 694) hx hb dL_act_694 (lv_at hl 0 rfl) ?_
                      refine lv_iadd (pc := 696) hx hb dL_act_696 ?_
                      refine z_runV (pc := 697) (As := [.int (10 + (nI 1))]) (rest := []) (ws1 := w) ⟨hx, hb, hml, hown, hts⟩ (f_count (l := l) (G := G) hF hci (x := 10 + (nI 1)) (by decide) (by decide)) (cwV 1 hts (zgoodV zsub wq_8_11 wq_9_0 wq_9_1 wq_1_2 wq_9_2) rfl rfl rfl hdV_X3_count ⟨Nat.le_of_ble_eq_true rfl, Nat.le_of_ble_eq_true rfl⟩) hz [] zp_all zp_all' ew rfl rfl hl.1 (Nat.le_of_ble_eq_true rfl) (st1 := [.int (stellR p (10 + (nI 1)))]) rfl dL_act_697 ⟨Nat.le_of_ble_eq_true rfl, Nat.le_of_ble_eq_true rfl⟩ (fun H locs hz => ?_)
                      refine z_top (y := p.1 (5 + 1)) rfl ?_
                      refine lv_istore (lv' := [(6, .int (p.1 (5 + 1))), (5, .int (nI 1)), (4, .int (nI k)), (3, .int (nI j)), (0, .ref o), (1, .int x), (2, .int y)]) (pc := 700) hx hb dL_act_700 hl (by decide) rfl (fun ls hl => ?_)
                      refine lv_iload (pc := 702) hx hb dL_act_702 (lv_at hl 1 rfl) ?_
                      refine lv_iconst (v := 2) (pc := 704) hx hb dL_act_704 (by decide) ?_
                      refine lv_icmp_ne (pc := 705) (tgt := 738) hx hb dL_act_705 (by decide) (fun c_705 => ?_) (fun c9 => absurd c9 (by decide))
                      refine lv_iload_n (pc := 738) hx hb dL_act_738 rfl (lv_at hl 6 rfl) ?_
                      refine lv_iconst (v := 2) (pc := 739) hx hb dL_act_739 (by decide) ?_
                      refine lv_ishr (pc := 740) hx hb dL_act_740 ?_
                      refine lv_iload_n (pc := 741) hx hb dL_act_741 rfl (lv_at hl 6 rfl) ?_
                      refine lv_bipush (v := 12) (pc := 742) hx hb dL_act_742 (by decide) ?_
                      refine lv_ishr (pc := 744) hx hb dL_act_744 ?_
                      refine lv_iconst (v := 3) (pc := 745) hx hb dL_act_745 (by decide) ?_
                      refine z_runS (pc := 746) (As := [.int (shrF y 12), .int 3]) (rest := [.int (shrF y 2)]) (ws1 := w) ⟨hx, hb, hml, hown, hts⟩ (k_L_low l G ca (shrF y 12) 3 (by decide)) (cwS 2 hts (zgoodS zsub wq_17_0 wq_17_1 wq_7_0 wq_35_0) rfl rfl rfl hdV_L_low ⟨Nat.le_of_ble_eq_true rfl, Nat.le_of_ble_eq_true rfl⟩) hz w zp_no (List.Perm.refl _) rfl hl.1 (Nat.le_of_ble_eq_true rfl) (st1 := [.int (lowF (shrF y 12) 3), .int (shrF y 2)]) rfl dL_act_746 ⟨Nat.le_of_ble_eq_true rfl, Nat.le_of_ble_eq_true rfl⟩ (fun H locs hz => ?_)
                      have J7 : ∀ (H : Heap) (locs : List Loc) (ls : Array Slot), zw G ca A s0.heap s0 w H locs → lv_has ls 8 [(6, .int (p.1 (5 + 1))), (5, .int (nI 1)), (4, .int (nI k)), (3, .int (nI j)), (0, .ref o), (1, .int x), (2, .int y)] → W pg l ev rm_L_act s0 mt args below meth cd H locs 0 0 Q (F0 mt 759 ls [.int (if lowF (shrF y 12) 3 = 0 then 100 else 15), .int (shrF y 2)]) := by
                        intro H locs ls hz hl
                        obtain ⟨m9, hm1, hm2, em9⟩ : ∃ m : Nat, 1 ≤ m ∧ m ≤ 100 ∧ (if lowF (shrF y 12) 3 = 0 then 100 else 15) = nI m := by
                          split
                          · exact ⟨100, by decide, by decide, rfl⟩
                          · exact ⟨15, by decide, by decide, rfl⟩
                        refine z_top (y := nI m9) em9 ?_
                        obtain ⟨z9, hz9, ez9⟩ := low_nat (shrF y 2) (n := m9) (by omega) (by omega)
                        refine z_runS (pc := 759) (As := [.int (shrF y 2), .int (nI m9)]) (rest := []) (ws1 := w) ⟨hx, hb, hml, hown, hts⟩ (k_L_low l G ca (shrF y 2) (nI m9) (nI_ne0 (by omega) (by omega))) (cwS 2 hts (zgoodS zsub wq_17_0 wq_17_1 wq_7_0 wq_35_0) rfl rfl rfl hdV_L_low ⟨Nat.le_of_ble_eq_true rfl, Nat.le_of_ble_eq_true rfl⟩) hz w zp_no (List.Perm.refl _) rfl hl.1 (Nat.le_of_ble_eq_true rfl) (st1 := [.int (lowF (shrF y 2) (nI m9))]) rfl dL_act_759 ⟨Nat.le_of_ble_eq_true rfl, Nat.le_of_ble_eq_true rfl⟩ (fun H locs hz => ?_)
                        refine z_top (y := nI z9) ez9 ?_
                        have hpt := put_ok (h := p.1) (g := 1) (X := z9) (by decide) (fun _ => by omega) (fun _ => by omega)
                        refine lv_istore (lv' := [(7, .int (nI z9)), (6, .int (p.1 (5 + 1))), (5, .int (nI 1)), (4, .int (nI k)), (3, .int (nI j)), (0, .ref o), (1, .int x), (2, .int y)]) (pc := 762) hx hb dL_act_762 hl (by decide) rfl (fun ls hl => ?_)
                        refine lv_aload_n (pc := 764) hx hb dL_act_764 rfl (lv_at hl 5 rfl) ?_
                        refine lv_iload (pc := 765) hx hb dL_act_765 (lv_at hl 2 rfl) ?_
                        refine lv_iload (pc := 767) hx hb dL_act_767 (lv_at hl 0 rfl) ?_
                        obtain ⟨w2, z2, hF2⟩ := f_set (l := l) (G := G) hF hci (nI 1) (nI z9)
                        obtain ⟨fsw2, tlw2, ew2⟩ := hF2.h1
                        refine z_runV (pc := 769) (As := [.int (nI 1), .int (nI z9)]) (rest := []) (ws1 := w2) ⟨hx, hb, hml, hown, hts⟩ (z2) (cwV 2 hts (zgoodV zsub wq_27_5 wq_27_6 wq_27_7 wq_1_2 wq_27_8) rfl rfl rfl hdV_X3_set ⟨Nat.le_of_ble_eq_true rfl, Nat.le_of_ble_eq_true rfl⟩) hz [] zp_all zp_all' ew rfl rfl hl.1 (Nat.le_of_ble_eq_true rfl) (st1 := [.int (putR p.1 (nI 1) (nI z9))]) rfl dL_act_769 ⟨Nat.le_of_ble_eq_true rfl, Nat.le_of_ble_eq_true rfl⟩ (fun H locs hz => ?_)
                        refine z_top (y := if nI z9 = p.1 (5 + 1) then -5 else p.1 (5 + 1)) hpt.1 ?_
                        refine lv_iload (pc := 772) hx hb dL_act_772 (lv_at hl 0 rfl) ?_
                        refine lv_iload (pc := 774) hx hb dL_act_774 (lv_at hl 1 rfl) ?_
                        have J8 : ∀ (H : Heap) (locs : List Loc) (ls : Array Slot), zw G ca A s0.heap s0 w2 H locs → lv_has ls 8 [(7, .int (nI z9)), (6, .int (p.1 (5 + 1))), (5, .int (nI 1)), (4, .int (nI k)), (3, .int (nI j)), (0, .ref o), (1, .int x), (2, .int y)] → W pg l ev rm_L_act s0 mt args below meth cd H locs 0 0 Q (F0 mt 786 ls [.int (if nI z9 = p.1 (5 + 1) then -5 else p.1 (5 + 1)), .int (if nI z9 = p.1 (5 + 1) then -5 else p.1 (5 + 1))]) := by
                          intro H locs ls hz hl
                          refine lv_icmp_ne (pc := 786) (tgt := 807) hx hb dL_act_786 (by decide) (fun c9 => absurd rfl c9) (fun c_786 => ?_)
                          refine lv_aload_n (pc := 789) hx hb dL_act_789 rfl (lv_at hl 5 rfl) ?_
                          refine lv_bipush (v := 10) (pc := 790) hx hb dL_act_790 (by decide) ?_
                          refine lv_iload (pc := 792) hx hb dL_act_792 (lv_at hl 2 rfl) ?_
                          refine lv_iadd (pc := 794) hx hb dL_act_794 ?_
                          refine z_runV (pc := 795) (As := [.int (10 + (nI 1))]) (rest := []) (ws1 := w2) ⟨hx, hb, hml, hown, hts⟩ (f_count (l := l) (G := G) hF2 (hP.put (nI 1) (nI z9)).1.1 (x := 10 + (nI 1)) (by decide) (by decide)) (cwV 1 hts (zgoodV zsub wq_8_11 wq_9_0 wq_9_1 wq_1_2 wq_9_2) rfl rfl rfl hdV_X3_count ⟨Nat.le_of_ble_eq_true rfl, Nat.le_of_ble_eq_true rfl⟩) hz [] zp_all zp_all' ew2 rfl rfl hl.1 (Nat.le_of_ble_eq_true rfl) (st1 := [.int (stellR (putH p.1 (nI 1) (nI z9), p.2) (10 + (nI 1)))]) rfl dL_act_795 ⟨Nat.le_of_ble_eq_true rfl, Nat.le_of_ble_eq_true rfl⟩ (fun H locs hz => ?_)
                          refine z_top (y := nI z9) hpt.2 ?_
                          refine lv_iload (pc := 798) hx hb dL_act_798 (lv_at hl 0 rfl) ?_
                          refine lv_icmp_ne (pc := 800) (tgt := 807) hx hb dL_act_800 (by decide) (fun c9 => absurd rfl c9) (fun c_800 => ?_)
                          refine lv_iconst (v := 1) (pc := 803) hx hb dL_act_803 (by decide) ?_
                          refine lv_goto (tgt := 808) (pc := 804) hx hb dL_act_804 (by decide) ?_
                          exact z_zretW (pc := 808) hx hb hr hlk hQ hz (Nat.le_of_ble_eq_true rfl) (Nat.le_of_ble_eq_true rfl) rfl dL_act_808 (by rfl) (⟨_, _, (hP.put (nI 1) (nI z9)).mono (by omega), (put_t p (nI 1) (nI z9)).trans ht0, by omega, hF2.any⟩)
                        refine lv_icmp_ne (pc := 776) (tgt := 784) hx hb dL_act_776 (by decide) (fun c_776 => ?_) (fun c_776 => ?_)
                        · refine lv_iload (pc := 784) hx hb dL_act_784 (lv_at hl 1 rfl) ?_
                          exact z_top (by rw [if_neg c_776]) (J8 _ _ _ hz (lv_sub hl [0, 1, 2, 3, 4, 5, 6, 7] rfl))
                        · refine lv_bipush (v := -5) (pc := 779) hx hb dL_act_779 (by decide) ?_
                          refine lv_goto (tgt := 786) (pc := 781) hx hb dL_act_781 (by decide) ?_
                          exact z_top (by rw [if_pos c_776]) (J8 _ _ _ hz (lv_sub hl [0, 1, 2, 3, 4, 5, 6, 7] rfl))
                      refine lv_if_ne (pc := 749) (tgt := 757) hx hb dL_act_749 (by decide) (fun c_749 => ?_) (fun c_749 => ?_)
                      · refine lv_bipush (v := 15) (pc := 757) hx hb dL_act_757 (by decide) ?_
                        exact z_top (by rw [if_neg c_749]) (J7 _ _ _ hz (lv_sub hl [0, 1, 2, 3, 4, 5, 6] rfl))
                      · refine lv_bipush (v := 100) (pc := 752) hx hb dL_act_752 (by decide) ?_
                        refine lv_goto (tgt := 759) (pc := 754) hx hb dL_act_754 (by decide) ?_
                        exact z_top (by rw [if_pos c_749]) (J7 _ _ _ hz (lv_sub hl [0, 1, 2, 3, 4, 5, 6] rfl))
                    · have h92 := hk
                      refine lv_aload_n (pc := 691) hx hb dL_act_691 rfl (lv_at hl 3 rfl) ?_
                      refine lv_bipush (v := 10) (pc := 692) hx hb dL_act_692 (by decide) ?_
                      refine lv_iload (pc := 694) hx hb dL_act_694 (lv_at hl 0 rfl) ?_
                      refine lv_iadd (pc := 696) hx hb dL_act_696 ?_
                      refine z_runV (pc := 697) (As := [.int (10 + (nI 2))]) (rest := []) (ws1 := w) ⟨hx, hb, hml, hown, hts⟩ (f_count (l := l) (G := G) hF hci (x := 10 + (nI 2)) (by decide) (by decide)) (cwV 1 hts (zgoodV zsub wq_8_11 wq_9_0 wq_9_1 wq_1_2 wq_9_2) rfl rfl rfl hdV_X3_count ⟨Nat.le_of_ble_eq_true rfl, Nat.le_of_ble_eq_true rfl⟩) hz [] zp_all zp_all' ew rfl rfl hl.1 (Nat.le_of_ble_eq_true rfl) (st1 := [.int (stellR p (10 + (nI 2)))]) rfl dL_act_697 ⟨Nat.le_of_ble_eq_true rfl, Nat.le_of_ble_eq_true rfl⟩ (fun H locs hz => ?_)
                      refine z_top (y := p.1 (5 + 2)) rfl ?_
                      refine lv_istore (lv' := [(6, .int (p.1 (5 + 2))), (5, .int (nI 2)), (4, .int (nI k)), (3, .int (nI j)), (0, .ref o), (1, .int x), (2, .int y)]) (pc := 700) hx hb dL_act_700 hl (by decide) rfl (fun ls hl => ?_)
                      refine lv_iload (pc := 702) hx hb dL_act_702 (lv_at hl 1 rfl) ?_
                      refine lv_iconst (v := 2) (pc := 704) hx hb dL_act_704 (by decide) ?_
                      refine lv_icmp_ne (pc := 705) (tgt := 738) hx hb dL_act_705 (by decide) (fun c9 => absurd rfl c9) (fun c_705 => ?_)
                      refine lv_iconst (v := 1) (pc := 708) hx hb dL_act_708 (by decide) ?_
                      refine lv_iload_n (pc := 709) hx hb dL_act_709 rfl (lv_at hl 6 rfl) ?_
                      refine lv_iconst (v := 2) (pc := 710) hx hb dL_act_710 (by decide) ?_
                      refine lv_ishr (pc := 711) hx hb dL_act_711 ?_
                      refine lv_iload_n (pc := 712) hx hb dL_act_712 rfl (lv_at hl 6 rfl) ?_
                      refine lv_bipush (v := 12) (pc := 713) hx hb dL_act_713 (by decide) ?_
                      refine lv_ishr (pc := 715) hx hb dL_act_715 ?_
                      refine lv_iconst (v := 2) (pc := 716) hx hb dL_act_716 (by decide) ?_
                      refine z_runS (pc := 717) (As := [.int (shrF y 12), .int 2]) (rest := [.int (shrF y 2), .int 1]) (ws1 := w) ⟨hx, hb, hml, hown, hts⟩ (k_L_low l G ca (shrF y 12) 2 (by decide)) (cwS 2 hts (zgoodS zsub wq_17_0 wq_17_1 wq_7_0 wq_35_0) rfl rfl rfl hdV_L_low ⟨Nat.le_of_ble_eq_true rfl, Nat.le_of_ble_eq_true rfl⟩) hz w zp_no (List.Perm.refl _) rfl hl.1 (Nat.le_of_ble_eq_true rfl) (st1 := [.int (lowF (shrF y 12) 2), .int (shrF y 2), .int 1]) rfl dL_act_717 ⟨Nat.le_of_ble_eq_true rfl, Nat.le_of_ble_eq_true rfl⟩ (fun H locs hz => ?_)
                      have J13 : ∀ (H : Heap) (locs : List Loc) (ls : Array Slot), zw G ca A s0.heap s0 w H locs → lv_has ls 8 [(6, .int (p.1 (5 + 2))), (5, .int (nI 2)), (4, .int (nI k)), (3, .int (nI j)), (0, .ref o), (1, .int x), (2, .int y)] → W pg l ev rm_L_act s0 mt args below meth cd H locs 0 0 Q (F0 mt 731 ls [.int (if lowF (shrF y 12) 2 = 0 then 240 else 24), .int (shrF y 2), .int 1]) := by
                        intro H locs ls hz hl
                        obtain ⟨m9, hm1, hm2, em9⟩ : ∃ m : Nat, 1 ≤ m ∧ m ≤ 240 ∧ (if lowF (shrF y 12) 2 = 0 then 240 else 24) = nI m := by
                          split
                          · exact ⟨240, by decide, by decide, rfl⟩
                          · exact ⟨24, by decide, by decide, rfl⟩
                        refine z_top (y := nI m9) em9 ?_
                        obtain ⟨z9, hz9, ez9⟩ := low_nat (shrF y 2) (n := m9) (by omega) (by omega)
                        refine z_runS (pc := 731) (As := [.int (shrF y 2), .int (nI m9)]) (rest := [.int 1]) (ws1 := w) ⟨hx, hb, hml, hown, hts⟩ (k_L_low l G ca (shrF y 2) (nI m9) (nI_ne0 (by omega) (by omega))) (cwS 2 hts (zgoodS zsub wq_17_0 wq_17_1 wq_7_0 wq_35_0) rfl rfl rfl hdV_L_low ⟨Nat.le_of_ble_eq_true rfl, Nat.le_of_ble_eq_true rfl⟩) hz w zp_no (List.Perm.refl _) rfl hl.1 (Nat.le_of_ble_eq_true rfl) (st1 := [.int (lowF (shrF y 2) (nI m9)), .int 1]) rfl dL_act_731 ⟨Nat.le_of_ble_eq_true rfl, Nat.le_of_ble_eq_true rfl⟩ (fun H locs hz => ?_)
                        refine z_top (y := nI z9) ez9 ?_
                        refine lv_iadd (pc := 734) hx hb dL_act_734 ?_
                        refine lv_goto (tgt := 762) (pc := 735) hx hb dL_act_735 (by decide) ?_
                        refine z_top (y := nI (1 + z9)) (nI_add 1 z9) ?_
                        have hpt := put_ok (h := p.1) (g := 2) (X := 1 + z9) (by decide) (fun _ => by omega) (fun _ => by omega)
                        refine lv_istore (lv' := [(7, .int (nI (1 + z9))), (6, .int (p.1 (5 + 2))), (5, .int (nI 2)), (4, .int (nI k)), (3, .int (nI j)), (0, .ref o), (1, .int x), (2, .int y)]) (pc := 762) hx hb dL_act_762 hl (by decide) rfl (fun ls hl => ?_)
                        refine lv_aload_n (pc := 764) hx hb dL_act_764 rfl (lv_at hl 5 rfl) ?_
                        refine lv_iload (pc := 765) hx hb dL_act_765 (lv_at hl 2 rfl) ?_
                        refine lv_iload (pc := 767) hx hb dL_act_767 (lv_at hl 0 rfl) ?_
                        obtain ⟨w3, z3, hF3⟩ := f_set (l := l) (G := G) hF hci (nI 2) (nI (1 + z9))
                        obtain ⟨fsw3, tlw3, ew3⟩ := hF3.h1
                        refine z_runV (pc := 769) (As := [.int (nI 2), .int (nI (1 + z9))]) (rest := []) (ws1 := w3) ⟨hx, hb, hml, hown, hts⟩ (z3) (cwV 2 hts (zgoodV zsub wq_27_5 wq_27_6 wq_27_7 wq_1_2 wq_27_8) rfl rfl rfl hdV_X3_set ⟨Nat.le_of_ble_eq_true rfl, Nat.le_of_ble_eq_true rfl⟩) hz [] zp_all zp_all' ew rfl rfl hl.1 (Nat.le_of_ble_eq_true rfl) (st1 := [.int (putR p.1 (nI 2) (nI (1 + z9)))]) rfl dL_act_769 ⟨Nat.le_of_ble_eq_true rfl, Nat.le_of_ble_eq_true rfl⟩ (fun H locs hz => ?_)
                        refine z_top (y := if nI (1 + z9) = p.1 (5 + 2) then -5 else p.1 (5 + 2)) hpt.1 ?_
                        refine lv_iload (pc := 772) hx hb dL_act_772 (lv_at hl 0 rfl) ?_
                        refine lv_iload (pc := 774) hx hb dL_act_774 (lv_at hl 1 rfl) ?_
                        have J14 : ∀ (H : Heap) (locs : List Loc) (ls : Array Slot), zw G ca A s0.heap s0 w3 H locs → lv_has ls 8 [(7, .int (nI (1 + z9))), (6, .int (p.1 (5 + 2))), (5, .int (nI 2)), (4, .int (nI k)), (3, .int (nI j)), (0, .ref o), (1, .int x), (2, .int y)] → W pg l ev rm_L_act s0 mt args below meth cd H locs 0 0 Q (F0 mt 786 ls [.int (if nI (1 + z9) = p.1 (5 + 2) then -5 else p.1 (5 + 2)), .int (if nI (1 + z9) = p.1 (5 + 2) then -5 else p.1 (5 + 2))]) := by
                          intro H locs ls hz hl
                          refine lv_icmp_ne (pc := 786) (tgt := 807) hx hb dL_act_786 (by decide) (fun c9 => absurd rfl c9) (fun c_786 => ?_)
                          refine lv_aload_n (pc := 789) hx hb dL_act_789 rfl (lv_at hl 5 rfl) ?_
                          refine lv_bipush (v := 10) (pc := 790) hx hb dL_act_790 (by decide) ?_
                          refine lv_iload (pc := 792) hx hb dL_act_792 (lv_at hl 2 rfl) ?_
                          refine lv_iadd (pc := 794) hx hb dL_act_794 ?_
                          refine z_runV (pc := 795) (As := [.int (10 + (nI 2))]) (rest := []) (ws1 := w3) ⟨hx, hb, hml, hown, hts⟩ (f_count (l := l) (G := G) hF3 (hP.put (nI 2) (nI (1 + z9))).1.1 (x := 10 + (nI 2)) (by decide) (by decide)) (cwV 1 hts (zgoodV zsub wq_8_11 wq_9_0 wq_9_1 wq_1_2 wq_9_2) rfl rfl rfl hdV_X3_count ⟨Nat.le_of_ble_eq_true rfl, Nat.le_of_ble_eq_true rfl⟩) hz [] zp_all zp_all' ew3 rfl rfl hl.1 (Nat.le_of_ble_eq_true rfl) (st1 := [.int (stellR (putH p.1 (nI 2) (nI (1 + z9)), p.2) (10 + (nI 2)))]) rfl dL_act_795 ⟨Nat.le_of_ble_eq_true rfl, Nat.le_of_ble_eq_true rfl⟩ (fun H locs hz => ?_)
                          refine z_top (y := nI (1 + z9)) hpt.2 ?_
                          refine lv_iload (pc := 798) hx hb dL_act_798 (lv_at hl 0 rfl) ?_
                          refine lv_icmp_ne (pc := 800) (tgt := 807) hx hb dL_act_800 (by decide) (fun c9 => absurd rfl c9) (fun c_800 => ?_)
                          refine lv_iconst (v := 1) (pc := 803) hx hb dL_act_803 (by decide) ?_
                          refine lv_goto (tgt := 808) (pc := 804) hx hb dL_act_804 (by decide) ?_
                          exact z_zretW (pc := 808) hx hb hr hlk hQ hz (Nat.le_of_ble_eq_true rfl) (Nat.le_of_ble_eq_true rfl) rfl dL_act_808 (by rfl) (⟨_, _, (hP.put (nI 2) (nI (1 + z9))).mono (by omega), (put_t p (nI 2) (nI (1 + z9))).trans ht0, by omega, hF3.any⟩)
                        refine lv_icmp_ne (pc := 776) (tgt := 784) hx hb dL_act_776 (by decide) (fun c_776 => ?_) (fun c_776 => ?_)
                        · refine lv_iload (pc := 784) hx hb dL_act_784 (lv_at hl 1 rfl) ?_
                          exact z_top (by rw [if_neg c_776]) (J14 _ _ _ hz (lv_sub hl [0, 1, 2, 3, 4, 5, 6, 7] rfl))
                        · refine lv_bipush (v := -5) (pc := 779) hx hb dL_act_779 (by decide) ?_
                          refine lv_goto (tgt := 786) (pc := 781) hx hb dL_act_781 (by decide) ?_
                          exact z_top (by rw [if_pos c_776]) (J14 _ _ _ hz (lv_sub hl [0, 1, 2, 3, 4, 5, 6, 7] rfl))
                      refine lv_if_ne (pc := 720) (tgt := 729) hx hb dL_act_720 (by decide) (fun c_720 => ?_) (fun c_720 => ?_)
                      · refine lv_bipush (v := 24) (pc := 729) hx hb dL_act_729 (by decide) ?_
                        exact z_top (by rw [if_neg c_720]) (J13 _ _ _ hz (lv_sub hl [0, 1, 2, 3, 4, 5, 6] rfl))
                      · refine lv_sipush (v := 240) (pc := 723) hx hb dL_act_723 (by decide) ?_
                        refine lv_goto (tgt := 731) (pc := 726) hx hb dL_act_726 (by decide) ?_
                        exact z_top (by rw [if_pos c_720]) (J13 _ _ _ hz (lv_sub hl [0, 1, 2, 3, 4, 5, 6] rfl))
                  · refine lv_aload_n (pc := 587) hx hb dL_act_587 rfl (lv_at hl 2 rfl) ?_
                    refine lv_iload (pc := 588) hx hb dL_act_588 (lv_at hl 0 rfl) ?_
                    refine lv_iconst (v := 3) (pc := 590) hx hb dL_act_590 (by decide) ?_
                    refine z_runV (pc := 591) (As := [.int (nI k), .int 3]) (rest := []) (ws1 := w) ⟨hx, hb, hml, hown, hts⟩ (f_cw (l := l) (G := G) hF hci hk (w9 := 3) (by decide) (by decide)) (cwV 2 hts (zgoodV zsub wq_7_7 wq_7_8 wq_7_9 wq_1_2 wq_7_10) rfl rfl rfl hdV_X3_cup ⟨Nat.le_of_ble_eq_true rfl, Nat.le_of_ble_eq_true rfl⟩) hz [] zp_all zp_all' ew rfl rfl hl.1 (Nat.le_of_ble_eq_true rfl) (st1 := [.int (p.2 k 3)]) rfl dL_act_591 ⟨Nat.le_of_ble_eq_true rfl, Nat.le_of_ble_eq_true rfl⟩ (fun H locs hz => ?_)
                    refine lv_istore (lv' := [(5, .int (p.2 k 3)), (4, .int (nI k)), (3, .int (nI j)), (0, .ref o), (1, .int x), (2, .int y)]) (pc := 594) hx hb dL_act_594 hl (by decide) rfl (fun ls hl => ?_)
                    refine lv_iconst (v := 1) (pc := 596) hx hb dL_act_596 (by decide) ?_
                    refine lv_iload_n (pc := 597) hx hb dL_act_597 rfl (lv_at hl 5 rfl) ?_
                    refine lv_iconst (v := 3) (pc := 598) hx hb dL_act_598 (by decide) ?_
                    refine lv_ishr (pc := 599) hx hb dL_act_599 ?_
                    refine lv_bipush (v := 99) (pc := 600) hx hb dL_act_600 (by decide) ?_
                    obtain ⟨z9, hz9, ez9⟩ := low_nat (shrF y 3) (n := 99) (by decide) (by decide)
                    refine z_runS (pc := 602) (As := [.int (shrF y 3), .int 99]) (rest := [.int 1]) (ws1 := w) ⟨hx, hb, hml, hown, hts⟩ (k_L_low l G ca (shrF y 3) 99 (by decide)) (cwS 2 hts (zgoodS zsub wq_17_0 wq_17_1 wq_7_0 wq_35_0) rfl rfl rfl hdV_L_low ⟨Nat.le_of_ble_eq_true rfl, Nat.le_of_ble_eq_true rfl⟩) hz w zp_no (List.Perm.refl _) rfl hl.1 (Nat.le_of_ble_eq_true rfl) (st1 := [.int (lowF (shrF y 3) 99), .int 1]) rfl dL_act_602 ⟨Nat.le_of_ble_eq_true rfl, Nat.le_of_ble_eq_true rfl⟩ (fun H locs hz => ?_)
                    refine z_top (y := nI z9) ez9 ?_
                    refine lv_iadd (pc := 605) hx hb dL_act_605 ?_
                    refine z_top (y := nI (1 + z9)) (nI_add 1 z9) ?_
                    refine lv_istore (lv' := [(6, .int (nI (1 + z9))), (5, .int (p.2 k 3)), (4, .int (nI k)), (3, .int (nI j)), (0, .ref o), (1, .int x), (2, .int y)]) (pc := 606) hx hb dL_act_606 hl (by decide) rfl (fun ls hl => ?_)
                    refine lv_aload_n (pc := 608) hx hb dL_act_608 rfl (lv_at hl 4 rfl) ?_
                    refine lv_iload (pc := 609) hx hb dL_act_609 (lv_at hl 2 rfl) ?_
                    refine lv_iload (pc := 611) hx hb dL_act_611 (lv_at hl 0 rfl) ?_
                    obtain ⟨w4, z4, hF4⟩ := f_fill (l := l) (G := G) hF hci (nI k) (nI (1 + z9))
                    obtain ⟨fsw4, tlw4, ew4⟩ := hF4.h1
                    refine z_runV (pc := 613) (As := [.int (nI k), .int (nI (1 + z9))]) (rest := []) (ws1 := w4) ⟨hx, hb, hml, hown, hts⟩ (z4) (cwV 2 hts (zgoodV zsub wq_26_9 wq_26_10 wq_26_11 wq_1_2 wq_27_0) rfl rfl rfl hdV_X3_fill ⟨Nat.le_of_ble_eq_true rfl, Nat.le_of_ble_eq_true rfl⟩) hz [] zp_all zp_all' ew rfl rfl hl.1 (Nat.le_of_ble_eq_true rfl) (st1 := [.int (fillR p.2 (nI k) (nI (1 + z9)))]) rfl dL_act_613 ⟨Nat.le_of_ble_eq_true rfl, Nat.le_of_ble_eq_true rfl⟩ (fun H locs hz => ?_)
                    refine lv_istore (lv' := [(7, .int (fillR p.2 (nI k) (nI (1 + z9)))), (6, .int (nI (1 + z9))), (5, .int (p.2 k 3)), (4, .int (nI k)), (3, .int (nI j)), (0, .ref o), (1, .int x), (2, .int y)]) (pc := 616) hx hb dL_act_616 hl (by decide) rfl (fun ls hl => ?_)
                    refine lv_iload (pc := 618) hx hb dL_act_618 (lv_at hl 2 rfl) ?_
                    refine lv_iload (pc := 620) hx hb dL_act_620 (lv_at hl 1 rfl) ?_
                    refine lv_iadd (pc := 622) hx hb dL_act_622 ?_
                    refine lv_sipush (v := 9999) (pc := 623) hx hb dL_act_623 (by decide) ?_
                    refine lv_icmp_le (pc := 626) (tgt := 656) hx hb dL_act_626 (by decide) (fun c_626 => ?_) (fun c_626 => ?_)
                    · have hfb := fill_b (c := p.2) hk (X := 1 + z9) (by omega) (by omega) c_626
                      refine lv_iload (pc := 656) hx hb dL_act_656 (lv_at hl 0 rfl) ?_
                      refine lv_iload (pc := 658) hx hb dL_act_658 (lv_at hl 2 rfl) ?_
                      refine lv_iload (pc := 660) hx hb dL_act_660 (lv_at hl 1 rfl) ?_
                      refine lv_iadd (pc := 662) hx hb dL_act_662 ?_
                      refine lv_icmp_ne (pc := 663) (tgt := 682) hx hb dL_act_663 (by decide) (fun c9 => absurd hfb.1 c9) (fun c_663 => ?_)
                      refine lv_aload_n (pc := 666) hx hb dL_act_666 rfl (lv_at hl 5 rfl) ?_
                      refine lv_iload (pc := 667) hx hb dL_act_667 (lv_at hl 3 rfl) ?_
                      refine lv_iconst (v := 3) (pc := 669) hx hb dL_act_669 (by decide) ?_
                      refine z_runV (pc := 670) (As := [.int (nI k), .int 3]) (rest := []) (ws1 := w4) ⟨hx, hb, hml, hown, hts⟩ (f_cw (l := l) (G := G) hF4 (hP.fill hk (nI (1 + z9))).1.1 hk (w9 := 3) (by decide) (by decide)) (cwV 2 hts (zgoodV zsub wq_7_7 wq_7_8 wq_7_9 wq_1_2 wq_7_10) rfl rfl rfl hdV_X3_cup ⟨Nat.le_of_ble_eq_true rfl, Nat.le_of_ble_eq_true rfl⟩) hz [] zp_all zp_all' ew4 rfl rfl hl.1 (Nat.le_of_ble_eq_true rfl) (st1 := [.int ((fillH p.1 p.2 (nI k) (nI (1 + z9)), fillC p.2 (nI k) (nI (1 + z9))).2 k 3)]) rfl dL_act_670 ⟨Nat.le_of_ble_eq_true rfl, Nat.le_of_ble_eq_true rfl⟩ (fun H locs hz => ?_)
                      refine z_top (y := p.2 k 3 + nI (1 + z9)) hfb.2 ?_
                      refine lv_iload (pc := 673) hx hb dL_act_673 (lv_at hl 0 rfl) ?_
                      refine lv_icmp_ne (pc := 675) (tgt := 682) hx hb dL_act_675 (by decide) (fun c9 => absurd hfb.1.symm c9) (fun c_675 => ?_)
                      refine lv_iconst (v := 1) (pc := 678) hx hb dL_act_678 (by decide) ?_
                      refine lv_goto (tgt := 683) (pc := 679) hx hb dL_act_679 (by decide) ?_
                      exact z_zretW (pc := 683) hx hb hr hlk hQ hz (Nat.le_of_ble_eq_true rfl) (Nat.le_of_ble_eq_true rfl) rfl dL_act_683 (by rfl) (⟨_, _, hP.fill hk (nI (1 + z9)), (fill_t p k (nI (1 + z9))).trans ht0, by omega, hF4.any⟩)
                    · have hfa := fill_a (c := p.2) hk (X := 1 + z9) (by omega) (by omega) c_626
                      refine lv_iload (pc := 629) hx hb dL_act_629 (lv_at hl 0 rfl) ?_
                      refine lv_bipush (v := -3) (pc := 631) hx hb dL_act_631 (by decide) ?_
                      refine lv_icmp_ne (pc := 633) (tgt := 652) hx hb dL_act_633 (by decide) (fun c9 => absurd hfa.1 c9) (fun c_633 => ?_)
                      refine lv_aload_n (pc := 636) hx hb dL_act_636 rfl (lv_at hl 5 rfl) ?_
                      refine lv_iload (pc := 637) hx hb dL_act_637 (lv_at hl 3 rfl) ?_
                      refine lv_iconst (v := 3) (pc := 639) hx hb dL_act_639 (by decide) ?_
                      refine z_runV (pc := 640) (As := [.int (nI k), .int 3]) (rest := []) (ws1 := w4) ⟨hx, hb, hml, hown, hts⟩ (f_cw (l := l) (G := G) hF4 (hP.fill hk (nI (1 + z9))).1.1 hk (w9 := 3) (by decide) (by decide)) (cwV 2 hts (zgoodV zsub wq_7_7 wq_7_8 wq_7_9 wq_1_2 wq_7_10) rfl rfl rfl hdV_X3_cup ⟨Nat.le_of_ble_eq_true rfl, Nat.le_of_ble_eq_true rfl⟩) hz [] zp_all zp_all' ew4 rfl rfl hl.1 (Nat.le_of_ble_eq_true rfl) (st1 := [.int ((fillH p.1 p.2 (nI k) (nI (1 + z9)), fillC p.2 (nI k) (nI (1 + z9))).2 k 3)]) rfl dL_act_640 ⟨Nat.le_of_ble_eq_true rfl, Nat.le_of_ble_eq_true rfl⟩ (fun H locs hz => ?_)
                      refine z_top (y := p.2 k 3) hfa.2 ?_
                      refine lv_iload (pc := 643) hx hb dL_act_643 (lv_at hl 2 rfl) ?_
                      refine lv_icmp_ne (pc := 645) (tgt := 652) hx hb dL_act_645 (by decide) (fun c9 => absurd rfl c9) (fun c_645 => ?_)
                      refine lv_iconst (v := 1) (pc := 648) hx hb dL_act_648 (by decide) ?_
                      refine lv_goto (tgt := 683) (pc := 649) hx hb dL_act_649 (by decide) ?_
                      exact z_zretW (pc := 683) hx hb hr hlk hQ hz (Nat.le_of_ble_eq_true rfl) (Nat.le_of_ble_eq_true rfl) rfl dL_act_683 (by rfl) (⟨_, _, hP.fill hk (nI (1 + z9)), (fill_t p k (nI (1 + z9))).trans ht0, by omega, hF4.any⟩)
                · refine lv_aload_n (pc := 496) hx hb dL_act_496 rfl (lv_at hl 2 rfl) ?_
                  refine lv_iload (pc := 497) hx hb dL_act_497 (lv_at hl 0 rfl) ?_
                  refine lv_bipush (v := 6) (pc := 499) hx hb dL_act_499 (by decide) ?_
                  refine z_runV (pc := 501) (As := [.int (nI k), .int 6]) (rest := []) (ws1 := w) ⟨hx, hb, hml, hown, hts⟩ (f_cw (l := l) (G := G) hF hci hk (w9 := 6) (by decide) (by decide)) (cwV 2 hts (zgoodV zsub wq_7_7 wq_7_8 wq_7_9 wq_1_2 wq_7_10) rfl rfl rfl hdV_X3_cup ⟨Nat.le_of_ble_eq_true rfl, Nat.le_of_ble_eq_true rfl⟩) hz [] zp_all zp_all' ew rfl rfl hl.1 (Nat.le_of_ble_eq_true rfl) (st1 := [.int (p.2 k 6)]) rfl dL_act_501 ⟨Nat.le_of_ble_eq_true rfl, Nat.le_of_ble_eq_true rfl⟩ (fun H locs hz => ?_)
                  refine lv_istore (lv' := [(5, .int (p.2 k 6)), (4, .int (nI k)), (3, .int (nI j)), (0, .ref o), (1, .int x), (2, .int y)]) (pc := 504) hx hb dL_act_504 hl (by decide) rfl (fun ls hl => ?_)
                  refine lv_aload_n (pc := 506) hx hb dL_act_506 rfl (lv_at hl 3 rfl) ?_
                  refine lv_iload (pc := 507) hx hb dL_act_507 (lv_at hl 1 rfl) ?_
                  refine lv_iconst (v := 4) (pc := 509) hx hb dL_act_509 (by decide) ?_
                  refine z_runV (pc := 510) (As := [.int (nI k), .int 4]) (rest := []) (ws1 := w) ⟨hx, hb, hml, hown, hts⟩ (f_c4 (l := l) (G := G) hF hci hk) (cwV 2 hts (zgoodV zsub wq_7_7 wq_7_8 wq_7_9 wq_1_2 wq_7_10) rfl rfl rfl hdV_X3_cup ⟨Nat.le_of_ble_eq_true rfl, Nat.le_of_ble_eq_true rfl⟩) hz [] zp_all zp_all' ew rfl rfl hl.1 (Nat.le_of_ble_eq_true rfl) (st1 := [.int (hr5 (p.2 k 4))]) rfl dL_act_510 ⟨Nat.le_of_ble_eq_true rfl, Nat.le_of_ble_eq_true rfl⟩ (fun H locs hz => ?_)
                  refine lv_if_ge (pc := 513) (tgt := 535) hx hb dL_act_513 (by decide) (fun c_513 => ?_) (fun c_513 => ?_)
                  · refine lv_aload_n (pc := 535) hx hb dL_act_535 rfl (lv_at hl 3 rfl) ?_
                    refine lv_iload (pc := 536) hx hb dL_act_536 (lv_at hl 1 rfl) ?_
                    obtain ⟨w5, z5, hF5⟩ := f_guard (l := l) (G := G) hF hci (nI k)
                    obtain ⟨fsw5, tlw5, ew5⟩ := hF5.h1
                    refine z_runV (pc := 538) (As := [.int (nI k)]) (rest := []) (ws1 := w5) ⟨hx, hb, hml, hown, hts⟩ (z5) (cwV 1 hts (zgoodV zsub wq_26_1 wq_26_2 wq_26_3 wq_1_2 wq_26_4) rfl rfl rfl hdV_X3_guard ⟨Nat.le_of_ble_eq_true rfl, Nat.le_of_ble_eq_true rfl⟩) hz [] zp_all zp_all' ew rfl rfl hl.1 (Nat.le_of_ble_eq_true rfl) (st1 := [.int (guardR p.2 (nI k))]) rfl dL_act_538 ⟨Nat.le_of_ble_eq_true rfl, Nat.le_of_ble_eq_true rfl⟩ (fun H locs hz => ?_)
                    refine z_top (y := 1 - p.2 k 6) (guard_b hk (hr5_eq hP hk c_513).2).1 ?_
                    refine lv_iconst (v := 1) (pc := 541) hx hb dL_act_541 (by decide) ?_
                    refine lv_iload (pc := 542) hx hb dL_act_542 (lv_at hl 0 rfl) ?_
                    refine lv_isub (pc := 544) hx hb dL_act_544 ?_
                    refine lv_icmp_ne (pc := 545) (tgt := 579) hx hb dL_act_545 (by decide) (fun c9 => absurd rfl c9) (fun c_545 => ?_)
                    refine lv_aload_n (pc := 548) hx hb dL_act_548 rfl (lv_at hl 3 rfl) ?_
                    refine lv_iload (pc := 549) hx hb dL_act_549 (lv_at hl 1 rfl) ?_
                    refine lv_bipush (v := 6) (pc := 551) hx hb dL_act_551 (by decide) ?_
                    refine z_runV (pc := 553) (As := [.int (nI k), .int 6]) (rest := []) (ws1 := w5) ⟨hx, hb, hml, hown, hts⟩ (f_cw (l := l) (G := G) hF5 (hP.guard hk).1.1 hk (w9 := 6) (by decide) (by decide)) (cwV 2 hts (zgoodV zsub wq_7_7 wq_7_8 wq_7_9 wq_1_2 wq_7_10) rfl rfl rfl hdV_X3_cup ⟨Nat.le_of_ble_eq_true rfl, Nat.le_of_ble_eq_true rfl⟩) hz [] zp_all zp_all' ew5 rfl rfl hl.1 (Nat.le_of_ble_eq_true rfl) (st1 := [.int ((p.1, guardC p.2 (nI k)).2 k 6)]) rfl dL_act_553 ⟨Nat.le_of_ble_eq_true rfl, Nat.le_of_ble_eq_true rfl⟩ (fun H locs hz => ?_)
                    refine z_top (y := 1 - p.2 k 6) (guard_b hk (hr5_eq hP hk c_513).2).2.1 ?_
                    refine lv_iconst (v := 1) (pc := 556) hx hb dL_act_556 (by decide) ?_
                    refine lv_iload (pc := 557) hx hb dL_act_557 (lv_at hl 0 rfl) ?_
                    refine lv_isub (pc := 559) hx hb dL_act_559 ?_
                    refine lv_icmp_ne (pc := 560) (tgt := 579) hx hb dL_act_560 (by decide) (fun c9 => absurd rfl c9) (fun c_560 => ?_)
                    refine lv_aload_n (pc := 563) hx hb dL_act_563 rfl (lv_at hl 3 rfl) ?_
                    refine lv_iload (pc := 564) hx hb dL_act_564 (lv_at hl 1 rfl) ?_
                    refine lv_iconst (v := 5) (pc := 566) hx hb dL_act_566 (by decide) ?_
                    refine z_runV (pc := 567) (As := [.int (nI k), .int 5]) (rest := []) (ws1 := w5) ⟨hx, hb, hml, hown, hts⟩ (f_cw (l := l) (G := G) hF5 (hP.guard hk).1.1 hk (w9 := 5) (by decide) (by decide)) (cwV 2 hts (zgoodV zsub wq_7_7 wq_7_8 wq_7_9 wq_1_2 wq_7_10) rfl rfl rfl hdV_X3_cup ⟨Nat.le_of_ble_eq_true rfl, Nat.le_of_ble_eq_true rfl⟩) hz [] zp_all zp_all' ew5 rfl rfl hl.1 (Nat.le_of_ble_eq_true rfl) (st1 := [.int ((p.1, guardC p.2 (nI k)).2 k 5)]) rfl dL_act_567 ⟨Nat.le_of_ble_eq_true rfl, Nat.le_of_ble_eq_true rfl⟩ (fun H locs hz => ?_)
                    refine z_top (y := p.2 k 6) (guard_b hk (hr5_eq hP hk c_513).2).2.2 ?_
                    refine lv_iload (pc := 570) hx hb dL_act_570 (lv_at hl 0 rfl) ?_
                    refine lv_icmp_ne (pc := 572) (tgt := 579) hx hb dL_act_572 (by decide) (fun c9 => absurd rfl c9) (fun c_572 => ?_)
                    refine lv_iconst (v := 1) (pc := 575) hx hb dL_act_575 (by decide) ?_
                    refine lv_goto (tgt := 580) (pc := 576) hx hb dL_act_576 (by decide) ?_
                    exact z_zretW (pc := 580) hx hb hr hlk hQ hz (Nat.le_of_ble_eq_true rfl) (Nat.le_of_ble_eq_true rfl) rfl dL_act_580 (by rfl) (⟨_, _, (hP.guard hk).mono (by omega), ht0, by omega, hF5.any⟩)
                  · refine lv_aload_n (pc := 516) hx hb dL_act_516 rfl (lv_at hl 3 rfl) ?_
                    refine lv_iload (pc := 517) hx hb dL_act_517 (lv_at hl 1 rfl) ?_
                    obtain ⟨w6, z6, hF6⟩ := f_guard (l := l) (G := G) hF hci (nI k)
                    obtain ⟨fsw6, tlw6, ew6⟩ := hF6.h1
                    refine z_runV (pc := 519) (As := [.int (nI k)]) (rest := []) (ws1 := w6) ⟨hx, hb, hml, hown, hts⟩ (z6) (cwV 1 hts (zgoodV zsub wq_26_1 wq_26_2 wq_26_3 wq_1_2 wq_26_4) rfl rfl rfl hdV_X3_guard ⟨Nat.le_of_ble_eq_true rfl, Nat.le_of_ble_eq_true rfl⟩) hz [] zp_all zp_all' ew rfl rfl hl.1 (Nat.le_of_ble_eq_true rfl) (st1 := [.int (guardR p.2 (nI k))]) rfl dL_act_519 ⟨Nat.le_of_ble_eq_true rfl, Nat.le_of_ble_eq_true rfl⟩ (fun H locs hz => ?_)
                    refine z_top (y := -4) (guard_a hk (hr5_neg c_513 (hP.hr hk))) ?_
                    refine lv_bipush (v := -4) (pc := 522) hx hb dL_act_522 (by decide) ?_
                    refine lv_icmp_ne (pc := 524) (tgt := 531) hx hb dL_act_524 (by decide) (fun c9 => absurd rfl c9) (fun c_524 => ?_)
                    refine lv_iconst (v := 1) (pc := 527) hx hb dL_act_527 (by decide) ?_
                    refine lv_goto (tgt := 580) (pc := 528) hx hb dL_act_528 (by decide) ?_
                    exact z_zretW (pc := 580) hx hb hr hlk hQ hz (Nat.le_of_ble_eq_true rfl) (Nat.le_of_ble_eq_true rfl) rfl dL_act_580 (by rfl) (⟨_, _, (hP.guard hk).mono (by omega), ht0, by omega, hF6.any⟩)
              · refine lv_iload_n (pc := 333) hx hb dL_act_333 rfl (lv_at hl 4 rfl) ?_
                refine lv_iconst (v := 3) (pc := 334) hx hb dL_act_334 (by decide) ?_
                refine lv_ishr (pc := 335) hx hb dL_act_335 ?_
                refine lv_bipush (v := 6) (pc := 336) hx hb dL_act_336 (by decide) ?_
                refine z_runS (pc := 338) (As := [.int (shrF y 3), .int 6]) (rest := []) (ws1 := w) ⟨hx, hb, hml, hown, hts⟩ (k_L_low l G ca (shrF y 3) 6 (by decide)) (cwS 2 hts (zgoodS zsub wq_17_0 wq_17_1 wq_7_0 wq_35_0) rfl rfl rfl hdV_L_low ⟨Nat.le_of_ble_eq_true rfl, Nat.le_of_ble_eq_true rfl⟩) hz w zp_no (List.Perm.refl _) rfl hl.1 (Nat.le_of_ble_eq_true rfl) (st1 := [.int (lowF (shrF y 3) 6)]) rfl dL_act_338 ⟨Nat.le_of_ble_eq_true rfl, Nat.le_of_ble_eq_true rfl⟩ (fun H locs hz => ?_)
                refine lv_if_ne (pc := 341) (tgt := 348) hx hb dL_act_341 (by decide) (fun c_341 => ?_) (fun c_341 => ?_)
                · refine lv_iload_n (pc := 348) hx hb dL_act_348 rfl (lv_at hl 4 rfl) ?_
                  refine lv_bipush (v := 6) (pc := 349) hx hb dL_act_349 (by decide) ?_
                  refine lv_ishr (pc := 351) hx hb dL_act_351 ?_
                  refine lv_iload_n (pc := 352) hx hb dL_act_352 rfl (lv_at hl 4 rfl) ?_
                  refine lv_bipush (v := 15) (pc := 353) hx hb dL_act_353 (by decide) ?_
                  refine lv_ishr (pc := 355) hx hb dL_act_355 ?_
                  refine lv_bipush (v := 8) (pc := 356) hx hb dL_act_356 (by decide) ?_
                  refine z_runS (pc := 358) (As := [.int (shrF y 15), .int 8]) (rest := [.int (shrF y 6)]) (ws1 := w) ⟨hx, hb, hml, hown, hts⟩ (k_L_low l G ca (shrF y 15) 8 (by decide)) (cwS 2 hts (zgoodS zsub wq_17_0 wq_17_1 wq_7_0 wq_35_0) rfl rfl rfl hdV_L_low ⟨Nat.le_of_ble_eq_true rfl, Nat.le_of_ble_eq_true rfl⟩) hz w zp_no (List.Perm.refl _) rfl hl.1 (Nat.le_of_ble_eq_true rfl) (st1 := [.int (lowF (shrF y 15) 8), .int (shrF y 6)]) rfl dL_act_358 ⟨Nat.le_of_ble_eq_true rfl, Nat.le_of_ble_eq_true rfl⟩ (fun H locs hz => ?_)
                  have J19 : ∀ (H : Heap) (locs : List Loc) (ls : Array Slot), zw G ca A s0.heap s0 w H locs → lv_has ls 8 [(4, .int (nI k)), (3, .int (nI j)), (0, .ref o), (1, .int x), (2, .int y)] → W pg l ev rm_L_act s0 mt args below meth cd H locs 0 0 Q (F0 mt 376 ls [.int (if lowF (shrF y 15) 8 = 0 then 240 else p.1 7), .int (shrF y 6)]) := by
                    intro H locs ls hz hl
                    obtain ⟨m9, hm1, hm2, em9⟩ : ∃ m : Nat, 1 ≤ m ∧ m ≤ 240 ∧ (if lowF (shrF y 15) 8 = 0 then 240 else p.1 7) = nI m := by
                      split
                      · exact ⟨240, by decide, by decide, rfl⟩
                      · exact ⟨d9, hd91, hd92, ed9⟩
                    refine z_top (y := nI m9) em9 ?_
                    obtain ⟨z9, hz9, ez9⟩ := low_nat (shrF y 6) (n := m9) (by omega) (by omega)
                    refine z_runS (pc := 376) (As := [.int (shrF y 6), .int (nI m9)]) (rest := []) (ws1 := w) ⟨hx, hb, hml, hown, hts⟩ (k_L_low l G ca (shrF y 6) (nI m9) (nI_ne0 (by omega) (by omega))) (cwS 2 hts (zgoodS zsub wq_17_0 wq_17_1 wq_7_0 wq_35_0) rfl rfl rfl hdV_L_low ⟨Nat.le_of_ble_eq_true rfl, Nat.le_of_ble_eq_true rfl⟩) hz w zp_no (List.Perm.refl _) rfl hl.1 (Nat.le_of_ble_eq_true rfl) (st1 := [.int (lowF (shrF y 6) (nI m9))]) rfl dL_act_376 ⟨Nat.le_of_ble_eq_true rfl, Nat.le_of_ble_eq_true rfl⟩ (fun H locs hz => ?_)
                    refine z_top (y := nI z9) ez9 ?_
                    refine lv_istore (lv' := [(5, .int (nI z9)), (4, .int (nI k)), (3, .int (nI j)), (0, .ref o), (1, .int x), (2, .int y)]) (pc := 379) hx hb dL_act_379 hl (by decide) rfl (fun ls hl => ?_)
                    have hrr := hour_z hP hk (z := z9) (by omega)
                    refine lv_aload_n (pc := 381) hx hb dL_act_381 rfl (lv_at hl 3 rfl) ?_
                    refine lv_iload (pc := 382) hx hb dL_act_382 (lv_at hl 1 rfl) ?_
                    refine lv_iconst (v := 4) (pc := 384) hx hb dL_act_384 (by decide) ?_
                    refine z_runV (pc := 385) (As := [.int (nI k), .int 4]) (rest := []) (ws1 := w) ⟨hx, hb, hml, hown, hts⟩ (f_c4 (l := l) (G := G) hF hci hk) (cwV 2 hts (zgoodV zsub wq_7_7 wq_7_8 wq_7_9 wq_1_2 wq_7_10) rfl rfl rfl hdV_X3_cup ⟨Nat.le_of_ble_eq_true rfl, Nat.le_of_ble_eq_true rfl⟩) hz [] zp_all zp_all' ew rfl rfl hl.1 (Nat.le_of_ble_eq_true rfl) (st1 := [.int (hr5 (p.2 k 4))]) rfl dL_act_385 ⟨Nat.le_of_ble_eq_true rfl, Nat.le_of_ble_eq_true rfl⟩ (fun H locs hz => ?_)
                    refine lv_istore (lv' := [(6, .int (hr5 (p.2 k 4))), (5, .int (nI z9)), (4, .int (nI k)), (3, .int (nI j)), (0, .ref o), (1, .int x), (2, .int y)]) (pc := 388) hx hb dL_act_388 hl (by decide) rfl (fun ls hl => ?_)
                    refine lv_aload_n (pc := 390) hx hb dL_act_390 rfl (lv_at hl 4 rfl) ?_
                    refine lv_iload (pc := 391) hx hb dL_act_391 (lv_at hl 2 rfl) ?_
                    refine lv_iload (pc := 393) hx hb dL_act_393 (lv_at hl 1 rfl) ?_
                    obtain ⟨w7, z7, hF7⟩ := f_setHour (l := l) (G := G) hF hci (nI k) (nI z9)
                    obtain ⟨fsw7, tlw7, ew7⟩ := hF7.h1
                    refine z_runV (pc := 395) (As := [.int (nI k), .int (nI z9)]) (rest := []) (ws1 := w7) ⟨hx, hb, hml, hown, hts⟩ (z7) (cwV 2 hts (zgoodV zsub wq_25_5 wq_25_6 wq_25_7 wq_1_2 wq_25_8) rfl rfl rfl hdV_X3_setHour ⟨Nat.le_of_ble_eq_true rfl, Nat.le_of_ble_eq_true rfl⟩) hz [] zp_all zp_all' ew rfl rfl hl.1 (Nat.le_of_ble_eq_true rfl) (st1 := [.int (hourR p.2 (nI k) (nI z9))]) rfl dL_act_395 ⟨Nat.le_of_ble_eq_true rfl, Nat.le_of_ble_eq_true rfl⟩ (fun H locs hz => ?_)
                    refine z_top (y := hrE (hr5 (p.2 k 4)) (nI z9)) hrr.1 ?_
                    refine lv_istore (lv' := [(7, .int (hrE (hr5 (p.2 k 4)) (nI z9))), (6, .int (hr5 (p.2 k 4))), (5, .int (nI z9)), (4, .int (nI k)), (3, .int (nI j)), (0, .ref o), (1, .int x), (2, .int y)]) (pc := 398) hx hb dL_act_398 hl (by decide) rfl (fun ls hl => ?_)
                    refine lv_iload (pc := 400) hx hb dL_act_400 (lv_at hl 0 rfl) ?_
                    refine lv_iload (pc := 402) hx hb dL_act_402 (lv_at hl 1 rfl) ?_
                    refine lv_iload (pc := 404) hx hb dL_act_404 (lv_at hl 2 rfl) ?_
                    have J20 : ∀ (H : Heap) (locs : List Loc) (ls : Array Slot), zw G ca A s0.heap s0 w7 H locs → lv_has ls 8 [(7, .int (hrE (hr5 (p.2 k 4)) (nI z9))), (6, .int (hr5 (p.2 k 4))), (5, .int (nI z9)), (4, .int (nI k)), (3, .int (nI j)), (0, .ref o), (1, .int x), (2, .int y)] → W pg l ev rm_L_act s0 mt args below meth cd H locs 0 0 Q (F0 mt 442 ls [.int (hrE (hr5 (p.2 k 4)) (nI z9)), .int (hrE (hr5 (p.2 k 4)) (nI z9))]) := by
                      intro H locs ls hz hl
                      refine lv_icmp_ne (pc := 442) (tgt := 488) hx hb dL_act_442 (by decide) (fun c9 => absurd rfl c9) (fun c_442 => ?_)
                      refine lv_aload_n (pc := 445) hx hb dL_act_445 rfl (lv_at hl 5 rfl) ?_
                      refine lv_iload (pc := 446) hx hb dL_act_446 (lv_at hl 3 rfl) ?_
                      refine lv_iconst (v := 4) (pc := 448) hx hb dL_act_448 (by decide) ?_
                      refine z_runV (pc := 449) (As := [.int (nI k), .int 4]) (rest := []) (ws1 := w7) ⟨hx, hb, hml, hown, hts⟩ (f_c4 (l := l) (G := G) hF7 (hP.hour hk (nI z9)).1.1 hk) (cwV 2 hts (zgoodV zsub wq_7_7 wq_7_8 wq_7_9 wq_1_2 wq_7_10) rfl rfl rfl hdV_X3_cup ⟨Nat.le_of_ble_eq_true rfl, Nat.le_of_ble_eq_true rfl⟩) hz [] zp_all zp_all' ew7 rfl rfl hl.1 (Nat.le_of_ble_eq_true rfl) (st1 := [.int (hr5 ((p.1, hourC p.2 (nI k) (nI z9)).2 k 4))]) rfl dL_act_449 ⟨Nat.le_of_ble_eq_true rfl, Nat.le_of_ble_eq_true rfl⟩ (fun H locs hz => ?_)
                      refine z_top (y := nI z9) hrr.2 ?_
                      refine lv_iload (pc := 452) hx hb dL_act_452 (lv_at hl 2 rfl) ?_
                      refine lv_iconst (v := -1) (pc := 454) hx hb dL_act_454 (by decide) ?_
                      refine lv_icmp_ne (pc := 455) (tgt := 463) hx hb dL_act_455 (by decide) (fun c_455 => ?_) (fun c9 => absurd c9 (nm1 (by omega)))
                      refine lv_iload (pc := 463) hx hb dL_act_463 (lv_at hl 2 rfl) ?_
                      refine lv_icmp_ne (pc := 465) (tgt := 488) hx hb dL_act_465 (by decide) (fun c9 => absurd rfl c9) (fun c_465 => ?_)
                      refine lv_iload (pc := 468) hx hb dL_act_468 (lv_at hl 2 rfl) ?_
                      refine lv_if_ge (pc := 470) (tgt := 484) hx hb dL_act_470 (by decide) (fun c_470 => ?_) (fun c9 => absurd (nI_0le (by omega)) c9)
                      refine lv_iconst (v := 1) (pc := 484) hx hb dL_act_484 (by decide) ?_
                      refine lv_goto (tgt := 489) (pc := 485) hx hb dL_act_485 (by decide) ?_
                      exact z_zretW (pc := 489) hx hb hr hlk hQ hz (Nat.le_of_ble_eq_true rfl) (Nat.le_of_ble_eq_true rfl) rfl dL_act_489 (by rfl) (⟨_, _, (hP.hour hk (nI z9)).mono (by omega), ht0, by omega, hF7.any⟩)
                    refine lv_icmp_eq (pc := 406) (tgt := 422) hx hb dL_act_406 (by decide) (fun c_406 => ?_) (fun c_406 => ?_)
                    · refine lv_bipush (v := -5) (pc := 422) hx hb dL_act_422 (by decide) ?_
                      refine lv_goto (tgt := 442) (pc := 424) hx hb dL_act_424 (by decide) ?_
                      exact z_top (by rw [hrE, if_pos c_406]) (J20 _ _ _ hz (lv_sub hl [0, 1, 2, 3, 4, 5, 6, 7] rfl))
                    · refine lv_iload (pc := 409) hx hb dL_act_409 (lv_at hl 1 rfl) ?_
                      refine lv_bipush (v := -5) (pc := 411) hx hb dL_act_411 (by decide) ?_
                      refine lv_icmp_ne (pc := 413) (tgt := 427) hx hb dL_act_413 (by decide) (fun c_413 => ?_) (fun c_413 => ?_)
                      · refine lv_iload (pc := 427) hx hb dL_act_427 (lv_at hl 1 rfl) ?_
                        refine lv_bipush (v := -5) (pc := 429) hx hb dL_act_429 (by decide) ?_
                        refine lv_icmp_ne (pc := 431) (tgt := 440) hx hb dL_act_431 (by decide) (fun c_431 => ?_) (fun c9 => absurd c9 c_413)
                        refine lv_iload (pc := 440) hx hb dL_act_440 (lv_at hl 1 rfl) ?_
                        exact z_top (by rw [hrE, if_neg c_406, if_neg c_413]) (J20 _ _ _ hz (lv_sub hl [0, 1, 2, 3, 4, 5, 6, 7] rfl))
                      · refine lv_iload (pc := 416) hx hb dL_act_416 (lv_at hl 2 rfl) ?_
                        refine lv_iconst (v := -1) (pc := 418) hx hb dL_act_418 (by decide) ?_
                        refine lv_icmp_ne (pc := 419) (tgt := 427) hx hb dL_act_419 (by decide) (fun c_419 => ?_) (fun c9 => absurd c9 (nm1 (by omega)))
                        refine lv_iload (pc := 427) hx hb dL_act_427 (lv_at hl 1 rfl) ?_
                        refine lv_bipush (v := -5) (pc := 429) hx hb dL_act_429 (by decide) ?_
                        refine lv_icmp_ne (pc := 431) (tgt := 440) hx hb dL_act_431 (by decide) (fun c9 => absurd c_413 c9) (fun c_431 => ?_)
                        refine lv_sipush (v := 240) (pc := 434) hx hb dL_act_434 (by decide) ?_
                        refine lv_goto (tgt := 442) (pc := 437) hx hb dL_act_437 (by decide) ?_
                        exact z_top (by rw [hrE, if_neg c_406, if_pos c_413, if_neg c_419]) (J20 _ _ _ hz (lv_sub hl [0, 1, 2, 3, 4, 5, 6, 7] rfl))
                  refine lv_if_ne (pc := 361) (tgt := 370) hx hb dL_act_361 (by decide) (fun c_361 => ?_) (fun c_361 => ?_)
                  · refine lv_aload_n (pc := 370) hx hb dL_act_370 rfl (lv_at hl 2 rfl) ?_
                    refine lv_bipush (v := 12) (pc := 371) hx hb dL_act_371 (by decide) ?_
                    refine z_runV (pc := 373) (As := [.int 12]) (rest := [.int (shrF y 6)]) (ws1 := w) ⟨hx, hb, hml, hown, hts⟩ (f_count (l := l) (G := G) hF hci (x := 12) (by decide) (by decide)) (cwV 1 hts (zgoodV zsub wq_8_11 wq_9_0 wq_9_1 wq_1_2 wq_9_2) rfl rfl rfl hdV_X3_count ⟨Nat.le_of_ble_eq_true rfl, Nat.le_of_ble_eq_true rfl⟩) hz [] zp_all zp_all' ew rfl rfl hl.1 (Nat.le_of_ble_eq_true rfl) (st1 := [.int (stellR p 12), .int (shrF y 6)]) rfl dL_act_373 ⟨Nat.le_of_ble_eq_true rfl, Nat.le_of_ble_eq_true rfl⟩ (fun H locs hz => ?_)
                    refine z_top (y := p.1 7) rfl ?_
                    exact z_top (by rw [if_neg c_361]) (J19 _ _ _ hz (lv_sub hl [0, 1, 2, 3, 4] rfl))
                  · refine lv_sipush (v := 240) (pc := 364) hx hb dL_act_364 (by decide) ?_
                    refine lv_goto (tgt := 376) (pc := 367) hx hb dL_act_367 (by decide) ?_
                    exact z_top (by rw [if_pos c_361]) (J19 _ _ _ hz (lv_sub hl [0, 1, 2, 3, 4] rfl))
                · refine lv_iconst (v := -1) (pc := 344) hx hb dL_act_344 (by decide) ?_
                  refine lv_goto (tgt := 379) (pc := 345) hx hb dL_act_345 (by decide) ?_
                  refine lv_istore (lv' := [(5, .int (-1)), (4, .int (nI k)), (3, .int (nI j)), (0, .ref o), (1, .int x), (2, .int y)]) (pc := 379) hx hb dL_act_379 hl (by decide) rfl (fun ls hl => ?_)
                  have hrr := hour_m hP hk
                  refine lv_aload_n (pc := 381) hx hb dL_act_381 rfl (lv_at hl 3 rfl) ?_
                  refine lv_iload (pc := 382) hx hb dL_act_382 (lv_at hl 1 rfl) ?_
                  refine lv_iconst (v := 4) (pc := 384) hx hb dL_act_384 (by decide) ?_
                  refine z_runV (pc := 385) (As := [.int (nI k), .int 4]) (rest := []) (ws1 := w) ⟨hx, hb, hml, hown, hts⟩ (f_c4 (l := l) (G := G) hF hci hk) (cwV 2 hts (zgoodV zsub wq_7_7 wq_7_8 wq_7_9 wq_1_2 wq_7_10) rfl rfl rfl hdV_X3_cup ⟨Nat.le_of_ble_eq_true rfl, Nat.le_of_ble_eq_true rfl⟩) hz [] zp_all zp_all' ew rfl rfl hl.1 (Nat.le_of_ble_eq_true rfl) (st1 := [.int (hr5 (p.2 k 4))]) rfl dL_act_385 ⟨Nat.le_of_ble_eq_true rfl, Nat.le_of_ble_eq_true rfl⟩ (fun H locs hz => ?_)
                  refine lv_istore (lv' := [(6, .int (hr5 (p.2 k 4))), (5, .int (-1)), (4, .int (nI k)), (3, .int (nI j)), (0, .ref o), (1, .int x), (2, .int y)]) (pc := 388) hx hb dL_act_388 hl (by decide) rfl (fun ls hl => ?_)
                  refine lv_aload_n (pc := 390) hx hb dL_act_390 rfl (lv_at hl 4 rfl) ?_
                  refine lv_iload (pc := 391) hx hb dL_act_391 (lv_at hl 2 rfl) ?_
                  refine lv_iload (pc := 393) hx hb dL_act_393 (lv_at hl 1 rfl) ?_
                  obtain ⟨w8, z8, hF8⟩ := f_setHour (l := l) (G := G) hF hci (nI k) (-1)
                  obtain ⟨fsw8, tlw8, ew8⟩ := hF8.h1
                  refine z_runV (pc := 395) (As := [.int (nI k), .int (-1)]) (rest := []) (ws1 := w8) ⟨hx, hb, hml, hown, hts⟩ (z8) (cwV 2 hts (zgoodV zsub wq_25_5 wq_25_6 wq_25_7 wq_1_2 wq_25_8) rfl rfl rfl hdV_X3_setHour ⟨Nat.le_of_ble_eq_true rfl, Nat.le_of_ble_eq_true rfl⟩) hz [] zp_all zp_all' ew rfl rfl hl.1 (Nat.le_of_ble_eq_true rfl) (st1 := [.int (hourR p.2 (nI k) (-1))]) rfl dL_act_395 ⟨Nat.le_of_ble_eq_true rfl, Nat.le_of_ble_eq_true rfl⟩ (fun H locs hz => ?_)
                  refine z_top (y := hrE (hr5 (p.2 k 4)) (-1)) hrr.1 ?_
                  refine lv_istore (lv' := [(7, .int (hrE (hr5 (p.2 k 4)) (-1))), (6, .int (hr5 (p.2 k 4))), (5, .int (-1)), (4, .int (nI k)), (3, .int (nI j)), (0, .ref o), (1, .int x), (2, .int y)]) (pc := 398) hx hb dL_act_398 hl (by decide) rfl (fun ls hl => ?_)
                  refine lv_iload (pc := 400) hx hb dL_act_400 (lv_at hl 0 rfl) ?_
                  refine lv_iload (pc := 402) hx hb dL_act_402 (lv_at hl 1 rfl) ?_
                  refine lv_iload (pc := 404) hx hb dL_act_404 (lv_at hl 2 rfl) ?_
                  have J26 : ∀ (H : Heap) (locs : List Loc) (ls : Array Slot), zw G ca A s0.heap s0 w8 H locs → lv_has ls 8 [(7, .int (hrE (hr5 (p.2 k 4)) (-1))), (6, .int (hr5 (p.2 k 4))), (5, .int (-1)), (4, .int (nI k)), (3, .int (nI j)), (0, .ref o), (1, .int x), (2, .int y)] → W pg l ev rm_L_act s0 mt args below meth cd H locs 0 0 Q (F0 mt 442 ls [.int (hrE (hr5 (p.2 k 4)) (-1)), .int (hrE (hr5 (p.2 k 4)) (-1))]) := by
                    intro H locs ls hz hl
                    refine lv_icmp_ne (pc := 442) (tgt := 488) hx hb dL_act_442 (by decide) (fun c9 => absurd rfl c9) (fun c_442 => ?_)
                    refine lv_aload_n (pc := 445) hx hb dL_act_445 rfl (lv_at hl 5 rfl) ?_
                    refine lv_iload (pc := 446) hx hb dL_act_446 (lv_at hl 3 rfl) ?_
                    refine lv_iconst (v := 4) (pc := 448) hx hb dL_act_448 (by decide) ?_
                    refine z_runV (pc := 449) (As := [.int (nI k), .int 4]) (rest := []) (ws1 := w8) ⟨hx, hb, hml, hown, hts⟩ (f_c4 (l := l) (G := G) hF8 (hP.hour hk (-1)).1.1 hk) (cwV 2 hts (zgoodV zsub wq_7_7 wq_7_8 wq_7_9 wq_1_2 wq_7_10) rfl rfl rfl hdV_X3_cup ⟨Nat.le_of_ble_eq_true rfl, Nat.le_of_ble_eq_true rfl⟩) hz [] zp_all zp_all' ew8 rfl rfl hl.1 (Nat.le_of_ble_eq_true rfl) (st1 := [.int (hr5 ((p.1, hourC p.2 (nI k) (-1)).2 k 4))]) rfl dL_act_449 ⟨Nat.le_of_ble_eq_true rfl, Nat.le_of_ble_eq_true rfl⟩ (fun H locs hz => ?_)
                    refine z_top (y := -5) hrr.2.1 ?_
                    refine lv_iload (pc := 452) hx hb dL_act_452 (lv_at hl 2 rfl) ?_
                    refine lv_iconst (v := -1) (pc := 454) hx hb dL_act_454 (by decide) ?_
                    refine lv_icmp_ne (pc := 455) (tgt := 463) hx hb dL_act_455 (by decide) (fun c9 => absurd rfl c9) (fun c_455 => ?_)
                    refine lv_bipush (v := -5) (pc := 458) hx hb dL_act_458 (by decide) ?_
                    refine lv_goto (tgt := 465) (pc := 460) hx hb dL_act_460 (by decide) ?_
                    refine lv_icmp_ne (pc := 465) (tgt := 488) hx hb dL_act_465 (by decide) (fun c9 => absurd rfl c9) (fun c_465 => ?_)
                    refine lv_iload (pc := 468) hx hb dL_act_468 (lv_at hl 2 rfl) ?_
                    refine lv_if_ge (pc := 470) (tgt := 484) hx hb dL_act_470 (by decide) (fun c9 => absurd c9 (by decide)) (fun c_470 => ?_)
                    refine lv_aload_n (pc := 473) hx hb dL_act_473 rfl (lv_at hl 5 rfl) ?_
                    refine lv_iload (pc := 474) hx hb dL_act_474 (lv_at hl 3 rfl) ?_
                    refine lv_bipush (v := 6) (pc := 476) hx hb dL_act_476 (by decide) ?_
                    refine z_runV (pc := 478) (As := [.int (nI k), .int 6]) (rest := []) (ws1 := w8) ⟨hx, hb, hml, hown, hts⟩ (f_cw (l := l) (G := G) hF8 (hP.hour hk (-1)).1.1 hk (w9 := 6) (by decide) (by decide)) (cwV 2 hts (zgoodV zsub wq_7_7 wq_7_8 wq_7_9 wq_1_2 wq_7_10) rfl rfl rfl hdV_X3_cup ⟨Nat.le_of_ble_eq_true rfl, Nat.le_of_ble_eq_true rfl⟩) hz [] zp_all zp_all' ew8 rfl rfl hl.1 (Nat.le_of_ble_eq_true rfl) (st1 := [.int ((p.1, hourC p.2 (nI k) (-1)).2 k 6)]) rfl dL_act_478 ⟨Nat.le_of_ble_eq_true rfl, Nat.le_of_ble_eq_true rfl⟩ (fun H locs hz => ?_)
                    refine z_top (y := 0) hrr.2.2 ?_
                    refine lv_if_ne (pc := 481) (tgt := 488) hx hb dL_act_481 (by decide) (fun c9 => absurd rfl c9) (fun c_481 => ?_)
                    refine lv_iconst (v := 1) (pc := 484) hx hb dL_act_484 (by decide) ?_
                    refine lv_goto (tgt := 489) (pc := 485) hx hb dL_act_485 (by decide) ?_
                    exact z_zretW (pc := 489) hx hb hr hlk hQ hz (Nat.le_of_ble_eq_true rfl) (Nat.le_of_ble_eq_true rfl) rfl dL_act_489 (by rfl) (⟨_, _, (hP.hour hk (-1)).mono (by omega), ht0, by omega, hF8.any⟩)
                  refine lv_icmp_eq (pc := 406) (tgt := 422) hx hb dL_act_406 (by decide) (fun c_406 => ?_) (fun c_406 => ?_)
                  · refine lv_bipush (v := -5) (pc := 422) hx hb dL_act_422 (by decide) ?_
                    refine lv_goto (tgt := 442) (pc := 424) hx hb dL_act_424 (by decide) ?_
                    exact z_top (by rw [hrE, if_pos c_406]) (J26 _ _ _ hz (lv_sub hl [0, 1, 2, 3, 4, 5, 6, 7] rfl))
                  · refine lv_iload (pc := 409) hx hb dL_act_409 (lv_at hl 1 rfl) ?_
                    refine lv_bipush (v := -5) (pc := 411) hx hb dL_act_411 (by decide) ?_
                    refine lv_icmp_ne (pc := 413) (tgt := 427) hx hb dL_act_413 (by decide) (fun c_413 => ?_) (fun c_413 => ?_)
                    · refine lv_iload (pc := 427) hx hb dL_act_427 (lv_at hl 1 rfl) ?_
                      refine lv_bipush (v := -5) (pc := 429) hx hb dL_act_429 (by decide) ?_
                      refine lv_icmp_ne (pc := 431) (tgt := 440) hx hb dL_act_431 (by decide) (fun c_431 => ?_) (fun c9 => absurd c9 c_413)
                      refine lv_iload (pc := 440) hx hb dL_act_440 (lv_at hl 1 rfl) ?_
                      exact z_top (by rw [hrE, if_neg c_406, if_neg c_413]) (J26 _ _ _ hz (lv_sub hl [0, 1, 2, 3, 4, 5, 6, 7] rfl))
                    · refine lv_iload (pc := 416) hx hb dL_act_416 (lv_at hl 2 rfl) ?_
                      refine lv_iconst (v := -1) (pc := 418) hx hb dL_act_418 (by decide) ?_
                      refine lv_icmp_ne (pc := 419) (tgt := 427) hx hb dL_act_419 (by decide) (fun c9 => absurd rfl c9) (fun c_419 => ?_)
                      refine lv_bipush (v := -5) (pc := 422) hx hb dL_act_422 (by decide) ?_
                      refine lv_goto (tgt := 442) (pc := 424) hx hb dL_act_424 (by decide) ?_
                      exact z_top (by rw [hrE, if_neg c_406, if_pos c_413, if_pos c_419]) (J26 _ _ _ hz (lv_sub hl [0, 1, 2, 3, 4, 5, 6, 7] rfl))
            · refine lv_aload_n (pc := 254) hx hb dL_act_254 rfl (lv_at hl 2 rfl) ?_
              refine lv_iload (pc := 255) hx hb dL_act_255 (lv_at hl 0 rfl) ?_
              refine lv_iconst (v := 5) (pc := 257) hx hb dL_act_257 (by decide) ?_
              refine z_runV (pc := 258) (As := [.int (nI k), .int 5]) (rest := []) (ws1 := w) ⟨hx, hb, hml, hown, hts⟩ (f_cw (l := l) (G := G) hF hci hk (w9 := 5) (by decide) (by decide)) (cwV 2 hts (zgoodV zsub wq_7_7 wq_7_8 wq_7_9 wq_1_2 wq_7_10) rfl rfl rfl hdV_X3_cup ⟨Nat.le_of_ble_eq_true rfl, Nat.le_of_ble_eq_true rfl⟩) hz [] zp_all zp_all' ew rfl rfl hl.1 (Nat.le_of_ble_eq_true rfl) (st1 := [.int (p.2 k 5)]) rfl dL_act_258 ⟨Nat.le_of_ble_eq_true rfl, Nat.le_of_ble_eq_true rfl⟩ (fun H locs hz => ?_)
              refine lv_istore (lv' := [(5, .int (p.2 k 5)), (4, .int (nI k)), (3, .int (nI j)), (0, .ref o), (1, .int x), (2, .int y)]) (pc := 261) hx hb dL_act_261 hl (by decide) rfl (fun ls hl => ?_)
              refine lv_aload_n (pc := 263) hx hb dL_act_263 rfl (lv_at hl 3 rfl) ?_
              refine lv_iload (pc := 264) hx hb dL_act_264 (lv_at hl 1 rfl) ?_
              refine lv_bipush (v := 6) (pc := 266) hx hb dL_act_266 (by decide) ?_
              refine z_runV (pc := 268) (As := [.int (nI k), .int 6]) (rest := []) (ws1 := w) ⟨hx, hb, hml, hown, hts⟩ (f_cw (l := l) (G := G) hF hci hk (w9 := 6) (by decide) (by decide)) (cwV 2 hts (zgoodV zsub wq_7_7 wq_7_8 wq_7_9 wq_1_2 wq_7_10) rfl rfl rfl hdV_X3_cup ⟨Nat.le_of_ble_eq_true rfl, Nat.le_of_ble_eq_true rfl⟩) hz [] zp_all zp_all' ew rfl rfl hl.1 (Nat.le_of_ble_eq_true rfl) (st1 := [.int (p.2 k 6)]) rfl dL_act_268 ⟨Nat.le_of_ble_eq_true rfl, Nat.le_of_ble_eq_true rfl⟩ (fun H locs hz => ?_)
              refine lv_iconst (v := 1) (pc := 271) hx hb dL_act_271 (by decide) ?_
              refine lv_icmp_ne (pc := 272) (tgt := 294) hx hb dL_act_272 (by decide) (fun c_272 => ?_) (fun c_272 => ?_)
              · refine lv_aload_n (pc := 294) hx hb dL_act_294 rfl (lv_at hl 3 rfl) ?_
                refine lv_iload (pc := 295) hx hb dL_act_295 (lv_at hl 1 rfl) ?_
                obtain ⟨w9, z9, hF9⟩ := f_turnLock (l := l) (G := G) hF hci (nI k)
                obtain ⟨fsw9, tlw9, ew9⟩ := hF9.h1
                refine z_runV (pc := 297) (As := [.int (nI k)]) (rest := []) (ws1 := w9) ⟨hx, hb, hml, hown, hts⟩ (z9) (cwV 1 hts (zgoodV zsub wq_24_9 wq_24_10 wq_24_11 wq_1_2 wq_25_0) rfl rfl rfl hdV_X3_turnLock ⟨Nat.le_of_ble_eq_true rfl, Nat.le_of_ble_eq_true rfl⟩) hz [] zp_all zp_all' ew rfl rfl hl.1 (Nat.le_of_ble_eq_true rfl) (st1 := [.int (turnR p.2 (nI k))]) rfl dL_act_297 ⟨Nat.le_of_ble_eq_true rfl, Nat.le_of_ble_eq_true rfl⟩ (fun H locs hz => ?_)
                refine z_top (y := 1 - p.2 k 5) (turn_b hk c_272).1 ?_
                refine lv_iconst (v := 1) (pc := 300) hx hb dL_act_300 (by decide) ?_
                refine lv_iload (pc := 301) hx hb dL_act_301 (lv_at hl 0 rfl) ?_
                refine lv_isub (pc := 303) hx hb dL_act_303 ?_
                refine lv_icmp_ne (pc := 304) (tgt := 325) hx hb dL_act_304 (by decide) (fun c9 => absurd rfl c9) (fun c_304 => ?_)
                refine lv_aload_n (pc := 307) hx hb dL_act_307 rfl (lv_at hl 3 rfl) ?_
                refine lv_iload (pc := 308) hx hb dL_act_308 (lv_at hl 1 rfl) ?_
                refine lv_iconst (v := 5) (pc := 310) hx hb dL_act_310 (by decide) ?_
                refine z_runV (pc := 311) (As := [.int (nI k), .int 5]) (rest := []) (ws1 := w9) ⟨hx, hb, hml, hown, hts⟩ (f_cw (l := l) (G := G) hF9 (hP.turn hk).1.1 hk (w9 := 5) (by decide) (by decide)) (cwV 2 hts (zgoodV zsub wq_7_7 wq_7_8 wq_7_9 wq_1_2 wq_7_10) rfl rfl rfl hdV_X3_cup ⟨Nat.le_of_ble_eq_true rfl, Nat.le_of_ble_eq_true rfl⟩) hz [] zp_all zp_all' ew9 rfl rfl hl.1 (Nat.le_of_ble_eq_true rfl) (st1 := [.int ((p.1, turnC p.2 (nI k)).2 k 5)]) rfl dL_act_311 ⟨Nat.le_of_ble_eq_true rfl, Nat.le_of_ble_eq_true rfl⟩ (fun H locs hz => ?_)
                refine z_top (y := 1 - p.2 k 5) (turn_b hk c_272).2 ?_
                refine lv_iconst (v := 1) (pc := 314) hx hb dL_act_314 (by decide) ?_
                refine lv_iload (pc := 315) hx hb dL_act_315 (lv_at hl 0 rfl) ?_
                refine lv_isub (pc := 317) hx hb dL_act_317 ?_
                refine lv_icmp_ne (pc := 318) (tgt := 325) hx hb dL_act_318 (by decide) (fun c9 => absurd rfl c9) (fun c_318 => ?_)
                refine lv_iconst (v := 1) (pc := 321) hx hb dL_act_321 (by decide) ?_
                refine lv_goto (tgt := 326) (pc := 322) hx hb dL_act_322 (by decide) ?_
                exact z_zretW (pc := 326) hx hb hr hlk hQ hz (Nat.le_of_ble_eq_true rfl) (Nat.le_of_ble_eq_true rfl) rfl dL_act_326 (by rfl) (⟨_, _, (hP.turn hk).mono (by omega), ht0, by omega, hF9.any⟩)
              · have hg1 : p.2 k 6 = 1 := c_272
                refine lv_aload_n (pc := 275) hx hb dL_act_275 rfl (lv_at hl 3 rfl) ?_
                refine lv_iload (pc := 276) hx hb dL_act_276 (lv_at hl 1 rfl) ?_
                obtain ⟨w10, z10, hF10⟩ := f_turnLock (l := l) (G := G) hF hci (nI k)
                obtain ⟨fsw10, tlw10, ew10⟩ := hF10.h1
                refine z_runV (pc := 278) (As := [.int (nI k)]) (rest := []) (ws1 := w10) ⟨hx, hb, hml, hown, hts⟩ (z10) (cwV 1 hts (zgoodV zsub wq_24_9 wq_24_10 wq_24_11 wq_1_2 wq_25_0) rfl rfl rfl hdV_X3_turnLock ⟨Nat.le_of_ble_eq_true rfl, Nat.le_of_ble_eq_true rfl⟩) hz [] zp_all zp_all' ew rfl rfl hl.1 (Nat.le_of_ble_eq_true rfl) (st1 := [.int (turnR p.2 (nI k))]) rfl dL_act_278 ⟨Nat.le_of_ble_eq_true rfl, Nat.le_of_ble_eq_true rfl⟩ (fun H locs hz => ?_)
                refine z_top (y := -4) (turn_a hk hg1) ?_
                refine lv_bipush (v := -4) (pc := 281) hx hb dL_act_281 (by decide) ?_
                refine lv_icmp_ne (pc := 283) (tgt := 290) hx hb dL_act_283 (by decide) (fun c9 => absurd rfl c9) (fun c_283 => ?_)
                refine lv_iconst (v := 1) (pc := 286) hx hb dL_act_286 (by decide) ?_
                refine lv_goto (tgt := 326) (pc := 287) hx hb dL_act_287 (by decide) ?_
                exact z_zretW (pc := 326) hx hb hr hlk hQ hz (Nat.le_of_ble_eq_true rfl) (Nat.le_of_ble_eq_true rfl) rfl dL_act_326 (by rfl) (⟨_, _, (hP.turn hk).mono (by omega), ht0, by omega, hF10.any⟩)
          · refine lv_iload_n (pc := 99) hx hb dL_act_99 rfl (lv_at hl 4 rfl) ?_
            refine lv_iconst (v := 3) (pc := 100) hx hb dL_act_100 (by decide) ?_
            refine lv_ishr (pc := 101) hx hb dL_act_101 ?_
            refine lv_iconst (v := 3) (pc := 102) hx hb dL_act_102 (by decide) ?_
            obtain ⟨g, hg, eg⟩ := low_nat (shrF y 3) (n := 3) (by decide) (by decide)
            refine z_runS (pc := 103) (As := [.int (shrF y 3), .int 3]) (rest := []) (ws1 := w) ⟨hx, hb, hml, hown, hts⟩ (k_L_low l G ca (shrF y 3) 3 (by decide)) (cwS 2 hts (zgoodS zsub wq_17_0 wq_17_1 wq_7_0 wq_35_0) rfl rfl rfl hdV_L_low ⟨Nat.le_of_ble_eq_true rfl, Nat.le_of_ble_eq_true rfl⟩) hz w zp_no (List.Perm.refl _) rfl hl.1 (Nat.le_of_ble_eq_true rfl) (st1 := [.int (lowF (shrF y 3) 3)]) rfl dL_act_103 ⟨Nat.le_of_ble_eq_true rfl, Nat.le_of_ble_eq_true rfl⟩ (fun H locs hz => ?_)
            refine z_top (y := nI g) eg ?_
            refine lv_istore (lv' := [(5, .int (nI g)), (4, .int (nI k)), (3, .int (nI j)), (0, .ref o), (1, .int x), (2, .int y)]) (pc := 106) hx hb dL_act_106 hl (by decide) rfl (fun ls hl => ?_)
            rcases (show g = 0 ∨ g = 1 ∨ g = 2 by omega) with rfl | rfl | rfl
            · have h90 := hk
              refine lv_iload (pc := 108) hx hb dL_act_108 (lv_at hl 0 rfl) ?_
              refine lv_if_ne (pc := 110) (tgt := 142) hx hb dL_act_110 (by decide) (fun c9 => absurd rfl c9) (fun c_110 => ?_)
              refine lv_iconst (v := 1) (pc := 113) hx hb dL_act_113 (by decide) ?_
              refine lv_iload_n (pc := 114) hx hb dL_act_114 rfl (lv_at hl 5 rfl) ?_
              refine lv_iconst (v := 5) (pc := 115) hx hb dL_act_115 (by decide) ?_
              refine lv_ishr (pc := 116) hx hb dL_act_116 ?_
              refine lv_iload_n (pc := 117) hx hb dL_act_117 rfl (lv_at hl 5 rfl) ?_
              refine lv_bipush (v := 14) (pc := 118) hx hb dL_act_118 (by decide) ?_
              refine lv_ishr (pc := 120) hx hb dL_act_120 ?_
              refine lv_iconst (v := 2) (pc := 121) hx hb dL_act_121 (by decide) ?_
              refine z_runS (pc := 122) (As := [.int (shrF y 14), .int 2]) (rest := [.int (shrF y 5), .int 1]) (ws1 := w) ⟨hx, hb, hml, hown, hts⟩ (k_L_low l G ca (shrF y 14) 2 (by decide)) (cwS 2 hts (zgoodS zsub wq_17_0 wq_17_1 wq_7_0 wq_35_0) rfl rfl rfl hdV_L_low ⟨Nat.le_of_ble_eq_true rfl, Nat.le_of_ble_eq_true rfl⟩) hz w zp_no (List.Perm.refl _) rfl hl.1 (Nat.le_of_ble_eq_true rfl) (st1 := [.int (lowF (shrF y 14) 2), .int (shrF y 5), .int 1]) rfl dL_act_122 ⟨Nat.le_of_ble_eq_true rfl, Nat.le_of_ble_eq_true rfl⟩ (fun H locs hz => ?_)
              have J30 : ∀ (H : Heap) (locs : List Loc) (ls : Array Slot), zw G ca A s0.heap s0 w H locs → lv_has ls 8 [(5, .int (nI 0)), (4, .int (nI k)), (3, .int (nI j)), (0, .ref o), (1, .int x), (2, .int y)] → W pg l ev rm_L_act s0 mt args below meth cd H locs 0 0 Q (F0 mt 135 ls [.int (if lowF (shrF y 14) 2 = 0 then 99 else 20), .int (shrF y 5), .int 1]) := by
                intro H locs ls hz hl
                obtain ⟨m9, hm1, hm2, em9⟩ : ∃ m : Nat, 1 ≤ m ∧ m ≤ 99 ∧ (if lowF (shrF y 14) 2 = 0 then 99 else 20) = nI m := by
                  split
                  · exact ⟨99, by decide, by decide, rfl⟩
                  · exact ⟨20, by decide, by decide, rfl⟩
                refine z_top (y := nI m9) em9 ?_
                obtain ⟨z9, hz9, ez9⟩ := low_nat (shrF y 5) (n := m9) (by omega) (by omega)
                refine z_runS (pc := 135) (As := [.int (shrF y 5), .int (nI m9)]) (rest := [.int 1]) (ws1 := w) ⟨hx, hb, hml, hown, hts⟩ (k_L_low l G ca (shrF y 5) (nI m9) (nI_ne0 (by omega) (by omega))) (cwS 2 hts (zgoodS zsub wq_17_0 wq_17_1 wq_7_0 wq_35_0) rfl rfl rfl hdV_L_low ⟨Nat.le_of_ble_eq_true rfl, Nat.le_of_ble_eq_true rfl⟩) hz w zp_no (List.Perm.refl _) rfl hl.1 (Nat.le_of_ble_eq_true rfl) (st1 := [.int (lowF (shrF y 5) (nI m9)), .int 1]) rfl dL_act_135 ⟨Nat.le_of_ble_eq_true rfl, Nat.le_of_ble_eq_true rfl⟩ (fun H locs hz => ?_)
                refine z_top (y := nI z9) ez9 ?_
                refine lv_iadd (pc := 138) hx hb dL_act_138 ?_
                refine lv_goto (tgt := 190) (pc := 139) hx hb dL_act_139 (by decide) ?_
                refine z_top (y := nI (1 + z9)) (nI_add 1 z9) ?_
                have hv := val0 (k := k) (X := 1 + z9) (by omega) (by omega)
                have hst := set_told (c := p.2) hk (g := 0) (by decide) hv
                refine lv_istore (lv' := [(6, .int (nI (1 + z9))), (5, .int (nI 0)), (4, .int (nI k)), (3, .int (nI j)), (0, .ref o), (1, .int x), (2, .int y)]) (pc := 190) hx hb dL_act_190 hl (by decide) rfl (fun ls hl => ?_)
                refine lv_aload_n (pc := 192) hx hb dL_act_192 rfl (lv_at hl 4 rfl) ?_
                refine lv_iload (pc := 193) hx hb dL_act_193 (lv_at hl 2 rfl) ?_
                refine lv_iload (pc := 195) hx hb dL_act_195 (lv_at hl 1 rfl) ?_
                refine z_runV (pc := 197) (As := [.int (nI k), .int (nI 0)]) (rest := []) (ws1 := w) ⟨hx, hb, hml, hown, hts⟩ (f_cw (l := l) (G := G) hF hci hk (w9 := 0) (by decide) (by decide)) (cwV 2 hts (zgoodV zsub wq_7_7 wq_7_8 wq_7_9 wq_1_2 wq_7_10) rfl rfl rfl hdV_X3_cup ⟨Nat.le_of_ble_eq_true rfl, Nat.le_of_ble_eq_true rfl⟩) hz [] zp_all zp_all' ew rfl rfl hl.1 (Nat.le_of_ble_eq_true rfl) (st1 := [.int (p.2 k 0)]) rfl dL_act_197 ⟨Nat.le_of_ble_eq_true rfl, Nat.le_of_ble_eq_true rfl⟩ (fun H locs hz => ?_)
                refine lv_istore (lv' := [(7, .int (p.2 k 0)), (6, .int (nI (1 + z9))), (5, .int (nI 0)), (4, .int (nI k)), (3, .int (nI j)), (0, .ref o), (1, .int x), (2, .int y)]) (pc := 200) hx hb dL_act_200 hl (by decide) rfl (fun ls hl => ?_)
                refine lv_aload_n (pc := 202) hx hb dL_act_202 rfl (lv_at hl 5 rfl) ?_
                refine lv_iload (pc := 203) hx hb dL_act_203 (lv_at hl 3 rfl) ?_
                refine lv_iload (pc := 205) hx hb dL_act_205 (lv_at hl 2 rfl) ?_
                refine lv_iload (pc := 207) hx hb dL_act_207 (lv_at hl 1 rfl) ?_
                obtain ⟨w11, z11, hF11⟩ := f_setCup (l := l) (G := G) hF hci (nI k) (nI 0) (nI (1 + z9))
                obtain ⟨fsw11, tlw11, ew11⟩ := hF11.h1
                refine z_runV (pc := 209) (As := [.int (nI k), .int (nI 0), .int (nI (1 + z9))]) (rest := []) (ws1 := w11) ⟨hx, hb, hml, hown, hts⟩ (z11) (cwV 3 hts (zgoodV zsub wq_23_7 wq_23_8 wq_23_9 wq_1_2 wq_23_10) rfl rfl rfl hdV_X3_setCup ⟨Nat.le_of_ble_eq_true rfl, Nat.le_of_ble_eq_true rfl⟩) hz [] zp_all zp_all' ew rfl rfl hl.1 (Nat.le_of_ble_eq_true rfl) (st1 := [.int (setR p.2 (nI k) (nI 0) (nI (1 + z9)))]) rfl dL_act_209 ⟨Nat.le_of_ble_eq_true rfl, Nat.le_of_ble_eq_true rfl⟩ (fun H locs hz => ?_)
                refine z_top (y := if p.2 k 0 = nI (1 + z9) then -5 else p.2 k 0) hst.1 ?_
                refine lv_iload (pc := 212) hx hb dL_act_212 (lv_at hl 0 rfl) ?_
                refine lv_iload (pc := 214) hx hb dL_act_214 (lv_at hl 1 rfl) ?_
                have J31 : ∀ (H : Heap) (locs : List Loc) (ls : Array Slot), zw G ca A s0.heap s0 w11 H locs → lv_has ls 8 [(7, .int (p.2 k 0)), (6, .int (nI (1 + z9))), (5, .int (nI 0)), (4, .int (nI k)), (3, .int (nI j)), (0, .ref o), (1, .int x), (2, .int y)] → W pg l ev rm_L_act s0 mt args below meth cd H locs 0 0 Q (F0 mt 226 ls [.int (if p.2 k 0 = nI (1 + z9) then -5 else p.2 k 0), .int (if p.2 k 0 = nI (1 + z9) then -5 else p.2 k 0)]) := by
                  intro H locs ls hz hl
                  refine lv_icmp_ne (pc := 226) (tgt := 246) hx hb dL_act_226 (by decide) (fun c9 => absurd rfl c9) (fun c_226 => ?_)
                  refine lv_aload_n (pc := 229) hx hb dL_act_229 rfl (lv_at hl 5 rfl) ?_
                  refine lv_iload (pc := 230) hx hb dL_act_230 (lv_at hl 3 rfl) ?_
                  refine lv_iload (pc := 232) hx hb dL_act_232 (lv_at hl 2 rfl) ?_
                  refine z_runV (pc := 234) (As := [.int (nI k), .int (nI 0)]) (rest := []) (ws1 := w11) ⟨hx, hb, hml, hown, hts⟩ (f_cw (l := l) (G := G) hF11 (hP.setc hk (w := 0) (by decide) (nI (1 + z9))).1.1 hk (w9 := 0) (by decide) (by decide)) (cwV 2 hts (zgoodV zsub wq_7_7 wq_7_8 wq_7_9 wq_1_2 wq_7_10) rfl rfl rfl hdV_X3_cup ⟨Nat.le_of_ble_eq_true rfl, Nat.le_of_ble_eq_true rfl⟩) hz [] zp_all zp_all' ew11 rfl rfl hl.1 (Nat.le_of_ble_eq_true rfl) (st1 := [.int ((p.1, setC p.2 (nI k) (nI 0) (nI (1 + z9))).2 k 0)]) rfl dL_act_234 ⟨Nat.le_of_ble_eq_true rfl, Nat.le_of_ble_eq_true rfl⟩ (fun H locs hz => ?_)
                  refine z_top (y := nI (1 + z9)) hst.2 ?_
                  refine lv_iload (pc := 237) hx hb dL_act_237 (lv_at hl 1 rfl) ?_
                  refine lv_icmp_ne (pc := 239) (tgt := 246) hx hb dL_act_239 (by decide) (fun c9 => absurd rfl c9) (fun c_239 => ?_)
                  refine lv_iconst (v := 1) (pc := 242) hx hb dL_act_242 (by decide) ?_
                  refine lv_goto (tgt := 247) (pc := 243) hx hb dL_act_243 (by decide) ?_
                  exact z_zretW (pc := 247) hx hb hr hlk hQ hz (Nat.le_of_ble_eq_true rfl) (Nat.le_of_ble_eq_true rfl) rfl dL_act_247 (by rfl) (⟨_, _, (hP.setc hk (w := 0) (by decide) (nI (1 + z9))).mono (by omega), ht0, by omega, hF11.any⟩)
                refine lv_icmp_ne (pc := 216) (tgt := 224) hx hb dL_act_216 (by decide) (fun c_216 => ?_) (fun c_216 => ?_)
                · refine lv_iload (pc := 224) hx hb dL_act_224 (lv_at hl 0 rfl) ?_
                  exact z_top (by rw [if_neg c_216]) (J31 _ _ _ hz (lv_sub hl [0, 1, 2, 3, 4, 5, 6, 7] rfl))
                · refine lv_bipush (v := -5) (pc := 219) hx hb dL_act_219 (by decide) ?_
                  refine lv_goto (tgt := 226) (pc := 221) hx hb dL_act_221 (by decide) ?_
                  exact z_top (by rw [if_pos c_216]) (J31 _ _ _ hz (lv_sub hl [0, 1, 2, 3, 4, 5, 6, 7] rfl))
              refine lv_if_ne (pc := 125) (tgt := 133) hx hb dL_act_125 (by decide) (fun c_125 => ?_) (fun c_125 => ?_)
              · refine lv_bipush (v := 20) (pc := 133) hx hb dL_act_133 (by decide) ?_
                exact z_top (by rw [if_neg c_125]) (J30 _ _ _ hz (lv_sub hl [0, 1, 2, 3, 4, 5] rfl))
              · refine lv_bipush (v := 99) (pc := 128) hx hb dL_act_128 (by decide) ?_
                refine lv_goto (tgt := 135) (pc := 130) hx hb dL_act_130 (by decide) ?_
                exact z_top (by rw [if_pos c_125]) (J30 _ _ _ hz (lv_sub hl [0, 1, 2, 3, 4, 5] rfl))
            · have h91 := hk
              refine lv_iload (pc := 108) hx hb dL_act_108 (lv_at hl 0 rfl) ?_
              refine lv_if_ne (pc := 110) (tgt := 142) hx hb dL_act_110 (by decide) (fun c_110 => ?_) (fun c9 => absurd c9 (by decide))
              refine lv_iload (pc := 142) hx hb dL_act_142 (lv_at hl 0 rfl) ?_
              refine lv_iconst (v := 1) (pc := 144) hx hb dL_act_144 (by decide) ?_
              refine lv_icmp_ne (pc := 145) (tgt := 174) hx hb dL_act_145 (by decide) (fun c9 => absurd rfl c9) (fun c_145 => ?_)
              refine lv_iload_n (pc := 148) hx hb dL_act_148 rfl (lv_at hl 5 rfl) ?_
              refine lv_iconst (v := 5) (pc := 149) hx hb dL_act_149 (by decide) ?_
              refine lv_ishr (pc := 150) hx hb dL_act_150 ?_
              refine lv_iload_n (pc := 151) hx hb dL_act_151 rfl (lv_at hl 5 rfl) ?_
              refine lv_bipush (v := 14) (pc := 152) hx hb dL_act_152 (by decide) ?_
              refine lv_ishr (pc := 154) hx hb dL_act_154 ?_
              refine lv_iconst (v := 2) (pc := 155) hx hb dL_act_155 (by decide) ?_
              refine z_runS (pc := 156) (As := [.int (shrF y 14), .int 2]) (rest := [.int (shrF y 5)]) (ws1 := w) ⟨hx, hb, hml, hown, hts⟩ (k_L_low l G ca (shrF y 14) 2 (by decide)) (cwS 2 hts (zgoodS zsub wq_17_0 wq_17_1 wq_7_0 wq_35_0) rfl rfl rfl hdV_L_low ⟨Nat.le_of_ble_eq_true rfl, Nat.le_of_ble_eq_true rfl⟩) hz w zp_no (List.Perm.refl _) rfl hl.1 (Nat.le_of_ble_eq_true rfl) (st1 := [.int (lowF (shrF y 14) 2), .int (shrF y 5)]) rfl dL_act_156 ⟨Nat.le_of_ble_eq_true rfl, Nat.le_of_ble_eq_true rfl⟩ (fun H locs hz => ?_)
              have J36 : ∀ (H : Heap) (locs : List Loc) (ls : Array Slot), zw G ca A s0.heap s0 w H locs → lv_has ls 8 [(5, .int (nI 1)), (4, .int (nI k)), (3, .int (nI j)), (0, .ref o), (1, .int x), (2, .int y)] → W pg l ev rm_L_act s0 mt args below meth cd H locs 0 0 Q (F0 mt 168 ls [.int (if lowF (shrF y 14) 2 = 0 then 10 else 2), .int (shrF y 5)]) := by
                intro H locs ls hz hl
                obtain ⟨m9, hm1, hm2, em9⟩ : ∃ m : Nat, 1 ≤ m ∧ m ≤ 10 ∧ (if lowF (shrF y 14) 2 = 0 then 10 else 2) = nI m := by
                  split
                  · exact ⟨10, by decide, by decide, rfl⟩
                  · exact ⟨2, by decide, by decide, rfl⟩
                refine z_top (y := nI m9) em9 ?_
                obtain ⟨z9, hz9, ez9⟩ := low_nat (shrF y 5) (n := m9) (by omega) (by omega)
                refine z_runS (pc := 168) (As := [.int (shrF y 5), .int (nI m9)]) (rest := []) (ws1 := w) ⟨hx, hb, hml, hown, hts⟩ (k_L_low l G ca (shrF y 5) (nI m9) (nI_ne0 (by omega) (by omega))) (cwS 2 hts (zgoodS zsub wq_17_0 wq_17_1 wq_7_0 wq_35_0) rfl rfl rfl hdV_L_low ⟨Nat.le_of_ble_eq_true rfl, Nat.le_of_ble_eq_true rfl⟩) hz w zp_no (List.Perm.refl _) rfl hl.1 (Nat.le_of_ble_eq_true rfl) (st1 := [.int (lowF (shrF y 5) (nI m9))]) rfl dL_act_168 ⟨Nat.le_of_ble_eq_true rfl, Nat.le_of_ble_eq_true rfl⟩ (fun H locs hz => ?_)
                refine z_top (y := nI z9) ez9 ?_
                refine lv_goto (tgt := 190) (pc := 171) hx hb dL_act_171 (by decide) ?_
                have hv := val1 (k := k) (X := z9) (by omega)
                have hst := set_told (c := p.2) hk (g := 1) (by decide) hv
                refine lv_istore (lv' := [(6, .int (nI z9)), (5, .int (nI 1)), (4, .int (nI k)), (3, .int (nI j)), (0, .ref o), (1, .int x), (2, .int y)]) (pc := 190) hx hb dL_act_190 hl (by decide) rfl (fun ls hl => ?_)
                refine lv_aload_n (pc := 192) hx hb dL_act_192 rfl (lv_at hl 4 rfl) ?_
                refine lv_iload (pc := 193) hx hb dL_act_193 (lv_at hl 2 rfl) ?_
                refine lv_iload (pc := 195) hx hb dL_act_195 (lv_at hl 1 rfl) ?_
                refine z_runV (pc := 197) (As := [.int (nI k), .int (nI 1)]) (rest := []) (ws1 := w) ⟨hx, hb, hml, hown, hts⟩ (f_cw (l := l) (G := G) hF hci hk (w9 := 1) (by decide) (by decide)) (cwV 2 hts (zgoodV zsub wq_7_7 wq_7_8 wq_7_9 wq_1_2 wq_7_10) rfl rfl rfl hdV_X3_cup ⟨Nat.le_of_ble_eq_true rfl, Nat.le_of_ble_eq_true rfl⟩) hz [] zp_all zp_all' ew rfl rfl hl.1 (Nat.le_of_ble_eq_true rfl) (st1 := [.int (p.2 k 1)]) rfl dL_act_197 ⟨Nat.le_of_ble_eq_true rfl, Nat.le_of_ble_eq_true rfl⟩ (fun H locs hz => ?_)
                refine lv_istore (lv' := [(7, .int (p.2 k 1)), (6, .int (nI z9)), (5, .int (nI 1)), (4, .int (nI k)), (3, .int (nI j)), (0, .ref o), (1, .int x), (2, .int y)]) (pc := 200) hx hb dL_act_200 hl (by decide) rfl (fun ls hl => ?_)
                refine lv_aload_n (pc := 202) hx hb dL_act_202 rfl (lv_at hl 5 rfl) ?_
                refine lv_iload (pc := 203) hx hb dL_act_203 (lv_at hl 3 rfl) ?_
                refine lv_iload (pc := 205) hx hb dL_act_205 (lv_at hl 2 rfl) ?_
                refine lv_iload (pc := 207) hx hb dL_act_207 (lv_at hl 1 rfl) ?_
                obtain ⟨w12, z12, hF12⟩ := f_setCup (l := l) (G := G) hF hci (nI k) (nI 1) (nI z9)
                obtain ⟨fsw12, tlw12, ew12⟩ := hF12.h1
                refine z_runV (pc := 209) (As := [.int (nI k), .int (nI 1), .int (nI z9)]) (rest := []) (ws1 := w12) ⟨hx, hb, hml, hown, hts⟩ (z12) (cwV 3 hts (zgoodV zsub wq_23_7 wq_23_8 wq_23_9 wq_1_2 wq_23_10) rfl rfl rfl hdV_X3_setCup ⟨Nat.le_of_ble_eq_true rfl, Nat.le_of_ble_eq_true rfl⟩) hz [] zp_all zp_all' ew rfl rfl hl.1 (Nat.le_of_ble_eq_true rfl) (st1 := [.int (setR p.2 (nI k) (nI 1) (nI z9))]) rfl dL_act_209 ⟨Nat.le_of_ble_eq_true rfl, Nat.le_of_ble_eq_true rfl⟩ (fun H locs hz => ?_)
                refine z_top (y := if p.2 k 1 = nI z9 then -5 else p.2 k 1) hst.1 ?_
                refine lv_iload (pc := 212) hx hb dL_act_212 (lv_at hl 0 rfl) ?_
                refine lv_iload (pc := 214) hx hb dL_act_214 (lv_at hl 1 rfl) ?_
                have J37 : ∀ (H : Heap) (locs : List Loc) (ls : Array Slot), zw G ca A s0.heap s0 w12 H locs → lv_has ls 8 [(7, .int (p.2 k 1)), (6, .int (nI z9)), (5, .int (nI 1)), (4, .int (nI k)), (3, .int (nI j)), (0, .ref o), (1, .int x), (2, .int y)] → W pg l ev rm_L_act s0 mt args below meth cd H locs 0 0 Q (F0 mt 226 ls [.int (if p.2 k 1 = nI z9 then -5 else p.2 k 1), .int (if p.2 k 1 = nI z9 then -5 else p.2 k 1)]) := by
                  intro H locs ls hz hl
                  refine lv_icmp_ne (pc := 226) (tgt := 246) hx hb dL_act_226 (by decide) (fun c9 => absurd rfl c9) (fun c_226 => ?_)
                  refine lv_aload_n (pc := 229) hx hb dL_act_229 rfl (lv_at hl 5 rfl) ?_
                  refine lv_iload (pc := 230) hx hb dL_act_230 (lv_at hl 3 rfl) ?_
                  refine lv_iload (pc := 232) hx hb dL_act_232 (lv_at hl 2 rfl) ?_
                  refine z_runV (pc := 234) (As := [.int (nI k), .int (nI 1)]) (rest := []) (ws1 := w12) ⟨hx, hb, hml, hown, hts⟩ (f_cw (l := l) (G := G) hF12 (hP.setc hk (w := 1) (by decide) (nI z9)).1.1 hk (w9 := 1) (by decide) (by decide)) (cwV 2 hts (zgoodV zsub wq_7_7 wq_7_8 wq_7_9 wq_1_2 wq_7_10) rfl rfl rfl hdV_X3_cup ⟨Nat.le_of_ble_eq_true rfl, Nat.le_of_ble_eq_true rfl⟩) hz [] zp_all zp_all' ew12 rfl rfl hl.1 (Nat.le_of_ble_eq_true rfl) (st1 := [.int ((p.1, setC p.2 (nI k) (nI 1) (nI z9)).2 k 1)]) rfl dL_act_234 ⟨Nat.le_of_ble_eq_true rfl, Nat.le_of_ble_eq_true rfl⟩ (fun H locs hz => ?_)
                  refine z_top (y := nI z9) hst.2 ?_
                  refine lv_iload (pc := 237) hx hb dL_act_237 (lv_at hl 1 rfl) ?_
                  refine lv_icmp_ne (pc := 239) (tgt := 246) hx hb dL_act_239 (by decide) (fun c9 => absurd rfl c9) (fun c_239 => ?_)
                  refine lv_iconst (v := 1) (pc := 242) hx hb dL_act_242 (by decide) ?_
                  refine lv_goto (tgt := 247) (pc := 243) hx hb dL_act_243 (by decide) ?_
                  exact z_zretW (pc := 247) hx hb hr hlk hQ hz (Nat.le_of_ble_eq_true rfl) (Nat.le_of_ble_eq_true rfl) rfl dL_act_247 (by rfl) (⟨_, _, (hP.setc hk (w := 1) (by decide) (nI z9)).mono (by omega), ht0, by omega, hF12.any⟩)
                refine lv_icmp_ne (pc := 216) (tgt := 224) hx hb dL_act_216 (by decide) (fun c_216 => ?_) (fun c_216 => ?_)
                · refine lv_iload (pc := 224) hx hb dL_act_224 (lv_at hl 0 rfl) ?_
                  exact z_top (by rw [if_neg c_216]) (J37 _ _ _ hz (lv_sub hl [0, 1, 2, 3, 4, 5, 6, 7] rfl))
                · refine lv_bipush (v := -5) (pc := 219) hx hb dL_act_219 (by decide) ?_
                  refine lv_goto (tgt := 226) (pc := 221) hx hb dL_act_221 (by decide) ?_
                  exact z_top (by rw [if_pos c_216]) (J37 _ _ _ hz (lv_sub hl [0, 1, 2, 3, 4, 5, 6, 7] rfl))
              refine lv_if_ne (pc := 159) (tgt := 167) hx hb dL_act_159 (by decide) (fun c_159 => ?_) (fun c_159 => ?_)
              · refine lv_iconst (v := 2) (pc := 167) hx hb dL_act_167 (by decide) ?_
                exact z_top (by rw [if_neg c_159]) (J36 _ _ _ hz (lv_sub hl [0, 1, 2, 3, 4, 5] rfl))
              · refine lv_bipush (v := 10) (pc := 162) hx hb dL_act_162 (by decide) ?_
                refine lv_goto (tgt := 168) (pc := 164) hx hb dL_act_164 (by decide) ?_
                exact z_top (by rw [if_pos c_159]) (J36 _ _ _ hz (lv_sub hl [0, 1, 2, 3, 4, 5] rfl))
            · have h92 := hk
              refine lv_iload (pc := 108) hx hb dL_act_108 (lv_at hl 0 rfl) ?_
              refine lv_if_ne (pc := 110) (tgt := 142) hx hb dL_act_110 (by decide) (fun c_110 => ?_) (fun c9 => absurd c9 (by decide))
              refine lv_iload (pc := 142) hx hb dL_act_142 (lv_at hl 0 rfl) ?_
              refine lv_iconst (v := 1) (pc := 144) hx hb dL_act_144 (by decide) ?_
              refine lv_icmp_ne (pc := 145) (tgt := 174) hx hb dL_act_145 (by decide) (fun c_145 => ?_) (fun c9 => absurd c9 (by decide))
              refine lv_iload (pc := 174) hx hb dL_act_174 (lv_at hl 1 rfl) ?_
              refine lv_iconst (v := 1) (pc := 176) hx hb dL_act_176 (by decide) ?_
              refine lv_iadd (pc := 177) hx hb dL_act_177 ?_
              refine lv_iload_n (pc := 178) hx hb dL_act_178 rfl (lv_at hl 5 rfl) ?_
              refine lv_iconst (v := 5) (pc := 179) hx hb dL_act_179 (by decide) ?_
              refine lv_ishr (pc := 180) hx hb dL_act_180 ?_
              refine lv_bipush (v := 8) (pc := 181) hx hb dL_act_181 (by decide) ?_
              refine lv_iload (pc := 183) hx hb dL_act_183 (lv_at hl 1 rfl) ?_
              refine lv_isub (pc := 185) hx hb dL_act_185 ?_
              refine z_top (y := nI (8 - k)) (nI_subI (a := 8) (by omega)) ?_
              obtain ⟨z9, hz9, ez9⟩ := low_nat (shrF y 5) (n := (8 - k)) (by omega) (by omega)
              refine z_runS (pc := 186) (As := [.int (shrF y 5), .int (nI (8 - k))]) (rest := [.int ((nI k) + 1)]) (ws1 := w) ⟨hx, hb, hml, hown, hts⟩ (k_L_low l G ca (shrF y 5) (nI (8 - k)) (nI_ne0 (by omega) (by omega))) (cwS 2 hts (zgoodS zsub wq_17_0 wq_17_1 wq_7_0 wq_35_0) rfl rfl rfl hdV_L_low ⟨Nat.le_of_ble_eq_true rfl, Nat.le_of_ble_eq_true rfl⟩) hz w zp_no (List.Perm.refl _) rfl hl.1 (Nat.le_of_ble_eq_true rfl) (st1 := [.int (lowF (shrF y 5) (nI (8 - k))), .int ((nI k) + 1)]) rfl dL_act_186 ⟨Nat.le_of_ble_eq_true rfl, Nat.le_of_ble_eq_true rfl⟩ (fun H locs hz => ?_)
              refine z_top (y := nI z9) ez9 ?_
              refine lv_iadd (pc := 189) hx hb dL_act_189 ?_
              refine z_top (y := nI (k + 1 + z9)) (by rw [nI_1, nI_add]) ?_
              have hv := val2 (k := k) (X := k + 1 + z9) (by omega) (by omega)
              have hst := set_told (c := p.2) hk (g := 2) (by decide) hv
              refine lv_istore (lv' := [(6, .int (nI (k + 1 + z9))), (5, .int (nI 2)), (4, .int (nI k)), (3, .int (nI j)), (0, .ref o), (1, .int x), (2, .int y)]) (pc := 190) hx hb dL_act_190 hl (by decide) rfl (fun ls hl => ?_)
              refine lv_aload_n (pc := 192) hx hb dL_act_192 rfl (lv_at hl 4 rfl) ?_
              refine lv_iload (pc := 193) hx hb dL_act_193 (lv_at hl 2 rfl) ?_
              refine lv_iload (pc := 195) hx hb dL_act_195 (lv_at hl 1 rfl) ?_
              refine z_runV (pc := 197) (As := [.int (nI k), .int (nI 2)]) (rest := []) (ws1 := w) ⟨hx, hb, hml, hown, hts⟩ (f_cw (l := l) (G := G) hF hci hk (w9 := 2) (by decide) (by decide)) (cwV 2 hts (zgoodV zsub wq_7_7 wq_7_8 wq_7_9 wq_1_2 wq_7_10) rfl rfl rfl hdV_X3_cup ⟨Nat.le_of_ble_eq_true rfl, Nat.le_of_ble_eq_true rfl⟩) hz [] zp_all zp_all' ew rfl rfl hl.1 (Nat.le_of_ble_eq_true rfl) (st1 := [.int (p.2 k 2)]) rfl dL_act_197 ⟨Nat.le_of_ble_eq_true rfl, Nat.le_of_ble_eq_true rfl⟩ (fun H locs hz => ?_)
              refine lv_istore (lv' := [(7, .int (p.2 k 2)), (6, .int (nI (k + 1 + z9))), (5, .int (nI 2)), (4, .int (nI k)), (3, .int (nI j)), (0, .ref o), (1, .int x), (2, .int y)]) (pc := 200) hx hb dL_act_200 hl (by decide) rfl (fun ls hl => ?_)
              refine lv_aload_n (pc := 202) hx hb dL_act_202 rfl (lv_at hl 5 rfl) ?_
              refine lv_iload (pc := 203) hx hb dL_act_203 (lv_at hl 3 rfl) ?_
              refine lv_iload (pc := 205) hx hb dL_act_205 (lv_at hl 2 rfl) ?_
              refine lv_iload (pc := 207) hx hb dL_act_207 (lv_at hl 1 rfl) ?_
              obtain ⟨w13, z13, hF13⟩ := f_setCup (l := l) (G := G) hF hci (nI k) (nI 2) (nI (k + 1 + z9))
              obtain ⟨fsw13, tlw13, ew13⟩ := hF13.h1
              refine z_runV (pc := 209) (As := [.int (nI k), .int (nI 2), .int (nI (k + 1 + z9))]) (rest := []) (ws1 := w13) ⟨hx, hb, hml, hown, hts⟩ (z13) (cwV 3 hts (zgoodV zsub wq_23_7 wq_23_8 wq_23_9 wq_1_2 wq_23_10) rfl rfl rfl hdV_X3_setCup ⟨Nat.le_of_ble_eq_true rfl, Nat.le_of_ble_eq_true rfl⟩) hz [] zp_all zp_all' ew rfl rfl hl.1 (Nat.le_of_ble_eq_true rfl) (st1 := [.int (setR p.2 (nI k) (nI 2) (nI (k + 1 + z9)))]) rfl dL_act_209 ⟨Nat.le_of_ble_eq_true rfl, Nat.le_of_ble_eq_true rfl⟩ (fun H locs hz => ?_)
              refine z_top (y := if p.2 k 2 = nI (k + 1 + z9) then -5 else p.2 k 2) hst.1 ?_
              refine lv_iload (pc := 212) hx hb dL_act_212 (lv_at hl 0 rfl) ?_
              refine lv_iload (pc := 214) hx hb dL_act_214 (lv_at hl 1 rfl) ?_
              have J42 : ∀ (H : Heap) (locs : List Loc) (ls : Array Slot), zw G ca A s0.heap s0 w13 H locs → lv_has ls 8 [(7, .int (p.2 k 2)), (6, .int (nI (k + 1 + z9))), (5, .int (nI 2)), (4, .int (nI k)), (3, .int (nI j)), (0, .ref o), (1, .int x), (2, .int y)] → W pg l ev rm_L_act s0 mt args below meth cd H locs 0 0 Q (F0 mt 226 ls [.int (if p.2 k 2 = nI (k + 1 + z9) then -5 else p.2 k 2), .int (if p.2 k 2 = nI (k + 1 + z9) then -5 else p.2 k 2)]) := by
                intro H locs ls hz hl
                refine lv_icmp_ne (pc := 226) (tgt := 246) hx hb dL_act_226 (by decide) (fun c9 => absurd rfl c9) (fun c_226 => ?_)
                refine lv_aload_n (pc := 229) hx hb dL_act_229 rfl (lv_at hl 5 rfl) ?_
                refine lv_iload (pc := 230) hx hb dL_act_230 (lv_at hl 3 rfl) ?_
                refine lv_iload (pc := 232) hx hb dL_act_232 (lv_at hl 2 rfl) ?_
                refine z_runV (pc := 234) (As := [.int (nI k), .int (nI 2)]) (rest := []) (ws1 := w13) ⟨hx, hb, hml, hown, hts⟩ (f_cw (l := l) (G := G) hF13 (hP.setc hk (w := 2) (by decide) (nI (k + 1 + z9))).1.1 hk (w9 := 2) (by decide) (by decide)) (cwV 2 hts (zgoodV zsub wq_7_7 wq_7_8 wq_7_9 wq_1_2 wq_7_10) rfl rfl rfl hdV_X3_cup ⟨Nat.le_of_ble_eq_true rfl, Nat.le_of_ble_eq_true rfl⟩) hz [] zp_all zp_all' ew13 rfl rfl hl.1 (Nat.le_of_ble_eq_true rfl) (st1 := [.int ((p.1, setC p.2 (nI k) (nI 2) (nI (k + 1 + z9))).2 k 2)]) rfl dL_act_234 ⟨Nat.le_of_ble_eq_true rfl, Nat.le_of_ble_eq_true rfl⟩ (fun H locs hz => ?_)
                refine z_top (y := nI (k + 1 + z9)) hst.2 ?_
                refine lv_iload (pc := 237) hx hb dL_act_237 (lv_at hl 1 rfl) ?_
                refine lv_icmp_ne (pc := 239) (tgt := 246) hx hb dL_act_239 (by decide) (fun c9 => absurd rfl c9) (fun c_239 => ?_)
                refine lv_iconst (v := 1) (pc := 242) hx hb dL_act_242 (by decide) ?_
                refine lv_goto (tgt := 247) (pc := 243) hx hb dL_act_243 (by decide) ?_
                exact z_zretW (pc := 247) hx hb hr hlk hQ hz (Nat.le_of_ble_eq_true rfl) (Nat.le_of_ble_eq_true rfl) rfl dL_act_247 (by rfl) (⟨_, _, (hP.setc hk (w := 2) (by decide) (nI (k + 1 + z9))).mono (by omega), ht0, by omega, hF13.any⟩)
              refine lv_icmp_ne (pc := 216) (tgt := 224) hx hb dL_act_216 (by decide) (fun c_216 => ?_) (fun c_216 => ?_)
              · refine lv_iload (pc := 224) hx hb dL_act_224 (lv_at hl 0 rfl) ?_
                exact z_top (by rw [if_neg c_216]) (J42 _ _ _ hz (lv_sub hl [0, 1, 2, 3, 4, 5, 6, 7] rfl))
              · refine lv_bipush (v := -5) (pc := 219) hx hb dL_act_219 (by decide) ?_
                refine lv_goto (tgt := 226) (pc := 221) hx hb dL_act_221 (by decide) ?_
                exact z_top (by rw [if_pos c_216]) (J42 _ _ _ hz (lv_sub hl [0, 1, 2, 3, 4, 5, 6, 7] rfl))
        · refine lv_aload_n (pc := 71) hx hb dL_act_71 rfl (lv_at hl 2 rfl) ?_
          refine lv_iload (pc := 72) hx hb dL_act_72 (lv_at hl 0 rfl) ?_
          refine z_runSW (pc := 74) (As := [.ref o, .int (nI k)]) (rest := []) ⟨hx, hb, hml, hown, hts⟩ (k_L_bestSo l G ca o w p K hF hP hk) (cwS 2 hts (zgoodS zsub wq_22_8 wq_22_9 wq_7_0 wq_40_0) rfl rfl rfl hdV_L_bestSo ⟨Nat.le_of_ble_eq_true rfl, Nat.le_of_ble_eq_true rfl⟩) hz [] zp_all rfl hl.1 (Nat.le_of_ble_eq_true rfl) (st1 := [.int 1]) rfl dL_act_74 ⟨Nat.le_of_ble_eq_true rfl, Nat.le_of_ble_eq_true rfl⟩ (fun w14 hF14 H locs hz => ?_)
          rw [List.append_nil] at hz
          obtain ⟨fsw14, tlw14, ew14⟩ := hF14.h1
          refine lv_if_eq (pc := 77) (tgt := 91) hx hb dL_act_77 (by decide) (fun c9 => absurd c9 i10) (fun c_77 => ?_)
          refine lv_aload_n (pc := 80) hx hb dL_act_80 rfl (lv_at hl 2 rfl) ?_
          refine z_runSW (pc := 81) (As := [.ref o]) (rest := []) ⟨hx, hb, hml, hown, hts⟩ (k_L_starves l G ca o w14 p none hF14 hP) (cwS 1 hts (zgoodS zsub wq_24_7 wq_24_8 wq_7_0 wq_41_0) rfl rfl rfl hdV_L_starves ⟨Nat.le_of_ble_eq_true rfl, Nat.le_of_ble_eq_true rfl⟩) hz [] zp_all rfl hl.1 (Nat.le_of_ble_eq_true rfl) (st1 := [.int 1]) rfl dL_act_81 ⟨Nat.le_of_ble_eq_true rfl, Nat.le_of_ble_eq_true rfl⟩ (fun w15 hF15 H locs hz => ?_)
          rw [List.append_nil] at hz
          obtain ⟨fsw15, tlw15, ew15⟩ := hF15.h1
          refine lv_if_eq (pc := 84) (tgt := 91) hx hb dL_act_84 (by decide) (fun c9 => absurd c9 i10) (fun c_84 => ?_)
          refine lv_iconst (v := 1) (pc := 87) hx hb dL_act_87 (by decide) ?_
          refine lv_goto (tgt := 92) (pc := 88) hx hb dL_act_88 (by decide) ?_
          exact z_zretW (pc := 92) hx hb hr hlk hQ hz (Nat.le_of_ble_eq_true rfl) (Nat.le_of_ble_eq_true rfl) rfl dL_act_92 (by rfl) (⟨_, _, hP.mono (by omega), ht0, by omega, hF15.any⟩)
      · refine lv_aload_n (pc := 58) hx hb dL_act_58 rfl (lv_at hl 2 rfl) ?_
        refine lv_iload (pc := 59) hx hb dL_act_59 (lv_at hl 0 rfl) ?_
        refine z_runSW (pc := 61) (As := [.ref o, .int (nI k)]) (rest := []) ⟨hx, hb, hml, hown, hts⟩ (k_L_waits l G ca o w p K hF hP hk hF26 ht0 (by omega)) (cwS 2 hts (zgoodS zsub wq_21_2 wq_21_3 wq_7_0 wq_39_0) rfl rfl rfl hdV_L_waits ⟨Nat.le_of_ble_eq_true rfl, Nat.le_of_ble_eq_true rfl⟩) hz [] zp_all rfl hl.1 (Nat.le_of_ble_eq_true rfl) (st1 := [.int 1]) rfl dL_act_61 ⟨Nat.le_of_ble_eq_true rfl, Nat.le_of_ble_eq_true rfl⟩ (fun w16 hF16 H locs hz => ?_)
        rw [List.append_nil] at hz
        obtain ⟨fsw16, tlw16, ew16⟩ := hF16.h1
        exact z_zretW (pc := 64) hx hb hr hlk hQ hz (Nat.le_of_ble_eq_true rfl) (Nat.le_of_ble_eq_true rfl) rfl dL_act_64 (by rfl) (⟨_, _, hP.mono (by omega), ht0, by omega, hF16.any⟩)
    · refine lv_aload_n (pc := 32) hx hb dL_act_32 rfl (lv_at hl 2 rfl) ?_
      refine z_runSW (pc := 33) (As := [.ref o]) (rest := []) ⟨hx, hb, hml, hown, hts⟩ (k_L_ticks l G ca o w p K hF hP hF26 ht0 (by omega)) (cwS 1 hts (zgoodS zsub wq_19_6 wq_19_7 wq_7_0 wq_38_0) rfl rfl rfl hdV_L_ticks ⟨Nat.le_of_ble_eq_true rfl, Nat.le_of_ble_eq_true rfl⟩) hz [] zp_all rfl hl.1 (Nat.le_of_ble_eq_true rfl) (st1 := [.int 1]) rfl dL_act_33 ⟨Nat.le_of_ble_eq_true rfl, Nat.le_of_ble_eq_true rfl⟩ (fun w17 hF17 H locs hz => ?_)
      rw [List.append_nil] at hz
      obtain ⟨fsw17, tlw17, ew17⟩ := hF17.h1
      refine lv_if_eq (pc := 36) (tgt := 50) hx hb dL_act_36 (by decide) (fun c9 => absurd c9 i10) (fun c_36 => ?_)
      refine lv_aload_n (pc := 39) hx hb dL_act_39 rfl (lv_at hl 2 rfl) ?_
      refine z_runSW (pc := 40) (As := [.ref o]) (rest := []) ⟨hx, hb, hml, hown, hts⟩ (k_L_ticks l G ca o w17 (tickP p) K hF17 hP1 hF26 ht1 (by omega)) (cwS 1 hts (zgoodS zsub wq_19_6 wq_19_7 wq_7_0 wq_38_0) rfl rfl rfl hdV_L_ticks ⟨Nat.le_of_ble_eq_true rfl, Nat.le_of_ble_eq_true rfl⟩) hz [] zp_all rfl hl.1 (Nat.le_of_ble_eq_true rfl) (st1 := [.int 1]) rfl dL_act_40 ⟨Nat.le_of_ble_eq_true rfl, Nat.le_of_ble_eq_true rfl⟩ (fun w18 hF18 H locs hz => ?_)
      rw [List.append_nil] at hz
      obtain ⟨fsw18, tlw18, ew18⟩ := hF18.h1
      refine lv_if_eq (pc := 43) (tgt := 50) hx hb dL_act_43 (by decide) (fun c9 => absurd c9 i10) (fun c_43 => ?_)
      refine lv_iconst (v := 1) (pc := 46) hx hb dL_act_46 (by decide) ?_
      refine lv_goto (tgt := 51) (pc := 47) hx hb dL_act_47 (by decide) ?_
      exact z_zretW (pc := 51) hx hb hr hlk hQ hz (Nat.le_of_ble_eq_true rfl) (Nat.le_of_ble_eq_true rfl) rfl dL_act_51 (by rfl) (⟨_, _, hP2.mono (by omega), ht2, by omega, hF18.any⟩)
  · refine lv_aload_n (pc := 20) hx hb dL_act_20 rfl (lv_at hl 2 rfl) ?_
    refine lv_iload_n (pc := 21) hx hb dL_act_21 rfl (lv_at hl 4 rfl) ?_
    refine z_runSW (pc := 22) (As := [.ref o, .int y]) (rest := []) ⟨hx, hb, hml, hown, hts⟩ (k_L_ifs l G ca o w p K hF hP y hF26 ht0 (by omega)) (cwS 2 hts (zgoodS zsub wq_17_2 wq_17_3 wq_7_0 wq_37_0) rfl rfl rfl hdV_L_ifs ⟨Nat.le_of_ble_eq_true rfl, Nat.le_of_ble_eq_true rfl⟩) hz [] zp_all rfl hl.1 (Nat.le_of_ble_eq_true rfl) (st1 := [.int 1]) rfl dL_act_22 ⟨Nat.le_of_ble_eq_true rfl, Nat.le_of_ble_eq_true rfl⟩ (fun w19 hF19 H locs hz => ?_)
    obtain ⟨n9, hn9, hF19⟩ := hF19
    rw [List.append_nil] at hz
    obtain ⟨fsw19, tlw19, ew19⟩ := hF19.h1
    exact z_zretW (pc := 25) hx hb hr hlk hQ hz (Nat.le_of_ble_eq_true rfl) (Nat.le_of_ble_eq_true rfl) rfl dL_act_25 (by rfl) (⟨_, _, (hP.ticks hF26 ht0 n9 (by omega)).mono (by omega), (by rw [tkN0, ht0, nI_add] : (tkN p n9).1 0 = nI (t0 + n9)), by omega, hF19.any⟩)
