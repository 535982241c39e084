theorem nb0 : narrow .boolean (.int 0) = .int 0 := rfl
theorem nb1 : narrow .boolean (.int 1) = .int 1 := rfl
theorem i10 : ¬ (1 : Int32) = 0 := by decide
theorem n12 : ¬ (1 : Nat) = 2 := by decide
theorem okP.setc {p : HC} (h : okP p) (cu wh va : Int32) : okP (p.1, setC p.2 cu wh va) := by
  show okP (p.1, setC p.2 cu wh va)
  unfold setC
  split
  · exact h
  · rename_i hc
    split
    · exact h
    · rename_i hv
      obtain ⟨k, hk, rfl⟩ := isCup_pos hc
      obtain ⟨w, hw, rfl⟩ := isVal_pos hv
      rw [nn_nI (by omega), nn_nI (by omega)]
      refine ⟨h.1, fun k2 hk2 => ?_⟩
      show ¬ u2 p.2 k w va k2 0 = 0 ∧ u2 p.2 k w va k2 2 = nI (nn (u2 p.2 k w va k2 2)) ∧ nn (u2 p.2 k w va k2 2) ≤ 8
      by_cases e : k2 = k
      · subst e
        have h3 : w = 0 ∨ w = 1 ∨ w = 2 := by omega
        rcases h3 with rfl | rfl | rfl
        · rw [u2_s, u2_nw (by decide)]
          refine ⟨?_, (h.2 k2 hk).2⟩
          have hv2 : ¬ inF va 1 99 = 0 := hv
          intro q
          rw [q] at hv2
          exact hv2 (by decide)
        · rw [u2_nw (by decide), u2_nw (by decide)]
          exact h.2 k2 hk
        · rw [u2_nw (by decide), u2_s]
          refine ⟨(h.2 k2 hk).1, ?_⟩
          have hv2 : ¬ (if inF va (nI k2 + 1) 8 = 0 then (0 : Int32) else 1) = 0 := hv
          have hv3 : ¬ inF va (nI k2 + 1) 8 = 0 := by
            intro q
            rw [if_pos q] at hv2
            exact hv2 rfl
          have hv4 := inF_ne hv3
          rw [nI_1] at hv4
          have h0 : ¬ va < 0 := fun q => hv4.1 (Int32.lt_trans q (Int32.lt_of_le_of_ne (nI_pos' (by omega)) (fun e => nI_ne0 (n := k2 + 1) (by omega) (by omega) e.symm)))
          obtain ⟨j, hj, rfl⟩ := nI_of h0
          have h8 := hv4.2
          rw [show (8 : Int32) = nI 8 from rfl, nI_ltI (by decide) hj] at h8
          rw [nn_nI hj]
          exact ⟨rfl, by omega⟩
      · rw [u2_nk e, u2_nk e]
        exact h.2 k2 hk2
