/-! ===== small things for the steps ===== -/
theorem stop_eq {f f' : Nat → Int32} {what : Int32} (h : SP f f') : kstopR f what = stopR f' what := by
  unfold kstopR stopR
  split
  · rfl
  · rcases h with ⟨a, b⟩ | ⟨a, b, c, d⟩
    · rw [if_pos a, if_pos b]
    · rw [if_neg b, if_neg c, a, d]
theorem nar_c (x : Int32) : vp_nar .char ((x.toUInt32 % 65536).toInt32) = (x.toUInt32 % 65536).toInt32 := by
  rw [vp_nar_char]
  apply Int32.toBitVec_inj.mp
  apply BitVec.eq_of_toNat_eq
  simp
theorem sn_f {F : Nat} {f : Nat → Int32} {sp : Nat → HC} {f' f'' sn : Nat → Int32} (e : f'' 4 = f' 4) (h : SN F f sp f' sn) : SN F f sp f'' sn := by
  unfold SN
  rw [e]
  exact h
theorem sp_f {f f' f'' : Nat → Int32} (e8 : f'' 8 = f' 8) (e9 : f'' 9 = f' 9) (h : SP f f') : SP f f'' := by
  unfold SP
  rw [e8, e9]
  exact h
theorem fS_o {f : Nat → Int32} {s : PS} {lt dn er : Int32} {k : Nat} (hk : k < 11) : fS f s lt dn er k = f k := by
  unfold fS
  rw [pk_un (by omega), pk_un (by omega), pk_un (by omega), pk_un (by omega), pk_un (by omega), pk_un (by omega)]
theorem JP.fc {F : Nat} {f : Nat → Int32} {sp : Nat → HC} {g g1 f' f'' hi sn : Nat → Int32} {n ln : Nat} (h : JP F f sp g f' hi sn n ln) (eg : g1 1 = g 1) (e : ∀ k, k < 10 → f'' k = f' k) : JP F f sp g1 f'' hi sn n ln := by
  obtain ⟨hs, ⟨hn, h6, h2, hpa⟩, hsn, ⟨hln, hg1, h7⟩, hsp⟩ := h
  exact ⟨hs, ⟨hn, h6, (e 2 (by decide)).trans h2, hpa⟩, sn_f (e 4 (by decide)) hsn, ⟨hln, eg.trans hg1, (e 7 (by decide)).trans h7⟩, sp_f (e 8 (by decide)) (e 9 (by decide)) hsp⟩
