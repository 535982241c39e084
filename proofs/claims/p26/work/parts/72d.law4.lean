/-! ===== acts, as the law tells them ===== -/
section ACT
variable {c : Nat → Nat → Int32} {h : Nat → Int32} {k g X : Nat}
theorem set_told (hk : k < 8) (hg : g < 3) (hv : ¬ isValF (nI k) (nI g) (nI X) = 0) : setR c (nI k) (nI g) (nI X) = (if c k g = nI X then -5 else c k g) ∧ setC c (nI k) (nI g) (nI X) k g = nI X := by
  unfold setR setC
  rw [if_neg (isC8 hk), if_neg hv, if_neg (isC8 hk), if_neg hv, nn_nI (by omega), nn_nI (by omega)]
  exact ⟨rfl, u2_s⟩
theorem val0 (h1 : 1 ≤ X) (h2 : X ≤ 99) : ¬ isValF (nI k) (nI 0) (nI X) = 0 := pos9 h1 h2
theorem val1 (h2 : X ≤ 9) : ¬ isValF (nI k) (nI 1) (nI X) = 0 := by
  show ¬ inF (nI X) 0 9 = 0
  unfold inF
  rw [if_neg (nI_pos (by omega)), if_neg (show ¬ (9 : Int32) < nI X from nI_nlt (a := 9) h2 (by decide))]
  decide
theorem val2 (h1 : k < X) (h2 : X ≤ 8) : ¬ isValF (nI k) (nI 2) (nI X) = 0 := by
  rw [show isValF (nI k) (nI 2) (nI X) = inF (nI X) (nI k + 1) 8 from isValF_2]
  unfold inF
  rw [nI_1, if_neg (show ¬ nI X < nI (k + 1) from nI_nlt (by omega) (by omega)), if_neg (show ¬ (8 : Int32) < nI X from nI_nlt (a := 8) h2 (by decide))]
  decide
theorem turn_a (hk : k < 8) (z : c k 6 = 1) : turnR c (nI k) = -4 := by
  unfold turnR
  rw [if_neg (isC8 hk), nn_nI (by omega), if_pos z]
theorem turn_b (hk : k < 8) (z : ¬ c k 6 = 1) : turnR c (nI k) = 1 - c k 5 ∧ turnC c (nI k) k 5 = 1 - c k 5 := by
  unfold turnR turnC
  rw [if_neg (isC8 hk), nn_nI (by omega), if_neg z, if_neg (isC8 hk), if_neg z]
  exact ⟨rfl, u2_s⟩
theorem guard_a (hk : k < 8) (z : c k 4 = -1) : guardR c (nI k) = -4 := by
  unfold guardR
  rw [if_neg (isC8 hk), nn_nI (by omega), if_pos z]
theorem guard_b (hk : k < 8) (z : ¬ c k 4 = -1) : guardR c (nI k) = 1 - c k 6 ∧ guardC c (nI k) k 6 = 1 - c k 6 ∧ guardC c (nI k) k 5 = c k 6 := by
  unfold guardR guardC
  rw [if_neg (isC8 hk), nn_nI (by omega), if_neg z, if_neg (isC8 hk), if_neg z]
  exact ⟨rfl, u2_s, by rw [u2_nw (by decide), u2_s]⟩
theorem in99 (h1 : 1 ≤ X) (h2 : X ≤ 99) : ¬ inF (nI X) 1 99 = 0 := pos9 h1 h2
theorem fill_a (hk : k < 8) (h1 : 1 ≤ X) (h2 : X ≤ 99) (z : ¬ c k 3 + nI X ≤ 9999) : fillR c (nI k) (nI X) = -3 ∧ fillC c (nI k) (nI X) k 3 = c k 3 := by
  unfold fillR fillC
  rw [if_neg (isC8 hk), if_neg (isC8 hk), if_neg (in99 h1 h2), if_neg (in99 h1 h2), nn_nI (by omega), if_neg z, if_neg z]
  exact ⟨rfl, rfl⟩
theorem fill_b (hk : k < 8) (h1 : 1 ≤ X) (h2 : X ≤ 99) (z : c k 3 + nI X ≤ 9999) : fillR c (nI k) (nI X) = c k 3 + nI X ∧ fillC c (nI k) (nI X) k 3 = c k 3 + nI X := by
  unfold fillR fillC
  rw [if_neg (isC8 hk), if_neg (isC8 hk), if_neg (in99 h1 h2), if_neg (in99 h1 h2), nn_nI (by omega), if_pos z, if_pos z]
  exact ⟨rfl, u2_s⟩
theorem put_ok (hg : g < 3) (h1 : g = 2 → 1 ≤ X ∧ X ≤ 240) (h2 : ¬ g = 2 → X ≤ 99) : putR h (nI g) (nI X) = (if nI X = h (5 + g) then -5 else h (5 + g)) ∧ putH h (nI g) (nI X) (5 + g) = nI X := by
  have a : ¬ inF (nI g) 0 2 = 0 := by rcases (show g = 0 ∨ g = 1 ∨ g = 2 by omega) with rfl | rfl | rfl <;> decide
  have b : ¬ inF (nI X) (if nI g = 2 then 1 else 0) (if nI g = 2 then 240 else 99) = 0 := by
    by_cases e : g = 2
    · subst e
      obtain ⟨x1, x2⟩ := h1 rfl
      show ¬ inF (nI X) 1 240 = 0
      unfold inF
      rw [if_neg (show ¬ nI X < 1 from nI_nlt (b := 1) x1 (by omega)), if_neg (show ¬ (240 : Int32) < nI X from nI_nlt (a := 240) x2 (by decide))]
      decide
    · have x2 := h2 e
      have e2 : ¬ nI g = 2 := by rcases (show g = 0 ∨ g = 1 by omega) with rfl | rfl <;> decide
      rw [if_neg e2, if_neg e2]
      unfold inF
      rw [if_neg (nI_pos (by omega)), if_neg (show ¬ (99 : Int32) < nI X from nI_nlt (a := 99) x2 (by decide))]
      decide
  unfold putR putH
  rw [if_neg a, if_neg b, if_neg a, if_neg b, nn_nI (by omega)]
  refine ⟨?_, pk_us⟩
  by_cases e : h (5 + g) = nI X
  · rw [if_pos e, if_pos e.symm]
  · rw [if_neg e, if_neg (fun q => e q.symm)]
/-- what setHour is to tell -/
def hrE (had hour : Int32) : Int32 := if had = hour then -5 else if had = -5 then (if hour = -1 then -5 else 240) else had
theorem nm1 {z : Nat} (hz : z ≤ 239) : ¬ nI z = -1 := fun e => by
  have q := nI_0le (show z < 2 ^ 31 by omega)
  rw [e] at q
  exact absurd q (by decide)
theorem nm5 {z : Nat} (hz : z ≤ 239) : ¬ nI z = -5 := nI_n5 (by omega)
theorem in239 {z : Nat} (hz : z ≤ 239) : ¬ inF (nI z) (-1) 239 = 0 := by
  unfold inF
  rw [if_neg (show ¬ nI z < -1 from fun q => by have := nI_0le (show z < 2 ^ 31 by omega); exact absurd (Int32.lt_of_le_of_lt this q) (by decide)), if_neg (show ¬ (239 : Int32) < nI z from nI_nlt (a := 239) hz (by decide))]
  decide
theorem hour_z {F : Nat} {p : HC} (hP : PI F p) (hk : k < 8) {z : Nat} (hz : z ≤ 239) : hourR p.2 (nI k) (nI z) = hrE (hr5 (p.2 k 4)) (nI z) ∧ hr5 (hourC p.2 (nI k) (nI z) k 4) = nI z := by
  unfold hourR hourC hrE
  rw [if_neg (isC8 hk), if_neg (isC8 hk), if_neg (in239 hz), if_neg (in239 hz), nn_nI (by omega), if_neg (nm1 hz)]
  rcases hP.hr hk with q | ⟨y, hy, q⟩
  · have e : ¬ p.2 k 4 = nI z := by rw [q]; exact fun e => nm1 hz e.symm
    have e5 : hr5 (p.2 k 4) = -5 := by rw [q]; rfl
    rw [e5, if_neg e, if_pos q, if_neg e, if_neg (fun q2 => nm5 hz q2.symm), if_pos rfl, if_neg (nm1 hz), u2_s]
    exact ⟨rfl, hr5_n hz⟩
  · have e5 : hr5 (p.2 k 4) = p.2 k 4 := by rw [q]; exact hr5_n hy
    rw [e5]
    by_cases e : p.2 k 4 = nI z
    · rw [if_pos e, if_pos e, if_pos e, e]
      exact ⟨rfl, hr5_n hz⟩
    · rw [if_neg e, if_neg e, if_neg e, if_neg (by rw [q]; exact nm1 hy), if_neg (by rw [q]; exact nm5 hy), if_neg (nm1 hz), u2_s]
      exact ⟨rfl, hr5_n hz⟩
theorem hour_m {F : Nat} {p : HC} (hP : PI F p) (hk : k < 8) : hourR p.2 (nI k) (-1) = hrE (hr5 (p.2 k 4)) (-1) ∧ hr5 (hourC p.2 (nI k) (-1) k 4) = -5 ∧ hourC p.2 (nI k) (-1) k 6 = 0 := by
  have hi : ¬ inF (-1) (-1) 239 = 0 := by decide
  unfold hourR hourC hrE
  rw [if_neg (isC8 hk), if_neg (isC8 hk), if_neg hi, if_neg hi, nn_nI (by omega)]
  rcases hP.hr hk with q | ⟨y, hy, q⟩
  · have e5 : hr5 (p.2 k 4) = -5 := by rw [q]; rfl
    have g6 : p.2 k 6 = 0 := by
      obtain ⟨-, -, -, h4, -⟩ := hP.2.2.1 k hk
      rcases h4 with ⟨-, q2⟩ | ⟨y, hy, q2⟩
      · exact q2
      · rw [q] at q2; exact absurd q2.symm (nm1 hy)
    rw [e5, if_pos q, if_pos q, if_neg (show ¬ (-5 : Int32) = -1 by decide), if_pos rfl, if_pos rfl, q]
    exact ⟨rfl, rfl, g6⟩
  · have e5 : hr5 (p.2 k 4) = p.2 k 4 := by rw [q]; exact hr5_n hy
    have e : ¬ p.2 k 4 = -1 := by rw [q]; exact nm1 hy
    rw [e5, if_neg e, if_neg e, if_neg e, if_neg e, if_pos rfl, if_neg (by rw [q]; exact nm5 hy)]
    exact ⟨rfl, by rw [if_pos (show (-1 : Int32) = -1 from rfl), u2_nw (by decide), u2_nw (by decide), u2_s]; rfl, by rw [if_pos (show (-1 : Int32) = -1 from rfl), u2_nw (by decide), u2_s]⟩
end ACT
def shrF (x y : Int32) : Int32 := x >>> (y &&& 31)
theorem fill_t (p : HC) (k : Nat) (x : Int32) : (fillH p.1 p.2 (nI k) x, fillC p.2 (nI k) x).1 0 = p.1 0 := by
  show fillH p.1 p.2 (nI k) x 0 = p.1 0
  unfold fillH
  split
  · rfl
  · split
    · rfl
    · split
      · exact pk_un (by decide)
      · rfl
theorem put_t (p : HC) (a x : Int32) : (putH p.1 a x, p.2).1 0 = p.1 0 := by
  show putH p.1 a x 0 = p.1 0
  unfold putH
  by_cases h1 : inF a 0 2 = 0
  · rw [if_pos h1]
  · rw [if_neg h1]
    by_cases h2 : inF x (if a = 2 then 1 else 0) (if a = 2 then 240 else 99) = 0
    · rw [if_pos h2]
    · rw [if_neg h2]
      exact pk_un (show 0 ≠ 5 + nn a by omega)
