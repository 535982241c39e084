/-! ===== THE WORLDS: the reference's seven cells; a state's ten; the plan's five; a cup's one ===== -/
def cupF (c : Nat → Int32) (z : Int32) : List Value := [.int (c 0), .int (c 1), .int (c 2), .int (c 3), .int (c 4), .int (c 5), .int (c 6), .int (c 7), .int (c 8), .int (c 9), .int (c 10), .int (c 11), .int z]
def wC (o : Nat) (c : Nat → Int32) (z : Int32) : va_W := [(o, .inr (0, cupF c z))]
def wS (ca : Nat → ClassId) (a : Nat → Nat) (h : Nat → Int32) (c : Nat → Nat → Int32) (z : Nat → Int32) : va_W :=
  [(a 0, .inr (2, [.ref (a 1), .int (h 0), .int (h 5), .int (h 6), .int (h 7), .int (h 1), .int (h 2), .int (h 3), .int (h 4)])), (a 1, .inl (ca 3, 8, .inr (.inr (.inr (.inr (fun i => some (a (2 + i)))))))),
   (a 2, .inr (0, cupF (c 0) (z 0))), (a 3, .inr (0, cupF (c 1) (z 1))), (a 4, .inr (0, cupF (c 2) (z 2))), (a 5, .inr (0, cupF (c 3) (z 3))), (a 6, .inr (0, cupF (c 4) (z 4))), (a 7, .inr (0, cupF (c 5) (z 5))), (a 8, .inr (0, cupF (c 6) (z 6))), (a 9, .inr (0, cupF (c 7) (z 7)))]
def wP (ca : Nat → ClassId) (a : Nat → Nat) (f tx kd wh nu : Nat → Int32) : va_W :=
  [(a 0, .inr (1, [.ref (a 1), .int (f 1), .ref (a 2), .ref (a 3), .ref (a 4), .int (f 5), .int (f 6)])), (a 1, .inl (ca 0, 60, .inl tx)), (a 2, .inl (ca 1, 60, .inl kd)), (a 3, .inl (ca 1, 60, .inl wh)), (a 4, .inl (ca 1, 60, .inl nu))]
def wM (ca : Nat → ClassId) (a : Nat → Nat) (f sx hi sn be tx ti : Nat → Int32) : va_W :=
  [(a 0, .inr (4, [.ref (a 1), .ref (a 2), .int (f 2), .ref (a 3), .int (f 4), .ref (a 4), .ref (a 5), .int (f 7), .int (f 8), .int (f 9), .ref (a 6), .int (f 11), .int (f 12), .int (f 13), .int (f 14), .int (f 15), .int (f 16)])),
   (a 1, .inl (ca 1, 104, .inl sx)), (a 2, .inl (ca 1, 416, .inl hi)), (a 3, .inl (ca 1, 104, .inl sn)), (a 4, .inl (ca 1, 104, .inl be)), (a 5, .inl (ca 0, 60, .inl tx)), (a 6, .inl (ca 2, 8, .inl ti))]
/-- the reference's row of numbers, by its head and its cups -/
def enc (h : Nat → Int32) (c : Nat → Nat → Int32) : Nat → Int32 := fun j => if j < 8 then h j else c ((j - 8) / 12) ((j - 8) % 12)
/-- one number of one cup -/
def u2 (c : Nat → Nat → Int32) (k w : Nat) (x : Int32) : Nat → Nat → Int32 := fun k2 w2 => if k2 = k ∧ w2 = w then x else c k2 w2
abbrev mm (ca : Nat → ClassId) (a : Nat → Nat) (f h : Nat → Int32) (c : Nat → Nat → Int32) (hi sn be tx ti : Nat → Int32) : va_W := wM ca a f (enc h c) hi sn be tx ti
theorem u2_s {c : Nat → Nat → Int32} {k w : Nat} {x : Int32} : u2 c k w x k w = x := by simp [u2]
theorem u2_n {c : Nat → Nat → Int32} {k w k2 w2 : Nat} {x : Int32} (h : ¬ (k2 = k ∧ w2 = w)) : u2 c k w x k2 w2 = c k2 w2 := by simp [u2, h]
theorem u2_nw {c : Nat → Nat → Int32} {k w k2 w2 : Nat} {x : Int32} (h : w2 ≠ w) : u2 c k w x k2 w2 = c k2 w2 := u2_n fun q => h q.2
theorem u2_nk {c : Nat → Nat → Int32} {k w k2 w2 : Nat} {x : Int32} (h : k2 ≠ k) : u2 c k w x k2 w2 = c k2 w2 := u2_n fun q => h q.1
theorem enc_h {h : Nat → Int32} {c : Nat → Nat → Int32} {j : Nat} (hj : j < 8) : enc h c j = h j := by simp [enc, hj]
theorem enc_c {h : Nat → Int32} {c : Nat → Nat → Int32} {k w : Nat} (hw : w < 12) : enc h c (8 + 12 * k + w) = c k w := by
  have h1 : ¬ 8 + 12 * k + w < 8 := by omega
  have h2 : (8 + 12 * k + w - 8) / 12 = k := by omega
  have h3 : (8 + 12 * k + w - 8) % 12 = w := by omega
  simp [enc, h1, h2, h3]
theorem enc_uh {h : Nat → Int32} {c : Nat → Nat → Int32} {j : Nat} {x : Int32} (hj : j < 8) : upd (enc h c) j x = enc (upd h j x) c := by
  funext i
  by_cases e : i = j
  · subst e
    rw [enc_h hj, pk_us, pk_us]
  · rw [pk_un e]
    by_cases hi : i < 8
    · rw [enc_h hi, enc_h hi, pk_un e]
    · simp [enc, hi]
theorem enc_uc {h : Nat → Int32} {c : Nat → Nat → Int32} {k w : Nat} {x : Int32} (hw : w < 12) : upd (enc h c) (8 + 12 * k + w) x = enc h (u2 c k w x) := by
  funext i
  by_cases e : i = 8 + 12 * k + w
  · subst e
    rw [pk_us, enc_c hw, u2_s]
  · rw [pk_un e]
    by_cases hi : i < 8
    · rw [enc_h hi, enc_h hi]
    · have hne : ¬ ((i - 8) / 12 = k ∧ (i - 8) % 12 = w) := by omega
      simp [enc, hi, u2, hne]
theorem arr_congr {cA : ClassId} {n : Nat} {f g : Nat → Int32} (h : ∀ j, j < n → f j = g j) : vp_cell cA (n, .inl f) = vp_cell cA (n, .inl g) := by
  rw [vp_cell_i, vp_cell_i]
  simp only [arrV]
  congr 1
  apply Array.ext
  · simp
  · intro i h1 h2
    simp only [Array.size_ofFn] at h1
    simp [h i (by simpa using h1)]
/-- a permutation by places -/
theorem filterMap_range {α : Type} (l : List α) : (List.range l.length).filterMap (fun i => l[i]?) = l := by
  induction l with
  | nil => rfl
  | cons x l ih =>
    rw [List.length_cons, List.range_succ_eq_map]
    simp only [List.filterMap_cons, List.filterMap_map, List.getElem?_cons_zero, Function.comp_def, Nat.succ_eq_add_one, List.getElem?_cons_succ, ih]
theorem z_pick {ws wc : va_W} (is : List Nat) (h : is.isPerm (List.range ws.length) = true) (e : is.filterMap (fun i => ws[i]?) = wc) : ws.Perm wc := by
  have p := List.isPerm_iff.mp h
  have q := p.filterMap (fun i => ws[i]?)
  rw [filterMap_range, e] at q
  exact q.symm
theorem nI_ix (k w : Nat) : 8 + 12 * nI k + nI w = nI (8 + 12 * k + w) := by
  rw [show (8 : Int32) = nI 8 from rfl, show (12 : Int32) = nI 12 from rfl, pk_mul, nI_add, nI_add]
