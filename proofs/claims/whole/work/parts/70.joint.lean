/-! ===== both sides at the law's head ===== -/
def PA (F n : Nat) (sp : Nat → HC) (hi : Nat → Int32) : Prop := ∀ i, i < n → SI F (sp (4 + i)) ∧ ∀ j, j < 104 → hi (104 * i + j) = enc (sp (4 + i)).1 (sp (4 + i)).2 j
def SN (F : Nat) (f : Nat → Int32) (sp : Nat → HC) (f' sn : Nat → Int32) : Prop := (f 7 = 0 ∧ f' 4 = 0) ∨ (f 7 = 1 ∧ f' 4 = 1 ∧ SI F (sp 3) ∧ ∀ j, j < 104 → sn j = enc (sp 3).1 (sp 3).2 j)
def SP (f f' : Nat → Int32) : Prop := (f 8 = -1 ∧ f' 8 = -5) ∨ (f 8 = f' 8 ∧ ¬ f 8 = -1 ∧ ¬ f' 8 = -5 ∧ f 9 = f' 9)
def JP (F : Nat) (f : Nat → Int32) (sp : Nat → HC) (g f' hi sn : Nat → Int32) (n ln : Nat) : Prop :=
  SI F (sp 0) ∧ (n ≤ 4 ∧ f 6 = nI n ∧ f' 2 = nI n ∧ PA F n sp hi) ∧ SN F f sp f' sn ∧ (ln ≤ 60 ∧ g 1 = nI ln ∧ f' 7 = nI ln) ∧ SP f f'
theorem PA.mono {F F' n : Nat} {sp : Nat → HC} {hi : Nat → Int32} (h : PA F n sp hi) (hF : F ≤ F') : PA F' n sp hi := fun i hi' => ⟨(h i hi').1.mono hF, (h i hi').2⟩
theorem SN.mono {F F' : Nat} {f : Nat → Int32} {sp : Nat → HC} {f' sn : Nat → Int32} (h : SN F f sp f' sn) (hF : F ≤ F') : SN F' f sp f' sn := by
  rcases h with h | ⟨a, b, c, d⟩
  · exact Or.inl h
  · exact Or.inr ⟨a, b, c.mono hF, d⟩
theorem JP.mono {F F' : Nat} {f : Nat → Int32} {sp : Nat → HC} {g f' hi sn : Nat → Int32} {n ln : Nat} (h : JP F f sp g f' hi sn n ln) (hF : F ≤ F') : JP F' f sp g f' hi sn n ln :=
  ⟨h.1.mono hF, ⟨h.2.1.1, h.2.1.2.1, h.2.1.2.2.1, h.2.1.2.2.2.mono hF⟩, h.2.2.1.mono hF, h.2.2.2⟩
/-- states that count the same -/
def SQ (sp sp' : Nat → HC) : Prop := sp' 0 = sp 0 ∧ sp' 3 = sp 3 ∧ ∀ i, i < 4 → sp' (4 + i) = sp (4 + i)
theorem PA.sq {F n : Nat} {sp sp' : Nat → HC} {hi : Nat → Int32} (h : PA F n sp hi) (hn : n ≤ 4) (q : ∀ i, i < 4 → sp' (4 + i) = sp (4 + i)) : PA F n sp' hi := fun i h' => by rw [q i (by omega)]; exact h i h'
theorem SN.sq {F : Nat} {f : Nat → Int32} {sp sp' : Nat → HC} {f' sn : Nat → Int32} (h : SN F f sp f' sn) (q : sp' 3 = sp 3) : SN F f sp' f' sn := by
  unfold SN
  rw [q]
  exact h
theorem JP.sq {F : Nat} {f : Nat → Int32} {sp sp' : Nat → HC} {g f' hi sn : Nat → Int32} {n ln : Nat} (h : JP F f sp g f' hi sn n ln) (q : SQ sp sp') : JP F f sp' g f' hi sn n ln :=
  ⟨by rw [q.1]; exact h.1, ⟨h.2.1.1, h.2.1.2.1, h.2.1.2.2.1, h.2.1.2.2.2.sq h.2.1.1 q.2.2⟩, h.2.2.1.sq q.2.1, h.2.2.2⟩
theorem sq_up {sp : Nat → HC} {x : HC} {i : Nat} (h : i = 1 ∨ i = 2) : SQ sp (va_up sp i x) :=
  ⟨vup_n (by omega), vup_n (by omega), fun j hj => vup_n (by omega)⟩
/-- the history behind a record -/
theorem PA.rec {F n : Nat} {sp S : Nat → HC} {hi : Nat → Int32} (h : PA F n sp hi) (hn : n ≤ 4) (q : ∀ i, i < 4 → S (4 + i) = sp (4 + i)) (q2 : S 2 = sp 0) (h0 : SI F (sp 0)) :
    PA F (recK n) (if n = 4 then va_up (rot S) 7 (S 2) else va_up S (4 + n) (S 2)) (recHi hi (enc (sp 0).1 (sp 0).2) n) := by
  intro i hi'
  unfold recHi
  by_cases e : n = 4
  · subst e
    rw [if_pos rfl, if_pos rfl]
    have hi4 : i < 4 := hi'
    by_cases z : i = 3
    · subst z
      rw [show va_up (rot S) 7 (S 2) (4 + 3) = S 2 from vup_s, q2]
      refine ⟨h0, fun j hj => ?_⟩
      rw [pk_cpy_in (by omega) (by omega), show 0 + (104 * 3 + j - 312) = j by omega]
    · rw [vup_n (show 4 + i ≠ 7 by omega)]
      have er : rot S (4 + i) = S (4 + (i + 1)) := by
        unfold rot
        rw [if_neg (by omega), if_neg (by omega)]
        rfl
      rw [er, q (i + 1) (by omega)]
      refine ⟨(h (i + 1) (by omega)).1, fun j hj => ?_⟩
      rw [pk_cpy_out (by omega), ← (h (i + 1) (by omega)).2 j hj]
      unfold shF
      rw [if_pos (by omega), show 104 + (104 * i + j) = 104 * (i + 1) + j by omega]
  · rw [if_neg e, if_neg e]
    have hk : recK n = n + 1 := by unfold recK; rw [if_neg e]
    rw [hk] at hi'
    by_cases z : i = n
    · subst z
      rw [vup_s, q2]
      refine ⟨h0, fun j hj => ?_⟩
      rw [pk_cpy_in (by omega) (by omega), show 0 + (104 * i + j - 104 * i) = j by omega]
    · rw [vup_n (show 4 + i ≠ 4 + n by omega), q i (by omega)]
      refine ⟨(h i (by omega)).1, fun j hj => ?_⟩
      rw [pk_cpy_out (by omega)]
      exact (h i (by omega)).2 j hj
theorem rot_lo {S : Nat → HC} {i : Nat} (h : i < 4) : rot S i = S i := by unfold rot; rw [if_pos h]
/-- an act, recorded or refused: the class's side and the reference's -/
theorem JP.act {F F' : Nat} {f : Nat → Int32} {sp : Nat → HC} {g f' hi sn : Nat → Int32} {n ln : Nat} (h : JP F f sp g f' hi sn n ln) (hF : F ≤ F') {p : HC} (hp : SI F' p) (r : Int32) :
    ∃ n', JP F' (recFf f n r) (recSp (va_up (va_up sp 2 (sp 0)) 0 p) n r) g (actF f' n r) (actHi hi (enc (sp 0).1 (sp 0).2) n r) sn n' ln ∧ recSp (va_up (va_up sp 2 (sp 0)) 0 p) n r 0 = p := by
  obtain ⟨h0, ⟨hn, h6, h2, hpa⟩, hsn, htx, hsp⟩ := h
  have S4 : ∀ i, i < 4 → va_up (va_up sp 2 (sp 0)) 0 p (4 + i) = sp (4 + i) := fun i hi' => by rw [vup_n (by omega), vup_n (by omega)]
  have S3 : va_up (va_up sp 2 (sp 0)) 0 p 3 = sp 3 := rfl
  have S2 : va_up (va_up sp 2 (sp 0)) 0 p 2 = sp 0 := rfl
  have S0 : va_up (va_up sp 2 (sp 0)) 0 p 0 = p := rfl
  generalize va_up (va_up sp 2 (sp 0)) 0 p = S at *
  by_cases hr : r < 0
  · unfold recFf recSp actF actHi
    rw [if_pos hr, if_pos hr, if_pos hr, if_pos hr]
    exact ⟨n, ⟨by rw [S0]; exact hp, ⟨hn, h6, h2, (hpa.mono hF).sq hn S4⟩, (hsn.mono hF).sq S3, htx, hsp⟩, S0⟩
  · have hpr := (hpa.mono hF).rec hn S4 S2 (h0.mono hF)
    have hk : recK n ≤ 4 := by unfold recK; split <;> omega
    unfold recFf recSp actF actHi
    rw [if_neg hr, if_neg hr, if_neg hr, if_neg hr]
    have e0 : (if n = 4 then va_up (rot S) 7 (S 2) else va_up S (4 + n) (S 2)) 0 = p := by
      by_cases e : n = 4
      · rw [if_pos e, vup_n (by omega), rot_lo (by omega), S0]
      · rw [if_neg e, vup_n (by omega), S0]
    have e3 : (if n = 4 then va_up (rot S) 7 (S 2) else va_up S (4 + n) (S 2)) 3 = sp 3 := by
      by_cases e : n = 4
      · rw [if_pos e, vup_n (by omega), rot_lo (by omega), S3]
      · rw [if_neg e, vup_n (by omega), S3]
    refine ⟨recK n, ⟨by rw [e0]; exact hp, ⟨hk, ?_, pk_us, hpr⟩, ?_, ⟨htx.1, htx.2.1, by rw [pk_un (by decide)]; exact htx.2.2⟩, ?_⟩, e0⟩
    · rw [pk_us]
      rfl
    · have g7 : upd f 6 (nI (if n = 4 then 4 else n + 1)) 7 = f 7 := pk_un (by decide)
      have g4 : upd f' 2 (nI (recK n)) 4 = f' 4 := pk_un (by decide)
      unfold SN
      rw [g7, g4, e3]
      exact hsn.mono hF
    · unfold SP
      rw [show upd f 6 (nI (if n = 4 then 4 else n + 1)) 8 = f 8 from pk_un (by decide), show upd f 6 (nI (if n = 4 then 4 else n + 1)) 9 = f 9 from pk_un (by decide), show upd f' 2 (nI (recK n)) 8 = f' 8 from pk_un (by decide), show upd f' 2 (nI (recK n)) 9 = f' 9 from pk_un (by decide)]
      exact hsp
