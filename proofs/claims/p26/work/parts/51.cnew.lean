/-! ===== what is new ===== -/
def cup0 (x : Int32) : Nat → Int32 := fun w => if w = 0 then 10 else if w = 2 then x else if w = 4 then -1 else if w = 5 then 1 else 0
def hc0 : HC := (fun j => if j = 5 then 3 else if j = 7 then 24 else 0, fun k => cup0 (nI (k + 1)))
theorem z_mid {α : Type} {a b c : List α} : ((a ++ b) ++ c).Perm ((a ++ c) ++ b) := by
  rw [List.append_assoc, List.append_assoc]
  exact List.Perm.append_left a List.perm_append_comm
theorem z_tail {α : Type} {w a t : List α} : (w ++ (a ++ t)).Perm (a ++ (t ++ w)) := by
  rw [← List.append_assoc a t w]
  exact List.perm_append_comm
theorem wA_8 {ca : Nat → ClassId} {sa : Nat → Nat → Nat} {sp : Nat → HC} {sz : Nat → Nat → Int32} : wA ca sa sp sz = wS ca (sa 0) (sp 0).1 (sp 0).2 (sz 0) ++ (wS ca (sa 1) (sp 1).1 (sp 1).2 (sz 1) ++ (wS ca (sa 2) (sp 2).1 (sp 2).2 (sz 2) ++ (wS ca (sa 3) (sp 3).1 (sp 3).2 (sz 3) ++ (wS ca (sa 4) (sp 4).1 (sp 4).2 (sz 4) ++ (wS ca (sa 5) (sp 5).1 (sp 5).2 (sz 5) ++ (wS ca (sa 6) (sp 6).1 (sp 6).2 (sz 6) ++ (wS ca (sa 7) (sp 7).1 (sp 7).2 (sz 7) ++ []))))))) := rfl
theorem z_fin {α : Type} {h p s1 s2 s3 s4 s5 s6 s7 s8 : List α} : (h ++ ((((((((s1 ++ s2) ++ s3) ++ s4) ++ p) ++ s5) ++ s6) ++ s7) ++ s8)).Perm (h ++ (p ++ (s1 ++ (s2 ++ (s3 ++ (s4 ++ (s5 ++ (s6 ++ (s7 ++ (s8 ++ [])))))))))) := by
  have e := List.perm_append_comm_assoc (((s1 ++ s2) ++ s3) ++ s4) p (((s5 ++ s6) ++ s7) ++ s8)
  simp only [List.append_assoc, List.append_nil] at e ⊢
  exact e.append_left h
def f03 : Nat → Int32 := fun j => if j = 8 then -1 else 0
def f04 : Nat → Int32 := fun j => if j = 8 then -5 else 0
theorem wF_new {ca : Nat → ClassId} {o pa : Nat} {a1 a2 a3 a4 a5 a6 a7 a8 qp : Nat → Nat} :
    ([(o, (.inr (3, [.ref (a1 0), .ref (a2 0), .ref (a3 0), .ref (a4 0), .ref pa, .ref (qp 0), .int 0, .int 0, .int (-1), .int 0]) : va_E)), (pa, .inl (ca 4, 4, .inr (.inr (.inr (.inr (pfS (fun i => [a1, a2, a3, a4, a5, a6, a7, a8].getD i a1)))))))] ++ ((((((((wS ca a1 hc0.1 hc0.2 (fun _ => 0) ++ wS ca a2 hc0.1 hc0.2 (fun _ => 0)) ++ wS ca a3 hc0.1 hc0.2 (fun _ => 0)) ++ wS ca a4 hc0.1 hc0.2 (fun _ => 0)) ++ wP ca qp (fun _ => 0) (fun _ => 0) (fun _ => 0) (fun _ => 0) (fun _ => 0)) ++ wS ca a5 hc0.1 hc0.2 (fun _ => 0)) ++ wS ca a6 hc0.1 hc0.2 (fun _ => 0)) ++ wS ca a7 hc0.1 hc0.2 (fun _ => 0)) ++ wS ca a8 hc0.1 hc0.2 (fun _ => 0))).Perm
    (wF ca o pa f03 (fun i => [a1, a2, a3, a4, a5, a6, a7, a8].getD i a1) (fun _ => hc0) (fun _ _ => 0) qp (fun _ => 0) (fun _ => 0) (fun _ => 0) (fun _ => 0) (fun _ => 0)) := by
  refine z_fin.trans ?_
  unfold wF wFp
  rw [wA_8]
  exact List.Perm.refl _
def c1N : Nat → Nat → Nat → Int32
  | 0 => fun _ _ => 0
  | k + 1 => u2 (u2 (u2 (u2 (c1N k) k 0 10) k 2 (nI (k + 1))) k 4 (-1)) k 5 1
theorem c1N_eq : ∀ n k w, c1N n k w = if k < n then cup0 (nI (k + 1)) w else 0 := by
  intro n
  induction n with
  | zero => intro k w; rfl
  | succ n ih =>
    intro k w
    show u2 (u2 (u2 (u2 (c1N n) n 0 10) n 2 (nI (n + 1))) n 4 (-1)) n 5 1 k w = _
    by_cases e : k = n
    · subst e
      rw [if_pos (Nat.lt_succ_self _)]
      unfold cup0
      by_cases h5 : w = 5
      · subst h5; rw [u2_s]; rfl
      · rw [u2_nw h5]
        by_cases h4 : w = 4
        · subst h4; rw [u2_s]; rfl
        · rw [u2_nw h4]
          by_cases h2 : w = 2
          · subst h2; rw [u2_s]; rfl
          · rw [u2_nw h2]
            by_cases h0 : w = 0
            · subst h0; rw [u2_s]; rfl
            · rw [u2_nw h0, ih, if_neg (Nat.lt_irrefl _), if_neg h0, if_neg h2, if_neg h4, if_neg h5]
    · rw [u2_nk e, u2_nk e, u2_nk e, u2_nk e, ih]
      by_cases h : k < n
      · rw [if_pos h, if_pos (by omega)]
      · rw [if_neg h, if_neg (by omega)]
theorem enc_c1N (j : Nat) (hj : j < 104) : enc hc0.1 (c1N 8) j = enc hc0.1 hc0.2 j := by
  unfold enc
  by_cases h : j < 8
  · rw [if_pos h, if_pos h]
  · rw [if_neg h, if_neg h, c1N_eq, if_pos (by omega)]
    rfl
theorem enc_00 (j : Nat) (_ : j < 104) : upd (upd (fun _ => 0) 5 3) 7 24 j = enc hc0.1 (c1N 0) j := by
  unfold enc
  by_cases h7 : j = 7
  · subst h7; rw [pk_us]; rfl
  · rw [pk_un h7]
    by_cases h5 : j = 5
    · subst h5; rw [pk_us]; rfl
    · rw [pk_un h5]
      by_cases h : j < 8
      · rw [if_pos h]
        show (0 : Int32) = if j = 5 then 3 else if j = 7 then 24 else 0
        rw [if_neg h5, if_neg h7]
      · rw [if_neg h]
        rfl
