/-! ===== what the class's states do ===== -/
def opn (c : Nat → Nat → Int32) (hour : Int32) : Nat → Nat → Nat → Int32
  | 0 => c
  | n + 1 => if opn c hour n n 6 = 0 then opn c hour n else if opn c hour n n 4 = hour then u2 (opn c hour n) n 5 1 else opn c hour n
def shn (c : Nat → Nat → Int32) : Nat → Nat → Nat → Int32
  | 0 => c
  | n + 1 => if shn c n n 6 = 0 then shn c n else u2 (shn c n) n 5 0
def bkF (h : Nat → Int32) : Int32 := if h 6 < h 1 then h 6 else h 1
def kspH (h : Nat → Int32) : Nat → Int32 := upd (upd h 1 (h 1 - bkF h)) 3 (h 3 + h 5)
def kspC (h : Nat → Int32) (c : Nat → Nat → Int32) : Nat → Nat → Int32 := u2 c 0 3 (c 0 3 + (h 5 + bkF h))
/-- the water that a cup could spill -/
def rqR (c : Nat → Int32) : Int32 := if c 5 = 0 then 0 else c 3
def ksT (c : Nat → Nat → Int32) (k : Nat) : Int32 := if c k 0 ≤ rqR (c k) then 1 else 0
def ksH (h : Nat → Int32) (c : Nat → Nat → Int32) (k : Nat) : Nat → Int32 := if ksT c k = 0 then upd h 1 (h 1 + overR (c k)) else pourH h (nn (c k 2)) (c k 3)
def ksC (c : Nat → Nat → Int32) (k : Nat) (hour : Int32) : Nat → Nat → Int32 := if ksT c k = 0 then u2 (u2 c k 7 0) k 3 (c k 3 - overR (c k)) else pourC (va_up c k (tipR (c k) hour)) (nn (c k 2)) (c k 3)
def hoR (h : Nat → Int32) (t : Int32) : Int32 := if h 7 ≤ 0 then 0 else hrF h t
def kit1 (hour : Int32) (p : HC) : Nat → HC
  | 0 => p
  | n + 1 => (ksH (kit1 hour p n).1 (kit1 hour p n).2 n, ksC (kit1 hour p n).2 n hour)
def ktT (hour : Int32) (p : HC) : Nat → Int32
  | 0 => 0
  | n + 1 => ktT hour p n + ksT (kit1 hour p n).2 n
def kit2 (p : HC) : Nat → HC
  | 0 => p
  | n + 1 => (upd (kit2 p n).1 2 ((kit2 p n).1 2 + dripR ((kit2 p n).2 n)), u2 (kit2 p n).2 n 3 ((kit2 p n).2 n 3 - dripR ((kit2 p n).2 n)))
theorem kit1_0 (hour : Int32) (p : HC) : kit1 hour p 0 = p := rfl
theorem kit1_s (hour : Int32) (p : HC) (n : Nat) : kit1 hour p (n + 1) = (ksH (kit1 hour p n).1 (kit1 hour p n).2 n, ksC (kit1 hour p n).2 n hour) := rfl
theorem ktT_0 (hour : Int32) (p : HC) : ktT hour p 0 = 0 := rfl
theorem ktT_s (hour : Int32) (p : HC) (n : Nat) : ktT hour p (n + 1) = ktT hour p n + ksT (kit1 hour p n).2 n := rfl
theorem kit2_0 (p : HC) : kit2 p 0 = p := rfl
theorem kit2_s (p : HC) (n : Nat) : kit2 p (n + 1) = (upd (kit2 p n).1 2 ((kit2 p n).1 2 + dripR ((kit2 p n).2 n)), u2 (kit2 p n).2 n 3 ((kit2 p n).2 n 3 - dripR ((kit2 p n).2 n))) := rfl
def khour (p : HC) : Int32 := hoR p.1 (p.1 0)
theorem opX_x : ∃ g : (Nat → Nat → Int32) → Int32 → Nat → Nat → Int32, ∀ c hour, g c hour = opn c hour 8 := ⟨_, fun _ _ => rfl⟩
noncomputable def opX : (Nat → Nat → Int32) → Int32 → Nat → Nat → Int32 := Classical.choose opX_x
theorem opX_d (c : Nat → Nat → Int32) (hour : Int32) : opX c hour = opn c hour 8 := Classical.choose_spec opX_x c hour
theorem shX_x : ∃ g : (Nat → Nat → Int32) → Nat → Nat → Int32, ∀ c, g c = shn c 8 := ⟨_, fun _ => rfl⟩
noncomputable def shX : (Nat → Nat → Int32) → Nat → Nat → Int32 := Classical.choose shX_x
theorem shX_d (c : Nat → Nat → Int32) : shX c = shn c 8 := Classical.choose_spec shX_x c
/-- the state ahead of the cups' tipping -/
noncomputable def kst (p : HC) : HC := (kspH p.1, kspC p.1 (opX p.2 (khour p)))
theorem ktick1_x : ∃ g : HC → HC, ∀ p, g p = kit1 (khour p) (kst p) 8 := ⟨_, fun _ => rfl⟩
noncomputable def ktick1 : HC → HC := Classical.choose ktick1_x
theorem ktick1_d (p : HC) : ktick1 p = kit1 (khour p) (kst p) 8 := Classical.choose_spec ktick1_x p
theorem ktips_x : ∃ g : HC → Int32, ∀ p, g p = ktT (khour p) (kst p) 8 := ⟨_, fun _ => rfl⟩
noncomputable def ktips : HC → Int32 := Classical.choose ktips_x
theorem ktips_d (p : HC) : ktips p = ktT (khour p) (kst p) 8 := Classical.choose_spec ktips_x p
theorem ktick2_x : ∃ g : HC → HC, ∀ p, g p = kit2 (ktick1 p) 8 := ⟨_, fun _ => rfl⟩
noncomputable def ktick2 : HC → HC := Classical.choose ktick2_x
theorem ktick2_d (p : HC) : ktick2 p = kit2 (ktick1 p) 8 := Classical.choose_spec ktick2_x p
noncomputable def kTick (p : HC) : HC := (upd (ktick2 p).1 0 ((ktick2 p).1 0 + 1), shX (ktick2 p).2)
def rqN (hour : Int32) (p : HC) (z : Nat → Int32) : Nat → Nat → Int32
  | 0 => z
  | n + 1 => upd (rqN hour p z n) n (rqR ((kit1 hour p n).2 n))
theorem rqN_0 (hour : Int32) (p : HC) (z : Nat → Int32) : rqN hour p z 0 = z := rfl
theorem rqN_s (hour : Int32) (p : HC) (z : Nat → Int32) (n : Nat) : rqN hour p z (n + 1) = upd (rqN hour p z n) n (rqR ((kit1 hour p n).2 n)) := rfl
theorem rqX_x : ∃ g : HC → (Nat → Int32) → Nat → Int32, ∀ p z, g p z = rqN (khour p) (kst p) z 8 := ⟨_, fun _ _ => rfl⟩
/-- what each cup could spill in a tick -/
noncomputable def rqX : HC → (Nat → Int32) → Nat → Int32 := Classical.choose rqX_x
theorem rqX_d (p : HC) (z : Nat → Int32) : rqX p z = rqN (khour p) (kst p) z 8 := Classical.choose_spec rqX_x p z
theorem tipR_w {c : Nat → Int32} {hour : Int32} {w : Nat} (hw : w < 8) (h3 : w ≠ 3) (h7 : w ≠ 7) : tipR c hour w = c w := by
  have h0 : tip0 c w = c w := by
    unfold tip0
    rw [pk_un (by omega), pk_un h3, pk_un h7]
  unfold tipR
  split
  · exact h0
  · split
    · rw [pk_un (by omega)]; exact h0
    · split
      · rw [pk_un (by omega)]; exact h0
      · rw [pk_un (by omega)]; exact h0
theorem up_s {c : Nat → Nat → Int32} {k : Nat} {r : Nat → Int32} : va_up c k r k = r := by simp [va_up]
theorem up_n {c : Nat → Nat → Int32} {k k2 : Nat} {r : Nat → Int32} (h : k2 ≠ k) : va_up c k r k2 = c k2 := by simp [va_up, h]
theorem ksC_w {c : Nat → Nat → Int32} {k k2 w : Nat} {hour : Int32} (hw : w < 8) (h3 : w ≠ 3) (h7 : w ≠ 7) : ksC c k hour k2 w = c k2 w := by
  unfold ksC
  split
  · rw [u2_nw h3, u2_nw h7]
  · rw [pourC_w h3]
    by_cases e : k2 = k
    · subst e; rw [up_s]; exact tipR_w hw h3 h7
    · rw [up_n e]
theorem kit1_w (hour : Int32) (p : HC) (n k2 w : Nat) (hw : w < 8) (h3 : w ≠ 3) (h7 : w ≠ 7) : (kit1 hour p n).2 k2 w = p.2 k2 w := by
  induction n with
  | zero => rfl
  | succ n ih => exact (ksC_w hw h3 h7).trans ih
theorem opn_w (c : Nat → Nat → Int32) (hour : Int32) (n k2 w : Nat) (h5 : w ≠ 5) : opn c hour n k2 w = c k2 w := by
  induction n with
  | zero => rfl
  | succ n ih =>
    rw [opn]
    split
    · exact ih
    · split
      · rw [u2_nw h5]; exact ih
      · exact ih
theorem opX_w (c : Nat → Nat → Int32) (hour : Int32) (k2 w : Nat) (h5 : w ≠ 5) : opX c hour k2 w = c k2 w := by
  rw [opX_d]; exact opn_w c hour 8 k2 w h5
theorem kst_2 (p : HC) (k : Nat) : (kst p).2 k 2 = p.2 k 2 := by
  show kspC p.1 (opX p.2 (khour p)) k 2 = p.2 k 2
  unfold kspC
  rw [u2_nw (by decide)]
  exact opX_w _ _ _ _ (by decide)
/-- water goes on: what a class's tick needs -/
def nxP (p : HC) : Prop := ∀ k, k < 8 → p.2 k 2 = nI (nn (p.2 k 2)) ∧ nn (p.2 k 2) ≤ 8
noncomputable def kN (p : HC) : Nat → HC
  | 0 => p
  | n + 1 => kTick (kN p n)
noncomputable def zTk (p : HC) (z : Nat → Int32) : Nat → Nat → Int32
  | 0 => z
  | n + 1 => rqX (kN p n) (zTk p z n)
noncomputable def kS (p : HC) : Nat → Int32
  | 0 => 0
  | n + 1 => kS p n + ktips (kN p n)
theorem shn_w (c : Nat → Nat → Int32) (n k2 w : Nat) (h5 : w ≠ 5) : shn c n k2 w = c k2 w := by
  induction n with
  | zero => rfl
  | succ n ih =>
    rw [shn]
    split
    · exact ih
    · rw [u2_nw h5]; exact ih
theorem kit2_w (p : HC) (n k2 w : Nat) (h3 : w ≠ 3) : (kit2 p n).2 k2 w = p.2 k2 w := by
  induction n with
  | zero => rfl
  | succ n ih => exact (u2_nw h3).trans ih
theorem kTick_2 (p : HC) (k : Nat) : (kTick p).2 k 2 = p.2 k 2 := by
  show shX (ktick2 p).2 k 2 = p.2 k 2
  rw [shX_d, shn_w _ _ _ _ (by decide), ktick2_d, kit2_w _ _ _ _ (by decide), ktick1_d, kit1_w _ _ _ _ _ (by decide) (by decide) (by decide), kst_2]
theorem nxP.tick {p : HC} (h : nxP p) : nxP (kTick p) := fun k hk => by rw [kTick_2]; exact h k hk
theorem nxP.ticks {p : HC} (h : nxP p) (n : Nat) : nxP (kN p n) := by
  induction n with
  | zero => exact h
  | succ n ih => exact ih.tick
def bbP (p : HC) : Prop := ∀ k, k < 8 → b01 (p.2 k 5) ∧ b01 (p.2 k 6)
def tsF (c : Nat → Nat → Int32) (x : Int32) : Nat → Int32
  | 0 => 0
  | n + 1 => tsF c x n + tellR (c n) x
def tfF (c : Nat → Nat → Int32) : Nat → Int32
  | 0 => 0
  | n + 1 => tfF c n + numF (fullR (c n))
def setF (h : Nat → Int32) (x : Int32) : Int32 := if x = 0 then h 5 else if x = 1 then h 6 else h 7
theorem isValF_2 {cup va : Int32} : isValF cup 2 va = inF va (cup + 1) 8 := by
  show (if inF va (cup + 1) 8 = 0 then (0 : Int32) else 1) = _
  exact b01_a (inF_01 _ _ _)
theorem tellR_w {c : Nat → Int32} {w : Nat} (hw : w < 3) : tellR c (nI w) = c w := by
  have h3 : w = 0 ∨ w = 1 ∨ w = 2 := by omega
  rcases h3 with rfl | rfl | rfl <;> rfl
theorem u2_comm {c : Nat → Nat → Int32} {k w v : Nat} {x y : Int32} (h : w ≠ v) : u2 (u2 c k w x) k v y = u2 (u2 c k v y) k w x := by
  funext a b
  by_cases h1 : a = k
  · subst h1
    by_cases h2 : b = w
    · subst h2
      rw [u2_nw h, u2_s, u2_s]
    · rw [u2_nw h2]
      by_cases h4 : b = v
      · subst h4; rw [u2_s, u2_s]
      · rw [u2_nw h4, u2_nw h4, u2_nw h2]
  · rw [u2_nk h1, u2_nk h1, u2_nk h1, u2_nk h1]
def stellR (p : HC) (x : Int32) : Int32 := if inF x 0 12 = 0 then -2 else if x = 0 then p.1 0 else if x = 1 then hoR p.1 (p.1 0) else if x = 2 then tsF p.2 3 8 else if x = 3 then p.1 1 else if x = 4 then p.1 2 else if x = 5 then p.1 3 else if x = 6 then p.1 4 else if x = 7 then tsF p.2 8 8 else if x = 8 then tsF p.2 9 8 else if x = 9 then tfF p.2 8 else setF p.1 (x - 10)
noncomputable def kpassR (p : HC) (ticks : Int32) : Int32 := if inF ticks 1 99 = 0 then -2 else if p.1 0 + ticks ≤ 99999 then kS p (nn ticks) else -3
def cpC (c c2 : Nat → Nat → Int32) (k : Nat) : Nat → Nat → Int32 := fun j => if j < k then c2 j else c j
theorem cpC_0 {c c2 : Nat → Nat → Int32} : cpC c c2 0 = c := by funext j; simp [cpC]
theorem cpC_s {c c2 : Nat → Nat → Int32} {k : Nat} : va_up (cpC c c2 k) k (c2 k) = cpC c c2 (k + 1) := by
  funext j
  by_cases h : j = k
  · subst h; simp [va_up, cpC]
  · by_cases h2 : j < k
    · have h3 : j < k + 1 := by omega
      simp [va_up, h, cpC, h2, h3]
    · have h3 : ¬ j < k + 1 := by omega
      simp [va_up, h, cpC, h2, h3]
theorem cpC_8 {ca : Nat → ClassId} {a : Nat → Nat} {h : Nat → Int32} {c c2 : Nat → Nat → Int32} {z : Nat → Int32} : wS ca a h (cpC c c2 8) z = wS ca a h c2 z := rfl
theorem cpC_k {c c2 : Nat → Nat → Int32} {k : Nat} : cpC c c2 k k = c k := by simp [cpC]
theorem inF_ge7 {x : Int32} (h : inF x 0 7 = 0) (h0 : ¬ x < 0) : 8 ≤ x := by
  unfold inF at h
  rw [if_neg h0] at h
  split at h
  · rename_i h7
    obtain ⟨j, hj, rfl⟩ := nI_of h0
    rw [show (7 : Int32) = nI 7 from rfl, nI_ltI (by decide) hj] at h7
    exact nI_le (a := 8) (by omega) hj
  · exact absurd h (by decide)
theorem upd_same {f : Nat → Int32} {k : Nat} : upd f k (f k) = f := by
  funext j
  by_cases h : j = k
  · subst h; exact pk_us
  · exact pk_un h
