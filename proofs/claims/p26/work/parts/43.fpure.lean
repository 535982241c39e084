/-! ===== the fountain's own acts: pure ===== -/
theorem vup_id {α : Type} {s : Nat → α} {i : Nat} : va_up s i (s i) = s := by
  funext j
  by_cases h : j = i
  · subst h; exact vup_s
  · exact vup_n h
theorem vup_up {α : Type} {s : Nat → α} {i : Nat} {x y : α} : va_up (va_up s i x) i y = va_up s i y := by
  funext j
  by_cases h : j = i
  · subst h; rw [vup_s, vup_s]
  · rw [vup_n h, vup_n h, vup_n h]
section FU
variable {ca : Nat → ClassId} {o pa : Nat} {f : Nat → Int32} {pf : Nat → Option Nat} {sa : Nat → Nat → Nat} {sp : Nat → HC} {sz : Nat → Nat → Int32} {q : Nat → Nat} {g tx kd wh nu : Nat → Int32} {i j k : Nat} {p x : HC}
theorem wF_pm3u (hi : i < 8) (hj : j < 8) (hij : j ≠ i) : (w2S ca (sa i) (sa j) (sp j).1 (sp j).2 (sp j).1 (sp j).2 (sz i) (sz j) ++ wFr2 ca o pa f pf sa (va_up sp i x) sz q g tx kd wh nu i j).Perm (wFp ca o pa f pf sa (va_up sp i (sp j)) sz q g tx kd wh nu) := by
  have h := wF_pm3 (ca := ca) (o := o) (pa := pa) (f := f) (pf := pf) (sa := sa) (sp := va_up sp i x) (sz := sz) (q := q) (g := g) (tx := tx) (kd := kd) (wh := wh) (nu := nu) hi hj hij
  rw [vup_n hij, vup_up] at h
  exact h
theorem wF_rot : (wFp ca o pa f pf sa sp sz q g tx kd wh nu).Perm (wFp ca o pa f pf (rot sa) (rot sp) (rot sz) q g tx kd wh nu) :=
  (List.Perm.append_left _ (wA_rot)).append_left (wFh ca o pa f pf sa (q 0))
end FU
/-! recording -/
def recSa (sa : Nat → Nat → Nat) (n : Nat) (x : Int32) : Nat → Nat → Nat := if x < 0 then sa else if n = 4 then rot sa else sa
def recSp (sp : Nat → HC) (n : Nat) (x : Int32) : Nat → HC := if x < 0 then sp else if n = 4 then va_up (rot sp) 7 (sp 2) else va_up sp (4 + n) (sp 2)
def recSz (sz : Nat → Nat → Int32) (n : Nat) (x : Int32) : Nat → Nat → Int32 := if x < 0 then sz else if n = 4 then rot sz else sz
def recFf (f : Nat → Int32) (n : Nat) (x : Int32) : Nat → Int32 := if x < 0 then f else upd f 6 (nI (if n = 4 then 4 else n + 1))
/-! looking ahead -/
noncomputable def kuF (p : HC) (k : Nat) : Nat → Nat → Int32
  | 0, _ => -5
  | r + 1, i => if (kN p (i + 1)).2 k 8 ≤ p.2 k 8 then kuF p k r (i + 1) else nI (i + 1)
noncomputable def kuN (p : HC) (k : Nat) : Nat → Nat → Nat
  | 0, i => i
  | r + 1, i => if (kN p (i + 1)).2 k 8 ≤ p.2 k 8 then kuN p k r (i + 1) else i + 1
theorem kuX_x : ∃ g : HC → Nat → Int32, ∀ p k, g p k = kuF p k 500 0 := ⟨_, fun _ _ => rfl⟩
noncomputable def kuX : HC → Nat → Int32 := Classical.choose kuX_x
theorem kuX_d (p : HC) (k : Nat) : kuX p k = kuF p k 500 0 := Classical.choose_spec kuX_x p k
theorem kuY_x : ∃ g : HC → Nat → Nat, ∀ p k, g p k = kuN p k 500 0 := ⟨_, fun _ _ => rfl⟩
noncomputable def kuY : HC → Nat → Nat := Classical.choose kuY_x
theorem kuY_d (p : HC) (k : Nat) : kuY p k = kuN p k 500 0 := Classical.choose_spec kuY_x p k
noncomputable def ktiR (p : HC) (cup : Int32) : Int32 := if inF cup 0 7 = 0 then -1 else kuX p (nn cup)
noncomputable def ktiN (p : HC) (cup : Int32) : Nat := if inF cup 0 7 = 0 then 0 else kuY p (nn cup)
noncomputable def khoR (p : HC) (cup : Int32) : Int32 := if 0 ≤ ktiR p cup then hoR (kN p (ktiN p cup)).1 ((kN p (ktiN p cup)).1 0 - 1) else ktiR p cup
/-- the first cup without a tip -/
noncomputable def kstF (p : HC) : Nat → Nat → Int32
  | 0, _ => -5
  | r + 1, i => if (kN p 500).2 i 8 = p.2 i 8 then nI i else kstF p r (i + 1)
/-- the look-ahead with a size beyond all: what the cup could spill, the most of it so far, the size that is told -/
noncomputable def rqF (p : HC) (k : Nat) : Int32 := rqR ((kit1 (khour p) (kst p) k).2 k)
theorem rqN_k {hour : Int32} {p : HC} {z : Nat → Int32} {k : Nat} : ∀ n, k < n → rqN hour p z n k = rqR ((kit1 hour p k).2 k) := by
  intro n
  induction n with
  | zero => intro h; exact absurd h (Nat.not_lt_zero _)
  | succ n ih =>
    intro h
    rw [rqN_s]
    by_cases e : k = n
    · subst e; exact pk_us
    · rw [pk_un e]; exact ih (by omega)
theorem rqX_k {p : HC} {z : Nat → Int32} {k : Nat} (hk : k < 8) : rqX p z k = rqF p k := by
  rw [rqX_d]; exact rqN_k 8 hk
def mxF (a b : Int32) : Int32 := if a < b then b else a
def bz (p : HC) (k : Nat) : HC := (p.1, u2 p.2 k 0 100)
noncomputable def kgF (p : HC) (k : Nat) : Nat → Int32
  | 0 => 0
  | n + 1 => mxF (kgF p k n) (rqF (kN p n) k)
noncomputable def kvF (p : HC) (k : Nat) : Nat → Nat → Int32
  | 0, _ => -5
  | r + 1, i => if 99 ≤ kgF p k i then -5 else if hoR (kN p i).1 ((kN p i).1 0) = (kN p i).2 k 4 then (if rqF (kN p i) k ≤ kgF p k i then kvF p k r (i + 1) else kgF p k i + 1) else kvF p k r (i + 1)
noncomputable def kvN (p : HC) (k : Nat) : Nat → Nat → Nat
  | 0, i => i
  | r + 1, i => if 99 ≤ kgF p k i then i else if hoR (kN p i).1 ((kN p i).1 0) = (kN p i).2 k 4 then (if rqF (kN p i) k ≤ kgF p k i then kvN p k r (i + 1) else i + 1) else kvN p k r (i + 1)
theorem kvX_x : ∃ g : HC → Nat → Int32, ∀ p k, g p k = kvF p k 500 0 := ⟨_, fun _ _ => rfl⟩
noncomputable def kvX : HC → Nat → Int32 := Classical.choose kvX_x
theorem kvX_d (p : HC) (k : Nat) : kvX p k = kvF p k 500 0 := Classical.choose_spec kvX_x p k
theorem kvY_x : ∃ g : HC → Nat → Nat, ∀ p k, g p k = kvN p k 500 0 := ⟨_, fun _ _ => rfl⟩
noncomputable def kvY : HC → Nat → Nat := Classical.choose kvY_x
theorem kvY_d (p : HC) (k : Nat) : kvY p k = kvN p k 500 0 := Classical.choose_spec kvY_x p k
noncomputable def kbeR (p : HC) (cup : Int32) : Int32 := if inF cup 0 7 = 0 then -1 else if p.2 (nn cup) 4 = -1 then -4 else kvX (bz p (nn cup)) (nn cup)
noncomputable def kbeP (p : HC) (cup : Int32) : HC := if inF cup 0 7 = 0 then p else if p.2 (nn cup) 4 = -1 then p else kN (bz p (nn cup)) (kvY (bz p (nn cup)) (nn cup))
noncomputable def kbeZ (p : HC) (cup : Int32) (z : Nat → Int32) : Nat → Int32 := if inF cup 0 7 = 0 then z else if p.2 (nn cup) 4 = -1 then z else zTk (bz p (nn cup)) z (kvY (bz p (nn cup)) (nn cup))
theorem kN500_x : ∃ g : HC → HC, ∀ p, g p = kN p 500 := ⟨_, fun _ => rfl⟩
def khF (c : Nat → Nat → Int32) : Nat → Int32 × Int32
  | 0 => (-5, 0)
  | n + 1 => if c n 7 ≤ (khF c n).2 then khF c n else (nI n, c n 7)
noncomputable def kifX (p : HC) (ticks what : Int32) : Int32 := tsF (kN p (nn ticks)).2 (if what = 3 then 8 else 9 + what) 8 - tsF p.2 (if what = 3 then 8 else 9 + what) 8
def kstopR (f : Nat → Int32) (what : Int32) : Int32 := if inF what 0 1 = 0 then -2 else if f 8 = -1 then -5 else if what = 0 then f 8 else f 9
def kcupR (c : Nat → Nat → Int32) (cup what : Int32) : Int32 := if inF cup 0 7 = 0 then -1 else tellR (c (nn cup)) what
def kcntR (p : HC) (kp ln : Nat) (x : Int32) : Int32 := if x = 13 then nI kp else if x = 14 then nI ln else stellR p x
noncomputable def kreR (p : HC) (cup : Int32) : Int32 := if inF cup 0 7 = 0 then -1 else if (kTick p).2 (nn cup) 8 ≤ p.2 (nn cup) 8 then (if p.2 (nn cup) 6 = 0 then (if p.2 (nn cup) 5 = 0 then 2 else 3) else if p.2 (nn cup) 4 = hoR p.1 (p.1 0) then 3 else 1) else 0
/-! performing -/
noncomputable def kI (T : PQ) (p : HC) : Nat → HC
  | 0 => p
  | i + 1 => kDoP (kI T p i) (T.2.1 i) (T.2.2.1 i) (T.2.2.2 i)
noncomputable def kIz (T : PQ) (p : HC) (z : Nat → Int32) : Nat → Nat → Int32
  | 0 => z
  | i + 1 => kDoZ (kI T p i) (kIz T p z i) (T.2.1 i) (T.2.2.2 i)
noncomputable def kRi (T : PQ) (p : HC) (i : Nat) : Int32 := kDoR (kI T p i) (T.2.1 i) (T.2.2.1 i) (T.2.2.2 i)
theorem pf_rot {sa : Nat → Nat → Nat} (j : Nat) (hj : j < 4) : va_up (va_up (va_up (va_up (pfS sa) 0 (some (sa 5 0))) 1 (some (sa 6 0))) 2 (some (sa 7 0))) 3 (some (sa 4 0)) j = pfS (rot sa) j := by
  have h4 : j = 0 ∨ j = 1 ∨ j = 2 ∨ j = 3 := by omega
  rcases h4 with rfl | rfl | rfl | rfl <;> rfl
theorem wF_pmc {ca : Nat → ClassId} {o pa : Nat} {f : Nat → Int32} {pf : Nat → Option Nat} {sa : Nat → Nat → Nat} {sp : Nat → HC} {sz : Nat → Nat → Int32} {q : Nat → Nat} {g tx kd wh nu : Nat → Int32} {i k : Nat} (hi : i < 8) (hk : k < 8) : (wFp ca o pa f pf sa sp sz q g tx kd wh nu).Perm (wC (sa i (2 + k)) ((sp i).2 k) (sz i k) ++ (wSr ca (sa i) (sp i).1 (sp i).2 (sz i) k ++ wFr ca o pa f pf sa sp sz q g tx kd wh nu i)) := by
  have h := (wF_pm (ca := ca) (o := o) (pa := pa) (f := f) (pf := pf) (sa := sa) (sp := sp) (sz := sz) (q := q) (g := g) (tx := tx) (kd := kd) (wh := wh) (nu := nu) hi).trans ((wS_pm (ca := ca) (a := sa i) (h := (sp i).1) (c := (sp i).2) (z := sz i) hk).append_right _)
  rw [List.append_assoc] at h
  exact h
theorem wF_pmc1 {ca : Nat → ClassId} {o pa : Nat} {f : Nat → Int32} {pf : Nat → Option Nat} {sa : Nat → Nat → Nat} {sp sp' : Nat → HC} {sz : Nat → Nat → Int32} {q : Nat → Nat} {g tx kd wh nu : Nat → Int32} {i k : Nat} {r : Nat → Int32} (hi : i < 8) (hk : k < 8) (hs : ∀ j, j ≠ i → sp' j = sp j) (h1 : (sp' i).1 = (sp i).1) (h2 : (sp' i).2 = va_up (sp i).2 k r) : (wC (sa i (2 + k)) r (sz i k) ++ (wSr ca (sa i) (sp i).1 (sp i).2 (sz i) k ++ wFr ca o pa f pf sa sp sz q g tx kd wh nu i)).Perm (wFp ca o pa f pf sa sp' sz q g tx kd wh nu) := by
  have h := wF_pm1 (ca := ca) (o := o) (pa := pa) (f := f) (pf := pf) (sa := sa) (sp := sp) (sz := sz) (sp' := sp') (sz' := sz) (q := q) (g := g) (tx := tx) (kd := kd) (wh := wh) (nu := nu) hi hs (fun _ _ => rfl)
  rw [h1, h2] at h
  have h3 := ((wS_pm1 (ca := ca) (a := sa i) (h := (sp i).1) (c := (sp i).2) (z := sz i) (r := r) hk).append_right (wFr ca o pa f pf sa sp sz q g tx kd wh nu i)).trans h
  rw [List.append_assoc] at h3
  exact h3
