/-! ===== the fountain's world: the object, the row of past states, the plan, eight states ===== -/
def wA (ca : Nat → ClassId) (sa : Nat → Nat → Nat) (sp : Nat → HC) (sz : Nat → Nat → Int32) : va_W := (List.range 8).flatMap (fun i => wS ca (sa i) (sp i).1 (sp i).2 (sz i))
def wAr (ca : Nat → ClassId) (sa : Nat → Nat → Nat) (sp : Nat → HC) (sz : Nat → Nat → Int32) (i : Nat) : va_W := ((List.range 8).erase i).flatMap (fun i => wS ca (sa i) (sp i).1 (sp i).2 (sz i))
def wFh (ca : Nat → ClassId) (o pa : Nat) (f : Nat → Int32) (pf : Nat → Option Nat) (sa : Nat → Nat → Nat) (qp : Nat) : va_W :=
  [(o, .inr (3, [.ref (sa 0 0), .ref (sa 1 0), .ref (sa 2 0), .ref (sa 3 0), .ref pa, .ref qp, .int (f 6), .int (f 7), .int (f 8), .int (f 9)])), (pa, .inl (ca 4, 4, .inr (.inr (.inr (.inr pf)))))]
def wFp (ca : Nat → ClassId) (o pa : Nat) (f : Nat → Int32) (pf : Nat → Option Nat) (sa : Nat → Nat → Nat) (sp : Nat → HC) (sz : Nat → Nat → Int32) (q : Nat → Nat) (g tx kd wh nu : Nat → Int32) : va_W :=
  wFh ca o pa f pf sa (q 0) ++ (wP ca q g tx kd wh nu ++ wA ca sa sp sz)
def pfS (sa : Nat → Nat → Nat) : Nat → Option Nat := fun i => some (sa (4 + i) 0)
abbrev wF (ca : Nat → ClassId) (o pa : Nat) (f : Nat → Int32) (sa : Nat → Nat → Nat) (sp : Nat → HC) (sz : Nat → Nat → Int32) (q : Nat → Nat) (g tx kd wh nu : Nat → Int32) : va_W := wFp ca o pa f (pfS sa) sa sp sz q g tx kd wh nu
def wFr (ca : Nat → ClassId) (o pa : Nat) (f : Nat → Int32) (pf : Nat → Option Nat) (sa : Nat → Nat → Nat) (sp : Nat → HC) (sz : Nat → Nat → Int32) (q : Nat → Nat) (g tx kd wh nu : Nat → Int32) (i : Nat) : va_W :=
  wFh ca o pa f pf sa (q 0) ++ (wP ca q g tx kd wh nu ++ wAr ca sa sp sz i)
theorem fm_congr {α β : Type} {l : List α} {f g : α → List β} (h : ∀ a ∈ l, f a = g a) : l.flatMap f = l.flatMap g := by
  rw [List.flatMap_def, List.flatMap_def, List.map_congr_left h]
theorem vup_s {α : Type} {f : Nat → α} {k : Nat} {v : α} : va_up f k v k = v := by simp [va_up]
theorem vup_n {α : Type} {f : Nat → α} {k j : Nat} {v : α} (h : j ≠ k) : va_up f k v j = f j := by simp [va_up, h]
theorem wA_pm {ca : Nat → ClassId} {sa : Nat → Nat → Nat} {sp : Nat → HC} {sz : Nat → Nat → Int32} {i : Nat} (hi : i < 8) : (wA ca sa sp sz).Perm (wS ca (sa i) (sp i).1 (sp i).2 (sz i) ++ wAr ca sa sp sz i) :=
  (List.perm_cons_erase (List.mem_range.mpr hi)).flatMap_right (fun i => wS ca (sa i) (sp i).1 (sp i).2 (sz i))
theorem permPull {α : Type} {h P A S R : List α} (p : A.Perm (S ++ R)) : (h ++ (P ++ A)).Perm (S ++ (h ++ (P ++ R))) :=
  ((p.append_left P).append_left h).trans (((List.perm_append_comm_assoc P S R).append_left h).trans (List.perm_append_comm_assoc h S (P ++ R)))
section FW
variable {ca : Nat → ClassId} {o pa : Nat} {f : Nat → Int32} {pf : Nat → Option Nat} {sa : Nat → Nat → Nat} {sp : Nat → HC} {sz : Nat → Nat → Int32} {q : Nat → Nat} {g tx kd wh nu : Nat → Int32} {i j k : Nat} {p : HC}
theorem wF_pm (hi : i < 8) : (wFp ca o pa f pf sa sp sz q g tx kd wh nu).Perm (wS ca (sa i) (sp i).1 (sp i).2 (sz i) ++ wFr ca o pa f pf sa sp sz q g tx kd wh nu i) := permPull (wA_pm hi)
theorem wAr_eq {sp' : Nat → HC} {sz' : Nat → Nat → Int32} (hs : ∀ j, j ≠ i → sp' j = sp j) (hz : ∀ j, j ≠ i → sz' j = sz j) : wAr ca sa sp' sz' i = wAr ca sa sp sz i := by
  refine fm_congr ?_
  intro j hj
  have h := (List.nodup_range.mem_erase_iff.mp hj).1
  rw [hs j h, hz j h]
theorem wF_pm1 {sp' : Nat → HC} {sz' : Nat → Nat → Int32} (hi : i < 8) (hs : ∀ j, j ≠ i → sp' j = sp j) (hz : ∀ j, j ≠ i → sz' j = sz j) : (wS ca (sa i) (sp' i).1 (sp' i).2 (sz' i) ++ wFr ca o pa f pf sa sp sz q g tx kd wh nu i).Perm (wFp ca o pa f pf sa sp' sz' q g tx kd wh nu) := by
  have h := (wF_pm (ca := ca) (o := o) (pa := pa) (f := f) (pf := pf) (sa := sa) (sp := sp') (sz := sz') (q := q) (g := g) (tx := tx) (kd := kd) (wh := wh) (nu := nu) hi).symm
  unfold wFr at h ⊢
  rw [wAr_eq hs hz] at h
  exact h
/-- two states -/
def wAr2 (ca : Nat → ClassId) (sa : Nat → Nat → Nat) (sp : Nat → HC) (sz : Nat → Nat → Int32) (i j : Nat) : va_W := (((List.range 8).erase i).erase j).flatMap (fun i => wS ca (sa i) (sp i).1 (sp i).2 (sz i))
def wFr2 (ca : Nat → ClassId) (o pa : Nat) (f : Nat → Int32) (pf : Nat → Option Nat) (sa : Nat → Nat → Nat) (sp : Nat → HC) (sz : Nat → Nat → Int32) (q : Nat → Nat) (g tx kd wh nu : Nat → Int32) (i j : Nat) : va_W :=
  wFh ca o pa f pf sa (q 0) ++ (wP ca q g tx kd wh nu ++ wAr2 ca sa sp sz i j)
theorem wA_pm2 (hi : i < 8) (hj : j < 8) (hij : j ≠ i) : (wA ca sa sp sz).Perm (w2S ca (sa i) (sa j) (sp i).1 (sp i).2 (sp j).1 (sp j).2 (sz i) (sz j) ++ wAr2 ca sa sp sz i j) := by
  have h1 := wA_pm (ca := ca) (sa := sa) (sp := sp) (sz := sz) hi
  have hm : j ∈ (List.range 8).erase i := List.nodup_range.mem_erase_iff.mpr ⟨hij, List.mem_range.mpr hj⟩
  have h2 : (wAr ca sa sp sz i).Perm (wS ca (sa j) (sp j).1 (sp j).2 (sz j) ++ wAr2 ca sa sp sz i j) := (List.perm_cons_erase hm).flatMap_right (fun i => wS ca (sa i) (sp i).1 (sp i).2 (sz i))
  have h3 := h1.trans (h2.append_left _)
  rw [← List.append_assoc] at h3
  exact h3
theorem wF_pm2 (hi : i < 8) (hj : j < 8) (hij : j ≠ i) : (wFp ca o pa f pf sa sp sz q g tx kd wh nu).Perm (w2S ca (sa i) (sa j) (sp i).1 (sp i).2 (sp j).1 (sp j).2 (sz i) (sz j) ++ wFr2 ca o pa f pf sa sp sz q g tx kd wh nu i j) := permPull (wA_pm2 hi hj hij)
theorem wAr2_up : wAr2 ca sa (va_up sp i p) sz i j = wAr2 ca sa sp sz i j := by
  refine fm_congr ?_
  intro k hk
  have h := (List.nodup_range.mem_erase_iff.mp (List.mem_of_mem_erase hk)).1
  rw [vup_n h]
theorem wF_pm3 (hi : i < 8) (hj : j < 8) (hij : j ≠ i) : (w2S ca (sa i) (sa j) (sp j).1 (sp j).2 (sp j).1 (sp j).2 (sz i) (sz j) ++ wFr2 ca o pa f pf sa sp sz q g tx kd wh nu i j).Perm (wFp ca o pa f pf sa (va_up sp i (sp j)) sz q g tx kd wh nu) := by
  have h := (wF_pm2 (ca := ca) (o := o) (pa := pa) (f := f) (pf := pf) (sa := sa) (sp := va_up sp i (sp j)) (sz := sz) (q := q) (g := g) (tx := tx) (kd := kd) (wh := wh) (nu := nu) hi hj hij).symm
  rw [vup_s, vup_n hij] at h
  unfold wFr2 at h ⊢
  rw [wAr2_up] at h
  exact h
/-- the plan -/
def wFq (ca : Nat → ClassId) (o pa : Nat) (f : Nat → Int32) (pf : Nat → Option Nat) (sa : Nat → Nat → Nat) (sp : Nat → HC) (sz : Nat → Nat → Int32) (qp : Nat) : va_W := wFh ca o pa f pf sa qp ++ wA ca sa sp sz
theorem wF_pq : (wFp ca o pa f pf sa sp sz q g tx kd wh nu).Perm (wP ca q g tx kd wh nu ++ wFq ca o pa f pf sa sp sz (q 0)) := List.perm_append_comm_assoc _ _ _
theorem wF_pq1 {g' tx' kd' wh' nu' : Nat → Int32} : (wP ca q g' tx' kd' wh' nu' ++ wFq ca o pa f pf sa sp sz (q 0)).Perm (wFp ca o pa f pf sa sp sz q g' tx' kd' wh' nu') := List.perm_append_comm_assoc _ _ _
/-- the plan and a state -/
def wFs (ca : Nat → ClassId) (o pa : Nat) (f : Nat → Int32) (pf : Nat → Option Nat) (sa : Nat → Nat → Nat) (sp : Nat → HC) (sz : Nat → Nat → Int32) (qp i : Nat) : va_W := wFh ca o pa f pf sa qp ++ wAr ca sa sp sz i
theorem wF_ps (hi : i < 8) : (wFp ca o pa f pf sa sp sz q g tx kd wh nu).Perm ((wP ca q g tx kd wh nu ++ wS ca (sa i) (sp i).1 (sp i).2 (sz i)) ++ wFs ca o pa f pf sa sp sz (q 0) i) := by
  have h1 : (wFp ca o pa f pf sa sp sz q g tx kd wh nu).Perm (wP ca q g tx kd wh nu ++ (wFh ca o pa f pf sa (q 0) ++ (wS ca (sa i) (sp i).1 (sp i).2 (sz i) ++ wAr ca sa sp sz i))) := wF_pq.trans (((wA_pm hi).append_left _).append_left _)
  have h2 := h1.trans ((List.perm_append_comm_assoc (wFh ca o pa f pf sa (q 0)) (wS ca (sa i) (sp i).1 (sp i).2 (sz i)) (wAr ca sa sp sz i)).append_left _)
  rw [← List.append_assoc] at h2
  exact h2
theorem wF_ps1 {sp' : Nat → HC} {sz' : Nat → Nat → Int32} (hi : i < 8) (hs : ∀ j, j ≠ i → sp' j = sp j) (hz : ∀ j, j ≠ i → sz' j = sz j) : ((wP ca q g tx kd wh nu ++ wS ca (sa i) (sp' i).1 (sp' i).2 (sz' i)) ++ wFs ca o pa f pf sa sp sz (q 0) i).Perm (wFp ca o pa f pf sa sp' sz' q g tx kd wh nu) := by
  have h := (wF_ps (ca := ca) (o := o) (pa := pa) (f := f) (pf := pf) (sa := sa) (sp := sp') (sz := sz') (q := q) (g := g) (tx := tx) (kd := kd) (wh := wh) (nu := nu) hi).symm
  unfold wFs at h ⊢
  rw [wAr_eq hs hz] at h
  exact h
theorem wF_mcup (hi : i < 8) (hk : k < 8) : (sa i (2 + k), (.inr (0, cupF ((sp i).2 k) (sz i k)) : va_E)) ∈ wFp ca o pa f pf sa sp sz q g tx kd wh nu :=
  (wF_pm hi).mem_iff.mpr (List.mem_append_left _ (List.mem_of_getElem? (wS_at hk)))
theorem wF_mst (hi : i < 8) : (sa i 0, (.inr (2, [.ref (sa i 1), .int ((sp i).1 0), .int ((sp i).1 5), .int ((sp i).1 6), .int ((sp i).1 7), .int ((sp i).1 1), .int ((sp i).1 2), .int ((sp i).1 3), .int ((sp i).1 4)]) : va_E)) ∈ wFp ca o pa f pf sa sp sz q g tx kd wh nu :=
  (wF_pm hi).mem_iff.mpr (List.mem_append_left _ (List.mem_of_getElem? (i := 0) rfl))
theorem wF_marr (hi : i < 8) : (sa i 1, (.inl (ca 3, 8, .inr (.inr (.inr (.inr (fun n => some (sa i (2 + n))))))) : va_E)) ∈ wFp ca o pa f pf sa sp sz q g tx kd wh nu :=
  (wF_pm hi).mem_iff.mpr (List.mem_append_left _ (List.mem_of_getElem? (i := 1) rfl))
theorem wF_mpl : (q 0, (.inr (1, [.ref (q 1), .int (g 1), .ref (q 2), .ref (q 3), .ref (q 4), .int (g 5), .int (g 6)]) : va_E)) ∈ wFp ca o pa f pf sa sp sz q g tx kd wh nu :=
  wF_pq.mem_iff.mpr (List.mem_append_left _ (List.mem_of_getElem? (i := 0) rfl))
end FW
def rot {α : Type} (s : Nat → α) : Nat → α := fun i => if i < 4 then s i else if i = 7 then s 4 else s (i + 1)
theorem wA_rot {ca : Nat → ClassId} {sa : Nat → Nat → Nat} {sp : Nat → HC} {sz : Nat → Nat → Int32} : (wA ca sa sp sz).Perm (wA ca (rot sa) (rot sp) (rot sz)) := by
  have p : (List.range 8).Perm [0, 1, 2, 3, 5, 6, 7, 4] := List.isPerm_iff.mp (by decide)
  exact p.flatMap_right (fun i => wS ca (sa i) (sp i).1 (sp i).2 (sz i))
/-! rows for cells that are found by membership -/
section FZ
variable {p : Program} {l : Launch} {e : Env} {R : Room} {s : State} {m : MethodId} {args : Array Value} {below : List Frame} {meth : Method} {c : Code} {H : Heap} {locs : List Loc} {cells slots : Nat} {Q : State → Prop}
variable {cc : ByteArray} {pc : Nat} {ls : Array Slot} {rest : List Value} {G : va_G} {ca : Nat → ClassId} {A : Nat → Prop} {a : Nat} {ws ws1 : va_W} {H0 : Heap} {own ref C : String} {T : u_T} {N ci index : Nat} {Ts : List Cond}
theorem z_getm (hexec : p.tables.exec = Jvm.exec) (hb : c.code = cc) (hts : ∀ w ∈ Ts, w.before args s = true) (hin : ∀ w ∈ u_ws C T N, w ∈ Ts) (hown : s.vm.findClass own = some m.cls) (hz : zw G ca A H0 s ws H locs) {fs : List Value} (hm : (a, (.inr (ci, fs) : va_E)) ∈ ws) (hc : vwCl[ci]? = some (C, T, N)) (k : Nat) (hk : k < N) (hlink : (Cond.fieldLink own index ref (T k).2.1 (T k).2.2.1).before args s = true) (hsame : (T k).1 = ref) {v : Value} (hv : fs[k]? = some v) (hdg : decode cc pc = .ok (.getfield index, 3))
    (kk : W p l e R s m args below meth c H locs cells slots Q (F0 m (pc + 3) ls (v :: rest))) : W p l e R s m args below meth c H locs cells slots Q (F0 m pc ls (.ref a :: rest)) := by
  obtain ⟨q0, hq⟩ := List.getElem?_of_mem hm
  exact z_get hexec hb hts hin hown hz q0 hq hc k hk hlink hsame hv hdg kk
theorem z_aaldm (hexec : p.tables.exec = Jvm.exec) (hb : c.code = cc) (hz : zw G ca A H0 s ws H locs) (t0 : Nat) {C : String} {n b : Nat} {cA : ClassId} {f : Nat → Option Nat} (hm : (a, (.inl (cA, n, .inr (.inr (.inr (.inr f)))) : va_E)) ∈ ws) (ht : (zy ca)[t0]? = some (cA, .object C)) {i : Int32} (j : Nat) (hi : i = nI j) (hj : j < n) (hn : n < 2 ^ 31) (hf : f j = some b) (hdg : decode cc pc = .ok (.aaload, 1))
    (kk : W p l e R s m args below meth c H locs cells slots Q (F0 m (pc + 1) ls (.ref b :: rest))) : W p l e R s m args below meth c H locs cells slots Q (F0 m pc ls (.int i :: .ref a :: rest)) := by
  obtain ⟨q0, hq⟩ := List.getElem?_of_mem hm
  exact z_aald hexec hb hz q0 t0 hq ht j hi hj hn hf hdg kk
theorem z_aastm (hexec : p.tables.exec = Jvm.exec) (hb : c.code = cc) (hz : zw G ca A H0 s ws H locs) (q0 t0 : Nat) {cA : ClassId} {r : vw_C} {n v : Nat} {vs : List Value} {f : Nat → Option Nat} (ha : ws[q0]? = some (a, .inl (cA, n, .inr (.inr (.inr (.inr f)))))) (ht : (zy ca)[t0]? = some (cA, .object r.1)) (hm : (v, (.inr (ci, vs) : va_E)) ∈ ws) (hc : vwCl[ci]? = some r) {i : Int32} (j : Nat) (hi : i = nI j) (hj : j < n) (hn : n < 2 ^ 31) (hw : ws.set q0 (a, .inl (cA, n, .inr (.inr (.inr (.inr (va_up f j (some v))))))) = ws1) (hdg : decode cc pc = .ok (.aastore, 1))
    (kk : ∀ (H1 : Heap) (locs1 : List Loc), zw G ca A H0 s ws1 H1 locs1 → W p l e R s m args below meth c H1 locs1 cells slots Q (F0 m (pc + 1) ls rest)) : W p l e R s m args below meth c H locs cells slots Q (F0 m pc ls (.ref v :: .int i :: .ref a :: rest)) := by
  subst hi
  subst hw
  obtain ⟨qk, hq⟩ := List.getElem?_of_mem hm
  refine va_astq hexec hb hz.1.1 hz.2.1 hz.2.2.1 hz.2.2.2.1 q0 t0 qk ci ha ht hq hc (vp_in_nI hj hn) hdg (fun H1 locs1 h1 h2 h3 => ?_)
  rw [nI_clamp (Nat.lt_trans hj hn)] at h1 h2
  exact kk H1 locs1 ⟨hz.1, h1, h2, h3, hz.2.2.2.2⟩
theorem zw.cellq (hz : zw G ca A H0 s ws H locs) {g : Nat → Option Nat} (q0 : Nat) {x n : Nat} {cA : ClassId} {f : Nat → Option Nat} (hq : ws[q0]? = some (x, .inl (cA, n, .inr (.inr (.inr (.inr f)))))) (h : ∀ j, j < n → f j = g j) : zw G ca A H0 s (ws.set q0 (x, .inl (cA, n, .inr (.inr (.inr (.inr g)))))) H locs := by
  refine ⟨hz.1, hz.2.1.set hz.2.2.1 hq ?_ (fun _ _ => rfl), hz.2.2.1.set hq, hz.2.2.2⟩
  have h1 := hz.2.1 q0 _ hq
  have e : vp_cell cA (n, .inr (.inr (.inr (.inr f)))) = vp_cell cA (n, .inr (.inr (.inr (.inr g)))) := by
    rw [vp_cell_q, vp_cell_q]
    simp only [arrV]
    congr 1
    apply Array.ext
    · simp
    · intro i h1 h2
      simp only [Array.size_ofFn] at h1
      simp [h i (by simpa using h1)]
  show H[x]? = some (vp_cell cA (n, .inr (.inr (.inr (.inr g)))))
  rw [← e]
  exact h1
end FZ
