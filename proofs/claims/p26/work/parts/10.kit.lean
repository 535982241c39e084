/-! ===== MY KIT: one word for what a walk carries of the heap (zw), one form of contract (Zc: from this world, with these arguments, it answers v and leaves that world), rows over them ===== -/
/-- the links to nest mates that the class has: words that are kept, but stand outside GoodIn -/
def zN (U : State) : Prop := va_Nw (.methodLinkNest RX0 58 yX3_asNumber "CupFountain") U ∧ va_Nw (.methodLinkNest RX0 58 yX3_asNumber "CupFountain") U ∧ va_Nw (.methodLinkNest RX2 70 yX3_isWithin "CupFountain") U ∧ va_Nw (.methodLinkNest RX2 80 yX3_asNumber "CupFountain") U ∧ va_Nw (.methodLinkNest RX3 31 yX1_init "CupFountain") U
theorem zN_warm {s U : State} (hW : s.WarmedH U.vm) (h : zN s) : zN U := ⟨va_Nw.warmM hW h.1, va_Nw.warmM hW h.2.1, va_Nw.warmM hW h.2.2.1, va_Nw.warmM hW h.2.2.2.1, va_Nw.warmM hW h.2.2.2.2⟩
theorem zN_same {u U : State} (e : u.vm = U.vm) (h : zN u) : zN U := ⟨va_Nw.same rfl e h.1, va_Nw.same rfl e h.2.1, va_Nw.same rfl e h.2.2.1, va_Nw.same rfl e h.2.2.2.1, va_Nw.same rfl e h.2.2.2.2⟩
abbrev zy (ca : Nat → ClassId) : List (ClassId × FieldType) := [(ca 0, .char), (ca 1, .int), (ca 2, .int), (ca 3, .object "CupFountain$Cup"), (ca 4, .object "CupFountain$State")]
def zK (G : va_G) (ca : Nat → ClassId) (U : State) : Prop := va_K G vwCl (zy ca) U ∧ zN U
def zw (G : va_G) (ca : Nat → ClassId) (A : Nat → Prop) (H0 : Heap) (s : State) (ws : va_W) (H : Heap) (locs : List Loc) : Prop :=
  zK G ca s ∧ va_P G vwCl ws H ∧ va_D A ws ∧ va_S A H0 H locs ∧ ∀ q, H0.size ≤ q → A q
def zPre (G : va_G) (ca : Nat → ClassId) (av : List Value) (w0 : va_W) (sz : Nat) : Array Value → State → Prop :=
  va_Pc av (fun U => U.heap.size = sz ∧ va_P G vwCl w0 U.heap ∧ zK G ca U ∧ va_D (fun _ => True) w0)
def zPostA (G : va_G) (ca : Nat → ClassId) (v : Option Value) (w1 : va_W) (A : Nat → Prop) : Array Value → State → Outcome → State → Prop :=
  fun _ st oc t => oc = .returned v ∧ va_P G vwCl w1 t.heap ∧ va_D A w1 ∧ va_F A st t
def Zc (l : Launch) (G : va_G) (ca : Nat → ClassId) (y : MethodName) (ws : List Cond) (rm : Room) (av : List Value) (w0 : va_W) (v : Option Value) (w1 : va_W) : Prop :=
  ∀ sz : Nat, Met l y ws rm (zPre G ca av w0 sz) (zPostA G ca v w1 (va_A w0 sz)) 0 0 (va_A w0 sz)
def zEnd (G : va_G) (ca : Nat → ClassId) (below : List Frame) (args : Array Value) (s : State) (A : Nat → Prop) (v : Option Value) (w1 : va_W) : State → Prop :=
  MQ below (zPostA G ca v w1 A) args s 0 0 A
theorem Zc.of {l : Launch} {G : va_G} {ca : Nat → ClassId} {y : MethodName} {ws ws' : List Cond} {rm : Room} {av : List Value} {w0 w1 : va_W} {v : Option Value} {cc : ByteArray} {maxL : Nat} {ret : Option FieldType}
    (hy : plainName y.cls = true) (hw : ws = Cond.code y cc maxL ret :: ws') (hlen : (lg_sl av).length ≤ maxL)
    (body : ∀ (p : Program) (e : Env) (s : State) (m : MethodId) (below : List Frame) (meth : Method) (c : Code) (A : Nat → Prop) (args : Array Value) (Q : State → Prop) (ls : Array Slot), p.tables.exec = Jvm.exec → c.code = cc → meth.sig.returnType = ret → c.maxLocals = maxL → s.vm.findClass y.cls = some m.cls → (∀ w ∈ ws, w.before args s = true) → meth.locks = false → Q = zEnd G ca below args s A v w1 → lv_has ls maxL (lv_args 0 av) → zw G ca A s.heap s w0 s.heap [] →
      W p l e rm s m args below meth c s.heap [] 0 0 Q (F0 m 0 ls [])) : Zc l G ca y ws rm av w0 v w1 := by
  intro sz
  refine Met.ofW (cc := cc) (maxL := maxL) (ret := ret) hy hw ?_
  intro p e s m args below meth c s₁ B hml hv
  obtain ⟨rfl, hsz, hP, hK, hD0⟩ := hv
  have hts := atoms_spec (ws := ws) B.pre
  have hown : s.vm.findClass y.cls = some m.cls := findClass_of_methodNamed B.named
  subst hsz
  have hD := hD0.self (sz := s.heap.size)
  have hA : ∀ q : Nat, s.heap.size ≤ q → va_A w0 s.heap.size q := fun q h => Or.inr h
  have hS : va_S (va_A w0 s.heap.size) s.heap s.heap [] := va_S.rf
  have hl := lv_entry av (n := maxL) hlen
  rw [lg_entry_eq]
  exact body p e s m below meth c _ _ _ _ B.exec B.bytes B.returns hml hown hts B.notSynchronized rfl hl ⟨hK, hP, hD, hS, hA⟩
section ZW
variable {p : Program} {l : Launch} {e : Env} {R : Room} {s : State} {m : MethodId} {args : Array Value} {below : List Frame} {meth : Method} {c : Code} {H : Heap} {locs : List Loc} {cells slots : Nat} {Q : State → Prop}
variable {cc : ByteArray} {pc : Nat} {ls : Array Slot} {rest : List Value} {G : va_G} {ca : Nat → ClassId} {A : Nat → Prop} {a : Nat} {ws ws1 : va_W} {H0 : Heap} {own ref C : String} {T : u_T} {N ci index : Nat} {Ts : List Cond} {av : List Value} {w1 : va_W} {v : Option Value}
theorem z_get (hexec : p.tables.exec = Jvm.exec) (hb : c.code = cc) (hts : ∀ w ∈ Ts, w.before args s = true) (hin : ∀ w ∈ u_ws C T N, w ∈ Ts) (hown : s.vm.findClass own = some m.cls) (hz : zw G ca A H0 s ws H locs) (q0 : Nat) {fs : List Value} (he : ws[q0]? = some (a, .inr (ci, fs))) (hc : vwCl[ci]? = some (C, T, N)) (k : Nat) (hk : k < N) (hlink : (Cond.fieldLink own index ref (T k).2.1 (T k).2.2.1).before args s = true) (hsame : (T k).1 = ref) {v : Value} (hv : fs[k]? = some v) (hdg : decode cc pc = .ok (.getfield index, 3))
    (kk : W p l e R s m args below meth c H locs cells slots Q (F0 m (pc + 3) ls (v :: rest))) : W p l e R s m args below meth c H locs cells slots Q (F0 m pc ls (.ref a :: rest)) :=
  va_get hexec hb hts hin hown hz.1.1 hz.2.1 q0 he hc k hk hlink (fun _ h => hsame ▸ h) hv hdg kk
theorem z_put (hexec : p.tables.exec = Jvm.exec) (hb : c.code = cc) (hts : ∀ w ∈ Ts, w.before args s = true) (hin : ∀ w ∈ u_ws C T N, w ∈ Ts) (ty0 : Nat → FieldType) (hty : ∀ k, k < N → parseFieldDescriptor (T k).2.2.1 = some (ty0 k)) (hnm : ∀ a, a < N → ∀ b, b < N → a ≠ b → (T a).2.1 ≠ (T b).2.1) (hown : s.vm.findClass own = some m.cls) (hz : zw G ca A H0 s ws H locs) (q0 : Nat) {fs : List Value} (he : ws[q0]? = some (a, .inr (ci, fs))) (hc : vwCl[ci]? = some (C, T, N)) (k : Nat) (hk : k < N) (hlink : (Cond.fieldLink own index ref (T k).2.1 (T k).2.2.1).before args s = true) (hsame : (T k).1 = ref) (hfin : (T k).2.2.2 = false) {v : Value} (hn : narrow (ty0 k) v = v) (hfit : fits (ty0 k) v = true) (hl : k < fs.length) (hw : ws.set q0 (a, .inr (ci, fs.set k v)) = ws1)
    (hdg : decode cc pc = .ok (.putfield index, 3)) (kk : ∀ (H1 : Heap) (locs1 : List Loc), zw G ca A H0 s ws1 H1 locs1 → W p l e R s m args below meth c H1 locs1 cells slots Q (F0 m (pc + 3) ls rest)) : W p l e R s m args below meth c H locs cells slots Q (F0 m pc ls (v :: .ref a :: rest)) := by
  subst hw
  exact va_put hexec hb hts hin ty0 hty hnm hown hz.1.1 hz.2.1 hz.2.2.1 hz.2.2.2.1 q0 he hc k hk hlink (fun _ h => hsame ▸ h) hfin (hty k hk) hn hfit hl hdg (fun H1 locs1 h1 h2 h3 => kk H1 locs1 ⟨hz.1, h1, h2, h3, hz.2.2.2.2⟩)
theorem z_iald (hexec : p.tables.exec = Jvm.exec) (hb : c.code = cc) (hz : zw G ca A H0 s ws H locs) (q0 : Nat) {n : Nat} {f : Nat → Int32} (ha : ws[q0]? = some (a, .inl (ca 1, n, .inl f))) {i : Int32} (j : Nat) (hi : i = nI j) (hj : j < n) (hn : n < 2 ^ 31) {x : Int32} (hv : f j = x) (hdg : decode cc pc = .ok (.iaload, 1))
    (kk : W p l e R s m args below meth c H locs cells slots Q (F0 m (pc + 1) ls (.int x :: rest))) : W p l e R s m args below meth c H locs cells slots Q (F0 m pc ls (.int i :: .ref a :: rest)) := by
  subst hi
  refine va_iald hexec hb hz.1.1 hz.2.1 q0 1 ha rfl (vp_in_nI hj hn) hdg ?_
  rw [nI_clamp (Nat.lt_trans hj hn), hv]
  exact kk
theorem z_cald (hexec : p.tables.exec = Jvm.exec) (hb : c.code = cc) (hz : zw G ca A H0 s ws H locs) (q0 : Nat) {n : Nat} {f : Nat → Int32} (ha : ws[q0]? = some (a, .inl (ca 0, n, .inl f))) {i : Int32} (j : Nat) (hi : i = nI j) (hj : j < n) (hn : n < 2 ^ 31) {x : Int32} (hv : f j = x) (hdg : decode cc pc = .ok (.caload, 1))
    (kk : W p l e R s m args below meth c H locs cells slots Q (F0 m (pc + 1) ls (.int x :: rest))) : W p l e R s m args below meth c H locs cells slots Q (F0 m pc ls (.int i :: .ref a :: rest)) := by
  subst hi
  refine va_cald hexec hb hz.1.1 hz.2.1 q0 0 ha rfl (vp_in_nI hj hn) hdg ?_
  rw [nI_clamp (Nat.lt_trans hj hn), hv]
  exact kk
theorem z_iast (hexec : p.tables.exec = Jvm.exec) (hb : c.code = cc) (hz : zw G ca A H0 s ws H locs) (q0 : Nat) {n : Nat} {f : Nat → Int32} (ha : ws[q0]? = some (a, .inl (ca 1, n, .inl f))) {i x : Int32} (j : Nat) (hi : i = nI j) (hj : j < n) (hn : n < 2 ^ 31) (hw : ws.set q0 (a, .inl (ca 1, n, .inl (upd f j x))) = ws1) (hdg : decode cc pc = .ok (.iastore, 1))
    (kk : ∀ (H1 : Heap) (locs1 : List Loc), zw G ca A H0 s ws1 H1 locs1 → W p l e R s m args below meth c H1 locs1 cells slots Q (F0 m (pc + 1) ls rest)) : W p l e R s m args below meth c H locs cells slots Q (F0 m pc ls (.int x :: .int i :: .ref a :: rest)) := by
  subst hi
  subst hw
  refine va_iast hexec hb hz.1.1 hz.2.1 hz.2.2.1 hz.2.2.2.1 q0 1 ha rfl (vp_in_nI hj hn) hdg (fun H1 locs1 h1 h2 h3 => ?_)
  rw [nI_clamp (Nat.lt_trans hj hn)] at h1 h2
  exact kk H1 locs1 ⟨hz.1, h1, h2, h3, hz.2.2.2.2⟩
theorem z_cast (hexec : p.tables.exec = Jvm.exec) (hb : c.code = cc) (hz : zw G ca A H0 s ws H locs) (q0 : Nat) {n : Nat} {f : Nat → Int32} (ha : ws[q0]? = some (a, .inl (ca 0, n, .inl f))) {i x : Int32} (j : Nat) (hi : i = nI j) (hj : j < n) (hn : n < 2 ^ 31) (hw : ws.set q0 (a, .inl (ca 0, n, .inl (upd f j (vp_nar .char x)))) = ws1) (hdg : decode cc pc = .ok (.castore, 1))
    (kk : ∀ (H1 : Heap) (locs1 : List Loc), zw G ca A H0 s ws1 H1 locs1 → W p l e R s m args below meth c H1 locs1 cells slots Q (F0 m (pc + 1) ls rest)) : W p l e R s m args below meth c H locs cells slots Q (F0 m pc ls (.int x :: .int i :: .ref a :: rest)) := by
  subst hi
  subst hw
  refine va_cast hexec hb hz.1.1 hz.2.1 hz.2.2.1 hz.2.2.2.1 q0 0 ha rfl (vp_in_nI hj hn) hdg (fun H1 locs1 h1 h2 h3 => ?_)
  rw [nI_clamp (Nat.lt_trans hj hn)] at h1 h2
  exact kk H1 locs1 ⟨hz.1, h1, h2, h3, hz.2.2.2.2⟩
theorem z_aald (hexec : p.tables.exec = Jvm.exec) (hb : c.code = cc) (hz : zw G ca A H0 s ws H locs) (q0 t0 : Nat) {C : String} {n b : Nat} {cA : ClassId} {f : Nat → Option Nat} (ha : ws[q0]? = some (a, .inl (cA, n, .inr (.inr (.inr (.inr f)))))) (ht : (zy ca)[t0]? = some (cA, .object C)) {i : Int32} (j : Nat) (hi : i = nI j) (hj : j < n) (hn : n < 2 ^ 31) (hf : f j = some b) (hdg : decode cc pc = .ok (.aaload, 1))
    (kk : W p l e R s m args below meth c H locs cells slots Q (F0 m (pc + 1) ls (.ref b :: rest))) : W p l e R s m args below meth c H locs cells slots Q (F0 m pc ls (.int i :: .ref a :: rest)) := by
  subst hi
  refine va_aldq hexec hb hz.1.1 hz.2.1 q0 t0 ha ht (vp_in_nI hj hn) hdg ?_
  rw [nI_clamp (Nat.lt_trans hj hn), hf]
  exact kk
theorem z_alen (hexec : p.tables.exec = Jvm.exec) (hb : c.code = cc) (hz : zw G ca A H0 s ws H locs) (q0 t0 : Nat) {x : vp_A} {cA : ClassId} (ha : ws[q0]? = some (a, .inl (cA, x))) {ty : FieldType} (ht : (zy ca)[t0]? = some (cA, ty)) {v : Int32} (hv : Int32.ofNat x.1 = v) (hdg : decode cc pc = .ok (.arraylength, 1))
    (kk : W p l e R s m args below meth c H locs cells slots Q (F0 m (pc + 1) ls (.int v :: rest))) : W p l e R s m args below meth c H locs cells slots Q (F0 m pc ls (.ref a :: rest)) :=
  va_alen hexec hb hz.1.1 hz.2.1 q0 t0 ha ht hv hdg kk
/-- the ends: what is answered and the world are the contract's -/
theorem z_iret (hexec : p.tables.exec = Jvm.exec) (hb : c.code = cc) (hr : meth.sig.returnType = some .int) (hlocks : meth.locks = false) (hQ : Q = zEnd G ca below args s A v w1) (hz : zw G ca A s.heap s ws H locs) {x : Int32} (hdg : decode cc pc = .ok (.ireturn, 1)) (hv : v = some (.int x)) (hw : w1 = ws) : W p l e R s m args below meth c H locs 0 0 Q (F0 m pc ls [.int x]) := by
  subst hQ
  subst hv
  subst hw
  obtain ⟨hK, hP, hD, hS, hA⟩ := hz
  exact W.iret hexec hb hr (fun t ht hW => ⟨rfl, by rw [ht]; exact hP, hD, hS.F ht⟩) hS.2.2 hdg hlocks
theorem z_zret (hexec : p.tables.exec = Jvm.exec) (hb : c.code = cc) (hr : meth.sig.returnType = some .boolean) (hlocks : meth.locks = false) (hQ : Q = zEnd G ca below args s A v w1) (hz : zw G ca A s.heap s ws H locs) {x : Int32} (hn : narrow .boolean (.int x) = .int x) (hdg : decode cc pc = .ok (.ireturn, 1)) (hv : v = some (.int x)) (hw : w1 = ws) : W p l e R s m args below meth c H locs 0 0 Q (F0 m pc ls [.int x]) := by
  subst hQ
  subst hv
  subst hw
  obtain ⟨hK, hP, hD, hS, hA⟩ := hz
  exact W.zret hexec hb hr hn (fun t ht hW => ⟨rfl, by rw [ht]; exact hP, hD, hS.F ht⟩) hS.2.2 hdg hlocks
theorem z_vret (hexec : p.tables.exec = Jvm.exec) (hb : c.code = cc) (hr : meth.sig.returnType = none) (hlocks : meth.locks = false) (hQ : Q = zEnd G ca below args s A v w1) (hz : zw G ca A s.heap s ws H locs) (hdg : decode cc pc = .ok (.return_, 1)) (hv : v = none) (hw : w1 = ws) : W p l e R s m args below meth c H locs 0 0 Q (F0 m pc ls []) := by
  subst hQ
  subst hv
  subst hw
  obtain ⟨hK, hP, hD, hS, hA⟩ := hz
  exact W.vret hexec hb hr (fun t ht hW => ⟨rfl, by rw [ht]; exact hP, hD, hS.F ht⟩) hS.2.2 hdg hlocks
theorem z_aret (hexec : p.tables.exec = Jvm.exec) (hb : c.code = cc) {rt : FieldType} (hr : meth.sig.returnType = some rt) (hrt : (∃ n, rt = .object n) ∨ ∃ t, rt = .array t) (hlocks : meth.locks = false) (hQ : Q = zEnd G ca below args s A v w1) (hz : zw G ca A s.heap s ws H locs) {x : Value} (hx : x = .null ∨ ∃ a, x = .ref a) (hdg : decode cc pc = .ok (.areturn, 1)) (hv : v = some x) (hw : w1 = ws) : W p l e R s m args below meth c H locs 0 0 Q (F0 m pc ls [x]) := by
  subst hQ
  subst hv
  subst hw
  obtain ⟨hK, hP, hD, hS, hA⟩ := hz
  exact W.aret hexec hb hr hrt hx (fun t ht hW => ⟨rfl, by rw [ht]; exact hP, hD, hS.F ht⟩) hS.2.2 hdg hlocks
/-- another name of the top number -/
theorem z_top {x y : Int32} (e0 : x = y) (kk : W p l e R s m args below meth c H locs cells slots Q (F0 m pc ls (.int y :: rest))) : W p l e R s m args below meth c H locs cells slots Q (F0 m pc ls (.int x :: rest)) := e0 ▸ kk
/-- another name of the same world -/
theorem zw.as (hz : zw G ca A H0 s ws H locs) (h : ws = ws1) : zw G ca A H0 s ws1 H locs := h ▸ hz
end ZW
/-! the cells of a world in another order -/
theorem zP_mem {D : va_G} {cl : List vw_C} {ws : va_W} {H : Heap} : va_P D cl ws H ↔ ∀ q ∈ ws, va_at D cl q H :=
  ⟨fun h q hq => by obtain ⟨i, hi⟩ := List.getElem?_of_mem hq; exact h i q hi, fun h k q hk => h q (List.mem_of_getElem? hk)⟩
theorem zD_iff {A : Nat → Prop} {ws : va_W} : va_D A ws ↔ (ws.map (fun q => q.1)).Nodup ∧ ∀ q ∈ ws, A q.1 := by
  constructor
  · intro h
    refine ⟨?_, fun q hq => by obtain ⟨i, hi⟩ := List.getElem?_of_mem hq; exact h.2 i q hi⟩
    rw [List.nodup_iff_pairwise_ne, List.pairwise_iff_getElem]
    intro i j hi hj hij e
    rw [List.length_map] at hi hj
    rw [List.getElem_map, List.getElem_map] at e
    have := h.1 i j ws[i] ws[j] (List.getElem?_eq_getElem hi) (List.getElem?_eq_getElem hj) e
    omega
  · intro h
    refine ⟨fun i j p q hp hq e => ?_, fun k q hk => h.2 q (List.mem_of_getElem? hk)⟩
    obtain ⟨hi, ei⟩ := List.getElem?_eq_some_iff.mp hp
    obtain ⟨hj, ej⟩ := List.getElem?_eq_some_iff.mp hq
    have hn := h.1
    rw [List.nodup_iff_pairwise_ne, List.pairwise_iff_getElem] at hn
    rcases Nat.lt_trichotomy i j with g | g | g
    · exact absurd (by rw [List.getElem_map, List.getElem_map, ei, ej]; exact e) (hn i j (by rw [List.length_map]; exact hi) (by rw [List.length_map]; exact hj) g)
    · exact g
    · exact absurd (by rw [List.getElem_map, List.getElem_map, ei, ej]; exact e.symm) (hn j i (by rw [List.length_map]; exact hj) (by rw [List.length_map]; exact hi) g)
theorem zP_perm {D : va_G} {cl : List vw_C} {ws ws1 : va_W} {H : Heap} (p : ws.Perm ws1) (h : va_P D cl ws H) : va_P D cl ws1 H :=
  zP_mem.mpr fun q hq => zP_mem.mp h q (p.mem_iff.mpr hq)
theorem zD_perm {A : Nat → Prop} {ws ws1 : va_W} (p : ws.Perm ws1) (h : va_D A ws) : va_D A ws1 :=
  zD_iff.mpr ⟨(p.map _).nodup_iff.mp (zD_iff.mp h).1, fun q hq => (zD_iff.mp h).2 q (p.mem_iff.mpr hq)⟩
theorem zw.perm {G : va_G} {ca : Nat → ClassId} {A : Nat → Prop} {H0 : Heap} {s : State} {ws ws1 : va_W} {H : Heap} {locs : List Loc} (hz : zw G ca A H0 s ws H locs) (p : ws.Perm ws1) : zw G ca A H0 s ws1 H locs :=
  ⟨hz.1, zP_perm p hz.2.1, zD_perm p hz.2.2.1, hz.2.2.2⟩
/-- the frame rule: the callee's cells ahead, the rest behind -/
theorem z_join {G : va_G} {ca : Nat → ClassId} {A : Nat → Prop} {ws wc wc1 wr : va_W} {H H1 : Heap} (hP : va_P G vwCl ws H) (hD : va_D A ws) (pm : ws.Perm (wc ++ wr)) (hF : ∀ q, va_A wc H.size q → A q) (hk : ∀ q : Nat, q < H.size → ¬ va_A wc H.size q → H1[q]? = H[q]?) (hP1 : va_P G vwCl wc1 H1) (hD1 : va_D (va_A wc H.size) wc1) : va_P G vwCl (wc1 ++ wr) H1 ∧ va_D A (wc1 ++ wr) := by
  have hPp := zP_perm pm hP
  have hDp := zD_perm pm hD
  have hPr : va_P G vwCl wr H := zP_mem.mpr fun q hq => zP_mem.mp hPp q (List.mem_append_right _ hq)
  have hDn := (zD_iff.mp hDp).1
  rw [List.map_append, List.nodup_append] at hDn
  have hDr : va_D A wr := zD_iff.mpr ⟨hDn.2.1, fun q hq => (zD_iff.mp hDp).2 q (List.mem_append_right _ hq)⟩
  have apart : ∀ (k : Nat) (q : Nat × va_E), wr[k]? = some q → q.1 < H.size ∧ ¬ va_A wc H.size q.1 := by
    intro k q hq
    have hl := (hPr k q hq).lt
    refine ⟨hl, fun h => ?_⟩
    rcases h with ⟨k2, e, h⟩ | h
    · exact hDn.2.2 q.1 (List.mem_map.mpr ⟨(q.1, e), List.mem_of_getElem? h, rfl⟩) q.1 (List.mem_map.mpr ⟨q, List.mem_of_getElem? hq, rfl⟩) rfl
    · omega
  refine ⟨hP1.app (hPr.kept fun k q hq => hk q.1 (apart k q hq).1 (apart k q hq).2), va_D.app (hD1.weaken (fun k q _ h => hF q.1 h)) hDr (fun i j x y hx hy hxy => ?_)⟩
  exact (apart j y hy).2 (by rw [← hxy]; exact hD1.2 i x hx)
theorem z_freeA {A : Nat → Prop} {ws wc wr : va_W} {H0 H : Heap} {locs : List Loc} (hD : va_D A ws) (hS : va_S A H0 H locs) (hA : ∀ q, H0.size ≤ q → A q) (pm : ws.Perm (wc ++ wr)) : ∀ q, va_A wc H.size q → A q := by
  intro q h
  rcases h with ⟨k, e, h⟩ | h
  · exact (zD_iff.mp (zD_perm pm hD)).2 (q, e) (List.mem_append_left _ (List.mem_of_getElem? h))
  · exact hA q (Nat.le_trans hS.1 h)
section ZC
variable {p : Program} {l : Launch} {e : Env} {R : Room} {s : State} {m : MethodId} {args : Array Value} {below : List Frame} {meth : Method} {c : Code} {H : Heap} {locs : List Loc} {cells slots : Nat} {Q : State → Prop}
variable {cc bytes : ByteArray} {pc nL maxL index n : Nat} {ls : Array Slot} {rest As : List Value} {G : va_G} {ca : Nat → ClassId} {A : Nat → Prop} {b : Nat} {ws ws1 wc wc1 : va_W} {H0 : Heap} {own C host : String} {Ts wy : List Cond} {y : MethodName} {ret : Option FieldType} {rm : Room} {v : Option Value}
theorem z_blind {av : List Value} {w0 : va_W} {sz : Nat} : FrameBlind (zPre G ca av w0 sz) := fun a U g mk q => by
  obtain ⟨q0, q1, qP, qK, qD⟩ := q
  exact ⟨q0, q1, qP, ⟨va_K.moved (u := U) (U := U.calling g mk a) (Vm.Alike.refl U.vm) qK.1, zN_same (u := U) (U := U.calling g mk a) rfl qK.2⟩, qD⟩
theorem z_back {st0 : List Value} {aa : Array Value} (hr : va_Run p l e R s m args below meth c H locs cells slots 0 0 (F0 m pc ls st0) rest (zPostA G ca v wc1 (va_A wc H.size) aa) (va_A wc H.size)) (hz : zw G ca A H0 s ws H locs) (wr : va_W) (pm : ws.Perm (wc ++ wr)) (pm1 : (wc1 ++ wr).Perm ws1)
    (kk : ∀ (H1 : Heap) (locs1 : List Loc), zw G ca A H0 s ws1 H1 locs1 → W p l e R s m args below meth c H1 locs1 cells slots Q (F0 m (pc + 3) ls (v.toList ++ rest))) : W p l e R s m args below meth c H locs cells slots Q (F0 m pc ls st0) := by
  intro T hT X
  obtain ⟨v', st₀, t, T', L, h0, X', hL, e1, e2, ⟨hv, hP1, hD1, hz1, hk⟩, st⟩ := hr T hT X
  cases hv
  rw [h0] at hz1 hk
  obtain ⟨hK, hP, hD, hS, hA⟩ := hz
  have hF := z_freeA hD hS hA pm
  obtain ⟨hP2, hD2⟩ := z_join (ca := ca) hP hD pm hF hk hP1 hD1
  have hS2 : va_S A H0 T'.heap (locs ++ L) := ⟨Nat.le_trans hS.1 (by rw [e1]; exact hz1), fun q h1 h2 => by rw [e1, hk q (Nat.lt_of_lt_of_le h1 hS.1) (fun z => h2 (hF q z))]; exact hS.2.1 q h1 h2, fun q hq => by
      rcases List.mem_append.mp hq with h | h
      · exact hS.2.2 q h
      · exact hF _ (hL q h)⟩
  obtain ⟨t2, a1, b1⟩ := kk T'.heap (locs ++ L) ⟨hK, zP_perm pm1 (by rw [e1]; exact hP2), zD_perm pm1 hD2, hS2, hA⟩ T' rfl X'
  exact ⟨t2, st t2 a1, b1⟩
theorem z_ready (hz : zw G ca A H0 s ws H locs) (wr : va_W) (pm : ws.Perm (wc ++ wr)) (av : List Value) : ∀ U : State, U.heap = H → s.WarmedH U.vm → zPre G ca av wc H.size av.toArray U := by
  intro U hU hW
  obtain ⟨hK, hP, hD, hS, hA⟩ := hz
  have hPc : va_P G vwCl wc H := zP_mem.mpr fun q hq => zP_mem.mp (zP_perm pm hP) q (List.mem_append_left _ hq)
  have hDn := (zD_iff.mp (zD_perm pm hD)).1
  rw [List.map_append, List.nodup_append] at hDn
  exact ⟨rfl, by rw [hU], by rw [hU]; exact hPc, ⟨va_K.moved hW.alike hK.1, zN_warm hW hK.2⟩, zD_iff.mpr ⟨hDn.1, fun _ _ => trivial⟩⟩
theorem z_recv {ci : Nat} {r : vw_C} {fs : List Value} {tl : va_W} (hz : zw G ca A H0 s ws H locs) (wr : va_W) (pm : ws.Perm (wc ++ wr)) (hwc : wc = (b, .inr (ci, fs)) :: tl) (hc : vwCl[ci]? = some r) : ∃ cellB : Cell, H[b]? = some cellB ∧ cellB.vm.isStatics = false ∧ s.vm.findClass r.1 = some cellB.cls := by
  obtain ⟨hK, hP, -⟩ := hz
  have hPc : va_P G vwCl wc H := zP_mem.mpr fun q hq => zP_mem.mp (zP_perm pm hP) q (List.mem_append_left _ hq)
  exact va_recv hK.1 hPc (ci := ci) (q0 := 0) (q := r) hc (by rw [hwc]; rfl)
/-- invokevirtual: 'wr' is the rest of the world -/
theorem z_runV (S : CallFix p m c cc nL s args Ts own) (hM : Zc l G ca y wy rm (.ref b :: As) wc v wc1) (cw : CallW R s args own C index y bytes maxL ret wy rm 0 0 n) (hz : zw G ca A H0 s ws H locs) (wr : va_W) (pm : ws.Perm (wc ++ wr)) (pm1 : (wc1 ++ wr).Perm ws1) {ci : Nat} {T : u_T} {N : Nat} {fs : List Value} {tl : va_W} (hwc : wc = (b, .inr (ci, fs)) :: tl) (hc : vwCl[ci]? = some (C, T, N))
    (hn : As.length = n) (hsize : ls.size = nL) (hW : (rest.map fun v => v.category).sum ≤ 8) {st1 : List Value} (hst : v.toList ++ rest = st1) (hdg : decode cc pc = .ok (.invokevirtual index, 3)) (hf : cells ≤ R.cells ∧ slots ≤ R.slots)
    (kk : ∀ (H1 : Heap) (locs1 : List Loc), zw G ca A H0 s ws1 H1 locs1 → W p l e R s m args below meth c H1 locs1 cells slots Q (F0 m (pc + 3) ls st1)) : W p l e R s m args below meth c H locs cells slots Q (F0 m pc ls (As.reverse ++ .ref b :: rest)) := by
  subst hst
  exact z_back (va_runV (As := As) (rest := rest) S (hM H.size) cw ⟨z_blind, z_recv (r := (C, T, N)) hz wr pm hwc hc, z_ready hz wr pm _⟩ rfl hn hsize rfl (lv_room hW) hdg hf) hz wr pm pm1 kk
theorem z_runS (S : CallFix p m c cc nL s args Ts own) (hM : Zc l G ca y wy rm As wc v wc1) (cw : CallB R s args own index y bytes maxL ret wy rm 0 0 n ∧ (Cond.static y).before args s = true) (hz : zw G ca A H0 s ws H locs) (wr : va_W) (pm : ws.Perm (wc ++ wr)) (pm1 : (wc1 ++ wr).Perm ws1)
    (hn : As.length = n) (hsize : ls.size = nL) (hW : (rest.map fun v => v.category).sum ≤ 8) {st1 : List Value} (hst : v.toList ++ rest = st1) (hdg : decode cc pc = .ok (.invokestatic index, 3)) (hf : cells ≤ R.cells ∧ slots ≤ R.slots)
    (kk : ∀ (H1 : Heap) (locs1 : List Loc), zw G ca A H0 s ws1 H1 locs1 → W p l e R s m args below meth c H1 locs1 cells slots Q (F0 m (pc + 3) ls st1)) : W p l e R s m args below meth c H locs cells slots Q (F0 m pc ls (As.reverse ++ rest)) := by
  subst hst
  exact z_back (va_runS (As := As) (rest := rest) S (hM H.size) cw ⟨z_blind, z_ready hz wr pm _⟩ rfl hn hsize rfl (lv_room hW) hdg hf) hz wr pm pm1 kk
theorem z_runSN (S : CallFix p m c cc nL s args Ts own) (hM : Zc l G ca y wy rm As wc v wc1) (cw : va_CN R s args own index y host bytes maxL ret wy rm 0 0 n ∧ (Cond.static y).before args s = true ∧ True) (hz : zw G ca A H0 s ws H locs) (wr : va_W) (pm : ws.Perm (wc ++ wr)) (pm1 : (wc1 ++ wr).Perm ws1)
    (hn : As.length = n) (hsize : ls.size = nL) (hW : (rest.map fun v => v.category).sum ≤ 8) {st1 : List Value} (hst : v.toList ++ rest = st1) (hdg : decode cc pc = .ok (.invokestatic index, 3)) (hf : cells ≤ R.cells ∧ slots ≤ R.slots)
    (kk : ∀ (H1 : Heap) (locs1 : List Loc), zw G ca A H0 s ws1 H1 locs1 → W p l e R s m args below meth c H1 locs1 cells slots Q (F0 m (pc + 3) ls st1)) : W p l e R s m args below meth c H locs cells slots Q (F0 m pc ls (As.reverse ++ rest)) := by
  subst hst
  exact z_back (va_runSN (As := As) (rest := rest) S (hM H.size) cw ⟨z_blind, z_ready hz wr pm _⟩ rfl hn hsize rfl (lv_room hW) hdg hf) hz wr pm pm1 kk
end ZC
/-- nothing beside the callee's cells -/
theorem zp_all {ws : va_W} : ws.Perm (ws ++ []) := by rw [List.append_nil]
theorem zp_all' {ws : va_W} : (ws ++ []).Perm ws := by rw [List.append_nil]
/-- the callee touches no cell -/
theorem zp_no {ws : va_W} : ws.Perm ([] ++ ws) := List.Perm.refl _
