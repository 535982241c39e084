/-! ===== constructors: what they make is new; where, is not said ===== -/
def zAO (U : State) : Prop := va_AO RX0 U ∧ va_AO RX2 U
theorem zAO.moved {u U : State} (hvm : u.vm.Alike U.vm) (h : zAO u) : zAO U := ⟨h.1.moved hvm, h.2.moved hvm⟩
theorem zRA_u {U : State} {c1 c2 : ClassId} {ty : FieldType} (h1 : va_RA U c1 ty) (h2 : va_RA U c2 ty) : c1 = c2 := by
  cases ty with
  | object C =>
    obtain ⟨_, _, _, _, _, e1⟩ := h1
    obtain ⟨_, _, _, _, _, e2⟩ := h2
    exact Option.some.inj (e1.symm.trans e2)
  | _ => exact Option.some.inj (Eq.trans (Eq.symm h1) h2)
def zPreK (G : va_G) (ca : Nat → ClassId) (av : List Value) (w0 : va_W) (sz : Nat) : Array Value → State → Prop :=
  va_Pc av (fun U => U.heap.size = sz ∧ va_P G vwCl w0 U.heap ∧ (zK G ca U ∧ zAO U) ∧ va_D (fun _ => True) w0)
def zPostK (G : va_G) (W1 : va_W → Prop) (A : Nat → Prop) : Array Value → State → Outcome → State → Prop :=
  fun _ st oc t => oc = .returned none ∧ (∃ w1, W1 w1 ∧ va_P G vwCl w1 t.heap ∧ va_D A w1) ∧ va_F A st t
def Zk (l : Launch) (G : va_G) (ca : Nat → ClassId) (y : MethodName) (ws : List Cond) (rm : Room) (av : List Value) (w0 : va_W) (W1 : va_W → Prop) (mc ms : Nat) : Prop :=
  ∀ sz : Nat, Met l y ws rm (zPreK G ca av w0 sz) (zPostK G W1 (va_A w0 sz)) mc ms (va_A w0 sz)
theorem Zk.of {l : Launch} {G : va_G} {ca : Nat → ClassId} {y : MethodName} {ws ws' : List Cond} {rm : Room} {av : List Value} {w0 : va_W} {W1 : va_W → Prop} {mc ms : Nat} {cc : ByteArray} {maxL : Nat} {ret : Option FieldType}
    (hy : plainName y.cls = true) (hy1 : y.name = "<init>") (hw : ws = Cond.code y cc maxL ret :: ws') (hlen : (lg_sl av).length ≤ maxL)
    (body : ∀ (p : Program) (e : Env) (s : State) (m : MethodId) (below : List Frame) (meth : Method) (c : Code) (A : Nat → Prop) (args : Array Value) (Q : State → Prop) (ls : Array Slot), p.tables.exec = Jvm.exec → c.code = cc → meth.sig.returnType = ret → c.maxLocals = maxL → s.vm.findClass y.cls = some m.cls → (∀ w ∈ ws, w.before args s = true) → meth.locks = false → meth.name = "<init>" → Q = MQ below (zPostK G W1 A) args s mc ms A → lv_has ls maxL (lv_args 0 av) → zAO s → zw G ca A s.heap s w0 s.heap [] →
      W p l e rm s m args below meth c s.heap [] 0 0 Q (F0 m 0 ls [])) : Zk l G ca y ws rm av w0 W1 mc ms := by
  intro sz
  refine Met.ofW (cc := cc) (maxL := maxL) (ret := ret) hy hw ?_
  intro p e s m args below meth c s₁ B hml hv
  obtain ⟨rfl, hsz, hP, hK, hD0⟩ := hv
  have hts := atoms_spec (ws := ws) B.pre
  have hown : s.vm.findClass y.cls = some m.cls := findClass_of_methodNamed B.named
  have hin : meth.name = "<init>" := (name_of_methodNamed B.named B.method).1.trans hy1
  subst hsz
  have hD := hD0.self (sz := s.heap.size)
  have hA : ∀ q : Nat, s.heap.size ≤ q → va_A w0 s.heap.size q := fun q h => Or.inr h
  have hS : va_S (va_A w0 s.heap.size) s.heap s.heap [] := va_S.rf
  have hl := lv_entry av (n := maxL) hlen
  rw [lg_entry_eq]
  exact body p e s m below meth c _ _ _ _ B.exec B.bytes B.returns hml hown hts B.notSynchronized hin rfl hl hK.2 ⟨hK.1, hP, hD, hS, hA⟩
section ZK
variable {p : Program} {l : Launch} {e : Env} {R : Room} {s : State} {m : MethodId} {args : Array Value} {below : List Frame} {meth : Method} {c : Code} {H : Heap} {locs : List Loc} {cells slots mc ms : Nat} {Q : State → Prop}
variable {cc bytes : ByteArray} {pc nL maxL index n : Nat} {ls : Array Slot} {rest As : List Value} {G : va_G} {ca : Nat → ClassId} {A : Nat → Prop} {a b : Nat} {ws ws1 wc : va_W} {H0 : Heap} {own ref C host : String} {T : u_T} {N ci : Nat} {Ts wy : List Cond} {y : MethodName} {rm : Room} {W1 : va_W → Prop}
theorem z_vretK (hexec : p.tables.exec = Jvm.exec) (hb : c.code = cc) (hr : meth.sig.returnType = none) (hlocks : meth.locks = false) (hQ : Q = MQ below (zPostK G W1 A) args s mc ms A) (hz : zw G ca A s.heap s ws H locs) (hdg : decode cc pc = .ok (.return_, 1)) (hw : W1 ws) : W p l e R s m args below meth c H locs mc ms Q (F0 m pc ls []) := by
  subst hQ
  obtain ⟨hK, hP, hD, hS, hA⟩ := hz
  exact W.vret hexec hb hr (fun t ht hW => ⟨rfl, ⟨ws, hw, by rw [ht]; exact hP, hD⟩, hS.F ht⟩) hS.2.2 hdg hlocks
theorem z_putF (hexec : p.tables.exec = Jvm.exec) (hb : c.code = cc) (hts : ∀ w ∈ Ts, w.before args s = true) (hin : ∀ w ∈ u_ws C T N, w ∈ Ts) (ty0 : Nat → FieldType) (hty : ∀ k, k < N → parseFieldDescriptor (T k).2.2.1 = some (ty0 k)) (hnm : ∀ a, a < N → ∀ b, b < N → a ≠ b → (T a).2.1 ≠ (T b).2.1) (hown : s.vm.findClass own = some m.cls) (hin2 : meth.name = "<init>") (hz : zw G ca A H0 s ws H locs) (q0 : Nat) {fs : List Value} (he : ws[q0]? = some (a, .inr (ci, fs))) (hc : vwCl[ci]? = some (C, T, N)) (k : Nat) (hk : k < N) (hlink : (Cond.fieldLink own index ref (T k).2.1 (T k).2.2.1).before args s = true) (hsame : (T k).1 = ref) (hfin : (T k).2.2.2 = true) (hdecl : (T k).1 = own) {v : Value} (hn : narrow (ty0 k) v = v) (hfit : fits (ty0 k) v = true) (hl : k < fs.length) (hw : ws.set q0 (a, .inr (ci, fs.set k v)) = ws1)
    (hdg : decode cc pc = .ok (.putfield index, 3)) (kk : ∀ (H1 : Heap) (locs1 : List Loc), zw G ca A H0 s ws1 H1 locs1 → W p l e R s m args below meth c H1 locs1 cells slots Q (F0 m (pc + 3) ls rest)) : W p l e R s m args below meth c H locs cells slots Q (F0 m pc ls (v :: .ref a :: rest)) := by
  subst hw
  exact va_putF hexec hb hts hin ty0 hty hnm hown hz.1.1 hz.2.1 hz.2.2.1 hz.2.2.2.1 q0 he hc k hk hlink (fun _ h => hsame ▸ h) hfin hin2 hdecl (hty k hk) hn hfit hl hdg (fun H1 locs1 h1 h2 h3 => kk H1 locs1 ⟨hz.1, h1, h2, h3, hz.2.2.2.2⟩)
theorem z_newa (hexec : p.tables.exec = Jvm.exec) (hb : c.code = cc) {atype : ArrayType} (harr : (Cond.arrayClass (newarray.typeOf atype)).before args s = true) {ty : FieldType} (hty : newarray.typeOf atype = ty) (hz : zw G ca A H0 s ws H locs) (t0 : Nat) {cA : ClassId} (ht : (zy ca)[t0]? = some (cA, ty))
    {n : Int32} {N' : Nat} {a0 : vp_A} (ha : ∀ cA : ClassId, vp_cell cA a0 = arrV cA N' (fun _ => defaultValue ty)) (hn : ¬ n < 0) (hN : n.toNatClampNeg = N') (hbytes : N' * componentBytes ty ≤ 536870912) (hcells : cells + 1 ≤ R.cells) (hslots : slots + N' ≤ R.slots) (hdg : decode cc pc = .ok (.newarray atype, 2))
    (kk : ∀ (q : Nat) (H1 : Heap), zw G ca A H0 s (ws ++ [(q, .inl (cA, a0))]) H1 locs → W p l e R s m args below meth c H1 locs (cells + 1) (slots + N') Q (F0 m (pc + 2) ls (.ref q :: rest))) : W p l e R s m args below meth c H locs cells slots Q (F0 m pc ls (.int n :: rest)) := by
  refine va_newa hexec hb harr hty hz.1.1 hz.2.1 hz.2.2.1 hz.2.2.2.1 hz.2.2.2.2 ha hn hN hbytes hcells hslots hdg (fun q cB H1 hK1 hP hD hS => ?_)
  have h1 := (hK1.2 5 (cB, ty) rfl).2
  have h2 := (hz.1.1.2 t0 _ ht).2
  have e1 : cB = cA := zRA_u h1 h2
  subst e1
  exact kk q H1 ⟨hz.1, hP, hD, hS, hz.2.2.2.2⟩
theorem z_newq (hexec : p.tables.exec = Jvm.exec) (hb : c.code = cc) (hown : s.vm.findClass own = some m.cls) (hclink : (Cond.classLink own index C).before args s = true) (hover : va_AO C s) (hz : zw G ca A H0 s ws H locs) (t0 : Nat) {cA : ClassId} (ht : (zy ca)[t0]? = some (cA, .object C))
    {n : Int32} {N' : Nat} (hn : ¬ n < 0) (hN : n.toNatClampNeg = N') (hbytes : N' * 4 ≤ 536870912) (hcells : cells + 1 ≤ R.cells) (hslots : slots + N' ≤ R.slots) (hdg : decode cc pc = .ok (.anewarray index, 3))
    (kk : ∀ (q : Nat) (H1 : Heap), zw G ca A H0 s (ws ++ [(q, .inl (cA, N', .inr (.inr (.inr (.inr (fun _ => none))))))]) H1 locs → W p l e R s m args below meth c H1 locs (cells + 1) (slots + N') Q (F0 m (pc + 3) ls (.ref q :: rest))) : W p l e R s m args below meth c H locs cells slots Q (F0 m pc ls (.int n :: rest)) := by
  refine va_newq hexec hb hown hclink hover hz.1.1 hz.2.1 hz.2.2.1 hz.2.2.2.1 hz.2.2.2.2 hn hN hbytes hcells hslots hdg (fun q cB H1 hK1 hP hD hS => ?_)
  have h1 := (hK1.2 5 (cB, .object C) rfl).2
  have h2 := (hz.1.1.2 t0 _ ht).2
  have e1 : cB = cA := zRA_u h1 h2
  subst e1
  exact kk q H1 ⟨hz.1, hP, hD, hS, hz.2.2.2.2⟩
theorem z_new (hexec : p.tables.exec = Jvm.exec) (hb : c.code = cc) (hts : ∀ w ∈ Ts, w.before args s = true) (hin : ∀ w ∈ u_ws C T N, w ∈ Ts) (ty : Nat → FieldType) (hty : ∀ k, k < N → parseFieldDescriptor (T k).2.2.1 = some (ty k)) (hown : s.vm.findClass own = some m.cls) (hcl : (Cond.classLink own index C).before args s = true) (hinst : (Cond.instantiable C N).before args s = true) (hini : (Cond.initialized C).before args s = true)
    (hz : zw G ca A H0 s ws H locs) (hc : vwCl[ci]? = some (C, T, N)) {fs : List Value} (hfs : ∀ j, j < N → defaultValue (ty j) = vp_V fs j) (hcells : cells + 1 ≤ R.cells) (hslots : slots + N ≤ R.slots) (hdg : decode cc pc = .ok (.new index, 3))
    (kk : ∀ (q : Nat) (H1 : Heap), zw G ca A H0 s (ws ++ [(q, .inr (ci, fs))]) H1 locs → W p l e R s m args below meth c H1 locs (cells + 1) (slots + N) Q (F0 m (pc + 3) ls (.ref q :: rest))) : W p l e R s m args below meth c H locs cells slots Q (F0 m pc ls rest) :=
  va_new hexec hb hts hin ty hty hown hcl hinst hini hz.1.1 hz.2.1 hz.2.2.1 hz.2.2.2.1 hz.2.2.2.2 hc hfs hcells hslots hdg (fun q H1 hP hD hS => kk q H1 ⟨hz.1, hP, hD, hS, hz.2.2.2.2⟩)
theorem z_blindK {av : List Value} {w0 : va_W} {sz : Nat} : FrameBlind (zPreK G ca av w0 sz) := fun a U g mk q => by
  obtain ⟨q0, q1, qP, ⟨qK, qA⟩, qD⟩ := q
  exact ⟨q0, q1, qP, ⟨⟨va_K.moved (u := U) (U := U.calling g mk a) (Vm.Alike.refl U.vm) qK.1, zN_same (u := U) (U := U.calling g mk a) rfl qK.2⟩, qA.moved (u := U) (U := U.calling g mk a) (Vm.Alike.refl U.vm)⟩, qD⟩
theorem z_readyK (hz : zw G ca A H0 s ws H locs) (hAO : zAO s) (wr : va_W) (pm : ws.Perm (wc ++ wr)) (av : List Value) : ∀ U : State, U.heap = H → s.WarmedH U.vm → zPreK G ca av wc H.size av.toArray U := by
  intro U hU hW
  obtain ⟨hK, hP, hD, hS, hA⟩ := hz
  have hPc : va_P G vwCl wc H := zP_mem.mpr fun q hq => zP_mem.mp (zP_perm pm hP) q (List.mem_append_left _ hq)
  have hDn := (zD_iff.mp (zD_perm pm hD)).1
  rw [List.map_append, List.nodup_append] at hDn
  exact ⟨rfl, by rw [hU], by rw [hU]; exact hPc, ⟨⟨va_K.moved hW.alike hK.1, zN_warm hW hK.2⟩, hAO.moved hW.alike⟩, zD_iff.mpr ⟨hDn.1, fun _ _ => trivial⟩⟩
theorem z_backK {st0 : List Value} {aa : Array Value} (hr : va_Run p l e R s m args below meth c H locs cells slots mc ms (F0 m pc ls st0) rest (zPostK G W1 (va_A wc H.size) aa) (va_A wc H.size)) (hz : zw G ca A H0 s ws H locs) (wr : va_W) (pm : ws.Perm (wc ++ wr))
    (kk : ∀ (w1 : va_W), W1 w1 → ∀ (H1 : Heap) (locs1 : List Loc), zw G ca A H0 s (w1 ++ wr) H1 locs1 → W p l e R s m args below meth c H1 locs1 (cells + mc) (slots + ms) Q (F0 m (pc + 3) ls rest)) : W p l e R s m args below meth c H locs cells slots Q (F0 m pc ls st0) := by
  intro T hT X
  obtain ⟨v', st₀, t, T', L, h0, X', hL, e1, e2, ⟨hv, ⟨w1, hw1, hP1, hD1⟩, hz1, hk⟩, st⟩ := hr T hT X
  cases hv
  rw [h0] at hz1 hk
  obtain ⟨hK, hP, hD, hS, hA⟩ := hz
  have hF := z_freeA hD hS hA pm
  obtain ⟨hP2, hD2⟩ := z_join (ca := ca) hP hD pm hF hk hP1 hD1
  have hS2 : va_S A H0 T'.heap (locs ++ L) := ⟨Nat.le_trans hS.1 (by rw [e1]; exact hz1), fun q h1 h2 => by rw [e1, hk q (Nat.lt_of_lt_of_le h1 hS.1) (fun z => h2 (hF q z))]; exact hS.2.1 q h1 h2, fun q hq => by
      rcases List.mem_append.mp hq with h | h
      · exact hS.2.2 q h
      · exact hF _ (hL q h)⟩
  obtain ⟨t2, a1, b1⟩ := kk w1 hw1 T'.heap (locs ++ L) ⟨hK, by rw [e1]; exact hP2, hD2, hS2, hA⟩ T' rfl X'
  exact ⟨t2, st t2 a1, b1⟩
theorem z_runI (S : CallFix p m c cc nL s args Ts own) (hM : Zk l G ca y wy rm (.ref b :: As) wc W1 mc ms) (cw : CallB R s args own index y bytes maxL none wy rm mc ms n ∧ y.name = "<init>" ∧ (Cond.instanceMethod y).before args s = true) (hz : zw G ca A H0 s ws H locs) (hAO : zAO s) (wr : va_W) (pm : ws.Perm (wc ++ wr))
    (hn : As.length = n) (hsize : ls.size = nL) (hW : (rest.map fun v => v.category).sum ≤ 8) (hdg : decode cc pc = .ok (.invokespecial index, 3)) (hf : cells + mc ≤ R.cells ∧ slots + ms ≤ R.slots)
    (kk : ∀ (w1 : va_W), W1 w1 → ∀ (H1 : Heap) (locs1 : List Loc), zw G ca A H0 s (w1 ++ wr) H1 locs1 → W p l e R s m args below meth c H1 locs1 (cells + mc) (slots + ms) Q (F0 m (pc + 3) ls rest)) : W p l e R s m args below meth c H locs cells slots Q (F0 m pc ls (As.reverse ++ .ref b :: rest)) :=
  z_backK (va_runI (As := As) (rest := rest) S (hM H.size) cw ⟨z_blindK, z_readyK hz hAO wr pm _⟩ rfl hn hsize rfl (lv_room hW) hdg hf) hz wr pm kk
theorem z_runIN (S : CallFix p m c cc nL s args Ts own) (hM : Zk l G ca y wy rm (.ref b :: As) wc W1 mc ms) (cw : va_CN R s args own index y host bytes maxL none wy rm mc ms n ∧ y.name = "<init>" ∧ (Cond.instanceMethod y).before args s = true) (hz : zw G ca A H0 s ws H locs) (hAO : zAO s) (wr : va_W) (pm : ws.Perm (wc ++ wr))
    (hn : As.length = n) (hsize : ls.size = nL) (hW : (rest.map fun v => v.category).sum ≤ 8) (hdg : decode cc pc = .ok (.invokespecial index, 3)) (hf : cells + mc ≤ R.cells ∧ slots + ms ≤ R.slots)
    (kk : ∀ (w1 : va_W), W1 w1 → ∀ (H1 : Heap) (locs1 : List Loc), zw G ca A H0 s (w1 ++ wr) H1 locs1 → W p l e R s m args below meth c H1 locs1 (cells + mc) (slots + ms) Q (F0 m (pc + 3) ls rest)) : W p l e R s m args below meth c H locs cells slots Q (F0 m pc ls (As.reverse ++ .ref b :: rest)) :=
  z_backK (va_runIN (As := As) (rest := rest) S (hM H.size) cw ⟨z_blindK, z_readyK hz hAO wr pm _⟩ rfl hn hsize rfl (lv_room hW) hdg hf) hz wr pm kk
end ZK
