/-! ===== contracts of the law's own methods: an answer, and a world of which is said what it is ===== -/
def zPostW (G : va_G) (v : Option Value) (W1 : va_W → Prop) (A : Nat → Prop) : Array Value → State → Outcome → State → Prop :=
  fun _ st oc t => oc = .returned v ∧ (∃ w1, W1 w1 ∧ va_P G vwCl w1 t.heap ∧ va_D A w1) ∧ va_F A st t
def Zw (l : Launch) (G : va_G) (ca : Nat → ClassId) (y : MethodName) (ws : List Cond) (rm : Room) (av : List Value) (w0 : va_W) (v : Option Value) (W1 : va_W → Prop) (mc ms : Nat) : Prop :=
  ∀ sz : Nat, Met l y ws rm (zPre G ca av w0 sz) (zPostW G v W1 (va_A w0 sz)) mc ms (va_A w0 sz)
theorem Zw.of {l : Launch} {G : va_G} {ca : Nat → ClassId} {y : MethodName} {ws ws' : List Cond} {rm : Room} {av : List Value} {w0 : va_W} {v : Option Value} {W1 : va_W → Prop} {mc ms : Nat} {cc : ByteArray} {maxL : Nat} {ret : Option FieldType}
    (hy : plainName y.cls = true) (hw : ws = Cond.code y cc maxL ret :: ws') (hlen : (lg_sl av).length ≤ maxL)
    (body : ∀ (p : Program) (e : Env) (s : State) (m : MethodId) (below : List Frame) (meth : Method) (c : Code) (A : Nat → Prop) (args : Array Value) (Q : State → Prop) (ls : Array Slot), p.tables.exec = Jvm.exec → c.code = cc → meth.sig.returnType = ret → c.maxLocals = maxL → s.vm.findClass y.cls = some m.cls → (∀ w ∈ ws, w.before args s = true) → meth.locks = false → Q = MQ below (zPostW G v W1 A) args s mc ms A → lv_has ls maxL (lv_args 0 av) → zw G ca A s.heap s w0 s.heap [] →
      W p l e rm s m args below meth c s.heap [] 0 0 Q (F0 m 0 ls [])) : Zw l G ca y ws rm av w0 v W1 mc ms := by
  intro sz
  refine Met.ofW (cc := cc) (maxL := maxL) (ret := ret) hy hw ?_
  intro p e s m args below meth c s₁ B hml hv
  obtain ⟨rfl, hsz, hP, hK, hD0⟩ := hv
  have hts := atoms_spec (ws := ws) B.pre
  have hown : s.vm.findClass y.cls = some m.cls := findClass_of_methodNamed B.named
  subst hsz
  have hD := hD0.self (sz := s.heap.size)
  have hA : ∀ q : Nat, s.heap.size ≤ q → va_A w0 s.heap.size q := fun q h => Or.inr h
  have hS : va_S (va_A w0 s.heap.size) s.heap s.heap [] := va_S.rf
  have hl := lv_entry av (n := maxL) hlen
  rw [lg_entry_eq]
  exact body p e s m below meth c _ _ _ _ B.exec B.bytes B.returns hml hown hts B.notSynchronized rfl hl ⟨hK, hP, hD, hS, hA⟩
/-- cells that are no longer of use -/
theorem zw.drop {G : va_G} {ca : Nat → ClassId} {A : Nat → Prop} {H0 : Heap} {s : State} {wj ws : va_W} {H : Heap} {locs : List Loc} (hz : zw G ca A H0 s (wj ++ ws) H locs) : zw G ca A H0 s ws H locs := by
  refine ⟨hz.1, zP_mem.mpr fun q hq => zP_mem.mp hz.2.1 q (List.mem_append_right _ hq), zD_iff.mpr ⟨?_, fun q hq => (zD_iff.mp hz.2.2.1).2 q (List.mem_append_right _ hq)⟩, hz.2.2.2⟩
  have h := (zD_iff.mp hz.2.2.1).1
  rw [List.map_append, List.nodup_append] at h
  exact h.2.1
section ZWK
variable {p : Program} {l : Launch} {e : Env} {R : Room} {s : State} {m : MethodId} {args : Array Value} {below : List Frame} {meth : Method} {c : Code} {H : Heap} {locs : List Loc} {cells slots mc ms : Nat} {Q : State → Prop}
variable {cc bytes : ByteArray} {pc nL maxL index n : Nat} {ls : Array Slot} {rest As : List Value} {G : va_G} {ca : Nat → ClassId} {A : Nat → Prop} {ws ws1 wc : va_W} {H0 : Heap} {own : String} {Ts wy : List Cond} {y : MethodName} {ret : Option FieldType} {rm : Room} {W1 : va_W → Prop} {v : Option Value}
theorem z_zretW (hexec : p.tables.exec = Jvm.exec) (hb : c.code = cc) (hr : meth.sig.returnType = some .boolean) (hlocks : meth.locks = false) (hQ : Q = MQ below (zPostW G v W1 A) args s mc ms A) (hz : zw G ca A s.heap s ws H locs) (h1 : cells ≤ mc) (h2 : slots ≤ ms) {x : Int32} (hn : narrow .boolean (.int x) = .int x) (hdg : decode cc pc = .ok (.ireturn, 1)) (hv : v = some (.int x)) (hw : W1 ws) : W p l e R s m args below meth c H locs cells slots Q (F0 m pc ls [.int x]) := by
  subst hQ
  subst hv
  obtain ⟨hK, hP, hD, hS, hA⟩ := hz
  refine W.widen (k := mc) (n := ms) h1 h2 ?_
  exact W.zret hexec hb hr hn (fun t ht hW => ⟨rfl, ⟨ws, hw, by rw [ht]; exact hP, hD⟩, hS.F ht⟩) hS.2.2 hdg hlocks
theorem z_backW {st0 : List Value} {aa : Array Value} (hr : va_Run p l e R s m args below meth c H locs cells slots mc ms (F0 m pc ls st0) rest (zPostW G v W1 (va_A wc H.size) aa) (va_A wc H.size)) (hz : zw G ca A H0 s ws H locs) (wr : va_W) (pm : ws.Perm (wc ++ wr))
    (kk : ∀ (w1 : va_W), W1 w1 → ∀ (H1 : Heap) (locs1 : List Loc), zw G ca A H0 s (w1 ++ wr) H1 locs1 → W p l e R s m args below meth c H1 locs1 (cells + mc) (slots + ms) Q (F0 m (pc + 3) ls (v.toList ++ rest))) : W p l e R s m args below meth c H locs cells slots Q (F0 m pc ls st0) := by
  intro T hT X
  obtain ⟨v', st₀, t, T', L, h0, X', hL, e1, e2, ⟨hv, ⟨w1, hw1, hP1, hD1⟩, hz1, hk⟩, st⟩ := hr T hT X
  cases hv
  rw [h0] at hz1 hk
  obtain ⟨hK, hP, hD, hS, hA⟩ := hz
  have hF := z_freeA hD hS hA pm
  obtain ⟨hP2, hD2⟩ := z_join (ca := ca) hP hD pm hF hk hP1 hD1
  have hS2 : va_S A H0 T'.heap (locs ++ L) := ⟨Nat.le_trans hS.1 (by rw [e1]; exact hz1), fun q h1 h2 => by rw [e1, hk q (Nat.lt_of_lt_of_le h1 hS.1) (fun z => h2 (hF q z))]; exact hS.2.1 q h1 h2, fun q hq => by
      rcases List.mem_append.mp hq with h | h
      · exact hS.2.2 q h
      · exact hF _ (hL q h)⟩
  obtain ⟨t2, a1, b1⟩ := kk w1 hw1 T'.heap (locs ++ L) ⟨hK, by rw [e1]; exact hP2, hD2, hS2, hA⟩ T' rfl X'
  exact ⟨t2, st t2 a1, b1⟩
theorem z_runSW (S : CallFix p m c cc nL s args Ts own) (hM : Zw l G ca y wy rm As wc v W1 mc ms) (cw : CallB R s args own index y bytes maxL ret wy rm mc ms n ∧ (Cond.static y).before args s = true) (hz : zw G ca A H0 s ws H locs) (wr : va_W) (pm : ws.Perm (wc ++ wr))
    (hn : As.length = n) (hsize : ls.size = nL) (hW : (rest.map fun v => v.category).sum ≤ 8) {st1 : List Value} (hst : v.toList ++ rest = st1) (hdg : decode cc pc = .ok (.invokestatic index, 3)) (hf : cells + mc ≤ R.cells ∧ slots + ms ≤ R.slots)
    (kk : ∀ (w1 : va_W), W1 w1 → ∀ (H1 : Heap) (locs1 : List Loc), zw G ca A H0 s (w1 ++ wr) H1 locs1 → W p l e R s m args below meth c H1 locs1 (cells + mc) (slots + ms) Q (F0 m (pc + 3) ls st1)) : W p l e R s m args below meth c H locs cells slots Q (F0 m pc ls (As.reverse ++ rest)) := by
  subst hst
  exact z_backW (va_runS (As := As) (rest := rest) S (hM H.size) cw ⟨z_blind, z_ready hz wr pm _⟩ rfl hn hsize rfl (lv_room hW) hdg hf) hz wr pm kk
end ZWK
