/-! ===== cell: a number of the script, or one that stands for it ===== -/
def zPreX (G : va_G) (ca : Nat → ClassId) (b L : Nat) (xs : Nat → Int32) (av : List Value) (sz : Nat) : Array Value → State → Prop :=
  va_Pc av (fun U => U.heap.size = sz ∧ va_X b L xs U U.heap ∧ zK G ca U ∧ b < U.heap.size)
def Zx (l : Launch) (G : va_G) (ca : Nat → ClassId) (y : MethodName) (ws : List Cond) (rm : Room) (av : List Value) (b L : Nat) (xs : Nat → Int32) (v : Option Value) : Prop :=
  ∀ sz : Nat, Met l y ws rm (zPreX G ca b L xs av sz) (zPostA G ca v [] (va_A [] sz)) 0 0 (va_A [] sz)
theorem Zx.of {l : Launch} {G : va_G} {ca : Nat → ClassId} {y : MethodName} {ws ws' : List Cond} {rm : Room} {av : List Value} {b L : Nat} {xs : Nat → Int32} {v : Option Value} {cc : ByteArray} {maxL : Nat} {ret : Option FieldType}
    (hy : plainName y.cls = true) (hw : ws = Cond.code y cc maxL ret :: ws') (hlen : (lg_sl av).length ≤ maxL)
    (body : ∀ (p : Program) (e : Env) (s : State) (m : MethodId) (below : List Frame) (meth : Method) (c : Code) (A : Nat → Prop) (args : Array Value) (Q : State → Prop) (ls : Array Slot), p.tables.exec = Jvm.exec → c.code = cc → meth.sig.returnType = ret → c.maxLocals = maxL → s.vm.findClass y.cls = some m.cls → (∀ w ∈ ws, w.before args s = true) → meth.locks = false → Q = zEnd G ca below args s A v [] → lv_has ls maxL (lv_args 0 av) → zw G ca A s.heap s [] s.heap [] → va_X b L xs s s.heap → b < s.heap.size → ¬ A b →
      W p l e rm s m args below meth c s.heap [] 0 0 Q (F0 m 0 ls [])) : Zx l G ca y ws rm av b L xs v := by
  intro sz
  refine Met.ofW (cc := cc) (maxL := maxL) (ret := ret) hy hw ?_
  intro p e s m args below meth c s₁ B hml hv
  obtain ⟨rfl, hsz, hX, hK, hb⟩ := hv
  have hts := atoms_spec (ws := ws) B.pre
  have hown : s.vm.findClass y.cls = some m.cls := findClass_of_methodNamed B.named
  subst hsz
  have hA : ∀ q : Nat, s.heap.size ≤ q → va_A [] s.heap.size q := fun q h => Or.inr h
  have hS : va_S (va_A [] s.heap.size) s.heap s.heap [] := va_S.rf
  have hl := lv_entry av (n := maxL) hlen
  rw [lg_entry_eq]
  refine body p e s m below meth c _ _ _ _ B.exec B.bytes B.returns hml hown hts B.notSynchronized rfl hl ⟨hK, fun k q h => by simp at h, ⟨fun i j p q h => by simp at h, fun k q h => by simp at h⟩, hS, hA⟩ hX hb ?_
  rintro (⟨k, e, h⟩ | h)
  · simp at h
  · exact Nat.not_le.mpr hb h
section ZX
variable {p : Program} {l : Launch} {e : Env} {R : Room} {s : State} {m : MethodId} {args : Array Value} {below : List Frame} {meth : Method} {c : Code} {H : Heap} {locs : List Loc} {cells slots : Nat} {Q : State → Prop}
variable {cc bytes : ByteArray} {pc nL maxL index n : Nat} {ls : Array Slot} {rest As : List Value} {G : va_G} {ca : Nat → ClassId} {A : Nat → Prop} {b L : Nat} {xs : Nat → Int32} {ws : va_W} {own : String} {Ts wy : List Cond} {y : MethodName} {ret : Option FieldType} {rm : Room} {v : Option Value}
theorem z_blindX {av : List Value} {sz : Nat} : FrameBlind (zPreX G ca b L xs av sz) := fun a U g mk q => by
  obtain ⟨q0, q1, qX, qK, qb⟩ := q
  exact ⟨q0, q1, va_X.moved (u := U) (U := U.calling g mk a) (Vm.Alike.refl U.vm) qX, ⟨va_K.moved (u := U) (U := U.calling g mk a) (Vm.Alike.refl U.vm) qK.1, zN_same (u := U) (U := U.calling g mk a) rfl qK.2⟩, qb⟩
theorem z_runSX (S : CallFix p m c cc nL s args Ts own) (hM : Zx l G ca y wy rm As b L xs v) (cw : CallB R s args own index y bytes maxL ret wy rm 0 0 n ∧ (Cond.static y).before args s = true) (hz : zw G ca A s.heap s ws H locs) (hX : va_X b L xs s s.heap) (hb : b < s.heap.size) (hbA : ¬ A b)
    (hn : As.length = n) (hsize : ls.size = nL) (hW : (rest.map fun v => v.category).sum ≤ 8) {st1 : List Value} (hst : v.toList ++ rest = st1) (hdg : decode cc pc = .ok (.invokestatic index, 3)) (hf : cells ≤ R.cells ∧ slots ≤ R.slots)
    (kk : ∀ (H1 : Heap) (locs1 : List Loc), zw G ca A s.heap s ws H1 locs1 → W p l e R s m args below meth c H1 locs1 cells slots Q (F0 m (pc + 3) ls st1)) : W p l e R s m args below meth c H locs cells slots Q (F0 m pc ls (As.reverse ++ rest)) := by
  subst hst
  have hS := hz.2.2.2.1
  have hH : H[b]? = s.heap[b]? := hS.2.1 b hb hbA
  refine z_back (wc := []) (wc1 := []) (va_runS (As := As) (rest := rest) S (hM H.size) cw ⟨z_blindX, fun U hU hW2 => ⟨rfl, by rw [hU], ?_, ⟨va_K.moved hW2.alike hz.1.1, zN_warm hW2 hz.1.2⟩, by rw [hU]; exact Nat.lt_of_lt_of_le hb hS.1⟩⟩ rfl hn hsize rfl (lv_room hW) hdg hf) hz ws (List.Perm.refl _) (List.Perm.refl _) kk
  rw [hU]
  exact va_X.moved hW2.alike (hX.kept hH)
end ZX
def cellF (xs : Nat → Int32) (L k : Nat) : Int32 := if nI L ≤ nI k then 833214435 * (nI k + 5) + 801485273 else xs k
def rm_L_cell : Room := { frames := 0, cells := 0, slots := 0, locals := 0 }
set_option maxRecDepth 20000 in
theorem hdV_L_cell : yL_cell.cls = RL ∧ yL_cell.cls ≠ "java/lang/invoke/MethodHandle" ∧ yL_cell.cls ≠ "java/lang/invoke/VarHandle" ∧ (parseMethodDescriptor yL_cell.desc).map (fun d => d.parameters.length) = some 2 := by decide +kernel
set_option maxHeartbeats 4000000 in
set_option maxRecDepth 100000 in
theorem k_L_cell (l : Launch) (G : va_G) (ca : Nat → ClassId) (b L : Nat) (xs : Nat → Int32) (hL : L ≤ 260) (k : Nat) (hk : k < 1000) : Zx l G ca yL_cell (zws yL_cell cL_cell 2 (some .int)) rm_L_cell [.ref b, .int (nI k)] b L xs (some (.int (cellF xs L k))) := by
  refine Zx.of (cc := cL_cell) (maxL := 2) (ret := (some .int)) (by decide) rfl (Nat.le_of_ble_eq_true rfl) ?_
  intro pg ev s0 mt below meth cd A args Q ls hx hb hr hml hown hts hlk hQ hl hz hX hbl hbA
  have hl : lv_has ls 2 [(0, .ref b), (1, .int (nI k))] := hl
  refine lv_iload_n (pc := 0) hx hb dL_cell_0 rfl (lv_at hl 1 rfl) ?_
  refine lv_aload_n (pc := 1) hx hb dL_cell_1 rfl (lv_at hl 0 rfl) ?_
  refine va_slen (pc := 2) hx hb hX hbl hbA hz.2.2.2.1 dL_cell_2 ?_
  refine lv_icmp_ge (pc := 3) (tgt := 12) hx hb dL_cell_3 (by decide) (fun c_3 => ?_) (fun c_3 => ?_)
  · refine lv_ldc (own := RL) (v := 833214435) (pc := 12) hx hb hown (hts _ (zsub _ wq_32_0)) dL_cell_12 ?_
    refine lv_iload_n (pc := 14) hx hb dL_cell_14 rfl (lv_at hl 1 rfl) ?_
    refine lv_iconst (pc := 15) (v := 5) hx hb dL_cell_15 (by decide) ?_
    refine lv_iadd (pc := 16) hx hb dL_cell_16 ?_
    refine lv_imul (pc := 17) hx hb dL_cell_17 ?_
    refine lv_ldc (own := RL) (v := 801485273) (pc := 18) hx hb hown (hts _ (zsub _ wq_33_0)) dL_cell_18 ?_
    refine lv_iadd (pc := 20) hx hb dL_cell_20 ?_
    exact z_iret (pc := 21) hx hb hr hlk hQ hz dL_cell_21 (by rw [cellF, if_pos (show nI L ≤ nI k from c_3)]) rfl
  · have hkL : k < L := Nat.lt_of_not_le (fun q => c_3 (nI_le (a := L) (b := k) q (by omega)))
    refine lv_aload_n (pc := 6) hx hb dL_cell_6 rfl (lv_at hl 0 rfl) ?_
    refine lv_iload_n (pc := 7) hx hb dL_cell_7 rfl (lv_at hl 1 rfl) ?_
    refine va_sld (pc := 8) hx hb hX hbl hbA hz.2.2.2.1 (vp_in_nI hkL (by omega)) dL_cell_8 ?_
    refine lv_goto (tgt := 21) (pc := 9) hx hb dL_cell_9 (by decide) ?_
    exact z_iret (pc := 21) hx hb hr hlk hQ hz dL_cell_21 (by rw [cellF, if_neg (show ¬ nI L ≤ nI k from c_3), nI_clamp (by omega)]) rfl
