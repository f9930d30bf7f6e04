/-! TOOLS: the shapes of contracts here, and the calls by them -/
section TOOLS
variable {p : Program} {l : Launch} {e : Env} {R : Room} {s : State} {m : MethodId} {args : Array Value} {below : List Frame} {meth : Method} {c : Code} {H : Heap} {locs : List Loc} {cells slots : Nat} {Q : State → Prop}
variable {cc : ByteArray} {pc : Nat} {ls : Array Slot} {rest st0 : List Value} {D : va_G} {A : Nat → Prop} {H0 : Heap}
/-- a method of numbers alone -/
abbrev pcP (av : List Value) : Array Value → State → Prop := fun v _ => v = av.toArray
/-- a method that reads the cells w -/
def pcR (D : va_G) (k : List (ClassId × FieldType)) (w : va_W) (av : List Value) : Array Value → State → Prop := va_Pc av (fun U => va_P D vwCl w U.heap ∧ va_K D vwCl k U)
/-- a method that writes among the cells w -/
def pcW (D : va_G) (k : List (ClassId × FieldType)) (w : va_W) (sz : Nat) (av : List Value) : Array Value → State → Prop := va_Pc av (fun U => U.heap.size = sz ∧ va_P D vwCl w U.heap ∧ va_K D vwCl k U ∧ va_D (fun _ => True) w)
def qcB (D : va_G) (k : List (ClassId × FieldType)) (w w' : va_W) (sz : Nat) : Unit → State → Prop := fun _ t => va_P D vwCl w' t.heap ∧ va_K D vwCl k t ∧ va_D (va_A w sz) w'
def qcWi (D : va_G) (k : List (ClassId × FieldType)) (w w' : va_W) (sz : Nat) (r0 : Int32) : Array Value → State → Outcome → State → Prop := va_Qi (fun r (_ : Unit) => r = r0) (qcB D k w w' sz) (va_A w sz)
def qcWv (D : va_G) (k : List (ClassId × FieldType)) (w w' : va_W) (sz : Nat) : Array Value → State → Outcome → State → Prop := va_Qv (fun (_ : Unit) => True) (qcB D k w w' sz) (va_A w sz)
theorem pcR_blind {k : List (ClassId × FieldType)} {w : va_W} {av : List Value} : FrameBlind (pcR D k w av) := fun a U g mk q => ⟨q.1, q.2.1, va_K.moved (u := U) (U := U.calling g mk a) (Vm.Alike.refl U.vm) q.2.2⟩
theorem pcW_blind {k : List (ClassId × FieldType)} {w : va_W} {sz : Nat} {av : List Value} : FrameBlind (pcW D k w sz av) := fun a U g mk q => ⟨q.1, q.2.1, q.2.2.1, va_K.moved (u := U) (U := U.calling g mk a) (Vm.Alike.refl U.vm) q.2.2.2.1, q.2.2.2.2⟩
/-- two ways that meet again with one number more on the stack -/
theorem w_cut {st : List Value} (pc2 : Nat) (st2 : List Value) (E : Int32) (hk : ∀ z : Int32, z = E → W p l e R s m args below meth c H locs cells slots Q (F0 m pc2 ls (.int z :: st2))) (hj : (∀ z : Int32, z = E → W p l e R s m args below meth c H locs cells slots Q (F0 m pc2 ls (.int z :: st2))) → W p l e R s m args below meth c H locs cells slots Q (F0 m pc ls st)) : W p l e R s m args below meth c H locs cells slots Q (F0 m pc ls st) := hj hk
variable {Ts wsl ws' : List Cond} {bytes : ByteArray} {nL maxL index n : Nat} {own C : String} {y : MethodName} {ret : Option FieldType} {rm : Room} {b : Nat} {As : List Value}
/-- a call of a static method of numbers -/
theorem callSi {r : Int32} (hM : Met l y wsl rm (pcP As) (QcRead r) 0 0 (fun _ => False)) (S : CallFix p m c cc nL s args Ts own) (cw : CallB R s args own index y bytes maxL ret wsl rm 0 0 n ∧ (Cond.static y).before args s = true)
    (hn : As.length = n) (hsize : ls.size = nL) (hst : st0 = As.reverse ++ rest) (hW : (rest.map fun v => v.category).sum ≤ 8) (hdg : decode cc pc = .ok (.invokestatic index, 3)) (hf : cells ≤ R.cells ∧ slots ≤ R.slots)
    (kk : W p l e R s m args below meth c H locs cells slots Q (F0 m (pc + 3) ls (.int r :: rest))) : W p l e R s m args below meth c H locs cells slots Q (F0 m pc ls st0) :=
  W.callR (W.runS S hM cw ⟨fun _ _ _ _ q => q, fun _ _ _ => rfl⟩ rfl hn hsize hst (lv_room hW) hdg hf) kk
/-- a call of a method that reads -/
theorem callRi {r : Int32} {k : List (ClassId × FieldType)} {w : va_W} {q : vw_C} {ci q0 : Nat} {fs : List Value} (hM : Met l y wsl rm (pcR D k w (.ref b :: As)) (QcRead r) 0 0 (fun _ => False)) (S : CallFix p m c cc nL s args Ts own) (cw : CallW R s args own q.1 index y bytes maxL ret wsl rm 0 0 n)
    (hK : va_K D vwCl k s) (hP : va_P D vwCl w H) (hc : vwCl[ci]? = some q) (he : w[q0]? = some (b, .inr (ci, fs)))
    (hn : As.length = n) (hsize : ls.size = nL) (hst : st0 = As.reverse ++ .ref b :: rest) (hW : (rest.map fun v => v.category).sum ≤ 8) (hdg : decode cc pc = .ok (.invokevirtual index, 3)) (hf : cells ≤ R.cells ∧ slots ≤ R.slots)
    (kk : W p l e R s m args below meth c H locs cells slots Q (F0 m (pc + 3) ls (.int r :: rest))) : W p l e R s m args below meth c H locs cells slots Q (F0 m pc ls st0) :=
  W.callR (W.runV S hM cw ⟨pcR_blind, va_recv hK hP hc he, fun U hU hW => ⟨rfl, by rw [hU]; exact hP, va_K.moved hW.alike hK⟩⟩ rfl hn hsize hst (lv_room hW) hdg hf) kk
theorem callRv {r : Value} {k : List (ClassId × FieldType)} {w : va_W} {q : vw_C} {ci q0 : Nat} {fs : List Value} (hM : Met l y wsl rm (pcR D k w (.ref b :: As)) (k2_QcV r) 0 0 (fun _ => False)) (S : CallFix p m c cc nL s args Ts own) (cw : CallW R s args own q.1 index y bytes maxL ret wsl rm 0 0 n)
    (hK : va_K D vwCl k s) (hP : va_P D vwCl w H) (hc : vwCl[ci]? = some q) (he : w[q0]? = some (b, .inr (ci, fs)))
    (hn : As.length = n) (hsize : ls.size = nL) (hst : st0 = As.reverse ++ .ref b :: rest) (hW : (rest.map fun v => v.category).sum ≤ 8) (hdg : decode cc pc = .ok (.invokevirtual index, 3)) (hf : cells ≤ R.cells ∧ slots ≤ R.slots)
    (kk : W p l e R s m args below meth c H locs cells slots Q (F0 m (pc + 3) ls (r :: rest))) : W p l e R s m args below meth c H locs cells slots Q (F0 m pc ls st0) :=
  W.callV (W.runV S hM cw ⟨pcR_blind, va_recv hK hP hc he, fun U hU hW => ⟨rfl, by rw [hU]; exact hP, va_K.moved hW.alike hK⟩⟩ rfl hn hsize hst (lv_room hW) hdg hf) kk
/-- a call of a method that writes among its cells wc; the rest wr stays -/
theorem callWi {r : Int32} {k : List (ClassId × FieldType)} {ws wc wr w1 : va_W} {q : vw_C} {ci q0 : Nat} {fs : List Value} (hM : Met l y wsl rm (pcW D k wc H.size (.ref b :: As)) (qcWi D k wc w1 H.size r) 0 0 (va_A wc H.size)) (S : CallFix p m c cc nL s args Ts own) (cw : CallW R s args own q.1 index y bytes maxL ret wsl rm 0 0 n)
    (hK : va_K D vwCl k s) (hP : va_P D vwCl ws H) (hD : va_D A ws) (hS : va_S A H0 H locs) (hA : ∀ q, H0.size ≤ q → A q) (hc : vwCl[ci]? = some q) (he : wc[q0]? = some (b, .inr (ci, fs)))
    (isC isR : List Nat) (hC0 : isC.filterMap (fun i => ws[i]?) = wc) (hC : isC.map (fun i => ws[i]?) = wc.map some) (hR : isR.map (fun i => ws[i]?) = wr.map some) (hnC : va_nd isC = true) (hnR : va_nd isR = true) (hdis : ∀ i ∈ isR, i ∉ isC)
    (hn : As.length = n) (hsize : ls.size = nL) (hst : st0 = As.reverse ++ .ref b :: rest) (hW : (rest.map fun v => v.category).sum ≤ 8) (hdg : decode cc pc = .ok (.invokevirtual index, 3)) (hf : cells ≤ R.cells ∧ slots ≤ R.slots)
    (kk : ∀ (H1 : Heap) (locs1 : List Loc), va_P D vwCl (wr ++ w1) H1 → va_D A (wr ++ w1) → va_S A H0 H1 locs1 → W p l e R s m args below meth c H1 locs1 cells slots Q (F0 m (pc + 3) ls (.int r :: rest))) : W p l e R s m args below meth c H locs cells slots Q (F0 m pc ls st0) := by
  have hPc := hP.sub (ws' := wc) isC hC0
  have hDc := hD.sub (ws' := wc) isC hnC hC
  have hFc := va_free (wc := wc) hD hS hA isC hC
  refine va_calli (va_runV (As := As) (rest := rest) S hM cw ⟨pcW_blind, va_recv hK hPc hc he, fun U hU hW => ⟨rfl, by rw [hU], by rw [hU]; exact hPc, va_K.moved hW.alike hK, hDc.weaken (fun _ _ _ _ => trivial)⟩⟩ rfl hn hsize hst (lv_room hW) hdg hf) hS (fun q _ h => hFc q h) hFc (fun r1 u t H1 locs1 ht hvm hw hB hz1 hk1 hS1 => ?_)
  obtain ⟨hP1, hK1, hD1⟩ := hB
  rw [ht] at hP1
  have hw : r1 = r := hw
  subst hw
  obtain ⟨hP2, hD2⟩ := va_join (wr := wr) (w1 := w1) hP hD isC isR hC hR hnR hdis hk1 hFc hP1 hD1
  exact kk H1 locs1 hP2 hD2 hS1
theorem callWv {k : List (ClassId × FieldType)} {ws wc wr w1 : va_W} {q : vw_C} {ci q0 : Nat} {fs : List Value} (hM : Met l y wsl rm (pcW D k wc H.size (.ref b :: As)) (qcWv D k wc w1 H.size) 0 0 (va_A wc H.size)) (S : CallFix p m c cc nL s args Ts own) (cw : CallW R s args own q.1 index y bytes maxL ret wsl rm 0 0 n)
    (hK : va_K D vwCl k s) (hP : va_P D vwCl ws H) (hD : va_D A ws) (hS : va_S A H0 H locs) (hA : ∀ q, H0.size ≤ q → A q) (hc : vwCl[ci]? = some q) (he : wc[q0]? = some (b, .inr (ci, fs)))
    (isC isR : List Nat) (hC0 : isC.filterMap (fun i => ws[i]?) = wc) (hC : isC.map (fun i => ws[i]?) = wc.map some) (hR : isR.map (fun i => ws[i]?) = wr.map some) (hnC : va_nd isC = true) (hnR : va_nd isR = true) (hdis : ∀ i ∈ isR, i ∉ isC)
    (hn : As.length = n) (hsize : ls.size = nL) (hst : st0 = As.reverse ++ .ref b :: rest) (hW : (rest.map fun v => v.category).sum ≤ 8) (hdg : decode cc pc = .ok (.invokevirtual index, 3)) (hf : cells ≤ R.cells ∧ slots ≤ R.slots)
    (kk : ∀ (H1 : Heap) (locs1 : List Loc), va_P D vwCl (wr ++ w1) H1 → va_D A (wr ++ w1) → va_S A H0 H1 locs1 → W p l e R s m args below meth c H1 locs1 cells slots Q (F0 m (pc + 3) ls rest)) : W p l e R s m args below meth c H locs cells slots Q (F0 m pc ls st0) := by
  have hPc := hP.sub (ws' := wc) isC hC0
  have hDc := hD.sub (ws' := wc) isC hnC hC
  have hFc := va_free (wc := wc) hD hS hA isC hC
  refine va_callv (va_runV (As := As) (rest := rest) S hM cw ⟨pcW_blind, va_recv hK hPc hc he, fun U hU hW => ⟨rfl, by rw [hU], by rw [hU]; exact hPc, va_K.moved hW.alike hK, hDc.weaken (fun _ _ _ _ => trivial)⟩⟩ rfl hn hsize hst (lv_room hW) hdg hf) hS (fun q _ h => hFc q h) hFc (fun u t H1 locs1 ht hvm hw hB hz1 hk1 hS1 => ?_)
  obtain ⟨hP1, hK1, hD1⟩ := hB
  rw [ht] at hP1
  obtain ⟨hP2, hD2⟩ := va_join (wr := wr) (w1 := w1) hP hD isC isR hC hR hnR hdis hk1 hFc hP1 hD1
  exact kk H1 locs1 hP2 hD2 hS1
/-- the ends -/
theorem retP {r v : Int32} {ty : FieldType} (hx : p.tables.exec = Jvm.exec) (hb : c.code = cc) (hr : meth.sig.returnType = some ty) (hlocks : meth.locks = false) (hn : narrow ty (.int v) = .int v) (he : v = r) (hH : H = s.heap) (hdg : decode cc pc = .ok (.ireturn, 1)) :
    W p l e R s m args below meth c H [] cells slots (MQ below (QcRead r) args s cells slots (fun _ => False)) (F0 m pc ls [.int v]) := by
  subst he
  exact W.zret hx hb hr hn (fun t ht hW => ⟨rfl, ht.trans hH⟩) (fun _ h => by cases h) hdg
theorem retL {r v : Int64} (hx : p.tables.exec = Jvm.exec) (hb : c.code = cc) (hr : meth.sig.returnType = some .long) (hlocks : meth.locks = false) (he : v = r) (hH : H = s.heap) (hdg : decode cc pc = .ok (.lreturn, 1)) :
    W p l e R s m args below meth c H [] cells slots (MQ below (k2_QcV (.long r)) args s cells slots (fun _ => False)) (F0 m pc ls [.long v]) := by
  subst he
  exact W.lret hx hb hr (fun t ht hW => ⟨rfl, ht.trans hH⟩) (fun _ h => by cases h) hdg
theorem retWi {r v : Int32} {ty : FieldType} {k : List (ClassId × FieldType)} {w w2 w' : va_W} (hx : p.tables.exec = Jvm.exec) (hb : c.code = cc) (hr : meth.sig.returnType = some ty) (hlocks : meth.locks = false) (hn : narrow ty (.int v) = .int v) (he : v = r) (hw : w2 = w') (hK : va_K D vwCl k s) (hP : va_P D vwCl w2 H) (hD : va_D (va_A w s.heap.size) w2) (hS : va_S (va_A w s.heap.size) s.heap H locs) (hdg : decode cc pc = .ok (.ireturn, 1)) :
    W p l e R s m args below meth c H locs cells slots (MQ below (qcWi D k w w' s.heap.size r) args s cells slots (va_A w s.heap.size)) (F0 m pc ls [.int v]) := by
  subst he; subst hw
  exact W.zret hx hb hr hn (fun t ht hW => ⟨⟨v, (), rfl, rfl, by rw [ht]; exact hP, va_K.moved hW.alike hK, hD⟩, hS.F ht⟩) hS.2.2 hdg
theorem retWv {k : List (ClassId × FieldType)} {w w2 w' : va_W} (hx : p.tables.exec = Jvm.exec) (hb : c.code = cc) (hr : meth.sig.returnType = none) (hlocks : meth.locks = false) (hw : w2 = w') (hK : va_K D vwCl k s) (hP : va_P D vwCl w2 H) (hD : va_D (va_A w s.heap.size) w2) (hS : va_S (va_A w s.heap.size) s.heap H locs) (hdg : decode cc pc = .ok (.return_, 1)) :
    W p l e R s m args below meth c H locs cells slots (MQ below (qcWv D k w w' s.heap.size) args s cells slots (va_A w s.heap.size)) (F0 m pc ls []) := by
  subst hw
  exact W.vret hx hb hr (fun t ht hW => ⟨⟨(), rfl, trivial, by rw [ht]; exact hP, va_K.moved hW.alike hK, hD⟩, hS.F ht⟩) hS.2.2 hdg
end TOOLS
/-! the states -/
abbrev S0 : Type := (Nat → Int32) × (Nat → Int32) × (Nat → Int32) × Int32 × Int32 × Int32 × Int32 × Int32
abbrev k0 (c1 c2 c3 : ClassId) : List (ClassId × FieldType) := [(c1, .int), (c2, .int), (c3, .int)]
abbrev w0 (h0 h1 h2 h3 : Nat) (c1 c2 c3 : ClassId) (u : S0) : va_W := [(h0, .inr (0, [.ref h1, .ref h2, .ref h3, .int u.2.2.2.1, .int u.2.2.2.2.1, .int u.2.2.2.2.2.1, .int u.2.2.2.2.2.2.1, .int u.2.2.2.2.2.2.2])), (h1, .inl (c1, 96, .inl u.1)), (h2, .inl (c2, 200, .inl u.2.1)), (h3, .inl (c3, 8, .inl u.2.2.1))]
abbrev k1 (c1 c2 c3 : ClassId) : List (ClassId × FieldType) := [(c1, .int), (c2, .int), (c3, .boolean)]
abbrev w1 (h0 h1 h2 h3 : Nat) (c1 c2 c3 : ClassId) (u : S0) : va_W := [(h0, .inr (1, [.ref h1, .ref h2, .ref h3, .int u.2.2.2.1, .int u.2.2.2.2.1, .int u.2.2.2.2.2.1, .int u.2.2.2.2.2.2.1, .int u.2.2.2.2.2.2.2])), (h1, .inl (c1, 96, .inl u.1)), (h2, .inl (c2, 200, .inl u.2.1)), (h3, .inl (c3, 12, .inl u.2.2.1))]
