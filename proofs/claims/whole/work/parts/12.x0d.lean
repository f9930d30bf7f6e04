set_option maxHeartbeats 4000000 in
set_option maxRecDepth 100000 in
theorem m0_writeBlock_m (l : Launch) (dC : Nat → ClassId) (dI : Nat → Nat → Nat) (h0 h1 h2 h3 : Nat) (c1 c2 c3 : ClassId) (sz : Nat) (mem blk hdr : Nat → Int32) (ds pw rn wr cm : Int32) (x0 : Int32) (x2 : Int32) (hw : wbOK x0 x2 96) : Met l yX0_writeBlock wsX0_writeBlock ({ frames := 1, cells := 0, slots := 0, locals := 40 }) (pcW (dC, dI) (k0 c1 c2 c3) (w0 h0 h1 h2 h3 c1 c2 c3 (mem, blk, hdr, ds, pw, rn, wr, cm)) sz [.ref h0, .int x0, .ref h1, .int x2]) (qcWi (dC, dI) (k0 c1 c2 c3) (w0 h0 h1 h2 h3 c1 c2 c3 (mem, blk, hdr, ds, pw, rn, wr, cm)) (w0 h0 h1 h2 h3 c1 c2 c3 (F0_writeBlock_m mem blk hdr ds pw rn wr cm x0 x2).2) sz (F0_writeBlock_m mem blk hdr ds pw rn wr cm x0 x2).1) 0 0 (va_A (w0 h0 h1 h2 h3 c1 c2 c3 (mem, blk, hdr, ds, pw, rn, wr, cm)) sz) := by
  refine Met.ofW (cc := cX0_writeBlock) (maxL := 4) (ret := (some .boolean)) (by decide) rfl ?_
  intro p e s m args below meth c s₁ B hml hv
  obtain ⟨rfl, hsz, hP, hK, hD0⟩ := hv
  have hx := B.exec
  have hb := B.bytes
  have hr := B.returns
  have hts := atoms_spec (ws := wsX0_writeBlock) B.pre
  have hown : s.vm.findClass RX0 = some m.cls := findClass_of_methodNamed B.named
  have hlocks := B.notSynchronized
  have hin : ∀ w ∈ wsX00, w ∈ wsX0_writeBlock := fun _ h => List.mem_cons_of_mem _ (List.mem_append_right _ h)
  have hP : va_P (dC, dI) vwCl [(h0, .inr (0, [.ref h1, .ref h2, .ref h3, .int ds, .int pw, .int rn, .int wr, .int cm])), (h1, .inl (c1, 96, .inl mem)), (h2, .inl (c2, 200, .inl blk)), (h3, .inl (c3, 8, .inl hdr))] s.heap := hP
  subst hsz
  have hD := hD0.self (sz := s.heap.size)
  have hA : ∀ q : Nat, s.heap.size ≤ q → (va_A (w0 h0 h1 h2 h3 c1 c2 c3 (mem, blk, hdr, ds, pw, rn, wr, cm)) s.heap.size) q := fun q h => Or.inr h
  have hS : va_S (va_A (w0 h0 h1 h2 h3 c1 c2 c3 (mem, blk, hdr, ds, pw, rn, wr, cm)) s.heap.size) s.heap s.heap [] := va_S.rf
  have hl := lv_entry ([.ref h0, .int x0, .ref h1, .int x2]) (n := 4) (Nat.le_of_ble_eq_true rfl)
  rw [lg_entry_eq]
  generalize (lg_sl ([.ref h0, .int x0, .ref h1, .int x2]) ++ List.replicate (4 - (lg_sl ([.ref h0, .int x0, .ref h1, .int x2])).length) Slot.unset).toArray = ls at hl ⊢
  have hl : lv_has ls 4 [(0, .ref h0), (1, .int x0), (2, .ref h1), (3, .int x2)] := hl
  refine lv_aload_n hx hb dX0_writeBlock_0 rfl (lv_at hl 0 rfl) ?_
  refine va_get (D := (dC, dI)) (ci := 0) (v := .int pw) (C := RX0) (T := TX0) (N := 8) hx hb hts hin hown hK hP 0 rfl rfl 4 (by decide) (hts (.fieldLink RX0 23 "CapStore" "powerLeft" "I") (by decide +kernel)) (fun _ h9 => h9) rfl dX0_writeBlock_1 ?_
  refine lv_if_ne (tgt := 14) hx hb dX0_writeBlock_4 (by decide) (fun c_4 => ?_) (fun c_4 => ?_)
  · skip
    refine lv_aload_n hx hb dX0_writeBlock_14 rfl (lv_at hl 2 rfl) ?_
    refine lv_iload_n hx hb dX0_writeBlock_15 rfl (lv_at hl 3 rfl) ?_
    refine lv_bipush (v := 8) hx hb dX0_writeBlock_16 (by decide) ?_
    refine lv_imul hx hb dX0_writeBlock_18 ?_
    refine lv_aload_n hx hb dX0_writeBlock_19 rfl (lv_at hl 0 rfl) ?_
    refine va_get (D := (dC, dI)) (ci := 0) (v := .ref h2) (C := RX0) (T := TX0) (N := 8) hx hb hts hin hown hK hP 0 rfl rfl 1 (by decide) (hts (.fieldLink RX0 13 "CapStore" "blocks" "[I") (by decide +kernel)) (fun _ h9 => h9) rfl dX0_writeBlock_20 ?_
    refine lv_iload_n hx hb dX0_writeBlock_23 rfl (lv_at hl 1 rfl) ?_
    refine lv_bipush (v := 8) hx hb dX0_writeBlock_24 (by decide) ?_
    refine lv_imul hx hb dX0_writeBlock_26 ?_
    refine lv_bipush (v := 8) hx hb dX0_writeBlock_27 (by decide) ?_
    refine va_copyi (ty := .int) hx hb (hml.trans hl.1.symm) hown (hts (.methodLink RX0 122 arraycopyName) (by decide +kernel)) (hts (.native arraycopyName) (by decide +kernel)) (hts (.static arraycopyName) (by decide +kernel)) (hts (.initialized "java/lang/System") (by decide +kernel)) hK hP hD hS 1 2 0 1 rfl rfl rfl rfl rfl (wb_1 hw) (wb_2 hw) (by decide) (wb_4 hw) (wb_5 hw) (fun _ _ => rfl) (Nat.le_of_ble_eq_true rfl) (Nat.le_of_ble_eq_true rfl) dX0_writeBlock_29 (fun H locs hP hD hS => ?_)
    have hP : va_P (dC, dI) vwCl [(h0, .inr (0, [.ref h1, .ref h2, .ref h3, .int ds, .int pw, .int rn, .int wr, .int cm])), (h1, .inl (c1, 96, .inl mem)), (h2, .inl (c2, 200, .inl (va_cpy mem blk (x2 * 8).toNatClampNeg (x0 * 8).toNatClampNeg (8 : Int32).toNatClampNeg))), (h3, .inl (c3, 8, .inl hdr))] _ := hP
    have hD : va_D _ [(h0, .inr (0, [.ref h1, .ref h2, .ref h3, .int ds, .int pw, .int rn, .int wr, .int cm])), (h1, .inl (c1, 96, .inl mem)), (h2, .inl (c2, 200, .inl (va_cpy mem blk (x2 * 8).toNatClampNeg (x0 * 8).toNatClampNeg (8 : Int32).toNatClampNeg))), (h3, .inl (c3, 8, .inl hdr))] := hD
    refine lv_aload_n hx hb dX0_writeBlock_32 rfl (lv_at hl 0 rfl) ?_
    refine va_get (D := (dC, dI)) (ci := 0) (v := .int pw) (C := RX0) (T := TX0) (N := 8) hx hb hts hin hown hK hP 0 rfl rfl 4 (by decide) (hts (.fieldLink RX0 23 "CapStore" "powerLeft" "I") (by decide +kernel)) (fun _ h9 => h9) rfl dX0_writeBlock_33 ?_
    refine lv_iconst (v := (-1)) hx hb dX0_writeBlock_36 (by decide) ?_
    refine lv_icmp_eq (tgt := 50) hx hb dX0_writeBlock_37 (by decide) (fun c_37 => ?_) (fun c_37 => ?_)
    · skip
      refine lv_aload_n hx hb dX0_writeBlock_50 rfl (lv_at hl 0 rfl) ?_
      refine lv_dup hx hb dX0_writeBlock_51 rfl ?_
      refine va_get (D := (dC, dI)) (ci := 0) (v := .int wr) (C := RX0) (T := TX0) (N := 8) hx hb hts hin hown hK hP 0 rfl rfl 6 (by decide) (hts (.fieldLink RX0 30 "CapStore" "written" "I") (by decide +kernel)) (fun _ h9 => h9) rfl dX0_writeBlock_52 ?_
      refine lv_iconst (v := 1) hx hb dX0_writeBlock_55 (by decide) ?_
      refine lv_iadd hx hb dX0_writeBlock_56 ?_
      refine va_put (D := (dC, dI)) (ci := 0) (v := .int (wr + 1)) (ty := .int) (C := RX0) (T := TX0) (N := 8) hx hb hts hin tyX0 tyX0_ok nmX0 hown hK hP hD hS 0 rfl rfl 6 (by decide) (hts (.fieldLink RX0 30 "CapStore" "written" "I") (by decide +kernel)) (fun _ h9 => h9) rfl (by decide +kernel) rfl rfl (Nat.le_of_ble_eq_true rfl) dX0_writeBlock_57 (fun H locs hP hD hS => ?_)
      have hP : va_P (dC, dI) vwCl [(h0, .inr (0, [.ref h1, .ref h2, .ref h3, .int ds, .int pw, .int rn, .int (wr + 1), .int cm])), (h1, .inl (c1, 96, .inl mem)), (h2, .inl (c2, 200, .inl (va_cpy mem blk (x2 * 8).toNatClampNeg (x0 * 8).toNatClampNeg (8 : Int32).toNatClampNeg))), (h3, .inl (c3, 8, .inl hdr))] _ := hP
      have hD : va_D _ [(h0, .inr (0, [.ref h1, .ref h2, .ref h3, .int ds, .int pw, .int rn, .int (wr + 1), .int cm])), (h1, .inl (c1, 96, .inl mem)), (h2, .inl (c2, 200, .inl (va_cpy mem blk (x2 * 8).toNatClampNeg (x0 * 8).toNatClampNeg (8 : Int32).toNatClampNeg))), (h3, .inl (c3, 8, .inl hdr))] := hD
      refine lv_iconst (v := 1) hx hb dX0_writeBlock_60 (by decide) ?_
      have e9 : F0_writeBlock_m mem blk hdr ds pw rn wr cm x0 x2 = (1, mem, (va_cpy mem blk (x2 * 8).toNatClampNeg (x0 * 8).toNatClampNeg (8 : Int32).toNatClampNeg), hdr, ds, pw, rn, (wr + 1), cm) := by unfold F0_writeBlock_m; rw [if_neg c_4, if_pos c_37]
      rw [e9]
      exact retWi hx hb hr hlocks rfl rfl rfl hK hP hD hS dX0_writeBlock_61
    · skip
      refine lv_aload_n hx hb dX0_writeBlock_40 rfl (lv_at hl 0 rfl) ?_
      refine lv_dup hx hb dX0_writeBlock_41 rfl ?_
      refine va_get (D := (dC, dI)) (ci := 0) (v := .int pw) (C := RX0) (T := TX0) (N := 8) hx hb hts hin hown hK hP 0 rfl rfl 4 (by decide) (hts (.fieldLink RX0 23 "CapStore" "powerLeft" "I") (by decide +kernel)) (fun _ h9 => h9) rfl dX0_writeBlock_42 ?_
      refine lv_iconst (v := 1) hx hb dX0_writeBlock_45 (by decide) ?_
      refine lv_isub hx hb dX0_writeBlock_46 ?_
      refine va_put (D := (dC, dI)) (ci := 0) (v := .int (pw - 1)) (ty := .int) (C := RX0) (T := TX0) (N := 8) hx hb hts hin tyX0 tyX0_ok nmX0 hown hK hP hD hS 0 rfl rfl 4 (by decide) (hts (.fieldLink RX0 23 "CapStore" "powerLeft" "I") (by decide +kernel)) (fun _ h9 => h9) rfl (by decide +kernel) rfl rfl (Nat.le_of_ble_eq_true rfl) dX0_writeBlock_47 (fun H locs hP hD hS => ?_)
      have hP : va_P (dC, dI) vwCl [(h0, .inr (0, [.ref h1, .ref h2, .ref h3, .int ds, .int (pw - 1), .int rn, .int wr, .int cm])), (h1, .inl (c1, 96, .inl mem)), (h2, .inl (c2, 200, .inl (va_cpy mem blk (x2 * 8).toNatClampNeg (x0 * 8).toNatClampNeg (8 : Int32).toNatClampNeg))), (h3, .inl (c3, 8, .inl hdr))] _ := hP
      have hD : va_D _ [(h0, .inr (0, [.ref h1, .ref h2, .ref h3, .int ds, .int (pw - 1), .int rn, .int wr, .int cm])), (h1, .inl (c1, 96, .inl mem)), (h2, .inl (c2, 200, .inl (va_cpy mem blk (x2 * 8).toNatClampNeg (x0 * 8).toNatClampNeg (8 : Int32).toNatClampNeg))), (h3, .inl (c3, 8, .inl hdr))] := hD
      refine lv_aload_n hx hb dX0_writeBlock_50 rfl (lv_at hl 0 rfl) ?_
      refine lv_dup hx hb dX0_writeBlock_51 rfl ?_
      refine va_get (D := (dC, dI)) (ci := 0) (v := .int wr) (C := RX0) (T := TX0) (N := 8) hx hb hts hin hown hK hP 0 rfl rfl 6 (by decide) (hts (.fieldLink RX0 30 "CapStore" "written" "I") (by decide +kernel)) (fun _ h9 => h9) rfl dX0_writeBlock_52 ?_
      refine lv_iconst (v := 1) hx hb dX0_writeBlock_55 (by decide) ?_
      refine lv_iadd hx hb dX0_writeBlock_56 ?_
      refine va_put (D := (dC, dI)) (ci := 0) (v := .int (wr + 1)) (ty := .int) (C := RX0) (T := TX0) (N := 8) hx hb hts hin tyX0 tyX0_ok nmX0 hown hK hP hD hS 0 rfl rfl 6 (by decide) (hts (.fieldLink RX0 30 "CapStore" "written" "I") (by decide +kernel)) (fun _ h9 => h9) rfl (by decide +kernel) rfl rfl (Nat.le_of_ble_eq_true rfl) dX0_writeBlock_57 (fun H locs hP hD hS => ?_)
      have hP : va_P (dC, dI) vwCl [(h0, .inr (0, [.ref h1, .ref h2, .ref h3, .int ds, .int (pw - 1), .int rn, .int (wr + 1), .int cm])), (h1, .inl (c1, 96, .inl mem)), (h2, .inl (c2, 200, .inl (va_cpy mem blk (x2 * 8).toNatClampNeg (x0 * 8).toNatClampNeg (8 : Int32).toNatClampNeg))), (h3, .inl (c3, 8, .inl hdr))] _ := hP
      have hD : va_D _ [(h0, .inr (0, [.ref h1, .ref h2, .ref h3, .int ds, .int (pw - 1), .int rn, .int (wr + 1), .int cm])), (h1, .inl (c1, 96, .inl mem)), (h2, .inl (c2, 200, .inl (va_cpy mem blk (x2 * 8).toNatClampNeg (x0 * 8).toNatClampNeg (8 : Int32).toNatClampNeg))), (h3, .inl (c3, 8, .inl hdr))] := hD
      refine lv_iconst (v := 1) hx hb dX0_writeBlock_60 (by decide) ?_
      have e9 : F0_writeBlock_m mem blk hdr ds pw rn wr cm x0 x2 = (1, mem, (va_cpy mem blk (x2 * 8).toNatClampNeg (x0 * 8).toNatClampNeg (8 : Int32).toNatClampNeg), hdr, ds, (pw - 1), rn, (wr + 1), cm) := by unfold F0_writeBlock_m; rw [if_neg c_4, if_neg c_37]
      rw [e9]
      exact retWi hx hb hr hlocks rfl rfl rfl hK hP hD hS dX0_writeBlock_61
  · skip
    refine lv_aload_n hx hb dX0_writeBlock_7 rfl (lv_at hl 0 rfl) ?_
    refine lv_iconst (v := 0) hx hb dX0_writeBlock_8 (by decide) ?_
    refine va_put (D := (dC, dI)) (ci := 0) (v := .int 0) (ty := .boolean) (C := RX0) (T := TX0) (N := 8) hx hb hts hin tyX0 tyX0_ok nmX0 hown hK hP hD hS 0 rfl rfl 5 (by decide) (hts (.fieldLink RX0 26 "CapStore" "running" "Z") (by decide +kernel)) (fun _ h9 => h9) rfl (by decide +kernel) rfl rfl (Nat.le_of_ble_eq_true rfl) dX0_writeBlock_9 (fun H locs hP hD hS => ?_)
    have hP : va_P (dC, dI) vwCl [(h0, .inr (0, [.ref h1, .ref h2, .ref h3, .int ds, .int pw, .int 0, .int wr, .int cm])), (h1, .inl (c1, 96, .inl mem)), (h2, .inl (c2, 200, .inl blk)), (h3, .inl (c3, 8, .inl hdr))] _ := hP
    have hD : va_D _ [(h0, .inr (0, [.ref h1, .ref h2, .ref h3, .int ds, .int pw, .int 0, .int wr, .int cm])), (h1, .inl (c1, 96, .inl mem)), (h2, .inl (c2, 200, .inl blk)), (h3, .inl (c3, 8, .inl hdr))] := hD
    refine lv_iconst (v := 0) hx hb dX0_writeBlock_12 (by decide) ?_
    have e9 : F0_writeBlock_m mem blk hdr ds pw rn wr cm x0 x2 = (0, mem, blk, hdr, ds, pw, 0, wr, cm) := by unfold F0_writeBlock_m; rw [if_pos c_4]
    rw [e9]
    exact retWi hx hb hr hlocks rfl rfl rfl hK hP hD hS dX0_writeBlock_13
set_option maxHeartbeats 4000000 in
set_option maxRecDepth 100000 in
theorem m0_writeBlock_b (l : Launch) (dC : Nat → ClassId) (dI : Nat → Nat → Nat) (h0 h1 h2 h3 : Nat) (c1 c2 c3 : ClassId) (sz : Nat) (mem blk hdr : Nat → Int32) (ds pw rn wr cm : Int32) (x0 : Int32) (x2 : Int32) (hw : wbOK x0 x2 200) : Met l yX0_writeBlock wsX0_writeBlock ({ frames := 1, cells := 0, slots := 0, locals := 40 }) (pcW (dC, dI) (k0 c1 c2 c3) (w0 h0 h1 h2 h3 c1 c2 c3 (mem, blk, hdr, ds, pw, rn, wr, cm)) sz [.ref h0, .int x0, .ref h2, .int x2]) (qcWi (dC, dI) (k0 c1 c2 c3) (w0 h0 h1 h2 h3 c1 c2 c3 (mem, blk, hdr, ds, pw, rn, wr, cm)) (w0 h0 h1 h2 h3 c1 c2 c3 (F0_writeBlock_b mem blk hdr ds pw rn wr cm x0 x2).2) sz (F0_writeBlock_b mem blk hdr ds pw rn wr cm x0 x2).1) 0 0 (va_A (w0 h0 h1 h2 h3 c1 c2 c3 (mem, blk, hdr, ds, pw, rn, wr, cm)) sz) := by
  refine Met.ofW (cc := cX0_writeBlock) (maxL := 4) (ret := (some .boolean)) (by decide) rfl ?_
  intro p e s m args below meth c s₁ B hml hv
  obtain ⟨rfl, hsz, hP, hK, hD0⟩ := hv
  have hx := B.exec
  have hb := B.bytes
  have hr := B.returns
  have hts := atoms_spec (ws := wsX0_writeBlock) B.pre
  have hown : s.vm.findClass RX0 = some m.cls := findClass_of_methodNamed B.named
  have hlocks := B.notSynchronized
  have hin : ∀ w ∈ wsX00, w ∈ wsX0_writeBlock := fun _ h => List.mem_cons_of_mem _ (List.mem_append_right _ h)
  have hP : va_P (dC, dI) vwCl [(h0, .inr (0, [.ref h1, .ref h2, .ref h3, .int ds, .int pw, .int rn, .int wr, .int cm])), (h1, .inl (c1, 96, .inl mem)), (h2, .inl (c2, 200, .inl blk)), (h3, .inl (c3, 8, .inl hdr))] s.heap := hP
  subst hsz
  have hD := hD0.self (sz := s.heap.size)
  have hA : ∀ q : Nat, s.heap.size ≤ q → (va_A (w0 h0 h1 h2 h3 c1 c2 c3 (mem, blk, hdr, ds, pw, rn, wr, cm)) s.heap.size) q := fun q h => Or.inr h
  have hS : va_S (va_A (w0 h0 h1 h2 h3 c1 c2 c3 (mem, blk, hdr, ds, pw, rn, wr, cm)) s.heap.size) s.heap s.heap [] := va_S.rf
  have hl := lv_entry ([.ref h0, .int x0, .ref h2, .int x2]) (n := 4) (Nat.le_of_ble_eq_true rfl)
  rw [lg_entry_eq]
  generalize (lg_sl ([.ref h0, .int x0, .ref h2, .int x2]) ++ List.replicate (4 - (lg_sl ([.ref h0, .int x0, .ref h2, .int x2])).length) Slot.unset).toArray = ls at hl ⊢
  have hl : lv_has ls 4 [(0, .ref h0), (1, .int x0), (2, .ref h2), (3, .int x2)] := hl
  refine lv_aload_n hx hb dX0_writeBlock_0 rfl (lv_at hl 0 rfl) ?_
  refine va_get (D := (dC, dI)) (ci := 0) (v := .int pw) (C := RX0) (T := TX0) (N := 8) hx hb hts hin hown hK hP 0 rfl rfl 4 (by decide) (hts (.fieldLink RX0 23 "CapStore" "powerLeft" "I") (by decide +kernel)) (fun _ h9 => h9) rfl dX0_writeBlock_1 ?_
  refine lv_if_ne (tgt := 14) hx hb dX0_writeBlock_4 (by decide) (fun c_4 => ?_) (fun c_4 => ?_)
  · skip
    refine lv_aload_n hx hb dX0_writeBlock_14 rfl (lv_at hl 2 rfl) ?_
    refine lv_iload_n hx hb dX0_writeBlock_15 rfl (lv_at hl 3 rfl) ?_
    refine lv_bipush (v := 8) hx hb dX0_writeBlock_16 (by decide) ?_
    refine lv_imul hx hb dX0_writeBlock_18 ?_
    refine lv_aload_n hx hb dX0_writeBlock_19 rfl (lv_at hl 0 rfl) ?_
    refine va_get (D := (dC, dI)) (ci := 0) (v := .ref h2) (C := RX0) (T := TX0) (N := 8) hx hb hts hin hown hK hP 0 rfl rfl 1 (by decide) (hts (.fieldLink RX0 13 "CapStore" "blocks" "[I") (by decide +kernel)) (fun _ h9 => h9) rfl dX0_writeBlock_20 ?_
    refine lv_iload_n hx hb dX0_writeBlock_23 rfl (lv_at hl 1 rfl) ?_
    refine lv_bipush (v := 8) hx hb dX0_writeBlock_24 (by decide) ?_
    refine lv_imul hx hb dX0_writeBlock_26 ?_
    refine lv_bipush (v := 8) hx hb dX0_writeBlock_27 (by decide) ?_
    refine va_copyi (ty := .int) hx hb (hml.trans hl.1.symm) hown (hts (.methodLink RX0 122 arraycopyName) (by decide +kernel)) (hts (.native arraycopyName) (by decide +kernel)) (hts (.static arraycopyName) (by decide +kernel)) (hts (.initialized "java/lang/System") (by decide +kernel)) hK hP hD hS 2 2 1 1 rfl rfl rfl rfl rfl (wb_1 hw) (wb_2 hw) (by decide) (wb_4 hw) (wb_5 hw) (fun _ _ => rfl) (Nat.le_of_ble_eq_true rfl) (Nat.le_of_ble_eq_true rfl) dX0_writeBlock_29 (fun H locs hP hD hS => ?_)
    have hP : va_P (dC, dI) vwCl [(h0, .inr (0, [.ref h1, .ref h2, .ref h3, .int ds, .int pw, .int rn, .int wr, .int cm])), (h1, .inl (c1, 96, .inl mem)), (h2, .inl (c2, 200, .inl (va_cpy blk blk (x2 * 8).toNatClampNeg (x0 * 8).toNatClampNeg (8 : Int32).toNatClampNeg))), (h3, .inl (c3, 8, .inl hdr))] _ := hP
    have hD : va_D _ [(h0, .inr (0, [.ref h1, .ref h2, .ref h3, .int ds, .int pw, .int rn, .int wr, .int cm])), (h1, .inl (c1, 96, .inl mem)), (h2, .inl (c2, 200, .inl (va_cpy blk blk (x2 * 8).toNatClampNeg (x0 * 8).toNatClampNeg (8 : Int32).toNatClampNeg))), (h3, .inl (c3, 8, .inl hdr))] := hD
    refine lv_aload_n hx hb dX0_writeBlock_32 rfl (lv_at hl 0 rfl) ?_
    refine va_get (D := (dC, dI)) (ci := 0) (v := .int pw) (C := RX0) (T := TX0) (N := 8) hx hb hts hin hown hK hP 0 rfl rfl 4 (by decide) (hts (.fieldLink RX0 23 "CapStore" "powerLeft" "I") (by decide +kernel)) (fun _ h9 => h9) rfl dX0_writeBlock_33 ?_
    refine lv_iconst (v := (-1)) hx hb dX0_writeBlock_36 (by decide) ?_
    refine lv_icmp_eq (tgt := 50) hx hb dX0_writeBlock_37 (by decide) (fun c_37 => ?_) (fun c_37 => ?_)
    · skip
      refine lv_aload_n hx hb dX0_writeBlock_50 rfl (lv_at hl 0 rfl) ?_
      refine lv_dup hx hb dX0_writeBlock_51 rfl ?_
      refine va_get (D := (dC, dI)) (ci := 0) (v := .int wr) (C := RX0) (T := TX0) (N := 8) hx hb hts hin hown hK hP 0 rfl rfl 6 (by decide) (hts (.fieldLink RX0 30 "CapStore" "written" "I") (by decide +kernel)) (fun _ h9 => h9) rfl dX0_writeBlock_52 ?_
      refine lv_iconst (v := 1) hx hb dX0_writeBlock_55 (by decide) ?_
      refine lv_iadd hx hb dX0_writeBlock_56 ?_
      refine va_put (D := (dC, dI)) (ci := 0) (v := .int (wr + 1)) (ty := .int) (C := RX0) (T := TX0) (N := 8) hx hb hts hin tyX0 tyX0_ok nmX0 hown hK hP hD hS 0 rfl rfl 6 (by decide) (hts (.fieldLink RX0 30 "CapStore" "written" "I") (by decide +kernel)) (fun _ h9 => h9) rfl (by decide +kernel) rfl rfl (Nat.le_of_ble_eq_true rfl) dX0_writeBlock_57 (fun H locs hP hD hS => ?_)
      have hP : va_P (dC, dI) vwCl [(h0, .inr (0, [.ref h1, .ref h2, .ref h3, .int ds, .int pw, .int rn, .int (wr + 1), .int cm])), (h1, .inl (c1, 96, .inl mem)), (h2, .inl (c2, 200, .inl (va_cpy blk blk (x2 * 8).toNatClampNeg (x0 * 8).toNatClampNeg (8 : Int32).toNatClampNeg))), (h3, .inl (c3, 8, .inl hdr))] _ := hP
      have hD : va_D _ [(h0, .inr (0, [.ref h1, .ref h2, .ref h3, .int ds, .int pw, .int rn, .int (wr + 1), .int cm])), (h1, .inl (c1, 96, .inl mem)), (h2, .inl (c2, 200, .inl (va_cpy blk blk (x2 * 8).toNatClampNeg (x0 * 8).toNatClampNeg (8 : Int32).toNatClampNeg))), (h3, .inl (c3, 8, .inl hdr))] := hD
      refine lv_iconst (v := 1) hx hb dX0_writeBlock_60 (by decide) ?_
      have e9 : F0_writeBlock_b mem blk hdr ds pw rn wr cm x0 x2 = (1, mem, (va_cpy blk blk (x2 * 8).toNatClampNeg (x0 * 8).toNatClampNeg (8 : Int32).toNatClampNeg), hdr, ds, pw, rn, (wr + 1), cm) := by unfold F0_writeBlock_b; rw [if_neg c_4, if_pos c_37]
      rw [e9]
      exact retWi hx hb hr hlocks rfl rfl rfl hK hP hD hS dX0_writeBlock_61
    · skip
      refine lv_aload_n hx hb dX0_writeBlock_40 rfl (lv_at hl 0 rfl) ?_
      refine lv_dup hx hb dX0_writeBlock_41 rfl ?_
      refine va_get (D := (dC, dI)) (ci := 0) (v := .int pw) (C := RX0) (T := TX0) (N := 8) hx hb hts hin hown hK hP 0 rfl rfl 4 (by decide) (hts (.fieldLink RX0 23 "CapStore" "powerLeft" "I") (by decide +kernel)) (fun _ h9 => h9) rfl dX0_writeBlock_42 ?_
      refine lv_iconst (v := 1) hx hb dX0_writeBlock_45 (by decide) ?_
      refine lv_isub hx hb dX0_writeBlock_46 ?_
      refine va_put (D := (dC, dI)) (ci := 0) (v := .int (pw - 1)) (ty := .int) (C := RX0) (T := TX0) (N := 8) hx hb hts hin tyX0 tyX0_ok nmX0 hown hK hP hD hS 0 rfl rfl 4 (by decide) (hts (.fieldLink RX0 23 "CapStore" "powerLeft" "I") (by decide +kernel)) (fun _ h9 => h9) rfl (by decide +kernel) rfl rfl (Nat.le_of_ble_eq_true rfl) dX0_writeBlock_47 (fun H locs hP hD hS => ?_)
      have hP : va_P (dC, dI) vwCl [(h0, .inr (0, [.ref h1, .ref h2, .ref h3, .int ds, .int (pw - 1), .int rn, .int wr, .int cm])), (h1, .inl (c1, 96, .inl mem)), (h2, .inl (c2, 200, .inl (va_cpy blk blk (x2 * 8).toNatClampNeg (x0 * 8).toNatClampNeg (8 : Int32).toNatClampNeg))), (h3, .inl (c3, 8, .inl hdr))] _ := hP
      have hD : va_D _ [(h0, .inr (0, [.ref h1, .ref h2, .ref h3, .int ds, .int (pw - 1), .int rn, .int wr, .int cm])), (h1, .inl (c1, 96, .inl mem)), (h2, .inl (c2, 200, .inl (va_cpy blk blk (x2 * 8).toNatClampNeg (x0 * 8).toNatClampNeg (8 : Int32).toNatClampNeg))), (h3, .inl (c3, 8, .inl hdr))] := hD
      refine lv_aload_n hx hb dX0_writeBlock_50 rfl (lv_at hl 0 rfl) ?_
      refine lv_dup hx hb dX0_writeBlock_51 rfl ?_
      refine va_get (D := (dC, dI)) (ci := 0) (v := .int wr) (C := RX0) (T := TX0) (N := 8) hx hb hts hin hown hK hP 0 rfl rfl 6 (by decide) (hts (.fieldLink RX0 30 "CapStore" "written" "I") (by decide +kernel)) (fun _ h9 => h9) rfl dX0_writeBlock_52 ?_
      refine lv_iconst (v := 1) hx hb dX0_writeBlock_55 (by decide) ?_
      refine lv_iadd hx hb dX0_writeBlock_56 ?_
      refine va_put (D := (dC, dI)) (ci := 0) (v := .int (wr + 1)) (ty := .int) (C := RX0) (T := TX0) (N := 8) hx hb hts hin tyX0 tyX0_ok nmX0 hown hK hP hD hS 0 rfl rfl 6 (by decide) (hts (.fieldLink RX0 30 "CapStore" "written" "I") (by decide +kernel)) (fun _ h9 => h9) rfl (by decide +kernel) rfl rfl (Nat.le_of_ble_eq_true rfl) dX0_writeBlock_57 (fun H locs hP hD hS => ?_)
      have hP : va_P (dC, dI) vwCl [(h0, .inr (0, [.ref h1, .ref h2, .ref h3, .int ds, .int (pw - 1), .int rn, .int (wr + 1), .int cm])), (h1, .inl (c1, 96, .inl mem)), (h2, .inl (c2, 200, .inl (va_cpy blk blk (x2 * 8).toNatClampNeg (x0 * 8).toNatClampNeg (8 : Int32).toNatClampNeg))), (h3, .inl (c3, 8, .inl hdr))] _ := hP
      have hD : va_D _ [(h0, .inr (0, [.ref h1, .ref h2, .ref h3, .int ds, .int (pw - 1), .int rn, .int (wr + 1), .int cm])), (h1, .inl (c1, 96, .inl mem)), (h2, .inl (c2, 200, .inl (va_cpy blk blk (x2 * 8).toNatClampNeg (x0 * 8).toNatClampNeg (8 : Int32).toNatClampNeg))), (h3, .inl (c3, 8, .inl hdr))] := hD
      refine lv_iconst (v := 1) hx hb dX0_writeBlock_60 (by decide) ?_
      have e9 : F0_writeBlock_b mem blk hdr ds pw rn wr cm x0 x2 = (1, mem, (va_cpy blk blk (x2 * 8).toNatClampNeg (x0 * 8).toNatClampNeg (8 : Int32).toNatClampNeg), hdr, ds, (pw - 1), rn, (wr + 1), cm) := by unfold F0_writeBlock_b; rw [if_neg c_4, if_neg c_37]
      rw [e9]
      exact retWi hx hb hr hlocks rfl rfl rfl hK hP hD hS dX0_writeBlock_61
  · skip
    refine lv_aload_n hx hb dX0_writeBlock_7 rfl (lv_at hl 0 rfl) ?_
    refine lv_iconst (v := 0) hx hb dX0_writeBlock_8 (by decide) ?_
    refine va_put (D := (dC, dI)) (ci := 0) (v := .int 0) (ty := .boolean) (C := RX0) (T := TX0) (N := 8) hx hb hts hin tyX0 tyX0_ok nmX0 hown hK hP hD hS 0 rfl rfl 5 (by decide) (hts (.fieldLink RX0 26 "CapStore" "running" "Z") (by decide +kernel)) (fun _ h9 => h9) rfl (by decide +kernel) rfl rfl (Nat.le_of_ble_eq_true rfl) dX0_writeBlock_9 (fun H locs hP hD hS => ?_)
    have hP : va_P (dC, dI) vwCl [(h0, .inr (0, [.ref h1, .ref h2, .ref h3, .int ds, .int pw, .int 0, .int wr, .int cm])), (h1, .inl (c1, 96, .inl mem)), (h2, .inl (c2, 200, .inl blk)), (h3, .inl (c3, 8, .inl hdr))] _ := hP
    have hD : va_D _ [(h0, .inr (0, [.ref h1, .ref h2, .ref h3, .int ds, .int pw, .int 0, .int wr, .int cm])), (h1, .inl (c1, 96, .inl mem)), (h2, .inl (c2, 200, .inl blk)), (h3, .inl (c3, 8, .inl hdr))] := hD
    refine lv_iconst (v := 0) hx hb dX0_writeBlock_12 (by decide) ?_
    have e9 : F0_writeBlock_b mem blk hdr ds pw rn wr cm x0 x2 = (0, mem, blk, hdr, ds, pw, 0, wr, cm) := by unfold F0_writeBlock_b; rw [if_pos c_4]
    rw [e9]
    exact retWi hx hb hr hlocks rfl rfl rfl hK hP hD hS dX0_writeBlock_13
set_option maxHeartbeats 4000000 in
set_option maxRecDepth 100000 in
theorem m0_writeBlock_h (l : Launch) (dC : Nat → ClassId) (dI : Nat → Nat → Nat) (h0 h1 h2 h3 : Nat) (c1 c2 c3 : ClassId) (sz : Nat) (mem blk hdr : Nat → Int32) (ds pw rn wr cm : Int32) (x0 : Int32) (x2 : Int32) (hw : wbOK x0 x2 8) : Met l yX0_writeBlock wsX0_writeBlock ({ frames := 1, cells := 0, slots := 0, locals := 40 }) (pcW (dC, dI) (k0 c1 c2 c3) (w0 h0 h1 h2 h3 c1 c2 c3 (mem, blk, hdr, ds, pw, rn, wr, cm)) sz [.ref h0, .int x0, .ref h3, .int x2]) (qcWi (dC, dI) (k0 c1 c2 c3) (w0 h0 h1 h2 h3 c1 c2 c3 (mem, blk, hdr, ds, pw, rn, wr, cm)) (w0 h0 h1 h2 h3 c1 c2 c3 (F0_writeBlock_h mem blk hdr ds pw rn wr cm x0 x2).2) sz (F0_writeBlock_h mem blk hdr ds pw rn wr cm x0 x2).1) 0 0 (va_A (w0 h0 h1 h2 h3 c1 c2 c3 (mem, blk, hdr, ds, pw, rn, wr, cm)) sz) := by
  refine Met.ofW (cc := cX0_writeBlock) (maxL := 4) (ret := (some .boolean)) (by decide) rfl ?_
  intro p e s m args below meth c s₁ B hml hv
  obtain ⟨rfl, hsz, hP, hK, hD0⟩ := hv
  have hx := B.exec
  have hb := B.bytes
  have hr := B.returns
  have hts := atoms_spec (ws := wsX0_writeBlock) B.pre
  have hown : s.vm.findClass RX0 = some m.cls := findClass_of_methodNamed B.named
  have hlocks := B.notSynchronized
  have hin : ∀ w ∈ wsX00, w ∈ wsX0_writeBlock := fun _ h => List.mem_cons_of_mem _ (List.mem_append_right _ h)
  have hP : va_P (dC, dI) vwCl [(h0, .inr (0, [.ref h1, .ref h2, .ref h3, .int ds, .int pw, .int rn, .int wr, .int cm])), (h1, .inl (c1, 96, .inl mem)), (h2, .inl (c2, 200, .inl blk)), (h3, .inl (c3, 8, .inl hdr))] s.heap := hP
  subst hsz
  have hD := hD0.self (sz := s.heap.size)
  have hA : ∀ q : Nat, s.heap.size ≤ q → (va_A (w0 h0 h1 h2 h3 c1 c2 c3 (mem, blk, hdr, ds, pw, rn, wr, cm)) s.heap.size) q := fun q h => Or.inr h
  have hS : va_S (va_A (w0 h0 h1 h2 h3 c1 c2 c3 (mem, blk, hdr, ds, pw, rn, wr, cm)) s.heap.size) s.heap s.heap [] := va_S.rf
  have hl := lv_entry ([.ref h0, .int x0, .ref h3, .int x2]) (n := 4) (Nat.le_of_ble_eq_true rfl)
  rw [lg_entry_eq]
  generalize (lg_sl ([.ref h0, .int x0, .ref h3, .int x2]) ++ List.replicate (4 - (lg_sl ([.ref h0, .int x0, .ref h3, .int x2])).length) Slot.unset).toArray = ls at hl ⊢
  have hl : lv_has ls 4 [(0, .ref h0), (1, .int x0), (2, .ref h3), (3, .int x2)] := hl
  refine lv_aload_n hx hb dX0_writeBlock_0 rfl (lv_at hl 0 rfl) ?_
  refine va_get (D := (dC, dI)) (ci := 0) (v := .int pw) (C := RX0) (T := TX0) (N := 8) hx hb hts hin hown hK hP 0 rfl rfl 4 (by decide) (hts (.fieldLink RX0 23 "CapStore" "powerLeft" "I") (by decide +kernel)) (fun _ h9 => h9) rfl dX0_writeBlock_1 ?_
  refine lv_if_ne (tgt := 14) hx hb dX0_writeBlock_4 (by decide) (fun c_4 => ?_) (fun c_4 => ?_)
  · skip
    refine lv_aload_n hx hb dX0_writeBlock_14 rfl (lv_at hl 2 rfl) ?_
    refine lv_iload_n hx hb dX0_writeBlock_15 rfl (lv_at hl 3 rfl) ?_
    refine lv_bipush (v := 8) hx hb dX0_writeBlock_16 (by decide) ?_
    refine lv_imul hx hb dX0_writeBlock_18 ?_
    refine lv_aload_n hx hb dX0_writeBlock_19 rfl (lv_at hl 0 rfl) ?_
    refine va_get (D := (dC, dI)) (ci := 0) (v := .ref h2) (C := RX0) (T := TX0) (N := 8) hx hb hts hin hown hK hP 0 rfl rfl 1 (by decide) (hts (.fieldLink RX0 13 "CapStore" "blocks" "[I") (by decide +kernel)) (fun _ h9 => h9) rfl dX0_writeBlock_20 ?_
    refine lv_iload_n hx hb dX0_writeBlock_23 rfl (lv_at hl 1 rfl) ?_
    refine lv_bipush (v := 8) hx hb dX0_writeBlock_24 (by decide) ?_
    refine lv_imul hx hb dX0_writeBlock_26 ?_
    refine lv_bipush (v := 8) hx hb dX0_writeBlock_27 (by decide) ?_
    refine va_copyi (ty := .int) hx hb (hml.trans hl.1.symm) hown (hts (.methodLink RX0 122 arraycopyName) (by decide +kernel)) (hts (.native arraycopyName) (by decide +kernel)) (hts (.static arraycopyName) (by decide +kernel)) (hts (.initialized "java/lang/System") (by decide +kernel)) hK hP hD hS 3 2 2 1 rfl rfl rfl rfl rfl (wb_1 hw) (wb_2 hw) (by decide) (wb_4 hw) (wb_5 hw) (fun _ _ => rfl) (Nat.le_of_ble_eq_true rfl) (Nat.le_of_ble_eq_true rfl) dX0_writeBlock_29 (fun H locs hP hD hS => ?_)
    have hP : va_P (dC, dI) vwCl [(h0, .inr (0, [.ref h1, .ref h2, .ref h3, .int ds, .int pw, .int rn, .int wr, .int cm])), (h1, .inl (c1, 96, .inl mem)), (h2, .inl (c2, 200, .inl (va_cpy hdr blk (x2 * 8).toNatClampNeg (x0 * 8).toNatClampNeg (8 : Int32).toNatClampNeg))), (h3, .inl (c3, 8, .inl hdr))] _ := hP
    have hD : va_D _ [(h0, .inr (0, [.ref h1, .ref h2, .ref h3, .int ds, .int pw, .int rn, .int wr, .int cm])), (h1, .inl (c1, 96, .inl mem)), (h2, .inl (c2, 200, .inl (va_cpy hdr blk (x2 * 8).toNatClampNeg (x0 * 8).toNatClampNeg (8 : Int32).toNatClampNeg))), (h3, .inl (c3, 8, .inl hdr))] := hD
    refine lv_aload_n hx hb dX0_writeBlock_32 rfl (lv_at hl 0 rfl) ?_
    refine va_get (D := (dC, dI)) (ci := 0) (v := .int pw) (C := RX0) (T := TX0) (N := 8) hx hb hts hin hown hK hP 0 rfl rfl 4 (by decide) (hts (.fieldLink RX0 23 "CapStore" "powerLeft" "I") (by decide +kernel)) (fun _ h9 => h9) rfl dX0_writeBlock_33 ?_
    refine lv_iconst (v := (-1)) hx hb dX0_writeBlock_36 (by decide) ?_
    refine lv_icmp_eq (tgt := 50) hx hb dX0_writeBlock_37 (by decide) (fun c_37 => ?_) (fun c_37 => ?_)
    · skip
      refine lv_aload_n hx hb dX0_writeBlock_50 rfl (lv_at hl 0 rfl) ?_
      refine lv_dup hx hb dX0_writeBlock_51 rfl ?_
      refine va_get (D := (dC, dI)) (ci := 0) (v := .int wr) (C := RX0) (T := TX0) (N := 8) hx hb hts hin hown hK hP 0 rfl rfl 6 (by decide) (hts (.fieldLink RX0 30 "CapStore" "written" "I") (by decide +kernel)) (fun _ h9 => h9) rfl dX0_writeBlock_52 ?_
      refine lv_iconst (v := 1) hx hb dX0_writeBlock_55 (by decide) ?_
      refine lv_iadd hx hb dX0_writeBlock_56 ?_
      refine va_put (D := (dC, dI)) (ci := 0) (v := .int (wr + 1)) (ty := .int) (C := RX0) (T := TX0) (N := 8) hx hb hts hin tyX0 tyX0_ok nmX0 hown hK hP hD hS 0 rfl rfl 6 (by decide) (hts (.fieldLink RX0 30 "CapStore" "written" "I") (by decide +kernel)) (fun _ h9 => h9) rfl (by decide +kernel) rfl rfl (Nat.le_of_ble_eq_true rfl) dX0_writeBlock_57 (fun H locs hP hD hS => ?_)
      have hP : va_P (dC, dI) vwCl [(h0, .inr (0, [.ref h1, .ref h2, .ref h3, .int ds, .int pw, .int rn, .int (wr + 1), .int cm])), (h1, .inl (c1, 96, .inl mem)), (h2, .inl (c2, 200, .inl (va_cpy hdr blk (x2 * 8).toNatClampNeg (x0 * 8).toNatClampNeg (8 : Int32).toNatClampNeg))), (h3, .inl (c3, 8, .inl hdr))] _ := hP
      have hD : va_D _ [(h0, .inr (0, [.ref h1, .ref h2, .ref h3, .int ds, .int pw, .int rn, .int (wr + 1), .int cm])), (h1, .inl (c1, 96, .inl mem)), (h2, .inl (c2, 200, .inl (va_cpy hdr blk (x2 * 8).toNatClampNeg (x0 * 8).toNatClampNeg (8 : Int32).toNatClampNeg))), (h3, .inl (c3, 8, .inl hdr))] := hD
      refine lv_iconst (v := 1) hx hb dX0_writeBlock_60 (by decide) ?_
      have e9 : F0_writeBlock_h mem blk hdr ds pw rn wr cm x0 x2 = (1, mem, (va_cpy hdr blk (x2 * 8).toNatClampNeg (x0 * 8).toNatClampNeg (8 : Int32).toNatClampNeg), hdr, ds, pw, rn, (wr + 1), cm) := by unfold F0_writeBlock_h; rw [if_neg c_4, if_pos c_37]
      rw [e9]
      exact retWi hx hb hr hlocks rfl rfl rfl hK hP hD hS dX0_writeBlock_61
    · skip
      refine lv_aload_n hx hb dX0_writeBlock_40 rfl (lv_at hl 0 rfl) ?_
      refine lv_dup hx hb dX0_writeBlock_41 rfl ?_
      refine va_get (D := (dC, dI)) (ci := 0) (v := .int pw) (C := RX0) (T := TX0) (N := 8) hx hb hts hin hown hK hP 0 rfl rfl 4 (by decide) (hts (.fieldLink RX0 23 "CapStore" "powerLeft" "I") (by decide +kernel)) (fun _ h9 => h9) rfl dX0_writeBlock_42 ?_
      refine lv_iconst (v := 1) hx hb dX0_writeBlock_45 (by decide) ?_
      refine lv_isub hx hb dX0_writeBlock_46 ?_
      refine va_put (D := (dC, dI)) (ci := 0) (v := .int (pw - 1)) (ty := .int) (C := RX0) (T := TX0) (N := 8) hx hb hts hin tyX0 tyX0_ok nmX0 hown hK hP hD hS 0 rfl rfl 4 (by decide) (hts (.fieldLink RX0 23 "CapStore" "powerLeft" "I") (by decide +kernel)) (fun _ h9 => h9) rfl (by decide +kernel) rfl rfl (Nat.le_of_ble_eq_true rfl) dX0_writeBlock_47 (fun H locs hP hD hS => ?_)
      have hP : va_P (dC, dI) vwCl [(h0, .inr (0, [.ref h1, .ref h2, .ref h3, .int ds, .int (pw - 1), .int rn, .int wr, .int cm])), (h1, .inl (c1, 96, .inl mem)), (h2, .inl (c2, 200, .inl (va_cpy hdr blk (x2 * 8).toNatClampNeg (x0 * 8).toNatClampNeg (8 : Int32).toNatClampNeg))), (h3, .inl (c3, 8, .inl hdr))] _ := hP
      have hD : va_D _ [(h0, .inr (0, [.ref h1, .ref h2, .ref h3, .int ds, .int (pw - 1), .int rn, .int wr, .int cm])), (h1, .inl (c1, 96, .inl mem)), (h2, .inl (c2, 200, .inl (va_cpy hdr blk (x2 * 8).toNatClampNeg (x0 * 8).toNatClampNeg (8 : Int32).toNatClampNeg))), (h3, .inl (c3, 8, .inl hdr))] := hD
      refine lv_aload_n hx hb dX0_writeBlock_50 rfl (lv_at hl 0 rfl) ?_
      refine lv_dup hx hb dX0_writeBlock_51 rfl ?_
      refine va_get (D := (dC, dI)) (ci := 0) (v := .int wr) (C := RX0) (T := TX0) (N := 8) hx hb hts hin hown hK hP 0 rfl rfl 6 (by decide) (hts (.fieldLink RX0 30 "CapStore" "written" "I") (by decide +kernel)) (fun _ h9 => h9) rfl dX0_writeBlock_52 ?_
      refine lv_iconst (v := 1) hx hb dX0_writeBlock_55 (by decide) ?_
      refine lv_iadd hx hb dX0_writeBlock_56 ?_
      refine va_put (D := (dC, dI)) (ci := 0) (v := .int (wr + 1)) (ty := .int) (C := RX0) (T := TX0) (N := 8) hx hb hts hin tyX0 tyX0_ok nmX0 hown hK hP hD hS 0 rfl rfl 6 (by decide) (hts (.fieldLink RX0 30 "CapStore" "written" "I") (by decide +kernel)) (fun _ h9 => h9) rfl (by decide +kernel) rfl rfl (Nat.le_of_ble_eq_true rfl) dX0_writeBlock_57 (fun H locs hP hD hS => ?_)
      have hP : va_P (dC, dI) vwCl [(h0, .inr (0, [.ref h1, .ref h2, .ref h3, .int ds, .int (pw - 1), .int rn, .int (wr + 1), .int cm])), (h1, .inl (c1, 96, .inl mem)), (h2, .inl (c2, 200, .inl (va_cpy hdr blk (x2 * 8).toNatClampNeg (x0 * 8).toNatClampNeg (8 : Int32).toNatClampNeg))), (h3, .inl (c3, 8, .inl hdr))] _ := hP
      have hD : va_D _ [(h0, .inr (0, [.ref h1, .ref h2, .ref h3, .int ds, .int (pw - 1), .int rn, .int (wr + 1), .int cm])), (h1, .inl (c1, 96, .inl mem)), (h2, .inl (c2, 200, .inl (va_cpy hdr blk (x2 * 8).toNatClampNeg (x0 * 8).toNatClampNeg (8 : Int32).toNatClampNeg))), (h3, .inl (c3, 8, .inl hdr))] := hD
      refine lv_iconst (v := 1) hx hb dX0_writeBlock_60 (by decide) ?_
      have e9 : F0_writeBlock_h mem blk hdr ds pw rn wr cm x0 x2 = (1, mem, (va_cpy hdr blk (x2 * 8).toNatClampNeg (x0 * 8).toNatClampNeg (8 : Int32).toNatClampNeg), hdr, ds, (pw - 1), rn, (wr + 1), cm) := by unfold F0_writeBlock_h; rw [if_neg c_4, if_neg c_37]
      rw [e9]
      exact retWi hx hb hr hlocks rfl rfl rfl hK hP hD hS dX0_writeBlock_61
  · skip
    refine lv_aload_n hx hb dX0_writeBlock_7 rfl (lv_at hl 0 rfl) ?_
    refine lv_iconst (v := 0) hx hb dX0_writeBlock_8 (by decide) ?_
    refine va_put (D := (dC, dI)) (ci := 0) (v := .int 0) (ty := .boolean) (C := RX0) (T := TX0) (N := 8) hx hb hts hin tyX0 tyX0_ok nmX0 hown hK hP hD hS 0 rfl rfl 5 (by decide) (hts (.fieldLink RX0 26 "CapStore" "running" "Z") (by decide +kernel)) (fun _ h9 => h9) rfl (by decide +kernel) rfl rfl (Nat.le_of_ble_eq_true rfl) dX0_writeBlock_9 (fun H locs hP hD hS => ?_)
    have hP : va_P (dC, dI) vwCl [(h0, .inr (0, [.ref h1, .ref h2, .ref h3, .int ds, .int pw, .int 0, .int wr, .int cm])), (h1, .inl (c1, 96, .inl mem)), (h2, .inl (c2, 200, .inl blk)), (h3, .inl (c3, 8, .inl hdr))] _ := hP
    have hD : va_D _ [(h0, .inr (0, [.ref h1, .ref h2, .ref h3, .int ds, .int pw, .int 0, .int wr, .int cm])), (h1, .inl (c1, 96, .inl mem)), (h2, .inl (c2, 200, .inl blk)), (h3, .inl (c3, 8, .inl hdr))] := hD
    refine lv_iconst (v := 0) hx hb dX0_writeBlock_12 (by decide) ?_
    have e9 : F0_writeBlock_h mem blk hdr ds pw rn wr cm x0 x2 = (0, mem, blk, hdr, ds, pw, 0, wr, cm) := by unfold F0_writeBlock_h; rw [if_pos c_4]
    rw [e9]
    exact retWi hx hb hr hlocks rfl rfl rfl hK hP hD hS dX0_writeBlock_13
set_option maxHeartbeats 4000000 in
set_option maxRecDepth 100000 in
theorem m0_writeHeader (l : Launch) (dC : Nat → ClassId) (dI : Nat → Nat → Nat) (h0 h1 h2 h3 : Nat) (c1 c2 c3 : ClassId) (sz : Nat) (mem blk hdr : Nat → Int32) (ds pw rn wr cm : Int32) (x0 : Int32) : Met l yX0_writeHeader wsX0_writeHeader ({ frames := 2, cells := 0, slots := 0, locals := 63 }) (pcW (dC, dI) (k0 c1 c2 c3) (w0 h0 h1 h2 h3 c1 c2 c3 (mem, blk, hdr, ds, pw, rn, wr, cm)) sz [.ref h0, .int x0]) (qcWi (dC, dI) (k0 c1 c2 c3) (w0 h0 h1 h2 h3 c1 c2 c3 (mem, blk, hdr, ds, pw, rn, wr, cm)) (w0 h0 h1 h2 h3 c1 c2 c3 (F0_writeHeader mem blk hdr ds pw rn wr cm x0).2) sz (F0_writeHeader mem blk hdr ds pw rn wr cm x0).1) 0 0 (va_A (w0 h0 h1 h2 h3 c1 c2 c3 (mem, blk, hdr, ds, pw, rn, wr, cm)) sz) := by
  refine Met.ofW (cc := cX0_writeHeader) (maxL := 2) (ret := (some .boolean)) (by decide) rfl ?_
  intro p e s m args below meth c s₁ B hml hv
  obtain ⟨rfl, hsz, hP, hK, hD0⟩ := hv
  have hx := B.exec
  have hb := B.bytes
  have hr := B.returns
  have hts := atoms_spec (ws := wsX0_writeHeader) B.pre
  have hown : s.vm.findClass RX0 = some m.cls := findClass_of_methodNamed B.named
  have hlocks := B.notSynchronized
  have hin : ∀ w ∈ wsX00, w ∈ wsX0_writeHeader := fun _ h => List.mem_cons_of_mem _ (List.mem_append_right _ h)
  have hP : va_P (dC, dI) vwCl [(h0, .inr (0, [.ref h1, .ref h2, .ref h3, .int ds, .int pw, .int rn, .int wr, .int cm])), (h1, .inl (c1, 96, .inl mem)), (h2, .inl (c2, 200, .inl blk)), (h3, .inl (c3, 8, .inl hdr))] s.heap := hP
  subst hsz
  have hD := hD0.self (sz := s.heap.size)
  have hA : ∀ q : Nat, s.heap.size ≤ q → (va_A (w0 h0 h1 h2 h3 c1 c2 c3 (mem, blk, hdr, ds, pw, rn, wr, cm)) s.heap.size) q := fun q h => Or.inr h
  have hS : va_S (va_A (w0 h0 h1 h2 h3 c1 c2 c3 (mem, blk, hdr, ds, pw, rn, wr, cm)) s.heap.size) s.heap s.heap [] := va_S.rf
  have hl := lv_entry ([.ref h0, .int x0]) (n := 2) (Nat.le_of_ble_eq_true rfl)
  rw [lg_entry_eq]
  generalize (lg_sl ([.ref h0, .int x0]) ++ List.replicate (2 - (lg_sl ([.ref h0, .int x0])).length) Slot.unset).toArray = ls at hl ⊢
  have hl : lv_has ls 2 [(0, .ref h0), (1, .int x0)] := hl
  refine lv_aload_n hx hb dX0_writeHeader_0 rfl (lv_at hl 0 rfl) ?_
  refine va_get (D := (dC, dI)) (ci := 0) (v := .ref h3) (C := RX0) (T := TX0) (N := 8) hx hb hts hin hown hK hP 0 rfl rfl 2 (by decide) (hts (.fieldLink RX0 16 "CapStore" "headerRow" "[I") (by decide +kernel)) (fun _ h9 => h9) rfl dX0_writeHeader_1 ?_
  refine lv_iconst (v := 0) hx hb dX0_writeHeader_4 (by decide) ?_
  refine lv_iload_n hx hb dX0_writeHeader_5 rfl (lv_at hl 1 rfl) ?_
  refine va_iast hx hb hK hP hD hS 3 2 rfl rfl (vp_in_nI (n := 0) (by decide) (by decide)) dX0_writeHeader_6 (fun H locs hP hD hS => ?_)
  have hP : va_P (dC, dI) vwCl [(h0, .inr (0, [.ref h1, .ref h2, .ref h3, .int ds, .int pw, .int rn, .int wr, .int cm])), (h1, .inl (c1, 96, .inl mem)), (h2, .inl (c2, 200, .inl blk)), (h3, .inl (c3, 8, .inl (upd hdr (0 : Int32).toNatClampNeg x0)))] _ := hP
  have hD : va_D _ [(h0, .inr (0, [.ref h1, .ref h2, .ref h3, .int ds, .int pw, .int rn, .int wr, .int cm])), (h1, .inl (c1, 96, .inl mem)), (h2, .inl (c2, 200, .inl blk)), (h3, .inl (c3, 8, .inl (upd hdr (0 : Int32).toNatClampNeg x0)))] := hD
  refine lv_aload_n hx hb dX0_writeHeader_7 rfl (lv_at hl 0 rfl) ?_
  refine lv_bipush (v := 24) hx hb dX0_writeHeader_8 (by decide) ?_
  refine lv_aload_n hx hb dX0_writeHeader_10 rfl (lv_at hl 0 rfl) ?_
  refine va_get (D := (dC, dI)) (ci := 0) (v := .ref h3) (C := RX0) (T := TX0) (N := 8) hx hb hts hin hown hK hP 0 rfl rfl 2 (by decide) (hts (.fieldLink RX0 16 "CapStore" "headerRow" "[I") (by decide +kernel)) (fun _ h9 => h9) rfl dX0_writeHeader_11 ?_
  refine lv_iconst (v := 0) hx hb dX0_writeHeader_14 (by decide) ?_
  refine callWi (q := (RX0, TX0, 8)) (ci := 0) (q0 := 0) (As := [.int 24, .ref h3, .int 0]) (rest := []) (wr := []) (m0_writeBlock_h l dC dI h0 h1 h2 h3 c1 c2 c3 _ mem blk (upd hdr (0 : Int32).toNatClampNeg x0) ds pw rn wr cm 24 0 wb_hdr) ⟨hx, hb, hml, hown, hts⟩ (cwV 3 hts gX0_writeHeader_X0_writeBlock rfl rfl rfl (by decide +kernel) ⟨Nat.le_of_ble_eq_true rfl, Nat.le_of_ble_eq_true rfl⟩) hK hP hD hS hA rfl rfl [0, 1, 2, 3] [] rfl rfl rfl (by decide) (by decide) (by decide) rfl hl.1 rfl (Nat.le_of_ble_eq_true rfl) dX0_writeHeader_15 ⟨Nat.zero_le _, Nat.zero_le _⟩ (fun H locs hP hD hS => ?_)
  generalize hF1 : (F0_writeBlock_h mem blk (upd hdr (0 : Int32).toNatClampNeg x0) ds pw rn wr cm 24 0) = u at hP hD ⊢
  obtain ⟨r_1, mem_1, blk_1, hdr_1, ds_1, pw_1, rn_1, wr_1, cm_1⟩ := u
  have hP : va_P (dC, dI) vwCl [(h0, .inr (0, [.ref h1, .ref h2, .ref h3, .int ds_1, .int pw_1, .int rn_1, .int wr_1, .int cm_1])), (h1, .inl (c1, 96, .inl mem_1)), (h2, .inl (c2, 200, .inl blk_1)), (h3, .inl (c3, 8, .inl hdr_1))] _ := hP
  have hD : va_D _ [(h0, .inr (0, [.ref h1, .ref h2, .ref h3, .int ds_1, .int pw_1, .int rn_1, .int wr_1, .int cm_1])), (h1, .inl (c1, 96, .inl mem_1)), (h2, .inl (c2, 200, .inl blk_1)), (h3, .inl (c3, 8, .inl hdr_1))] := hD
  show W _ _ _ _ _ _ _ _ _ _ _ _ _ _ _ (F0 m 18 ls [.int r_1])
  have e9 : F0_writeHeader mem blk hdr ds pw rn wr cm x0 = (r_1, mem_1, blk_1, hdr_1, ds_1, pw_1, rn_1, wr_1, cm_1) := by unfold F0_writeHeader; rw [hF1]; (try dsimp only)
  rw [e9]
  exact retWi hx hb hr hlocks (nar_wbh hF1) rfl rfl hK hP hD hS dX0_writeHeader_18
set_option maxHeartbeats 4000000 in
set_option maxRecDepth 100000 in
theorem m0_copyRows_m (l : Launch) (dC : Nat → ClassId) (dI : Nat → Nat → Nat) (h0 h1 h2 h3 : Nat) (c1 c2 c3 : ClassId) (sz : Nat) (mem blk hdr : Nat → Int32) (ds pw rn wr cm : Int32) (x0 : Int32) (x2 : Int32) (x3 : Int32) (hc : crOK x2 x3 96) : Met l yX0_copyRows wsX0_copyRows ({ frames := 2, cells := 0, slots := 0, locals := 63 }) (pcW (dC, dI) (k0 c1 c2 c3) (w0 h0 h1 h2 h3 c1 c2 c3 (mem, blk, hdr, ds, pw, rn, wr, cm)) sz [.ref h0, .int x0, .ref h1, .int x2, .int x3]) (qcWi (dC, dI) (k0 c1 c2 c3) (w0 h0 h1 h2 h3 c1 c2 c3 (mem, blk, hdr, ds, pw, rn, wr, cm)) (w0 h0 h1 h2 h3 c1 c2 c3 (F0_copyRows_m mem blk hdr ds pw rn wr cm x0 x2 x3).2) sz (F0_copyRows_m mem blk hdr ds pw rn wr cm x0 x2 x3).1) 0 0 (va_A (w0 h0 h1 h2 h3 c1 c2 c3 (mem, blk, hdr, ds, pw, rn, wr, cm)) sz) := by
  refine Met.ofW (cc := cX0_copyRows) (maxL := 6) (ret := (some .boolean)) (by decide) rfl ?_
  intro p e s m args below meth c s₁ B hml hv
  obtain ⟨rfl, hsz, hP, hK, hD0⟩ := hv
  have hx := B.exec
  have hb := B.bytes
  have hr := B.returns
  have hts := atoms_spec (ws := wsX0_copyRows) B.pre
  have hown : s.vm.findClass RX0 = some m.cls := findClass_of_methodNamed B.named
  have hlocks := B.notSynchronized
  have hP : va_P (dC, dI) vwCl [(h0, .inr (0, [.ref h1, .ref h2, .ref h3, .int ds, .int pw, .int rn, .int wr, .int cm])), (h1, .inl (c1, 96, .inl mem)), (h2, .inl (c2, 200, .inl blk)), (h3, .inl (c3, 8, .inl hdr))] s.heap := hP
  subst hsz
  have hD := hD0.self (sz := s.heap.size)
  have hA : ∀ q : Nat, s.heap.size ≤ q → (va_A (w0 h0 h1 h2 h3 c1 c2 c3 (mem, blk, hdr, ds, pw, rn, wr, cm)) s.heap.size) q := fun q h => Or.inr h
  have hS : va_S (va_A (w0 h0 h1 h2 h3 c1 c2 c3 (mem, blk, hdr, ds, pw, rn, wr, cm)) s.heap.size) s.heap s.heap [] := va_S.rf
  have hl := lv_entry ([.ref h0, .int x0, .ref h1, .int x2, .int x3]) (n := 6) (Nat.le_of_ble_eq_true rfl)
  rw [lg_entry_eq]
  generalize (lg_sl ([.ref h0, .int x0, .ref h1, .int x2, .int x3]) ++ List.replicate (6 - (lg_sl ([.ref h0, .int x0, .ref h1, .int x2, .int x3])).length) Slot.unset).toArray = ls at hl ⊢
  have hl : lv_has ls 6 [(0, .ref h0), (1, .int x0), (2, .ref h1), (3, .int x2), (4, .int x3)] := hl
  have loop : ∀ (n : Nat), n ≤ 12 → ∀ (mem_0 blk_0 hdr_0 : Nat → Int32) (ds_0 pw_0 rn_0 wr_0 cm_0 : Int32) (H : Heap) (locs : List Loc) (ls : Array Slot), va_P (dC, dI) vwCl [(h0, .inr (0, [.ref h1, .ref h2, .ref h3, .int ds_0, .int pw_0, .int rn_0, .int wr_0, .int cm_0])), (h1, .inl (c1, 96, .inl mem_0)), (h2, .inl (c2, 200, .inl blk_0)), (h3, .inl (c3, 8, .inl hdr_0))] H → va_D (va_A (w0 h0 h1 h2 h3 c1 c2 c3 (mem, blk, hdr, ds, pw, rn, wr, cm)) s.heap.size) [(h0, .inr (0, [.ref h1, .ref h2, .ref h3, .int ds_0, .int pw_0, .int rn_0, .int wr_0, .int cm_0])), (h1, .inl (c1, 96, .inl mem_0)), (h2, .inl (c2, 200, .inl blk_0)), (h3, .inl (c3, 8, .inl hdr_0))] → va_S (va_A (w0 h0 h1 h2 h3 c1 c2 c3 (mem, blk, hdr, ds, pw, rn, wr, cm)) s.heap.size) s.heap H locs → lv_has ls 6 [(5, .int (nI (12 - n))), (0, .ref h0), (1, .int x0), (2, .ref h1), (3, .int x2), (4, .int x3)] →
      W p l e (headSpec wsX0_copyRows ({ frames := 2, cells := 0, slots := 0, locals := 63 })).room s m #[Value.ref h0, Value.int x0, Value.ref h1, Value.int x2, Value.int x3] below meth c H locs 0 0 (MQ below (qcWi (dC, dI) (k0 c1 c2 c3) (w0 h0 h1 h2 h3 c1 c2 c3 (mem, blk, hdr, ds, pw, rn, wr, cm)) (w0 h0 h1 h2 h3 c1 c2 c3 (F0_cl_m x0 x2 x3 n (mem_0, blk_0, hdr_0, ds_0, pw_0, rn_0, wr_0, cm_0)).2) s.heap.size (F0_cl_m x0 x2 x3 n (mem_0, blk_0, hdr_0, ds_0, pw_0, rn_0, wr_0, cm_0)).1) #[Value.ref h0, Value.int x0, Value.ref h1, Value.int x2, Value.int x3] s 0 0 (va_A (w0 h0 h1 h2 h3 c1 c2 c3 (mem, blk, hdr, ds, pw, rn, wr, cm)) s.heap.size)) (F0 m 3 ls []) := by
    intro n
    induction n with
    | zero =>
      intro hn mem_0 blk_0 hdr_0 ds_0 pw_0 rn_0 wr_0 cm_0 H locs ls hP hD hS hl
      have hl : lv_has ls 6 [(5, .int (nI 12)), (0, .ref h0), (1, .int x0), (2, .ref h1), (3, .int x2), (4, .int x3)] := hl
      refine lv_iload hx hb dX0_copyRows_3 (lv_at hl 0 rfl) ?_
      refine lv_bipush (v := 12) hx hb dX0_copyRows_5 (by decide) ?_
      refine lv_icmp_ge (tgt := 44) hx hb dX0_copyRows_7 (by decide) (fun c_7 => ?_) (fun c_7 => ?_)
      · skip
        refine lv_iconst (v := 1) hx hb dX0_copyRows_44 (by decide) ?_
        exact retWi hx hb hr hlocks rfl rfl rfl hK hP hD hS dX0_copyRows_45
      · skip
        exact absurd (by decide) c_7
    | succ n ih =>
      intro hn mem_0 blk_0 hdr_0 ds_0 pw_0 rn_0 wr_0 cm_0 H locs ls hP hD hS hl
      have en : 12 - (n + 1) = 11 - n := by omega
      rw [en] at hl
      have ei : nI (11 - n) + 1 = nI (12 - n) := by rw [nI_1]; congr 1; omega
      have hl : lv_has ls 6 [(5, .int (nI (11 - n))), (0, .ref h0), (1, .int x0), (2, .ref h1), (3, .int x2), (4, .int x3)] := hl
      refine lv_iload hx hb dX0_copyRows_3 (lv_at hl 0 rfl) ?_
      refine lv_bipush (v := 12) hx hb dX0_copyRows_5 (by decide) ?_
      refine lv_icmp_ge (tgt := 44) hx hb dX0_copyRows_7 (by decide) (fun c_7 => ?_) (fun c_7 => ?_)
      · skip
        exact absurd c_7 (nI_ge (a := 11 - n) (b := 12) (by omega) (by decide))
      · skip
        refine lv_iload_n hx hb dX0_copyRows_10 rfl (lv_at hl 2 rfl) ?_
        refine lv_iload hx hb dX0_copyRows_11 (lv_at hl 0 rfl) ?_
        refine callSi (As := [.int x0, .int (nI (11 - n))]) (rest := []) (m0_has l x0 (nI (11 - n))) ⟨hx, hb, hml, hown, hts⟩ (va_cwS 2 hts gX0_copyRows_X0_has rfl rfl rfl (by decide +kernel) ⟨Nat.le_of_ble_eq_true rfl, Nat.le_of_ble_eq_true rfl⟩) rfl hl.1 rfl (Nat.le_of_ble_eq_true rfl) dX0_copyRows_13 ⟨Nat.zero_le _, Nat.zero_le _⟩ ?_
        refine lv_if_eq (tgt := 38) hx hb dX0_copyRows_16 (by decide) (fun c_16 => ?_) (fun c_16 => ?_)
        · skip
          refine lv_iinc (v := ((nI (11 - n)) + 1)) (lv' := [(5, .int ((nI (11 - n)) + 1)), (0, .ref h0), (1, .int x0), (2, .ref h1), (3, .int x2), (4, .int x3)]) hx hb dX0_copyRows_38 hl (k := 0) rfl rfl (by decide) rfl (fun ls hl => ?_)
          refine lv_goto (tgt := 3) hx hb dX0_copyRows_41 (by decide) ?_
          have e9 : F0_cl_m x0 x2 x3 (n + 1) (mem_0, blk_0, hdr_0, ds_0, pw_0, rn_0, wr_0, cm_0) = F0_cl_m x0 x2 x3 n (mem_0, blk_0, hdr_0, ds_0, pw_0, rn_0, wr_0, cm_0) := by rw [F0_cl_m]; (try dsimp only); rw [if_pos c_16]
          rw [e9]
          rw [ei] at hl
          exact ih (by omega) mem_0 blk_0 hdr_0 ds_0 pw_0 rn_0 wr_0 cm_0 _ _ ls hP hD hS (lv_sub hl [0, 1, 2, 3, 4, 5] rfl)
        · skip
          refine lv_aload_n hx hb dX0_copyRows_19 rfl (lv_at hl 1 rfl) ?_
          refine lv_iload hx hb dX0_copyRows_20 (lv_at hl 5 rfl) ?_
          refine lv_iload hx hb dX0_copyRows_22 (lv_at hl 0 rfl) ?_
          refine lv_iadd hx hb dX0_copyRows_24 ?_
          refine lv_aload_n hx hb dX0_copyRows_25 rfl (lv_at hl 3 rfl) ?_
          refine lv_iload_n hx hb dX0_copyRows_26 rfl (lv_at hl 4 rfl) ?_
          refine lv_iload hx hb dX0_copyRows_27 (lv_at hl 0 rfl) ?_
          refine lv_iadd hx hb dX0_copyRows_29 ?_
          refine callWi (q := (RX0, TX0, 8)) (ci := 0) (q0 := 0) (As := [.int (x3 + (nI (11 - n))), .ref h1, .int (x2 + (nI (11 - n)))]) (rest := []) (wr := []) (m0_writeBlock_m l dC dI h0 h1 h2 h3 c1 c2 c3 _ mem_0 blk_0 hdr_0 ds_0 pw_0 rn_0 wr_0 cm_0 (x3 + (nI (11 - n))) (x2 + (nI (11 - n))) (cr_wb hc (by omega))) ⟨hx, hb, hml, hown, hts⟩ (cwV 3 hts gX0_copyRows_X0_writeBlock rfl rfl rfl (by decide +kernel) ⟨Nat.le_of_ble_eq_true rfl, Nat.le_of_ble_eq_true rfl⟩) hK hP hD hS hA rfl rfl [0, 1, 2, 3] [] rfl rfl rfl (by decide) (by decide) (by decide) rfl hl.1 rfl (Nat.le_of_ble_eq_true rfl) dX0_copyRows_30 ⟨Nat.zero_le _, Nat.zero_le _⟩ (fun H locs hP hD hS => ?_)
          generalize hF1 : (F0_writeBlock_m mem_0 blk_0 hdr_0 ds_0 pw_0 rn_0 wr_0 cm_0 (x3 + (nI (11 - n))) (x2 + (nI (11 - n)))) = u at hP hD ⊢
          obtain ⟨r_1, mem_1, blk_1, hdr_1, ds_1, pw_1, rn_1, wr_1, cm_1⟩ := u
          have hP : va_P (dC, dI) vwCl [(h0, .inr (0, [.ref h1, .ref h2, .ref h3, .int ds_1, .int pw_1, .int rn_1, .int wr_1, .int cm_1])), (h1, .inl (c1, 96, .inl mem_1)), (h2, .inl (c2, 200, .inl blk_1)), (h3, .inl (c3, 8, .inl hdr_1))] _ := hP
          have hD : va_D _ [(h0, .inr (0, [.ref h1, .ref h2, .ref h3, .int ds_1, .int pw_1, .int rn_1, .int wr_1, .int cm_1])), (h1, .inl (c1, 96, .inl mem_1)), (h2, .inl (c2, 200, .inl blk_1)), (h3, .inl (c3, 8, .inl hdr_1))] := hD
          show W _ _ _ _ _ _ _ _ _ _ _ _ _ _ _ (F0 m 33 ls [.int r_1])
          refine lv_if_ne (tgt := 38) hx hb dX0_copyRows_33 (by decide) (fun c_33 => ?_) (fun c_33 => ?_)
          · skip
            refine lv_iinc (v := ((nI (11 - n)) + 1)) (lv' := [(5, .int ((nI (11 - n)) + 1)), (0, .ref h0), (1, .int x0), (2, .ref h1), (3, .int x2), (4, .int x3)]) hx hb dX0_copyRows_38 hl (k := 0) rfl rfl (by decide) rfl (fun ls hl => ?_)
            refine lv_goto (tgt := 3) hx hb dX0_copyRows_41 (by decide) ?_
            have e9 : F0_cl_m x0 x2 x3 (n + 1) (mem_0, blk_0, hdr_0, ds_0, pw_0, rn_0, wr_0, cm_0) = F0_cl_m x0 x2 x3 n (mem_1, blk_1, hdr_1, ds_1, pw_1, rn_1, wr_1, cm_1) := by rw [F0_cl_m]; (try dsimp only); rw [if_neg c_16, hF1]; (try dsimp only); rw [if_neg c_33]
            rw [e9]
            rw [ei] at hl
            exact ih (by omega) mem_1 blk_1 hdr_1 ds_1 pw_1 rn_1 wr_1 cm_1 _ _ ls hP hD hS (lv_sub hl [0, 1, 2, 3, 4, 5] rfl)
          · skip
            refine lv_iconst (v := 0) hx hb dX0_copyRows_36 (by decide) ?_
            have e9 : F0_cl_m x0 x2 x3 (n + 1) (mem_0, blk_0, hdr_0, ds_0, pw_0, rn_0, wr_0, cm_0) = (0, mem_1, blk_1, hdr_1, ds_1, pw_1, rn_1, wr_1, cm_1) := by rw [F0_cl_m]; (try dsimp only); rw [if_neg c_16, hF1]; (try dsimp only); rw [if_pos c_33]
            rw [e9]
            exact retWi hx hb hr hlocks rfl rfl rfl hK hP hD hS dX0_copyRows_37
  refine lv_iconst (v := 0) hx hb dX0_copyRows_0 (by decide) ?_
  refine lv_istore (lv' := [(5, .int 0), (0, .ref h0), (1, .int x0), (2, .ref h1), (3, .int x2), (4, .int x3)]) hx hb dX0_copyRows_1 hl (by decide) rfl (fun ls hl => ?_)
  have hl : lv_has ls 6 [(5, .int (nI (12 - 12))), (0, .ref h0), (1, .int x0), (2, .ref h1), (3, .int x2), (4, .int x3)] := hl
  exact loop 12 (Nat.le_refl _) mem blk hdr ds pw rn wr cm _ _ ls hP hD hS hl
set_option maxHeartbeats 4000000 in
set_option maxRecDepth 100000 in
theorem m0_copyRows_b (l : Launch) (dC : Nat → ClassId) (dI : Nat → Nat → Nat) (h0 h1 h2 h3 : Nat) (c1 c2 c3 : ClassId) (sz : Nat) (mem blk hdr : Nat → Int32) (ds pw rn wr cm : Int32) (x0 : Int32) (x2 : Int32) (x3 : Int32) (hc : crOK x2 x3 200) : Met l yX0_copyRows wsX0_copyRows ({ frames := 2, cells := 0, slots := 0, locals := 63 }) (pcW (dC, dI) (k0 c1 c2 c3) (w0 h0 h1 h2 h3 c1 c2 c3 (mem, blk, hdr, ds, pw, rn, wr, cm)) sz [.ref h0, .int x0, .ref h2, .int x2, .int x3]) (qcWi (dC, dI) (k0 c1 c2 c3) (w0 h0 h1 h2 h3 c1 c2 c3 (mem, blk, hdr, ds, pw, rn, wr, cm)) (w0 h0 h1 h2 h3 c1 c2 c3 (F0_copyRows_b mem blk hdr ds pw rn wr cm x0 x2 x3).2) sz (F0_copyRows_b mem blk hdr ds pw rn wr cm x0 x2 x3).1) 0 0 (va_A (w0 h0 h1 h2 h3 c1 c2 c3 (mem, blk, hdr, ds, pw, rn, wr, cm)) sz) := by
  refine Met.ofW (cc := cX0_copyRows) (maxL := 6) (ret := (some .boolean)) (by decide) rfl ?_
  intro p e s m args below meth c s₁ B hml hv
  obtain ⟨rfl, hsz, hP, hK, hD0⟩ := hv
  have hx := B.exec
  have hb := B.bytes
  have hr := B.returns
  have hts := atoms_spec (ws := wsX0_copyRows) B.pre
  have hown : s.vm.findClass RX0 = some m.cls := findClass_of_methodNamed B.named
  have hlocks := B.notSynchronized
  have hP : va_P (dC, dI) vwCl [(h0, .inr (0, [.ref h1, .ref h2, .ref h3, .int ds, .int pw, .int rn, .int wr, .int cm])), (h1, .inl (c1, 96, .inl mem)), (h2, .inl (c2, 200, .inl blk)), (h3, .inl (c3, 8, .inl hdr))] s.heap := hP
  subst hsz
  have hD := hD0.self (sz := s.heap.size)
  have hA : ∀ q : Nat, s.heap.size ≤ q → (va_A (w0 h0 h1 h2 h3 c1 c2 c3 (mem, blk, hdr, ds, pw, rn, wr, cm)) s.heap.size) q := fun q h => Or.inr h
  have hS : va_S (va_A (w0 h0 h1 h2 h3 c1 c2 c3 (mem, blk, hdr, ds, pw, rn, wr, cm)) s.heap.size) s.heap s.heap [] := va_S.rf
  have hl := lv_entry ([.ref h0, .int x0, .ref h2, .int x2, .int x3]) (n := 6) (Nat.le_of_ble_eq_true rfl)
  rw [lg_entry_eq]
  generalize (lg_sl ([.ref h0, .int x0, .ref h2, .int x2, .int x3]) ++ List.replicate (6 - (lg_sl ([.ref h0, .int x0, .ref h2, .int x2, .int x3])).length) Slot.unset).toArray = ls at hl ⊢
  have hl : lv_has ls 6 [(0, .ref h0), (1, .int x0), (2, .ref h2), (3, .int x2), (4, .int x3)] := hl
  have loop : ∀ (n : Nat), n ≤ 12 → ∀ (mem_0 blk_0 hdr_0 : Nat → Int32) (ds_0 pw_0 rn_0 wr_0 cm_0 : Int32) (H : Heap) (locs : List Loc) (ls : Array Slot), va_P (dC, dI) vwCl [(h0, .inr (0, [.ref h1, .ref h2, .ref h3, .int ds_0, .int pw_0, .int rn_0, .int wr_0, .int cm_0])), (h1, .inl (c1, 96, .inl mem_0)), (h2, .inl (c2, 200, .inl blk_0)), (h3, .inl (c3, 8, .inl hdr_0))] H → va_D (va_A (w0 h0 h1 h2 h3 c1 c2 c3 (mem, blk, hdr, ds, pw, rn, wr, cm)) s.heap.size) [(h0, .inr (0, [.ref h1, .ref h2, .ref h3, .int ds_0, .int pw_0, .int rn_0, .int wr_0, .int cm_0])), (h1, .inl (c1, 96, .inl mem_0)), (h2, .inl (c2, 200, .inl blk_0)), (h3, .inl (c3, 8, .inl hdr_0))] → va_S (va_A (w0 h0 h1 h2 h3 c1 c2 c3 (mem, blk, hdr, ds, pw, rn, wr, cm)) s.heap.size) s.heap H locs → lv_has ls 6 [(5, .int (nI (12 - n))), (0, .ref h0), (1, .int x0), (2, .ref h2), (3, .int x2), (4, .int x3)] →
      W p l e (headSpec wsX0_copyRows ({ frames := 2, cells := 0, slots := 0, locals := 63 })).room s m #[Value.ref h0, Value.int x0, Value.ref h2, Value.int x2, Value.int x3] below meth c H locs 0 0 (MQ below (qcWi (dC, dI) (k0 c1 c2 c3) (w0 h0 h1 h2 h3 c1 c2 c3 (mem, blk, hdr, ds, pw, rn, wr, cm)) (w0 h0 h1 h2 h3 c1 c2 c3 (F0_cl_b x0 x2 x3 n (mem_0, blk_0, hdr_0, ds_0, pw_0, rn_0, wr_0, cm_0)).2) s.heap.size (F0_cl_b x0 x2 x3 n (mem_0, blk_0, hdr_0, ds_0, pw_0, rn_0, wr_0, cm_0)).1) #[Value.ref h0, Value.int x0, Value.ref h2, Value.int x2, Value.int x3] s 0 0 (va_A (w0 h0 h1 h2 h3 c1 c2 c3 (mem, blk, hdr, ds, pw, rn, wr, cm)) s.heap.size)) (F0 m 3 ls []) := by
    intro n
    induction n with
    | zero =>
      intro hn mem_0 blk_0 hdr_0 ds_0 pw_0 rn_0 wr_0 cm_0 H locs ls hP hD hS hl
      have hl : lv_has ls 6 [(5, .int (nI 12)), (0, .ref h0), (1, .int x0), (2, .ref h2), (3, .int x2), (4, .int x3)] := hl
      refine lv_iload hx hb dX0_copyRows_3 (lv_at hl 0 rfl) ?_
      refine lv_bipush (v := 12) hx hb dX0_copyRows_5 (by decide) ?_
      refine lv_icmp_ge (tgt := 44) hx hb dX0_copyRows_7 (by decide) (fun c_7 => ?_) (fun c_7 => ?_)
      · skip
        refine lv_iconst (v := 1) hx hb dX0_copyRows_44 (by decide) ?_
        exact retWi hx hb hr hlocks rfl rfl rfl hK hP hD hS dX0_copyRows_45
      · skip
        exact absurd (by decide) c_7
    | succ n ih =>
      intro hn mem_0 blk_0 hdr_0 ds_0 pw_0 rn_0 wr_0 cm_0 H locs ls hP hD hS hl
      have en : 12 - (n + 1) = 11 - n := by omega
      rw [en] at hl
      have ei : nI (11 - n) + 1 = nI (12 - n) := by rw [nI_1]; congr 1; omega
      have hl : lv_has ls 6 [(5, .int (nI (11 - n))), (0, .ref h0), (1, .int x0), (2, .ref h2), (3, .int x2), (4, .int x3)] := hl
      refine lv_iload hx hb dX0_copyRows_3 (lv_at hl 0 rfl) ?_
      refine lv_bipush (v := 12) hx hb dX0_copyRows_5 (by decide) ?_
      refine lv_icmp_ge (tgt := 44) hx hb dX0_copyRows_7 (by decide) (fun c_7 => ?_) (fun c_7 => ?_)
      · skip
        exact absurd c_7 (nI_ge (a := 11 - n) (b := 12) (by omega) (by decide))
      · skip
        refine lv_iload_n hx hb dX0_copyRows_10 rfl (lv_at hl 2 rfl) ?_
        refine lv_iload hx hb dX0_copyRows_11 (lv_at hl 0 rfl) ?_
        refine callSi (As := [.int x0, .int (nI (11 - n))]) (rest := []) (m0_has l x0 (nI (11 - n))) ⟨hx, hb, hml, hown, hts⟩ (va_cwS 2 hts gX0_copyRows_X0_has rfl rfl rfl (by decide +kernel) ⟨Nat.le_of_ble_eq_true rfl, Nat.le_of_ble_eq_true rfl⟩) rfl hl.1 rfl (Nat.le_of_ble_eq_true rfl) dX0_copyRows_13 ⟨Nat.zero_le _, Nat.zero_le _⟩ ?_
        refine lv_if_eq (tgt := 38) hx hb dX0_copyRows_16 (by decide) (fun c_16 => ?_) (fun c_16 => ?_)
        · skip
          refine lv_iinc (v := ((nI (11 - n)) + 1)) (lv' := [(5, .int ((nI (11 - n)) + 1)), (0, .ref h0), (1, .int x0), (2, .ref h2), (3, .int x2), (4, .int x3)]) hx hb dX0_copyRows_38 hl (k := 0) rfl rfl (by decide) rfl (fun ls hl => ?_)
          refine lv_goto (tgt := 3) hx hb dX0_copyRows_41 (by decide) ?_
          have e9 : F0_cl_b x0 x2 x3 (n + 1) (mem_0, blk_0, hdr_0, ds_0, pw_0, rn_0, wr_0, cm_0) = F0_cl_b x0 x2 x3 n (mem_0, blk_0, hdr_0, ds_0, pw_0, rn_0, wr_0, cm_0) := by rw [F0_cl_b]; (try dsimp only); rw [if_pos c_16]
          rw [e9]
          rw [ei] at hl
          exact ih (by omega) mem_0 blk_0 hdr_0 ds_0 pw_0 rn_0 wr_0 cm_0 _ _ ls hP hD hS (lv_sub hl [0, 1, 2, 3, 4, 5] rfl)
        · skip
          refine lv_aload_n hx hb dX0_copyRows_19 rfl (lv_at hl 1 rfl) ?_
          refine lv_iload hx hb dX0_copyRows_20 (lv_at hl 5 rfl) ?_
          refine lv_iload hx hb dX0_copyRows_22 (lv_at hl 0 rfl) ?_
          refine lv_iadd hx hb dX0_copyRows_24 ?_
          refine lv_aload_n hx hb dX0_copyRows_25 rfl (lv_at hl 3 rfl) ?_
          refine lv_iload_n hx hb dX0_copyRows_26 rfl (lv_at hl 4 rfl) ?_
          refine lv_iload hx hb dX0_copyRows_27 (lv_at hl 0 rfl) ?_
          refine lv_iadd hx hb dX0_copyRows_29 ?_
          refine callWi (q := (RX0, TX0, 8)) (ci := 0) (q0 := 0) (As := [.int (x3 + (nI (11 - n))), .ref h2, .int (x2 + (nI (11 - n)))]) (rest := []) (wr := []) (m0_writeBlock_b l dC dI h0 h1 h2 h3 c1 c2 c3 _ mem_0 blk_0 hdr_0 ds_0 pw_0 rn_0 wr_0 cm_0 (x3 + (nI (11 - n))) (x2 + (nI (11 - n))) (cr_wb hc (by omega))) ⟨hx, hb, hml, hown, hts⟩ (cwV 3 hts gX0_copyRows_X0_writeBlock rfl rfl rfl (by decide +kernel) ⟨Nat.le_of_ble_eq_true rfl, Nat.le_of_ble_eq_true rfl⟩) hK hP hD hS hA rfl rfl [0, 1, 2, 3] [] rfl rfl rfl (by decide) (by decide) (by decide) rfl hl.1 rfl (Nat.le_of_ble_eq_true rfl) dX0_copyRows_30 ⟨Nat.zero_le _, Nat.zero_le _⟩ (fun H locs hP hD hS => ?_)
          generalize hF1 : (F0_writeBlock_b mem_0 blk_0 hdr_0 ds_0 pw_0 rn_0 wr_0 cm_0 (x3 + (nI (11 - n))) (x2 + (nI (11 - n)))) = u at hP hD ⊢
          obtain ⟨r_1, mem_1, blk_1, hdr_1, ds_1, pw_1, rn_1, wr_1, cm_1⟩ := u
          have hP : va_P (dC, dI) vwCl [(h0, .inr (0, [.ref h1, .ref h2, .ref h3, .int ds_1, .int pw_1, .int rn_1, .int wr_1, .int cm_1])), (h1, .inl (c1, 96, .inl mem_1)), (h2, .inl (c2, 200, .inl blk_1)), (h3, .inl (c3, 8, .inl hdr_1))] _ := hP
          have hD : va_D _ [(h0, .inr (0, [.ref h1, .ref h2, .ref h3, .int ds_1, .int pw_1, .int rn_1, .int wr_1, .int cm_1])), (h1, .inl (c1, 96, .inl mem_1)), (h2, .inl (c2, 200, .inl blk_1)), (h3, .inl (c3, 8, .inl hdr_1))] := hD
          show W _ _ _ _ _ _ _ _ _ _ _ _ _ _ _ (F0 m 33 ls [.int r_1])
          refine lv_if_ne (tgt := 38) hx hb dX0_copyRows_33 (by decide) (fun c_33 => ?_) (fun c_33 => ?_)
          · skip
            refine lv_iinc (v := ((nI (11 - n)) + 1)) (lv' := [(5, .int ((nI (11 - n)) + 1)), (0, .ref h0), (1, .int x0), (2, .ref h2), (3, .int x2), (4, .int x3)]) hx hb dX0_copyRows_38 hl (k := 0) rfl rfl (by decide) rfl (fun ls hl => ?_)
            refine lv_goto (tgt := 3) hx hb dX0_copyRows_41 (by decide) ?_
            have e9 : F0_cl_b x0 x2 x3 (n + 1) (mem_0, blk_0, hdr_0, ds_0, pw_0, rn_0, wr_0, cm_0) = F0_cl_b x0 x2 x3 n (mem_1, blk_1, hdr_1, ds_1, pw_1, rn_1, wr_1, cm_1) := by rw [F0_cl_b]; (try dsimp only); rw [if_neg c_16, hF1]; (try dsimp only); rw [if_neg c_33]
            rw [e9]
            rw [ei] at hl
            exact ih (by omega) mem_1 blk_1 hdr_1 ds_1 pw_1 rn_1 wr_1 cm_1 _ _ ls hP hD hS (lv_sub hl [0, 1, 2, 3, 4, 5] rfl)
          · skip
            refine lv_iconst (v := 0) hx hb dX0_copyRows_36 (by decide) ?_
            have e9 : F0_cl_b x0 x2 x3 (n + 1) (mem_0, blk_0, hdr_0, ds_0, pw_0, rn_0, wr_0, cm_0) = (0, mem_1, blk_1, hdr_1, ds_1, pw_1, rn_1, wr_1, cm_1) := by rw [F0_cl_b]; (try dsimp only); rw [if_neg c_16, hF1]; (try dsimp only); rw [if_pos c_33]
            rw [e9]
            exact retWi hx hb hr hlocks rfl rfl rfl hK hP hD hS dX0_copyRows_37
  refine lv_iconst (v := 0) hx hb dX0_copyRows_0 (by decide) ?_
  refine lv_istore (lv' := [(5, .int 0), (0, .ref h0), (1, .int x0), (2, .ref h2), (3, .int x2), (4, .int x3)]) hx hb dX0_copyRows_1 hl (by decide) rfl (fun ls hl => ?_)
  have hl : lv_has ls 6 [(5, .int (nI (12 - 12))), (0, .ref h0), (1, .int x0), (2, .ref h2), (3, .int x2), (4, .int x3)] := hl
  exact loop 12 (Nat.le_refl _) mem blk hdr ds pw rn wr cm _ _ ls hP hD hS hl
set_option maxHeartbeats 4000000 in
set_option maxRecDepth 100000 in
theorem m0_saveDirty (l : Launch) (dC : Nat → ClassId) (dI : Nat → Nat → Nat) (h0 h1 h2 h3 : Nat) (c1 c2 c3 : ClassId) (sz : Nat) (mem blk hdr : Nat → Int32) (ds pw rn wr cm : Int32) : Met l yX0_saveDirty wsX0_saveDirty ({ frames := 3, cells := 0, slots := 0, locals := 88 }) (pcW (dC, dI) (k0 c1 c2 c3) (w0 h0 h1 h2 h3 c1 c2 c3 (mem, blk, hdr, ds, pw, rn, wr, cm)) sz [.ref h0]) (qcWi (dC, dI) (k0 c1 c2 c3) (w0 h0 h1 h2 h3 c1 c2 c3 (mem, blk, hdr, ds, pw, rn, wr, cm)) (w0 h0 h1 h2 h3 c1 c2 c3 (F0_saveDirty mem blk hdr ds pw rn wr cm).2) sz (F0_saveDirty mem blk hdr ds pw rn wr cm).1) 0 0 (va_A (w0 h0 h1 h2 h3 c1 c2 c3 (mem, blk, hdr, ds, pw, rn, wr, cm)) sz) := by
  refine Met.ofW (cc := cX0_saveDirty) (maxL := 1) (ret := (some .boolean)) (by decide) rfl ?_
  intro p e s m args below meth c s₁ B hml hv
  obtain ⟨rfl, hsz, hP, hK, hD0⟩ := hv
  have hx := B.exec
  have hb := B.bytes
  have hr := B.returns
  have hts := atoms_spec (ws := wsX0_saveDirty) B.pre
  have hown : s.vm.findClass RX0 = some m.cls := findClass_of_methodNamed B.named
  have hlocks := B.notSynchronized
  have hin : ∀ w ∈ wsX00, w ∈ wsX0_saveDirty := fun _ h => List.mem_cons_of_mem _ (List.mem_append_right _ h)
  have hP : va_P (dC, dI) vwCl [(h0, .inr (0, [.ref h1, .ref h2, .ref h3, .int ds, .int pw, .int rn, .int wr, .int cm])), (h1, .inl (c1, 96, .inl mem)), (h2, .inl (c2, 200, .inl blk)), (h3, .inl (c3, 8, .inl hdr))] s.heap := hP
  subst hsz
  have hD := hD0.self (sz := s.heap.size)
  have hA : ∀ q : Nat, s.heap.size ≤ q → (va_A (w0 h0 h1 h2 h3 c1 c2 c3 (mem, blk, hdr, ds, pw, rn, wr, cm)) s.heap.size) q := fun q h => Or.inr h
  have hS : va_S (va_A (w0 h0 h1 h2 h3 c1 c2 c3 (mem, blk, hdr, ds, pw, rn, wr, cm)) s.heap.size) s.heap s.heap [] := va_S.rf
  have hl := lv_entry ([.ref h0]) (n := 1) (Nat.le_of_ble_eq_true rfl)
  rw [lg_entry_eq]
  generalize (lg_sl ([.ref h0]) ++ List.replicate (1 - (lg_sl ([.ref h0])).length) Slot.unset).toArray = ls at hl ⊢
  have hl : lv_has ls 1 [(0, .ref h0)] := hl
  refine lv_aload_n hx hb dX0_saveDirty_0 rfl (lv_at hl 0 rfl) ?_
  refine va_get (D := (dC, dI)) (ci := 0) (v := .int ds) (C := RX0) (T := TX0) (N := 8) hx hb hts hin hown hK hP 0 rfl rfl 3 (by decide) (hts (.fieldLink RX0 19 "CapStore" "dirtySet" "I") (by decide +kernel)) (fun _ h9 => h9) rfl dX0_saveDirty_1 ?_
  refine lv_if_ne (tgt := 9) hx hb dX0_saveDirty_4 (by decide) (fun c_4 => ?_) (fun c_4 => ?_)
  · skip
    refine lv_aload_n hx hb dX0_saveDirty_9 rfl (lv_at hl 0 rfl) ?_
    refine lv_aload_n hx hb dX0_saveDirty_10 rfl (lv_at hl 0 rfl) ?_
    refine va_get (D := (dC, dI)) (ci := 0) (v := .int ds) (C := RX0) (T := TX0) (N := 8) hx hb hts hin hown hK hP 0 rfl rfl 3 (by decide) (hts (.fieldLink RX0 19 "CapStore" "dirtySet" "I") (by decide +kernel)) (fun _ h9 => h9) rfl dX0_saveDirty_11 ?_
    refine lv_aload_n hx hb dX0_saveDirty_14 rfl (lv_at hl 0 rfl) ?_
    refine va_get (D := (dC, dI)) (ci := 0) (v := .ref h1) (C := RX0) (T := TX0) (N := 8) hx hb hts hin hown hK hP 0 rfl rfl 0 (by decide) (hts (.fieldLink RX0 9 "CapStore" "memory" "[I") (by decide +kernel)) (fun _ h9 => h9) rfl dX0_saveDirty_15 ?_
    refine lv_iconst (v := 0) hx hb dX0_saveDirty_18 (by decide) ?_
    refine lv_bipush (v := 12) hx hb dX0_saveDirty_19 (by decide) ?_
    refine callWi (q := (RX0, TX0, 8)) (ci := 0) (q0 := 0) (As := [.int ds, .ref h1, .int 0, .int 12]) (rest := []) (wr := []) (m0_copyRows_m l dC dI h0 h1 h2 h3 c1 c2 c3 _ mem blk hdr ds pw rn wr cm ds 0 12 cr_log) ⟨hx, hb, hml, hown, hts⟩ (cwV 4 hts gX0_saveDirty_X0_copyRows rfl rfl rfl (by decide +kernel) ⟨Nat.le_of_ble_eq_true rfl, Nat.le_of_ble_eq_true rfl⟩) hK hP hD hS hA rfl rfl [0, 1, 2, 3] [] rfl rfl rfl (by decide) (by decide) (by decide) rfl hl.1 rfl (Nat.le_of_ble_eq_true rfl) dX0_saveDirty_21 ⟨Nat.zero_le _, Nat.zero_le _⟩ (fun H locs hP hD hS => ?_)
    generalize hF1 : (F0_copyRows_m mem blk hdr ds pw rn wr cm ds 0 12) = u at hP hD ⊢
    obtain ⟨r_1, mem_1, blk_1, hdr_1, ds_1, pw_1, rn_1, wr_1, cm_1⟩ := u
    have hP : va_P (dC, dI) vwCl [(h0, .inr (0, [.ref h1, .ref h2, .ref h3, .int ds_1, .int pw_1, .int rn_1, .int wr_1, .int cm_1])), (h1, .inl (c1, 96, .inl mem_1)), (h2, .inl (c2, 200, .inl blk_1)), (h3, .inl (c3, 8, .inl hdr_1))] _ := hP
    have hD : va_D _ [(h0, .inr (0, [.ref h1, .ref h2, .ref h3, .int ds_1, .int pw_1, .int rn_1, .int wr_1, .int cm_1])), (h1, .inl (c1, 96, .inl mem_1)), (h2, .inl (c2, 200, .inl blk_1)), (h3, .inl (c3, 8, .inl hdr_1))] := hD
    show W _ _ _ _ _ _ _ _ _ _ _ _ _ _ _ (F0 m 24 ls [.int r_1])
    refine lv_if_eq (tgt := 38) hx hb dX0_saveDirty_24 (by decide) (fun c_24 => ?_) (fun c_24 => ?_)
    · skip
      refine lv_iconst (v := 0) hx hb dX0_saveDirty_38 (by decide) ?_
      have e9 : F0_saveDirty mem blk hdr ds pw rn wr cm = (0, mem_1, blk_1, hdr_1, ds_1, pw_1, rn_1, wr_1, cm_1) := by unfold F0_saveDirty; rw [if_neg c_4, hF1]; (try dsimp only); rw [if_pos c_24]
      rw [e9]
      exact retWi hx hb hr hlocks rfl rfl rfl hK hP hD hS dX0_saveDirty_39
    · skip
      refine lv_aload_n hx hb dX0_saveDirty_27 rfl (lv_at hl 0 rfl) ?_
      refine lv_aload_n hx hb dX0_saveDirty_28 rfl (lv_at hl 0 rfl) ?_
      refine va_get (D := (dC, dI)) (ci := 0) (v := .int ds_1) (C := RX0) (T := TX0) (N := 8) hx hb hts hin hown hK hP 0 rfl rfl 3 (by decide) (hts (.fieldLink RX0 19 "CapStore" "dirtySet" "I") (by decide +kernel)) (fun _ h9 => h9) rfl dX0_saveDirty_29 ?_
      refine callWi (q := (RX0, TX0, 8)) (ci := 0) (q0 := 0) (As := [.int ds_1]) (rest := []) (wr := []) (m0_writeHeader l dC dI h0 h1 h2 h3 c1 c2 c3 _ mem_1 blk_1 hdr_1 ds_1 pw_1 rn_1 wr_1 cm_1 ds_1 ) ⟨hx, hb, hml, hown, hts⟩ (cwV 1 hts gX0_saveDirty_X0_writeHeader rfl rfl rfl (by decide +kernel) ⟨Nat.le_of_ble_eq_true rfl, Nat.le_of_ble_eq_true rfl⟩) hK hP hD hS hA rfl rfl [0, 1, 2, 3] [] rfl rfl rfl (by decide) (by decide) (by decide) rfl hl.1 rfl (Nat.le_of_ble_eq_true rfl) dX0_saveDirty_32 ⟨Nat.zero_le _, Nat.zero_le _⟩ (fun H locs hP hD hS => ?_)
      generalize hF2 : (F0_writeHeader mem_1 blk_1 hdr_1 ds_1 pw_1 rn_1 wr_1 cm_1 ds_1) = u at hP hD ⊢
      obtain ⟨r_2, mem_2, blk_2, hdr_2, ds_2, pw_2, rn_2, wr_2, cm_2⟩ := u
      have hP : va_P (dC, dI) vwCl [(h0, .inr (0, [.ref h1, .ref h2, .ref h3, .int ds_2, .int pw_2, .int rn_2, .int wr_2, .int cm_2])), (h1, .inl (c1, 96, .inl mem_2)), (h2, .inl (c2, 200, .inl blk_2)), (h3, .inl (c3, 8, .inl hdr_2))] _ := hP
      have hD : va_D _ [(h0, .inr (0, [.ref h1, .ref h2, .ref h3, .int ds_2, .int pw_2, .int rn_2, .int wr_2, .int cm_2])), (h1, .inl (c1, 96, .inl mem_2)), (h2, .inl (c2, 200, .inl blk_2)), (h3, .inl (c3, 8, .inl hdr_2))] := hD
      show W _ _ _ _ _ _ _ _ _ _ _ _ _ _ _ (F0 m 35 ls [.int r_2])
      refine lv_if_ne (tgt := 40) hx hb dX0_saveDirty_35 (by decide) (fun c_35 => ?_) (fun c_35 => ?_)
      · skip
        refine lv_aload_n hx hb dX0_saveDirty_40 rfl (lv_at hl 0 rfl) ?_
        refine lv_dup hx hb dX0_saveDirty_41 rfl ?_
        refine va_get (D := (dC, dI)) (ci := 0) (v := .int cm_2) (C := RX0) (T := TX0) (N := 8) hx hb hts hin hown hK hP 0 rfl rfl 7 (by decide) (hts (.fieldLink RX0 33 "CapStore" "committed" "I") (by decide +kernel)) (fun _ h9 => h9) rfl dX0_saveDirty_42 ?_
        refine lv_iconst (v := 1) hx hb dX0_saveDirty_45 (by decide) ?_
        refine lv_iadd hx hb dX0_saveDirty_46 ?_
        refine va_put (D := (dC, dI)) (ci := 0) (v := .int (cm_2 + 1)) (ty := .int) (C := RX0) (T := TX0) (N := 8) hx hb hts hin tyX0 tyX0_ok nmX0 hown hK hP hD hS 0 rfl rfl 7 (by decide) (hts (.fieldLink RX0 33 "CapStore" "committed" "I") (by decide +kernel)) (fun _ h9 => h9) rfl (by decide +kernel) rfl rfl (Nat.le_of_ble_eq_true rfl) dX0_saveDirty_47 (fun H locs hP hD hS => ?_)
        have hP : va_P (dC, dI) vwCl [(h0, .inr (0, [.ref h1, .ref h2, .ref h3, .int ds_2, .int pw_2, .int rn_2, .int wr_2, .int (cm_2 + 1)])), (h1, .inl (c1, 96, .inl mem_2)), (h2, .inl (c2, 200, .inl blk_2)), (h3, .inl (c3, 8, .inl hdr_2))] _ := hP
        have hD : va_D _ [(h0, .inr (0, [.ref h1, .ref h2, .ref h3, .int ds_2, .int pw_2, .int rn_2, .int wr_2, .int (cm_2 + 1)])), (h1, .inl (c1, 96, .inl mem_2)), (h2, .inl (c2, 200, .inl blk_2)), (h3, .inl (c3, 8, .inl hdr_2))] := hD
        refine lv_aload_n hx hb dX0_saveDirty_50 rfl (lv_at hl 0 rfl) ?_
        refine lv_aload_n hx hb dX0_saveDirty_51 rfl (lv_at hl 0 rfl) ?_
        refine va_get (D := (dC, dI)) (ci := 0) (v := .int ds_2) (C := RX0) (T := TX0) (N := 8) hx hb hts hin hown hK hP 0 rfl rfl 3 (by decide) (hts (.fieldLink RX0 19 "CapStore" "dirtySet" "I") (by decide +kernel)) (fun _ h9 => h9) rfl dX0_saveDirty_52 ?_
        refine lv_aload_n hx hb dX0_saveDirty_55 rfl (lv_at hl 0 rfl) ?_
        refine va_get (D := (dC, dI)) (ci := 0) (v := .ref h1) (C := RX0) (T := TX0) (N := 8) hx hb hts hin hown hK hP 0 rfl rfl 0 (by decide) (hts (.fieldLink RX0 9 "CapStore" "memory" "[I") (by decide +kernel)) (fun _ h9 => h9) rfl dX0_saveDirty_56 ?_
        refine lv_iconst (v := 0) hx hb dX0_saveDirty_59 (by decide) ?_
        refine lv_iconst (v := 0) hx hb dX0_saveDirty_60 (by decide) ?_
        refine callWi (q := (RX0, TX0, 8)) (ci := 0) (q0 := 0) (As := [.int ds_2, .ref h1, .int 0, .int 0]) (rest := []) (wr := []) (m0_copyRows_m l dC dI h0 h1 h2 h3 c1 c2 c3 _ mem_2 blk_2 hdr_2 ds_2 pw_2 rn_2 wr_2 (cm_2 + 1) ds_2 0 0 cr_home) ⟨hx, hb, hml, hown, hts⟩ (cwV 4 hts gX0_saveDirty_X0_copyRows rfl rfl rfl (by decide +kernel) ⟨Nat.le_of_ble_eq_true rfl, Nat.le_of_ble_eq_true rfl⟩) hK hP hD hS hA rfl rfl [0, 1, 2, 3] [] rfl rfl rfl (by decide) (by decide) (by decide) rfl hl.1 rfl (Nat.le_of_ble_eq_true rfl) dX0_saveDirty_61 ⟨Nat.zero_le _, Nat.zero_le _⟩ (fun H locs hP hD hS => ?_)
        generalize hF3 : (F0_copyRows_m mem_2 blk_2 hdr_2 ds_2 pw_2 rn_2 wr_2 (cm_2 + 1) ds_2 0 0) = u at hP hD ⊢
        obtain ⟨r_3, mem_3, blk_3, hdr_3, ds_3, pw_3, rn_3, wr_3, cm_3⟩ := u
        have hP : va_P (dC, dI) vwCl [(h0, .inr (0, [.ref h1, .ref h2, .ref h3, .int ds_3, .int pw_3, .int rn_3, .int wr_3, .int cm_3])), (h1, .inl (c1, 96, .inl mem_3)), (h2, .inl (c2, 200, .inl blk_3)), (h3, .inl (c3, 8, .inl hdr_3))] _ := hP
        have hD : va_D _ [(h0, .inr (0, [.ref h1, .ref h2, .ref h3, .int ds_3, .int pw_3, .int rn_3, .int wr_3, .int cm_3])), (h1, .inl (c1, 96, .inl mem_3)), (h2, .inl (c2, 200, .inl blk_3)), (h3, .inl (c3, 8, .inl hdr_3))] := hD
        show W _ _ _ _ _ _ _ _ _ _ _ _ _ _ _ (F0 m 64 ls [.int r_3])
        refine lv_if_eq (tgt := 79) hx hb dX0_saveDirty_64 (by decide) (fun c_64 => ?_) (fun c_64 => ?_)
        · skip
          refine lv_iconst (v := 0) hx hb dX0_saveDirty_79 (by decide) ?_
          have e9 : F0_saveDirty mem blk hdr ds pw rn wr cm = (0, mem_3, blk_3, hdr_3, ds_3, pw_3, rn_3, wr_3, cm_3) := by unfold F0_saveDirty; rw [if_neg c_4, hF1]; (try dsimp only); rw [if_neg c_24, hF2]; (try dsimp only); rw [if_neg c_35, hF3]; (try dsimp only); rw [if_pos c_64]
          rw [e9]
          exact retWi hx hb hr hlocks rfl rfl rfl hK hP hD hS dX0_saveDirty_80
        · skip
          refine lv_aload_n hx hb dX0_saveDirty_67 rfl (lv_at hl 0 rfl) ?_
          refine lv_iconst (v := 0) hx hb dX0_saveDirty_68 (by decide) ?_
          refine callWi (q := (RX0, TX0, 8)) (ci := 0) (q0 := 0) (As := [.int 0]) (rest := []) (wr := []) (m0_writeHeader l dC dI h0 h1 h2 h3 c1 c2 c3 _ mem_3 blk_3 hdr_3 ds_3 pw_3 rn_3 wr_3 cm_3 0 ) ⟨hx, hb, hml, hown, hts⟩ (cwV 1 hts gX0_saveDirty_X0_writeHeader rfl rfl rfl (by decide +kernel) ⟨Nat.le_of_ble_eq_true rfl, Nat.le_of_ble_eq_true rfl⟩) hK hP hD hS hA rfl rfl [0, 1, 2, 3] [] rfl rfl rfl (by decide) (by decide) (by decide) rfl hl.1 rfl (Nat.le_of_ble_eq_true rfl) dX0_saveDirty_69 ⟨Nat.zero_le _, Nat.zero_le _⟩ (fun H locs hP hD hS => ?_)
          generalize hF4 : (F0_writeHeader mem_3 blk_3 hdr_3 ds_3 pw_3 rn_3 wr_3 cm_3 0) = u at hP hD ⊢
          obtain ⟨r_4, mem_4, blk_4, hdr_4, ds_4, pw_4, rn_4, wr_4, cm_4⟩ := u
          have hP : va_P (dC, dI) vwCl [(h0, .inr (0, [.ref h1, .ref h2, .ref h3, .int ds_4, .int pw_4, .int rn_4, .int wr_4, .int cm_4])), (h1, .inl (c1, 96, .inl mem_4)), (h2, .inl (c2, 200, .inl blk_4)), (h3, .inl (c3, 8, .inl hdr_4))] _ := hP
          have hD : va_D _ [(h0, .inr (0, [.ref h1, .ref h2, .ref h3, .int ds_4, .int pw_4, .int rn_4, .int wr_4, .int cm_4])), (h1, .inl (c1, 96, .inl mem_4)), (h2, .inl (c2, 200, .inl blk_4)), (h3, .inl (c3, 8, .inl hdr_4))] := hD
          show W _ _ _ _ _ _ _ _ _ _ _ _ _ _ _ (F0 m 72 ls [.int r_4])
          refine lv_if_eq (tgt := 79) hx hb dX0_saveDirty_72 (by decide) (fun c_72 => ?_) (fun c_72 => ?_)
          · skip
            refine lv_iconst (v := 0) hx hb dX0_saveDirty_79 (by decide) ?_
            have e9 : F0_saveDirty mem blk hdr ds pw rn wr cm = (0, mem_4, blk_4, hdr_4, ds_4, pw_4, rn_4, wr_4, cm_4) := by unfold F0_saveDirty; rw [if_neg c_4, hF1]; (try dsimp only); rw [if_neg c_24, hF2]; (try dsimp only); rw [if_neg c_35, hF3]; (try dsimp only); rw [if_neg c_64, hF4]; (try dsimp only); rw [if_pos c_72]
            rw [e9]
            exact retWi hx hb hr hlocks rfl rfl rfl hK hP hD hS dX0_saveDirty_80
          · skip
            refine lv_iconst (v := 1) hx hb dX0_saveDirty_75 (by decide) ?_
            refine lv_goto (tgt := 80) hx hb dX0_saveDirty_76 (by decide) ?_
            have e9 : F0_saveDirty mem blk hdr ds pw rn wr cm = (1, mem_4, blk_4, hdr_4, ds_4, pw_4, rn_4, wr_4, cm_4) := by unfold F0_saveDirty; rw [if_neg c_4, hF1]; (try dsimp only); rw [if_neg c_24, hF2]; (try dsimp only); rw [if_neg c_35, hF3]; (try dsimp only); rw [if_neg c_64, hF4]; (try dsimp only); rw [if_neg c_72]
            rw [e9]
            exact retWi hx hb hr hlocks rfl rfl rfl hK hP hD hS dX0_saveDirty_80
      · skip
        refine lv_iconst (v := 0) hx hb dX0_saveDirty_38 (by decide) ?_
        have e9 : F0_saveDirty mem blk hdr ds pw rn wr cm = (0, mem_2, blk_2, hdr_2, ds_2, pw_2, rn_2, wr_2, cm_2) := by unfold F0_saveDirty; rw [if_neg c_4, hF1]; (try dsimp only); rw [if_neg c_24, hF2]; (try dsimp only); rw [if_pos c_35]
        rw [e9]
        exact retWi hx hb hr hlocks rfl rfl rfl hK hP hD hS dX0_saveDirty_39
  · skip
    refine lv_iconst (v := 1) hx hb dX0_saveDirty_7 (by decide) ?_
    have e9 : F0_saveDirty mem blk hdr ds pw rn wr cm = (1, mem, blk, hdr, ds, pw, rn, wr, cm) := by unfold F0_saveDirty; rw [if_pos c_4]
    rw [e9]
    exact retWi hx hb hr hlocks rfl rfl rfl hK hP hD hS dX0_saveDirty_8
set_option maxHeartbeats 4000000 in
set_option maxRecDepth 100000 in
theorem m0_finishCommitted (l : Launch) (dC : Nat → ClassId) (dI : Nat → Nat → Nat) (h0 h1 h2 h3 : Nat) (c1 c2 c3 : ClassId) (sz : Nat) (mem blk hdr : Nat → Int32) (ds pw rn wr cm : Int32) : Met l yX0_finishCommitted wsX0_finishCommitted ({ frames := 3, cells := 0, slots := 0, locals := 88 }) (pcW (dC, dI) (k0 c1 c2 c3) (w0 h0 h1 h2 h3 c1 c2 c3 (mem, blk, hdr, ds, pw, rn, wr, cm)) sz [.ref h0]) (qcWi (dC, dI) (k0 c1 c2 c3) (w0 h0 h1 h2 h3 c1 c2 c3 (mem, blk, hdr, ds, pw, rn, wr, cm)) (w0 h0 h1 h2 h3 c1 c2 c3 (F0_finishCommitted mem blk hdr ds pw rn wr cm).2) sz (F0_finishCommitted mem blk hdr ds pw rn wr cm).1) 0 0 (va_A (w0 h0 h1 h2 h3 c1 c2 c3 (mem, blk, hdr, ds, pw, rn, wr, cm)) sz) := by
  refine Met.ofW (cc := cX0_finishCommitted) (maxL := 2) (ret := (some .boolean)) (by decide) rfl ?_
  intro p e s m args below meth c s₁ B hml hv
  obtain ⟨rfl, hsz, hP, hK, hD0⟩ := hv
  have hx := B.exec
  have hb := B.bytes
  have hr := B.returns
  have hts := atoms_spec (ws := wsX0_finishCommitted) B.pre
  have hown : s.vm.findClass RX0 = some m.cls := findClass_of_methodNamed B.named
  have hlocks := B.notSynchronized
  have hin : ∀ w ∈ wsX00, w ∈ wsX0_finishCommitted := fun _ h => List.mem_cons_of_mem _ (List.mem_append_right _ h)
  have hP : va_P (dC, dI) vwCl [(h0, .inr (0, [.ref h1, .ref h2, .ref h3, .int ds, .int pw, .int rn, .int wr, .int cm])), (h1, .inl (c1, 96, .inl mem)), (h2, .inl (c2, 200, .inl blk)), (h3, .inl (c3, 8, .inl hdr))] s.heap := hP
  subst hsz
  have hD := hD0.self (sz := s.heap.size)
  have hA : ∀ q : Nat, s.heap.size ≤ q → (va_A (w0 h0 h1 h2 h3 c1 c2 c3 (mem, blk, hdr, ds, pw, rn, wr, cm)) s.heap.size) q := fun q h => Or.inr h
  have hS : va_S (va_A (w0 h0 h1 h2 h3 c1 c2 c3 (mem, blk, hdr, ds, pw, rn, wr, cm)) s.heap.size) s.heap s.heap [] := va_S.rf
  have hl := lv_entry ([.ref h0]) (n := 2) (Nat.le_of_ble_eq_true rfl)
  rw [lg_entry_eq]
  generalize (lg_sl ([.ref h0]) ++ List.replicate (2 - (lg_sl ([.ref h0])).length) Slot.unset).toArray = ls at hl ⊢
  have hl : lv_has ls 2 [(0, .ref h0)] := hl
  refine lv_aload_n hx hb dX0_finishCommitted_0 rfl (lv_at hl 0 rfl) ?_
  refine va_get (D := (dC, dI)) (ci := 0) (v := .ref h2) (C := RX0) (T := TX0) (N := 8) hx hb hts hin hown hK hP 0 rfl rfl 1 (by decide) (hts (.fieldLink RX0 13 "CapStore" "blocks" "[I") (by decide +kernel)) (fun _ h9 => h9) rfl dX0_finishCommitted_1 ?_
  refine lv_sipush (v := 192) hx hb dX0_finishCommitted_4 (by decide) ?_
  refine va_iald hx hb hK hP 2 1 rfl rfl (vp_in_nI (n := 192) (by decide) (by decide)) dX0_finishCommitted_7 ?_
  refine lv_istore_n (lv' := [(1, .int (blk (192 : Int32).toNatClampNeg)), (0, .ref h0)]) hx hb dX0_finishCommitted_8 rfl hl (by decide) rfl (fun ls hl => ?_)
  refine lv_iload_n hx hb dX0_finishCommitted_9 rfl (lv_at hl 0 rfl) ?_
  refine lv_if_ne (tgt := 15) hx hb dX0_finishCommitted_10 (by decide) (fun c_10 => ?_) (fun c_10 => ?_)
  · skip
    refine lv_aload_n hx hb dX0_finishCommitted_15 rfl (lv_at hl 1 rfl) ?_
    refine lv_iload_n hx hb dX0_finishCommitted_16 rfl (lv_at hl 0 rfl) ?_
    refine lv_aload_n hx hb dX0_finishCommitted_17 rfl (lv_at hl 1 rfl) ?_
    refine va_get (D := (dC, dI)) (ci := 0) (v := .ref h2) (C := RX0) (T := TX0) (N := 8) hx hb hts hin hown hK hP 0 rfl rfl 1 (by decide) (hts (.fieldLink RX0 13 "CapStore" "blocks" "[I") (by decide +kernel)) (fun _ h9 => h9) rfl dX0_finishCommitted_18 ?_
    refine lv_bipush (v := 12) hx hb dX0_finishCommitted_21 (by decide) ?_
    refine lv_iconst (v := 0) hx hb dX0_finishCommitted_23 (by decide) ?_
    refine callWi (q := (RX0, TX0, 8)) (ci := 0) (q0 := 0) (As := [.int (blk (192 : Int32).toNatClampNeg), .ref h2, .int 12, .int 0]) (rest := []) (wr := []) (m0_copyRows_b l dC dI h0 h1 h2 h3 c1 c2 c3 _ mem blk hdr ds pw rn wr cm (blk (192 : Int32).toNatClampNeg) 12 0 cr_rec) ⟨hx, hb, hml, hown, hts⟩ (cwV 4 hts gX0_finishCommitted_X0_copyRows rfl rfl rfl (by decide +kernel) ⟨Nat.le_of_ble_eq_true rfl, Nat.le_of_ble_eq_true rfl⟩) hK hP hD hS hA rfl rfl [0, 1, 2, 3] [] rfl rfl rfl (by decide) (by decide) (by decide) rfl hl.1 rfl (Nat.le_of_ble_eq_true rfl) dX0_finishCommitted_24 ⟨Nat.zero_le _, Nat.zero_le _⟩ (fun H locs hP hD hS => ?_)
    generalize hF1 : (F0_copyRows_b mem blk hdr ds pw rn wr cm (blk (192 : Int32).toNatClampNeg) 12 0) = u at hP hD ⊢
    obtain ⟨r_1, mem_1, blk_1, hdr_1, ds_1, pw_1, rn_1, wr_1, cm_1⟩ := u
    have hP : va_P (dC, dI) vwCl [(h0, .inr (0, [.ref h1, .ref h2, .ref h3, .int ds_1, .int pw_1, .int rn_1, .int wr_1, .int cm_1])), (h1, .inl (c1, 96, .inl mem_1)), (h2, .inl (c2, 200, .inl blk_1)), (h3, .inl (c3, 8, .inl hdr_1))] _ := hP
    have hD : va_D _ [(h0, .inr (0, [.ref h1, .ref h2, .ref h3, .int ds_1, .int pw_1, .int rn_1, .int wr_1, .int cm_1])), (h1, .inl (c1, 96, .inl mem_1)), (h2, .inl (c2, 200, .inl blk_1)), (h3, .inl (c3, 8, .inl hdr_1))] := hD
    show W _ _ _ _ _ _ _ _ _ _ _ _ _ _ _ (F0 m 27 ls [.int r_1])
    refine lv_if_eq (tgt := 42) hx hb dX0_finishCommitted_27 (by decide) (fun c_27 => ?_) (fun c_27 => ?_)
    · skip
      refine lv_iconst (v := 0) hx hb dX0_finishCommitted_42 (by decide) ?_
      have e9 : F0_finishCommitted mem blk hdr ds pw rn wr cm = (0, mem_1, blk_1, hdr_1, ds_1, pw_1, rn_1, wr_1, cm_1) := by unfold F0_finishCommitted; rw [if_neg c_10, hF1]; (try dsimp only); rw [if_pos c_27]
      rw [e9]
      exact retWi hx hb hr hlocks rfl rfl rfl hK hP hD hS dX0_finishCommitted_43
    · skip
      refine lv_aload_n hx hb dX0_finishCommitted_30 rfl (lv_at hl 1 rfl) ?_
      refine lv_iconst (v := 0) hx hb dX0_finishCommitted_31 (by decide) ?_
      refine callWi (q := (RX0, TX0, 8)) (ci := 0) (q0 := 0) (As := [.int 0]) (rest := []) (wr := []) (m0_writeHeader l dC dI h0 h1 h2 h3 c1 c2 c3 _ mem_1 blk_1 hdr_1 ds_1 pw_1 rn_1 wr_1 cm_1 0 ) ⟨hx, hb, hml, hown, hts⟩ (cwV 1 hts gX0_finishCommitted_X0_writeHeader rfl rfl rfl (by decide +kernel) ⟨Nat.le_of_ble_eq_true rfl, Nat.le_of_ble_eq_true rfl⟩) hK hP hD hS hA rfl rfl [0, 1, 2, 3] [] rfl rfl rfl (by decide) (by decide) (by decide) rfl hl.1 rfl (Nat.le_of_ble_eq_true rfl) dX0_finishCommitted_32 ⟨Nat.zero_le _, Nat.zero_le _⟩ (fun H locs hP hD hS => ?_)
      generalize hF2 : (F0_writeHeader mem_1 blk_1 hdr_1 ds_1 pw_1 rn_1 wr_1 cm_1 0) = u at hP hD ⊢
      obtain ⟨r_2, mem_2, blk_2, hdr_2, ds_2, pw_2, rn_2, wr_2, cm_2⟩ := u
      have hP : va_P (dC, dI) vwCl [(h0, .inr (0, [.ref h1, .ref h2, .ref h3, .int ds_2, .int pw_2, .int rn_2, .int wr_2, .int cm_2])), (h1, .inl (c1, 96, .inl mem_2)), (h2, .inl (c2, 200, .inl blk_2)), (h3, .inl (c3, 8, .inl hdr_2))] _ := hP
      have hD : va_D _ [(h0, .inr (0, [.ref h1, .ref h2, .ref h3, .int ds_2, .int pw_2, .int rn_2, .int wr_2, .int cm_2])), (h1, .inl (c1, 96, .inl mem_2)), (h2, .inl (c2, 200, .inl blk_2)), (h3, .inl (c3, 8, .inl hdr_2))] := hD
      show W _ _ _ _ _ _ _ _ _ _ _ _ _ _ _ (F0 m 35 ls [.int r_2])
      refine lv_if_eq (tgt := 42) hx hb dX0_finishCommitted_35 (by decide) (fun c_35 => ?_) (fun c_35 => ?_)
      · skip
        refine lv_iconst (v := 0) hx hb dX0_finishCommitted_42 (by decide) ?_
        have e9 : F0_finishCommitted mem blk hdr ds pw rn wr cm = (0, mem_2, blk_2, hdr_2, ds_2, pw_2, rn_2, wr_2, cm_2) := by unfold F0_finishCommitted; rw [if_neg c_10, hF1]; (try dsimp only); rw [if_neg c_27, hF2]; (try dsimp only); rw [if_pos c_35]
        rw [e9]
        exact retWi hx hb hr hlocks rfl rfl rfl hK hP hD hS dX0_finishCommitted_43
      · skip
        refine lv_iconst (v := 1) hx hb dX0_finishCommitted_38 (by decide) ?_
        refine lv_goto (tgt := 43) hx hb dX0_finishCommitted_39 (by decide) ?_
        have e9 : F0_finishCommitted mem blk hdr ds pw rn wr cm = (1, mem_2, blk_2, hdr_2, ds_2, pw_2, rn_2, wr_2, cm_2) := by unfold F0_finishCommitted; rw [if_neg c_10, hF1]; (try dsimp only); rw [if_neg c_27, hF2]; (try dsimp only); rw [if_neg c_35]
        rw [e9]
        exact retWi hx hb hr hlocks rfl rfl rfl hK hP hD hS dX0_finishCommitted_43
  · skip
    refine lv_iconst (v := 1) hx hb dX0_finishCommitted_13 (by decide) ?_
    have e9 : F0_finishCommitted mem blk hdr ds pw rn wr cm = (1, mem, blk, hdr, ds, pw, rn, wr, cm) := by unfold F0_finishCommitted; rw [if_pos c_10]
    rw [e9]
    exact retWi hx hb hr hlocks rfl rfl rfl hK hP hD hS dX0_finishCommitted_14
set_option maxHeartbeats 4000000 in
set_option maxRecDepth 100000 in
theorem m0_loadHomes (l : Launch) (dC : Nat → ClassId) (dI : Nat → Nat → Nat) (h0 h1 h2 h3 : Nat) (c1 c2 c3 : ClassId) (sz : Nat) (mem blk hdr : Nat → Int32) (ds pw rn wr cm : Int32) : Met l yX0_loadHomes wsX0_loadHomes ({ frames := 1, cells := 0, slots := 0, locals := 40 }) (pcW (dC, dI) (k0 c1 c2 c3) (w0 h0 h1 h2 h3 c1 c2 c3 (mem, blk, hdr, ds, pw, rn, wr, cm)) sz [.ref h0]) (qcWv (dC, dI) (k0 c1 c2 c3) (w0 h0 h1 h2 h3 c1 c2 c3 (mem, blk, hdr, ds, pw, rn, wr, cm)) (w0 h0 h1 h2 h3 c1 c2 c3 (F0_loadHomes mem blk hdr ds pw rn wr cm)) sz) 0 0 (va_A (w0 h0 h1 h2 h3 c1 c2 c3 (mem, blk, hdr, ds, pw, rn, wr, cm)) sz) := by
  refine Met.ofW (cc := cX0_loadHomes) (maxL := 1) (ret := none) (by decide) rfl ?_
  intro p e s m args below meth c s₁ B hml hv
  obtain ⟨rfl, hsz, hP, hK, hD0⟩ := hv
  have hx := B.exec
  have hb := B.bytes
  have hr := B.returns
  have hts := atoms_spec (ws := wsX0_loadHomes) B.pre
  have hown : s.vm.findClass RX0 = some m.cls := findClass_of_methodNamed B.named
  have hlocks := B.notSynchronized
  have hin : ∀ w ∈ wsX00, w ∈ wsX0_loadHomes := fun _ h => List.mem_cons_of_mem _ (List.mem_append_right _ h)
  have hP : va_P (dC, dI) vwCl [(h0, .inr (0, [.ref h1, .ref h2, .ref h3, .int ds, .int pw, .int rn, .int wr, .int cm])), (h1, .inl (c1, 96, .inl mem)), (h2, .inl (c2, 200, .inl blk)), (h3, .inl (c3, 8, .inl hdr))] s.heap := hP
  subst hsz
  have hD := hD0.self (sz := s.heap.size)
  have hA : ∀ q : Nat, s.heap.size ≤ q → (va_A (w0 h0 h1 h2 h3 c1 c2 c3 (mem, blk, hdr, ds, pw, rn, wr, cm)) s.heap.size) q := fun q h => Or.inr h
  have hS : va_S (va_A (w0 h0 h1 h2 h3 c1 c2 c3 (mem, blk, hdr, ds, pw, rn, wr, cm)) s.heap.size) s.heap s.heap [] := va_S.rf
  have hl := lv_entry ([.ref h0]) (n := 1) (Nat.le_of_ble_eq_true rfl)
  rw [lg_entry_eq]
  generalize (lg_sl ([.ref h0]) ++ List.replicate (1 - (lg_sl ([.ref h0])).length) Slot.unset).toArray = ls at hl ⊢
  have hl : lv_has ls 1 [(0, .ref h0)] := hl
  refine lv_aload_n hx hb dX0_loadHomes_0 rfl (lv_at hl 0 rfl) ?_
  refine va_get (D := (dC, dI)) (ci := 0) (v := .ref h2) (C := RX0) (T := TX0) (N := 8) hx hb hts hin hown hK hP 0 rfl rfl 1 (by decide) (hts (.fieldLink RX0 13 "CapStore" "blocks" "[I") (by decide +kernel)) (fun _ h9 => h9) rfl dX0_loadHomes_1 ?_
  refine lv_iconst (v := 0) hx hb dX0_loadHomes_4 (by decide) ?_
  refine lv_aload_n hx hb dX0_loadHomes_5 rfl (lv_at hl 0 rfl) ?_
  refine va_get (D := (dC, dI)) (ci := 0) (v := .ref h1) (C := RX0) (T := TX0) (N := 8) hx hb hts hin hown hK hP 0 rfl rfl 0 (by decide) (hts (.fieldLink RX0 9 "CapStore" "memory" "[I") (by decide +kernel)) (fun _ h9 => h9) rfl dX0_loadHomes_6 ?_
  refine lv_iconst (v := 0) hx hb dX0_loadHomes_9 (by decide) ?_
  refine lv_bipush (v := 96) hx hb dX0_loadHomes_10 (by decide) ?_
  refine va_copyi (ty := .int) hx hb (hml.trans hl.1.symm) hown (hts (.methodLink RX0 122 arraycopyName) (by decide +kernel)) (hts (.native arraycopyName) (by decide +kernel)) (hts (.static arraycopyName) (by decide +kernel)) (hts (.initialized "java/lang/System") (by decide +kernel)) hK hP hD hS 2 1 1 0 rfl rfl rfl rfl rfl (by decide) (by decide) (by decide) (by decide) (by decide) (fun _ _ => rfl) (Nat.le_of_ble_eq_true rfl) (Nat.le_of_ble_eq_true rfl) dX0_loadHomes_12 (fun H locs hP hD hS => ?_)
  have hP : va_P (dC, dI) vwCl [(h0, .inr (0, [.ref h1, .ref h2, .ref h3, .int ds, .int pw, .int rn, .int wr, .int cm])), (h1, .inl (c1, 96, .inl (va_cpy blk mem (0 : Int32).toNatClampNeg (0 : Int32).toNatClampNeg (96 : Int32).toNatClampNeg))), (h2, .inl (c2, 200, .inl blk)), (h3, .inl (c3, 8, .inl hdr))] _ := hP
  have hD : va_D _ [(h0, .inr (0, [.ref h1, .ref h2, .ref h3, .int ds, .int pw, .int rn, .int wr, .int cm])), (h1, .inl (c1, 96, .inl (va_cpy blk mem (0 : Int32).toNatClampNeg (0 : Int32).toNatClampNeg (96 : Int32).toNatClampNeg))), (h2, .inl (c2, 200, .inl blk)), (h3, .inl (c3, 8, .inl hdr))] := hD
  refine lv_aload_n hx hb dX0_loadHomes_15 rfl (lv_at hl 0 rfl) ?_
  refine lv_iconst (v := 0) hx hb dX0_loadHomes_16 (by decide) ?_
  refine va_put (D := (dC, dI)) (ci := 0) (v := .int 0) (ty := .int) (C := RX0) (T := TX0) (N := 8) hx hb hts hin tyX0 tyX0_ok nmX0 hown hK hP hD hS 0 rfl rfl 3 (by decide) (hts (.fieldLink RX0 19 "CapStore" "dirtySet" "I") (by decide +kernel)) (fun _ h9 => h9) rfl (by decide +kernel) rfl rfl (Nat.le_of_ble_eq_true rfl) dX0_loadHomes_17 (fun H locs hP hD hS => ?_)
  have hP : va_P (dC, dI) vwCl [(h0, .inr (0, [.ref h1, .ref h2, .ref h3, .int 0, .int pw, .int rn, .int wr, .int cm])), (h1, .inl (c1, 96, .inl (va_cpy blk mem (0 : Int32).toNatClampNeg (0 : Int32).toNatClampNeg (96 : Int32).toNatClampNeg))), (h2, .inl (c2, 200, .inl blk)), (h3, .inl (c3, 8, .inl hdr))] _ := hP
  have hD : va_D _ [(h0, .inr (0, [.ref h1, .ref h2, .ref h3, .int 0, .int pw, .int rn, .int wr, .int cm])), (h1, .inl (c1, 96, .inl (va_cpy blk mem (0 : Int32).toNatClampNeg (0 : Int32).toNatClampNeg (96 : Int32).toNatClampNeg))), (h2, .inl (c2, 200, .inl blk)), (h3, .inl (c3, 8, .inl hdr))] := hD
  have e9 : F0_loadHomes mem blk hdr ds pw rn wr cm = ((va_cpy blk mem (0 : Int32).toNatClampNeg (0 : Int32).toNatClampNeg (96 : Int32).toNatClampNeg), blk, hdr, 0, pw, rn, wr, cm) := rfl
  rw [e9]
  exact retWv hx hb hr hlocks rfl hK hP hD hS dX0_loadHomes_20
set_option maxHeartbeats 4000000 in
set_option maxRecDepth 100000 in
theorem m0_checkpoint (l : Launch) (dC : Nat → ClassId) (dI : Nat → Nat → Nat) (h0 h1 h2 h3 : Nat) (c1 c2 c3 : ClassId) (sz : Nat) (mem blk hdr : Nat → Int32) (ds pw rn wr cm : Int32) : Met l yX0_checkpoint wsX0_checkpoint ({ frames := 4, cells := 0, slots := 0, locals := 108 }) (pcW (dC, dI) (k0 c1 c2 c3) (w0 h0 h1 h2 h3 c1 c2 c3 (mem, blk, hdr, ds, pw, rn, wr, cm)) sz [.ref h0]) (qcWi (dC, dI) (k0 c1 c2 c3) (w0 h0 h1 h2 h3 c1 c2 c3 (mem, blk, hdr, ds, pw, rn, wr, cm)) (w0 h0 h1 h2 h3 c1 c2 c3 (F0_checkpoint mem blk hdr ds pw rn wr cm).2) sz (F0_checkpoint mem blk hdr ds pw rn wr cm).1) 0 0 (va_A (w0 h0 h1 h2 h3 c1 c2 c3 (mem, blk, hdr, ds, pw, rn, wr, cm)) sz) := by
  refine Met.ofW (cc := cX0_checkpoint) (maxL := 2) (ret := (some .int)) (by decide) rfl ?_
  intro p e s m args below meth c s₁ B hml hv
  obtain ⟨rfl, hsz, hP, hK, hD0⟩ := hv
  have hx := B.exec
  have hb := B.bytes
  have hr := B.returns
  have hts := atoms_spec (ws := wsX0_checkpoint) B.pre
  have hown : s.vm.findClass RX0 = some m.cls := findClass_of_methodNamed B.named
  have hlocks := B.notSynchronized
  have hin : ∀ w ∈ wsX00, w ∈ wsX0_checkpoint := fun _ h => List.mem_cons_of_mem _ (List.mem_append_right _ h)
  have hP : va_P (dC, dI) vwCl [(h0, .inr (0, [.ref h1, .ref h2, .ref h3, .int ds, .int pw, .int rn, .int wr, .int cm])), (h1, .inl (c1, 96, .inl mem)), (h2, .inl (c2, 200, .inl blk)), (h3, .inl (c3, 8, .inl hdr))] s.heap := hP
  subst hsz
  have hD := hD0.self (sz := s.heap.size)
  have hA : ∀ q : Nat, s.heap.size ≤ q → (va_A (w0 h0 h1 h2 h3 c1 c2 c3 (mem, blk, hdr, ds, pw, rn, wr, cm)) s.heap.size) q := fun q h => Or.inr h
  have hS : va_S (va_A (w0 h0 h1 h2 h3 c1 c2 c3 (mem, blk, hdr, ds, pw, rn, wr, cm)) s.heap.size) s.heap s.heap [] := va_S.rf
  have hl := lv_entry ([.ref h0]) (n := 2) (Nat.le_of_ble_eq_true rfl)
  rw [lg_entry_eq]
  generalize (lg_sl ([.ref h0]) ++ List.replicate (2 - (lg_sl ([.ref h0])).length) Slot.unset).toArray = ls at hl ⊢
  have hl : lv_has ls 2 [(0, .ref h0)] := hl
  refine lv_aload_n hx hb dX0_checkpoint_0 rfl (lv_at hl 0 rfl) ?_
  refine va_get (D := (dC, dI)) (ci := 0) (v := .int rn) (C := RX0) (T := TX0) (N := 8) hx hb hts hin hown hK hP 0 rfl rfl 5 (by decide) (hts (.fieldLink RX0 26 "CapStore" "running" "Z") (by decide +kernel)) (fun _ h9 => h9) rfl dX0_checkpoint_1 ?_
  refine lv_if_ne (tgt := 9) hx hb dX0_checkpoint_4 (by decide) (fun c_4 => ?_) (fun c_4 => ?_)
  · skip
    refine lv_aload_n hx hb dX0_checkpoint_9 rfl (lv_at hl 0 rfl) ?_
    refine va_get (D := (dC, dI)) (ci := 0) (v := .int wr) (C := RX0) (T := TX0) (N := 8) hx hb hts hin hown hK hP 0 rfl rfl 6 (by decide) (hts (.fieldLink RX0 30 "CapStore" "written" "I") (by decide +kernel)) (fun _ h9 => h9) rfl dX0_checkpoint_10 ?_
    refine lv_istore_n (lv' := [(1, .int wr), (0, .ref h0)]) hx hb dX0_checkpoint_13 rfl hl (by decide) rfl (fun ls hl => ?_)
    refine lv_aload_n hx hb dX0_checkpoint_14 rfl (lv_at hl 1 rfl) ?_
    refine callWi (q := (RX0, TX0, 8)) (ci := 0) (q0 := 0) (As := []) (rest := []) (wr := []) (m0_saveDirty l dC dI h0 h1 h2 h3 c1 c2 c3 _ mem blk hdr ds pw rn wr cm  ) ⟨hx, hb, hml, hown, hts⟩ (cwV 0 hts gX0_checkpoint_X0_saveDirty rfl rfl rfl (by decide +kernel) ⟨Nat.le_of_ble_eq_true rfl, Nat.le_of_ble_eq_true rfl⟩) hK hP hD hS hA rfl rfl [0, 1, 2, 3] [] rfl rfl rfl (by decide) (by decide) (by decide) rfl hl.1 rfl (Nat.le_of_ble_eq_true rfl) dX0_checkpoint_15 ⟨Nat.zero_le _, Nat.zero_le _⟩ (fun H locs hP hD hS => ?_)
    generalize hF1 : (F0_saveDirty mem blk hdr ds pw rn wr cm) = u at hP hD ⊢
    obtain ⟨r_1, mem_1, blk_1, hdr_1, ds_1, pw_1, rn_1, wr_1, cm_1⟩ := u
    have hP : va_P (dC, dI) vwCl [(h0, .inr (0, [.ref h1, .ref h2, .ref h3, .int ds_1, .int pw_1, .int rn_1, .int wr_1, .int cm_1])), (h1, .inl (c1, 96, .inl mem_1)), (h2, .inl (c2, 200, .inl blk_1)), (h3, .inl (c3, 8, .inl hdr_1))] _ := hP
    have hD : va_D _ [(h0, .inr (0, [.ref h1, .ref h2, .ref h3, .int ds_1, .int pw_1, .int rn_1, .int wr_1, .int cm_1])), (h1, .inl (c1, 96, .inl mem_1)), (h2, .inl (c2, 200, .inl blk_1)), (h3, .inl (c3, 8, .inl hdr_1))] := hD
    show W _ _ _ _ _ _ _ _ _ _ _ _ _ _ _ (F0 m 18 ls [.int r_1])
    refine lv_if_ne (tgt := 24) hx hb dX0_checkpoint_18 (by decide) (fun c_18 => ?_) (fun c_18 => ?_)
    · skip
      refine lv_aload_n hx hb dX0_checkpoint_24 rfl (lv_at hl 1 rfl) ?_
      refine lv_iconst (v := 0) hx hb dX0_checkpoint_25 (by decide) ?_
      refine va_put (D := (dC, dI)) (ci := 0) (v := .int 0) (ty := .int) (C := RX0) (T := TX0) (N := 8) hx hb hts hin tyX0 tyX0_ok nmX0 hown hK hP hD hS 0 rfl rfl 3 (by decide) (hts (.fieldLink RX0 19 "CapStore" "dirtySet" "I") (by decide +kernel)) (fun _ h9 => h9) rfl (by decide +kernel) rfl rfl (Nat.le_of_ble_eq_true rfl) dX0_checkpoint_26 (fun H locs hP hD hS => ?_)
      have hP : va_P (dC, dI) vwCl [(h0, .inr (0, [.ref h1, .ref h2, .ref h3, .int 0, .int pw_1, .int rn_1, .int wr_1, .int cm_1])), (h1, .inl (c1, 96, .inl mem_1)), (h2, .inl (c2, 200, .inl blk_1)), (h3, .inl (c3, 8, .inl hdr_1))] _ := hP
      have hD : va_D _ [(h0, .inr (0, [.ref h1, .ref h2, .ref h3, .int 0, .int pw_1, .int rn_1, .int wr_1, .int cm_1])), (h1, .inl (c1, 96, .inl mem_1)), (h2, .inl (c2, 200, .inl blk_1)), (h3, .inl (c3, 8, .inl hdr_1))] := hD
      refine lv_aload_n hx hb dX0_checkpoint_29 rfl (lv_at hl 1 rfl) ?_
      refine va_get (D := (dC, dI)) (ci := 0) (v := .int wr_1) (C := RX0) (T := TX0) (N := 8) hx hb hts hin hown hK hP 0 rfl rfl 6 (by decide) (hts (.fieldLink RX0 30 "CapStore" "written" "I") (by decide +kernel)) (fun _ h9 => h9) rfl dX0_checkpoint_30 ?_
      refine lv_iload_n hx hb dX0_checkpoint_33 rfl (lv_at hl 0 rfl) ?_
      refine lv_isub hx hb dX0_checkpoint_34 ?_
      have e9 : F0_checkpoint mem blk hdr ds pw rn wr cm = ((wr_1 - wr), mem_1, blk_1, hdr_1, 0, pw_1, rn_1, wr_1, cm_1) := by unfold F0_checkpoint; rw [if_neg c_4, hF1]; (try dsimp only); rw [if_neg c_18]
      rw [e9]
      exact retWi hx hb hr hlocks rfl rfl rfl hK hP hD hS dX0_checkpoint_35
    · skip
      refine lv_bipush (v := (-2)) hx hb dX0_checkpoint_21 (by decide) ?_
      have e9 : F0_checkpoint mem blk hdr ds pw rn wr cm = ((-2), mem_1, blk_1, hdr_1, ds_1, pw_1, rn_1, wr_1, cm_1) := by unfold F0_checkpoint; rw [if_neg c_4, hF1]; (try dsimp only); rw [if_pos c_18]
      rw [e9]
      exact retWi hx hb hr hlocks rfl rfl rfl hK hP hD hS dX0_checkpoint_23
  · skip
    refine lv_iconst (v := (-1)) hx hb dX0_checkpoint_7 (by decide) ?_
    have e9 : F0_checkpoint mem blk hdr ds pw rn wr cm = ((-1), mem, blk, hdr, ds, pw, rn, wr, cm) := by unfold F0_checkpoint; rw [if_pos c_4]
    rw [e9]
    exact retWi hx hb hr hlocks rfl rfl rfl hK hP hD hS dX0_checkpoint_8
set_option maxHeartbeats 4000000 in
set_option maxRecDepth 100000 in
theorem m0_start (l : Launch) (dC : Nat → ClassId) (dI : Nat → Nat → Nat) (h0 h1 h2 h3 : Nat) (c1 c2 c3 : ClassId) (sz : Nat) (mem blk hdr : Nat → Int32) (ds pw rn wr cm : Int32) (x0 : Int32) : Met l yX0_start wsX0_start ({ frames := 4, cells := 0, slots := 0, locals := 109 }) (pcW (dC, dI) (k0 c1 c2 c3) (w0 h0 h1 h2 h3 c1 c2 c3 (mem, blk, hdr, ds, pw, rn, wr, cm)) sz [.ref h0, .int x0]) (qcWi (dC, dI) (k0 c1 c2 c3) (w0 h0 h1 h2 h3 c1 c2 c3 (mem, blk, hdr, ds, pw, rn, wr, cm)) (w0 h0 h1 h2 h3 c1 c2 c3 (F0_start mem blk hdr ds pw rn wr cm x0).2) sz (F0_start mem blk hdr ds pw rn wr cm x0).1) 0 0 (va_A (w0 h0 h1 h2 h3 c1 c2 c3 (mem, blk, hdr, ds, pw, rn, wr, cm)) sz) := by
  refine Met.ofW (cc := cX0_start) (maxL := 3) (ret := (some .int)) (by decide) rfl ?_
  intro p e s m args below meth c s₁ B hml hv
  obtain ⟨rfl, hsz, hP, hK, hD0⟩ := hv
  have hx := B.exec
  have hb := B.bytes
  have hr := B.returns
  have hts := atoms_spec (ws := wsX0_start) B.pre
  have hown : s.vm.findClass RX0 = some m.cls := findClass_of_methodNamed B.named
  have hlocks := B.notSynchronized
  have hin : ∀ w ∈ wsX00, w ∈ wsX0_start := fun _ h => List.mem_cons_of_mem _ (List.mem_append_right _ h)
  have hP : va_P (dC, dI) vwCl [(h0, .inr (0, [.ref h1, .ref h2, .ref h3, .int ds, .int pw, .int rn, .int wr, .int cm])), (h1, .inl (c1, 96, .inl mem)), (h2, .inl (c2, 200, .inl blk)), (h3, .inl (c3, 8, .inl hdr))] s.heap := hP
  subst hsz
  have hD := hD0.self (sz := s.heap.size)
  have hA : ∀ q : Nat, s.heap.size ≤ q → (va_A (w0 h0 h1 h2 h3 c1 c2 c3 (mem, blk, hdr, ds, pw, rn, wr, cm)) s.heap.size) q := fun q h => Or.inr h
  have hS : va_S (va_A (w0 h0 h1 h2 h3 c1 c2 c3 (mem, blk, hdr, ds, pw, rn, wr, cm)) s.heap.size) s.heap s.heap [] := va_S.rf
  have hl := lv_entry ([.ref h0, .int x0]) (n := 3) (Nat.le_of_ble_eq_true rfl)
  rw [lg_entry_eq]
  generalize (lg_sl ([.ref h0, .int x0]) ++ List.replicate (3 - (lg_sl ([.ref h0, .int x0])).length) Slot.unset).toArray = ls at hl ⊢
  have hl : lv_has ls 3 [(0, .ref h0), (1, .int x0)] := hl
  refine lv_aload_n hx hb dX0_start_0 rfl (lv_at hl 0 rfl) ?_
  refine va_get (D := (dC, dI)) (ci := 0) (v := .int rn) (C := RX0) (T := TX0) (N := 8) hx hb hts hin hown hK hP 0 rfl rfl 5 (by decide) (hts (.fieldLink RX0 26 "CapStore" "running" "Z") (by decide +kernel)) (fun _ h9 => h9) rfl dX0_start_1 ?_
  refine lv_if_eq (tgt := 9) hx hb dX0_start_4 (by decide) (fun c_4 => ?_) (fun c_4 => ?_)
  · skip
    refine lv_iload_n hx hb dX0_start_9 rfl (lv_at hl 1 rfl) ?_
    refine callSi (As := [.int x0]) (rest := []) (m0_isPower l x0) ⟨hx, hb, hml, hown, hts⟩ (va_cwS 1 hts gX0_start_X0_isPower rfl rfl rfl (by decide +kernel) ⟨Nat.le_of_ble_eq_true rfl, Nat.le_of_ble_eq_true rfl⟩) rfl hl.1 rfl (Nat.le_of_ble_eq_true rfl) dX0_start_10 ⟨Nat.zero_le _, Nat.zero_le _⟩ ?_
    refine lv_if_ne (tgt := 19) hx hb dX0_start_13 (by decide) (fun c_13 => ?_) (fun c_13 => ?_)
    · skip
      refine lv_aload_n hx hb dX0_start_19 rfl (lv_at hl 0 rfl) ?_
      refine lv_iload_n hx hb dX0_start_20 rfl (lv_at hl 1 rfl) ?_
      refine va_put (D := (dC, dI)) (ci := 0) (v := .int x0) (ty := .int) (C := RX0) (T := TX0) (N := 8) hx hb hts hin tyX0 tyX0_ok nmX0 hown hK hP hD hS 0 rfl rfl 4 (by decide) (hts (.fieldLink RX0 23 "CapStore" "powerLeft" "I") (by decide +kernel)) (fun _ h9 => h9) rfl (by decide +kernel) rfl rfl (Nat.le_of_ble_eq_true rfl) dX0_start_21 (fun H locs hP hD hS => ?_)
      have hP : va_P (dC, dI) vwCl [(h0, .inr (0, [.ref h1, .ref h2, .ref h3, .int ds, .int x0, .int rn, .int wr, .int cm])), (h1, .inl (c1, 96, .inl mem)), (h2, .inl (c2, 200, .inl blk)), (h3, .inl (c3, 8, .inl hdr))] _ := hP
      have hD : va_D _ [(h0, .inr (0, [.ref h1, .ref h2, .ref h3, .int ds, .int x0, .int rn, .int wr, .int cm])), (h1, .inl (c1, 96, .inl mem)), (h2, .inl (c2, 200, .inl blk)), (h3, .inl (c3, 8, .inl hdr))] := hD
      refine lv_aload_n hx hb dX0_start_24 rfl (lv_at hl 0 rfl) ?_
      refine va_get (D := (dC, dI)) (ci := 0) (v := .int wr) (C := RX0) (T := TX0) (N := 8) hx hb hts hin hown hK hP 0 rfl rfl 6 (by decide) (hts (.fieldLink RX0 30 "CapStore" "written" "I") (by decide +kernel)) (fun _ h9 => h9) rfl dX0_start_25 ?_
      refine lv_istore_n (lv' := [(2, .int wr), (0, .ref h0), (1, .int x0)]) hx hb dX0_start_28 rfl hl (by decide) rfl (fun ls hl => ?_)
      refine lv_aload_n hx hb dX0_start_29 rfl (lv_at hl 1 rfl) ?_
      refine callWi (q := (RX0, TX0, 8)) (ci := 0) (q0 := 0) (As := []) (rest := []) (wr := []) (m0_finishCommitted l dC dI h0 h1 h2 h3 c1 c2 c3 _ mem blk hdr ds x0 rn wr cm  ) ⟨hx, hb, hml, hown, hts⟩ (cwV 0 hts gX0_start_X0_finishCommitted rfl rfl rfl (by decide +kernel) ⟨Nat.le_of_ble_eq_true rfl, Nat.le_of_ble_eq_true rfl⟩) hK hP hD hS hA rfl rfl [0, 1, 2, 3] [] rfl rfl rfl (by decide) (by decide) (by decide) rfl hl.1 rfl (Nat.le_of_ble_eq_true rfl) dX0_start_30 ⟨Nat.zero_le _, Nat.zero_le _⟩ (fun H locs hP hD hS => ?_)
      generalize hF1 : (F0_finishCommitted mem blk hdr ds x0 rn wr cm) = u at hP hD ⊢
      obtain ⟨r_1, mem_1, blk_1, hdr_1, ds_1, pw_1, rn_1, wr_1, cm_1⟩ := u
      have hP : va_P (dC, dI) vwCl [(h0, .inr (0, [.ref h1, .ref h2, .ref h3, .int ds_1, .int pw_1, .int rn_1, .int wr_1, .int cm_1])), (h1, .inl (c1, 96, .inl mem_1)), (h2, .inl (c2, 200, .inl blk_1)), (h3, .inl (c3, 8, .inl hdr_1))] _ := hP
      have hD : va_D _ [(h0, .inr (0, [.ref h1, .ref h2, .ref h3, .int ds_1, .int pw_1, .int rn_1, .int wr_1, .int cm_1])), (h1, .inl (c1, 96, .inl mem_1)), (h2, .inl (c2, 200, .inl blk_1)), (h3, .inl (c3, 8, .inl hdr_1))] := hD
      show W _ _ _ _ _ _ _ _ _ _ _ _ _ _ _ (F0 m 33 ls [.int r_1])
      refine lv_if_ne (tgt := 39) hx hb dX0_start_33 (by decide) (fun c_33 => ?_) (fun c_33 => ?_)
      · skip
        refine lv_aload_n hx hb dX0_start_39 rfl (lv_at hl 1 rfl) ?_
        refine callWv (q := (RX0, TX0, 8)) (ci := 0) (q0 := 0) (As := []) (rest := []) (wr := []) (m0_loadHomes l dC dI h0 h1 h2 h3 c1 c2 c3 _ mem_1 blk_1 hdr_1 ds_1 pw_1 rn_1 wr_1 cm_1  ) ⟨hx, hb, hml, hown, hts⟩ (cwV 0 hts gX0_start_X0_loadHomes rfl rfl rfl (by decide +kernel) ⟨Nat.le_of_ble_eq_true rfl, Nat.le_of_ble_eq_true rfl⟩) hK hP hD hS hA rfl rfl [0, 1, 2, 3] [] rfl rfl rfl (by decide) (by decide) (by decide) rfl hl.1 rfl (Nat.le_of_ble_eq_true rfl) dX0_start_40 ⟨Nat.zero_le _, Nat.zero_le _⟩ (fun H locs hP hD hS => ?_)
        have hP : va_P (dC, dI) vwCl [(h0, .inr (0, [.ref h1, .ref h2, .ref h3, .int 0, .int pw_1, .int rn_1, .int wr_1, .int cm_1])), (h1, .inl (c1, 96, .inl (va_cpy blk_1 mem_1 (0 : Int32).toNatClampNeg (0 : Int32).toNatClampNeg (96 : Int32).toNatClampNeg))), (h2, .inl (c2, 200, .inl blk_1)), (h3, .inl (c3, 8, .inl hdr_1))] _ := hP
        have hD : va_D _ [(h0, .inr (0, [.ref h1, .ref h2, .ref h3, .int 0, .int pw_1, .int rn_1, .int wr_1, .int cm_1])), (h1, .inl (c1, 96, .inl (va_cpy blk_1 mem_1 (0 : Int32).toNatClampNeg (0 : Int32).toNatClampNeg (96 : Int32).toNatClampNeg))), (h2, .inl (c2, 200, .inl blk_1)), (h3, .inl (c3, 8, .inl hdr_1))] := hD
        refine lv_aload_n hx hb dX0_start_43 rfl (lv_at hl 1 rfl) ?_
        refine lv_iconst (v := 1) hx hb dX0_start_44 (by decide) ?_
        refine va_put (D := (dC, dI)) (ci := 0) (v := .int 1) (ty := .boolean) (C := RX0) (T := TX0) (N := 8) hx hb hts hin tyX0 tyX0_ok nmX0 hown hK hP hD hS 0 rfl rfl 5 (by decide) (hts (.fieldLink RX0 26 "CapStore" "running" "Z") (by decide +kernel)) (fun _ h9 => h9) rfl (by decide +kernel) rfl rfl (Nat.le_of_ble_eq_true rfl) dX0_start_45 (fun H locs hP hD hS => ?_)
        have hP : va_P (dC, dI) vwCl [(h0, .inr (0, [.ref h1, .ref h2, .ref h3, .int 0, .int pw_1, .int 1, .int wr_1, .int cm_1])), (h1, .inl (c1, 96, .inl (va_cpy blk_1 mem_1 (0 : Int32).toNatClampNeg (0 : Int32).toNatClampNeg (96 : Int32).toNatClampNeg))), (h2, .inl (c2, 200, .inl blk_1)), (h3, .inl (c3, 8, .inl hdr_1))] _ := hP
        have hD : va_D _ [(h0, .inr (0, [.ref h1, .ref h2, .ref h3, .int 0, .int pw_1, .int 1, .int wr_1, .int cm_1])), (h1, .inl (c1, 96, .inl (va_cpy blk_1 mem_1 (0 : Int32).toNatClampNeg (0 : Int32).toNatClampNeg (96 : Int32).toNatClampNeg))), (h2, .inl (c2, 200, .inl blk_1)), (h3, .inl (c3, 8, .inl hdr_1))] := hD
        refine lv_aload_n hx hb dX0_start_48 rfl (lv_at hl 1 rfl) ?_
        refine va_get (D := (dC, dI)) (ci := 0) (v := .int wr_1) (C := RX0) (T := TX0) (N := 8) hx hb hts hin hown hK hP 0 rfl rfl 6 (by decide) (hts (.fieldLink RX0 30 "CapStore" "written" "I") (by decide +kernel)) (fun _ h9 => h9) rfl dX0_start_49 ?_
        refine lv_iload_n hx hb dX0_start_52 rfl (lv_at hl 0 rfl) ?_
        refine lv_isub hx hb dX0_start_53 ?_
        have e9 : F0_start mem blk hdr ds pw rn wr cm x0 = ((wr_1 - wr), (va_cpy blk_1 mem_1 (0 : Int32).toNatClampNeg (0 : Int32).toNatClampNeg (96 : Int32).toNatClampNeg), blk_1, hdr_1, 0, pw_1, 1, wr_1, cm_1) := by unfold F0_start; rw [if_pos c_4, if_neg c_13, hF1]; (try dsimp only); rw [if_neg c_33]
        rw [e9]
        exact retWi hx hb hr hlocks rfl rfl rfl hK hP hD hS dX0_start_54
      · skip
        refine lv_bipush (v := (-3)) hx hb dX0_start_36 (by decide) ?_
        have e9 : F0_start mem blk hdr ds pw rn wr cm x0 = ((-3), mem_1, blk_1, hdr_1, ds_1, pw_1, rn_1, wr_1, cm_1) := by unfold F0_start; rw [if_pos c_4, if_neg c_13, hF1]; (try dsimp only); rw [if_pos c_33]
        rw [e9]
        exact retWi hx hb hr hlocks rfl rfl rfl hK hP hD hS dX0_start_38
    · skip
      refine lv_bipush (v := (-2)) hx hb dX0_start_16 (by decide) ?_
      have e9 : F0_start mem blk hdr ds pw rn wr cm x0 = ((-2), mem, blk, hdr, ds, pw, rn, wr, cm) := by unfold F0_start; rw [if_pos c_4, if_pos c_13]
      rw [e9]
      exact retWi hx hb hr hlocks rfl rfl rfl hK hP hD hS dX0_start_18
  · skip
    refine lv_iconst (v := (-1)) hx hb dX0_start_7 (by decide) ?_
    have e9 : F0_start mem blk hdr ds pw rn wr cm x0 = ((-1), mem, blk, hdr, ds, pw, rn, wr, cm) := by unfold F0_start; rw [if_neg c_4]
    rw [e9]
    exact retWi hx hb hr hlocks rfl rfl rfl hK hP hD hS dX0_start_8
