abbrev II : Type := Nat × Nat × Nat × ClassId × ClassId × ClassId
abbrev Z0 : S0 := (fun _ => 0, fun _ => 0, fun _ => 0, 0, -1, 1, 0, 0)
abbrev Z1 : S0 := (fun _ => 0, fun _ => 0, fun _ => 0, 0, 1, 0, 0, 0)
set_option maxHeartbeats 4000000 in
set_option maxRecDepth 100000 in
theorem m0_init (l : Launch) (dC : Nat → ClassId) (dI : Nat → Nat → Nat) (h0 sz : Nat) : Met l yX0_init wsX0_init ({ frames := 1, cells := 3, slots := 304, locals := 12 }) (va_Pc [.ref h0] (fun U => U.heap.size = sz ∧ va_P (dC, dI) vwCl [(h0, .inr (0, [.null, .null, .null, .int 0, .int 0, .int 0, .int 0, .int 0]))] U.heap ∧ va_K (dC, dI) vwCl [] U ∧ va_D (fun _ => True) [(h0, .inr (0, [.null, .null, .null, .int 0, .int 0, .int 0, .int 0, .int 0]))])) (va_Qv (fun (_ : II) => True) (fun (u : II) (t : State) => va_P (dC, dI) vwCl (w0 h0 u.1 u.2.1 u.2.2.1 u.2.2.2.1 u.2.2.2.2.1 u.2.2.2.2.2 Z0) t.heap ∧ va_K (dC, dI) vwCl (k0 u.2.2.2.1 u.2.2.2.2.1 u.2.2.2.2.2) t ∧ va_D (va_A [(h0, .inr (0, [.null, .null, .null, .int 0, .int 0, .int 0, .int 0, .int 0]))] sz) (w0 h0 u.1 u.2.1 u.2.2.1 u.2.2.2.1 u.2.2.2.2.1 u.2.2.2.2.2 Z0)) (va_A [(h0, .inr (0, [.null, .null, .null, .int 0, .int 0, .int 0, .int 0, .int 0]))] sz)) 3 304 (va_A [(h0, .inr (0, [.null, .null, .null, .int 0, .int 0, .int 0, .int 0, .int 0]))] sz) := by
  refine Met.ofW (cc := cX0_init) (maxL := 1) (ret := none) (by decide) rfl ?_
  intro p e s m args below meth c s₁ B hml hv
  obtain ⟨rfl, hsz, hP, hK, hD0⟩ := hv
  have hx := B.exec
  have hb := B.bytes
  have hr := B.returns
  have hts := atoms_spec (ws := wsX0_init) B.pre
  have hown : s.vm.findClass RX0 = some m.cls := findClass_of_methodNamed B.named
  have hlocks := B.notSynchronized
  have hnm : meth.name = "<init>" := (name_of_methodNamed B.named B.method).1
  have hin : ∀ w ∈ wsX00, w ∈ wsX0_init := fun _ h => List.mem_cons_of_mem _ (List.mem_append_right _ h)
  subst hsz
  have hD := hD0.self (sz := s.heap.size)
  generalize hAe : va_A [(h0, .inr (0, [.null, .null, .null, .int 0, .int 0, .int 0, .int 0, .int 0]))] s.heap.size = A at hD ⊢
  have hA : ∀ q : Nat, s.heap.size ≤ q → A q := fun q h => by rw [← hAe]; exact Or.inr h
  have hS : va_S A s.heap s.heap [] := va_S.rf
  have hl := lv_entry ([.ref h0]) (n := 1) (Nat.le_of_ble_eq_true rfl)
  rw [lg_entry_eq]
  generalize (lg_sl ([.ref h0]) ++ List.replicate (1 - (lg_sl ([.ref h0])).length) Slot.unset).toArray = ls at hl ⊢
  have hl : lv_has ls 1 [(0, .ref h0)] := hl
  refine lv_aload_n hx hb dX0_init_0 rfl (lv_at hl 0 rfl) ?_
  refine W.objInit hx hb hown (hts (.methodLink RX0 3 objectInit) (by decide +kernel)) (hts (.instanceMethod objectInit) (by decide +kernel)) (hts _ (List.mem_cons_of_mem _ (List.mem_append_left _ (List.mem_of_getElem? (i := 2) rfl)))) rfl (by rw [hml]; exact hl.1) rfl dX0_init_1 (Nat.le_of_ble_eq_true rfl) (Nat.le_of_ble_eq_true rfl) ?_
  refine W.eq (g2 := F0 m 4 ls []) rfl ?_
  refine lv_aload_n hx hb dX0_init_4 rfl (lv_at hl 0 rfl) ?_
  refine lv_bipush (v := 96) hx hb dX0_init_5 (by decide) ?_
  refine va_newa (atype := .int) (n := 96) (ty := .int) (a0 := (96, .inl (fun _ => 0))) (N' := 96) hx hb (hts (.arrayClass .int) (by decide +kernel)) rfl hK hP hD hS hA (fun _ => rfl) (by decide) (by decide) (by decide) (Nat.le_of_ble_eq_true rfl) (Nat.le_of_ble_eq_true rfl) dX0_init_7 (fun g1 c1 H hK hP hD hS => ?_)
  have hP : va_P (dC, dI) vwCl [(h0, .inr (0, [.null, .null, .null, .int 0, .int 0, .int 0, .int 0, .int 0])), (g1, .inl (c1, 96, .inl (fun _ => 0)))] _ := hP
  have hD : va_D A [(h0, .inr (0, [.null, .null, .null, .int 0, .int 0, .int 0, .int 0, .int 0])), (g1, .inl (c1, 96, .inl (fun _ => 0)))] := hD
  have hK : va_K (dC, dI) vwCl [(c1, .int)] s := hK
  refine va_putF (D := (dC, dI)) (ci := 0) (v := .ref g1) (ty := .array .int) (C := RX0) (T := TX0) (N := 8) hx hb hts hin tyX0 tyX0_ok nmX0 hown hK hP hD hS 0 rfl rfl 0 (by decide) (hts (.fieldLink RX0 9 "CapStore" "memory" "[I") (by decide +kernel)) (fun _ h9 => h9) rfl hnm rfl (by decide +kernel) rfl rfl (Nat.le_of_ble_eq_true rfl) dX0_init_9 (fun H locs hP hD hS => ?_)
  have hP : va_P (dC, dI) vwCl [(h0, .inr (0, [.ref g1, .null, .null, .int 0, .int 0, .int 0, .int 0, .int 0])), (g1, .inl (c1, 96, .inl (fun _ => 0)))] _ := hP
  have hD : va_D A [(h0, .inr (0, [.ref g1, .null, .null, .int 0, .int 0, .int 0, .int 0, .int 0])), (g1, .inl (c1, 96, .inl (fun _ => 0)))] := hD
  refine lv_aload_n hx hb dX0_init_12 rfl (lv_at hl 0 rfl) ?_
  refine lv_sipush (v := 200) hx hb dX0_init_13 (by decide) ?_
  refine va_newa (atype := .int) (n := 200) (ty := .int) (a0 := (200, .inl (fun _ => 0))) (N' := 200) hx hb (hts (.arrayClass .int) (by decide +kernel)) rfl hK hP hD hS hA (fun _ => rfl) (by decide) (by decide) (by decide) (Nat.le_of_ble_eq_true rfl) (Nat.le_of_ble_eq_true rfl) dX0_init_16 (fun g2 c2 H hK hP hD hS => ?_)
  have hP : va_P (dC, dI) vwCl [(h0, .inr (0, [.ref g1, .null, .null, .int 0, .int 0, .int 0, .int 0, .int 0])), (g1, .inl (c1, 96, .inl (fun _ => 0))), (g2, .inl (c2, 200, .inl (fun _ => 0)))] _ := hP
  have hD : va_D A [(h0, .inr (0, [.ref g1, .null, .null, .int 0, .int 0, .int 0, .int 0, .int 0])), (g1, .inl (c1, 96, .inl (fun _ => 0))), (g2, .inl (c2, 200, .inl (fun _ => 0)))] := hD
  have hK : va_K (dC, dI) vwCl [(c1, .int), (c2, .int)] s := hK
  refine va_putF (D := (dC, dI)) (ci := 0) (v := .ref g2) (ty := .array .int) (C := RX0) (T := TX0) (N := 8) hx hb hts hin tyX0 tyX0_ok nmX0 hown hK hP hD hS 0 rfl rfl 1 (by decide) (hts (.fieldLink RX0 13 "CapStore" "blocks" "[I") (by decide +kernel)) (fun _ h9 => h9) rfl hnm rfl (by decide +kernel) rfl rfl (Nat.le_of_ble_eq_true rfl) dX0_init_18 (fun H locs hP hD hS => ?_)
  have hP : va_P (dC, dI) vwCl [(h0, .inr (0, [.ref g1, .ref g2, .null, .int 0, .int 0, .int 0, .int 0, .int 0])), (g1, .inl (c1, 96, .inl (fun _ => 0))), (g2, .inl (c2, 200, .inl (fun _ => 0)))] _ := hP
  have hD : va_D A [(h0, .inr (0, [.ref g1, .ref g2, .null, .int 0, .int 0, .int 0, .int 0, .int 0])), (g1, .inl (c1, 96, .inl (fun _ => 0))), (g2, .inl (c2, 200, .inl (fun _ => 0)))] := hD
  refine lv_aload_n hx hb dX0_init_21 rfl (lv_at hl 0 rfl) ?_
  refine lv_bipush (v := 8) hx hb dX0_init_22 (by decide) ?_
  refine va_newa (atype := .int) (n := 8) (ty := .int) (a0 := (8, .inl (fun _ => 0))) (N' := 8) hx hb (hts (.arrayClass .int) (by decide +kernel)) rfl hK hP hD hS hA (fun _ => rfl) (by decide) (by decide) (by decide) (Nat.le_of_ble_eq_true rfl) (Nat.le_of_ble_eq_true rfl) dX0_init_24 (fun g3 c3 H hK hP hD hS => ?_)
  have hP : va_P (dC, dI) vwCl [(h0, .inr (0, [.ref g1, .ref g2, .null, .int 0, .int 0, .int 0, .int 0, .int 0])), (g1, .inl (c1, 96, .inl (fun _ => 0))), (g2, .inl (c2, 200, .inl (fun _ => 0))), (g3, .inl (c3, 8, .inl (fun _ => 0)))] _ := hP
  have hD : va_D A [(h0, .inr (0, [.ref g1, .ref g2, .null, .int 0, .int 0, .int 0, .int 0, .int 0])), (g1, .inl (c1, 96, .inl (fun _ => 0))), (g2, .inl (c2, 200, .inl (fun _ => 0))), (g3, .inl (c3, 8, .inl (fun _ => 0)))] := hD
  have hK : va_K (dC, dI) vwCl [(c1, .int), (c2, .int), (c3, .int)] s := hK
  refine va_putF (D := (dC, dI)) (ci := 0) (v := .ref g3) (ty := .array .int) (C := RX0) (T := TX0) (N := 8) hx hb hts hin tyX0 tyX0_ok nmX0 hown hK hP hD hS 0 rfl rfl 2 (by decide) (hts (.fieldLink RX0 16 "CapStore" "headerRow" "[I") (by decide +kernel)) (fun _ h9 => h9) rfl hnm rfl (by decide +kernel) rfl rfl (Nat.le_of_ble_eq_true rfl) dX0_init_26 (fun H locs hP hD hS => ?_)
  have hP : va_P (dC, dI) vwCl [(h0, .inr (0, [.ref g1, .ref g2, .ref g3, .int 0, .int 0, .int 0, .int 0, .int 0])), (g1, .inl (c1, 96, .inl (fun _ => 0))), (g2, .inl (c2, 200, .inl (fun _ => 0))), (g3, .inl (c3, 8, .inl (fun _ => 0)))] _ := hP
  have hD : va_D A [(h0, .inr (0, [.ref g1, .ref g2, .ref g3, .int 0, .int 0, .int 0, .int 0, .int 0])), (g1, .inl (c1, 96, .inl (fun _ => 0))), (g2, .inl (c2, 200, .inl (fun _ => 0))), (g3, .inl (c3, 8, .inl (fun _ => 0)))] := hD
  refine lv_aload_n hx hb dX0_init_29 rfl (lv_at hl 0 rfl) ?_
  refine lv_iconst (v := 0) hx hb dX0_init_30 (by decide) ?_
  refine va_put (D := (dC, dI)) (ci := 0) (v := .int 0) (ty := .int) (C := RX0) (T := TX0) (N := 8) hx hb hts hin tyX0 tyX0_ok nmX0 hown hK hP hD hS 0 rfl rfl 3 (by decide) (hts (.fieldLink RX0 19 "CapStore" "dirtySet" "I") (by decide +kernel)) (fun _ h9 => h9) rfl (by decide +kernel) rfl rfl (Nat.le_of_ble_eq_true rfl) dX0_init_31 (fun H locs hP hD hS => ?_)
  have hP : va_P (dC, dI) vwCl [(h0, .inr (0, [.ref g1, .ref g2, .ref g3, .int 0, .int 0, .int 0, .int 0, .int 0])), (g1, .inl (c1, 96, .inl (fun _ => 0))), (g2, .inl (c2, 200, .inl (fun _ => 0))), (g3, .inl (c3, 8, .inl (fun _ => 0)))] _ := hP
  have hD : va_D A [(h0, .inr (0, [.ref g1, .ref g2, .ref g3, .int 0, .int 0, .int 0, .int 0, .int 0])), (g1, .inl (c1, 96, .inl (fun _ => 0))), (g2, .inl (c2, 200, .inl (fun _ => 0))), (g3, .inl (c3, 8, .inl (fun _ => 0)))] := hD
  refine lv_aload_n hx hb dX0_init_34 rfl (lv_at hl 0 rfl) ?_
  refine lv_iconst (v := (-1)) hx hb dX0_init_35 (by decide) ?_
  refine va_put (D := (dC, dI)) (ci := 0) (v := .int (-1)) (ty := .int) (C := RX0) (T := TX0) (N := 8) hx hb hts hin tyX0 tyX0_ok nmX0 hown hK hP hD hS 0 rfl rfl 4 (by decide) (hts (.fieldLink RX0 23 "CapStore" "powerLeft" "I") (by decide +kernel)) (fun _ h9 => h9) rfl (by decide +kernel) rfl rfl (Nat.le_of_ble_eq_true rfl) dX0_init_36 (fun H locs hP hD hS => ?_)
  have hP : va_P (dC, dI) vwCl [(h0, .inr (0, [.ref g1, .ref g2, .ref g3, .int 0, .int (-1), .int 0, .int 0, .int 0])), (g1, .inl (c1, 96, .inl (fun _ => 0))), (g2, .inl (c2, 200, .inl (fun _ => 0))), (g3, .inl (c3, 8, .inl (fun _ => 0)))] _ := hP
  have hD : va_D A [(h0, .inr (0, [.ref g1, .ref g2, .ref g3, .int 0, .int (-1), .int 0, .int 0, .int 0])), (g1, .inl (c1, 96, .inl (fun _ => 0))), (g2, .inl (c2, 200, .inl (fun _ => 0))), (g3, .inl (c3, 8, .inl (fun _ => 0)))] := hD
  refine lv_aload_n hx hb dX0_init_39 rfl (lv_at hl 0 rfl) ?_
  refine lv_iconst (v := 1) hx hb dX0_init_40 (by decide) ?_
  refine va_put (D := (dC, dI)) (ci := 0) (v := .int 1) (ty := .boolean) (C := RX0) (T := TX0) (N := 8) hx hb hts hin tyX0 tyX0_ok nmX0 hown hK hP hD hS 0 rfl rfl 5 (by decide) (hts (.fieldLink RX0 26 "CapStore" "running" "Z") (by decide +kernel)) (fun _ h9 => h9) rfl (by decide +kernel) rfl rfl (Nat.le_of_ble_eq_true rfl) dX0_init_41 (fun H locs hP hD hS => ?_)
  have hP : va_P (dC, dI) vwCl [(h0, .inr (0, [.ref g1, .ref g2, .ref g3, .int 0, .int (-1), .int 1, .int 0, .int 0])), (g1, .inl (c1, 96, .inl (fun _ => 0))), (g2, .inl (c2, 200, .inl (fun _ => 0))), (g3, .inl (c3, 8, .inl (fun _ => 0)))] _ := hP
  have hD : va_D A [(h0, .inr (0, [.ref g1, .ref g2, .ref g3, .int 0, .int (-1), .int 1, .int 0, .int 0])), (g1, .inl (c1, 96, .inl (fun _ => 0))), (g2, .inl (c2, 200, .inl (fun _ => 0))), (g3, .inl (c3, 8, .inl (fun _ => 0)))] := hD
  refine lv_aload_n hx hb dX0_init_44 rfl (lv_at hl 0 rfl) ?_
  refine lv_iconst (v := 0) hx hb dX0_init_45 (by decide) ?_
  refine va_put (D := (dC, dI)) (ci := 0) (v := .int 0) (ty := .int) (C := RX0) (T := TX0) (N := 8) hx hb hts hin tyX0 tyX0_ok nmX0 hown hK hP hD hS 0 rfl rfl 6 (by decide) (hts (.fieldLink RX0 30 "CapStore" "written" "I") (by decide +kernel)) (fun _ h9 => h9) rfl (by decide +kernel) rfl rfl (Nat.le_of_ble_eq_true rfl) dX0_init_46 (fun H locs hP hD hS => ?_)
  have hP : va_P (dC, dI) vwCl [(h0, .inr (0, [.ref g1, .ref g2, .ref g3, .int 0, .int (-1), .int 1, .int 0, .int 0])), (g1, .inl (c1, 96, .inl (fun _ => 0))), (g2, .inl (c2, 200, .inl (fun _ => 0))), (g3, .inl (c3, 8, .inl (fun _ => 0)))] _ := hP
  have hD : va_D A [(h0, .inr (0, [.ref g1, .ref g2, .ref g3, .int 0, .int (-1), .int 1, .int 0, .int 0])), (g1, .inl (c1, 96, .inl (fun _ => 0))), (g2, .inl (c2, 200, .inl (fun _ => 0))), (g3, .inl (c3, 8, .inl (fun _ => 0)))] := hD
  refine lv_aload_n hx hb dX0_init_49 rfl (lv_at hl 0 rfl) ?_
  refine lv_iconst (v := 0) hx hb dX0_init_50 (by decide) ?_
  refine va_put (D := (dC, dI)) (ci := 0) (v := .int 0) (ty := .int) (C := RX0) (T := TX0) (N := 8) hx hb hts hin tyX0 tyX0_ok nmX0 hown hK hP hD hS 0 rfl rfl 7 (by decide) (hts (.fieldLink RX0 33 "CapStore" "committed" "I") (by decide +kernel)) (fun _ h9 => h9) rfl (by decide +kernel) rfl rfl (Nat.le_of_ble_eq_true rfl) dX0_init_51 (fun H locs hP hD hS => ?_)
  have hP : va_P (dC, dI) vwCl [(h0, .inr (0, [.ref g1, .ref g2, .ref g3, .int 0, .int (-1), .int 1, .int 0, .int 0])), (g1, .inl (c1, 96, .inl (fun _ => 0))), (g2, .inl (c2, 200, .inl (fun _ => 0))), (g3, .inl (c3, 8, .inl (fun _ => 0)))] _ := hP
  have hD : va_D A [(h0, .inr (0, [.ref g1, .ref g2, .ref g3, .int 0, .int (-1), .int 1, .int 0, .int 0])), (g1, .inl (c1, 96, .inl (fun _ => 0))), (g2, .inl (c2, 200, .inl (fun _ => 0))), (g3, .inl (c3, 8, .inl (fun _ => 0)))] := hD
  refine W.widen (k := 3) (n := 304) (by decide) (by decide) ?_
  exact W.vret hx hb hr (fun t ht hW => ⟨⟨(g1, g2, g3, c1, c2, c3), rfl, trivial, by rw [ht]; exact hP, va_K.moved hW.alike hK, hD⟩, hS.F ht⟩) hS.2.2 dX0_init_54
set_option maxHeartbeats 4000000 in
set_option maxRecDepth 100000 in
theorem m1_init (l : Launch) (dC : Nat → ClassId) (dI : Nat → Nat → Nat) (h0 sz : Nat) : Met l yX1_init wsX1_init ({ frames := 1, cells := 3, slots := 308, locals := 12 }) (va_Pc [.ref h0] (fun U => U.heap.size = sz ∧ va_P (dC, dI) vwCl [(h0, .inr (1, [.null, .null, .null, .int 0, .int 0, .int 0, .int 0, .int 0]))] U.heap ∧ va_K (dC, dI) vwCl [] U ∧ va_D (fun _ => True) [(h0, .inr (1, [.null, .null, .null, .int 0, .int 0, .int 0, .int 0, .int 0]))])) (va_Qv (fun (_ : II) => True) (fun (u : II) (t : State) => va_P (dC, dI) vwCl (w1 h0 u.1 u.2.1 u.2.2.1 u.2.2.2.1 u.2.2.2.2.1 u.2.2.2.2.2 Z1) t.heap ∧ va_K (dC, dI) vwCl (k1 u.2.2.2.1 u.2.2.2.2.1 u.2.2.2.2.2) t ∧ va_D (va_A [(h0, .inr (1, [.null, .null, .null, .int 0, .int 0, .int 0, .int 0, .int 0]))] sz) (w1 h0 u.1 u.2.1 u.2.2.1 u.2.2.2.1 u.2.2.2.2.1 u.2.2.2.2.2 Z1)) (va_A [(h0, .inr (1, [.null, .null, .null, .int 0, .int 0, .int 0, .int 0, .int 0]))] sz)) 3 308 (va_A [(h0, .inr (1, [.null, .null, .null, .int 0, .int 0, .int 0, .int 0, .int 0]))] sz) := by
  refine Met.ofW (cc := cX1_init) (maxL := 1) (ret := none) (by decide) rfl ?_
  intro p e s m args below meth c s₁ B hml hv
  obtain ⟨rfl, hsz, hP, hK, hD0⟩ := hv
  have hx := B.exec
  have hb := B.bytes
  have hr := B.returns
  have hts := atoms_spec (ws := wsX1_init) B.pre
  have hown : s.vm.findClass RX1 = some m.cls := findClass_of_methodNamed B.named
  have hlocks := B.notSynchronized
  have hnm : meth.name = "<init>" := (name_of_methodNamed B.named B.method).1
  have hin : ∀ w ∈ wsX10, w ∈ wsX1_init := fun _ h => List.mem_cons_of_mem _ (List.mem_append_right _ h)
  subst hsz
  have hD := hD0.self (sz := s.heap.size)
  generalize hAe : va_A [(h0, .inr (1, [.null, .null, .null, .int 0, .int 0, .int 0, .int 0, .int 0]))] s.heap.size = A at hD ⊢
  have hA : ∀ q : Nat, s.heap.size ≤ q → A q := fun q h => by rw [← hAe]; exact Or.inr h
  have hS : va_S A s.heap s.heap [] := va_S.rf
  have hl := lv_entry ([.ref h0]) (n := 1) (Nat.le_of_ble_eq_true rfl)
  rw [lg_entry_eq]
  generalize (lg_sl ([.ref h0]) ++ List.replicate (1 - (lg_sl ([.ref h0])).length) Slot.unset).toArray = ls at hl ⊢
  have hl : lv_has ls 1 [(0, .ref h0)] := hl
  refine lv_aload_n hx hb dX1_init_0 rfl (lv_at hl 0 rfl) ?_
  refine W.objInit hx hb hown (hts (.methodLink RX1 1 objectInit) (by decide +kernel)) (hts (.instanceMethod objectInit) (by decide +kernel)) (hts _ (List.mem_cons_of_mem _ (List.mem_append_left _ (List.mem_of_getElem? (i := 2) rfl)))) rfl (by rw [hml]; exact hl.1) rfl dX1_init_1 (Nat.le_of_ble_eq_true rfl) (Nat.le_of_ble_eq_true rfl) ?_
  refine W.eq (g2 := F0 m 4 ls []) rfl ?_
  refine lv_aload_n hx hb dX1_init_4 rfl (lv_at hl 0 rfl) ?_
  refine lv_bipush (v := 96) hx hb dX1_init_5 (by decide) ?_
  refine va_newa (atype := .int) (n := 96) (ty := .int) (a0 := (96, .inl (fun _ => 0))) (N' := 96) hx hb (hts (.arrayClass .int) (by decide +kernel)) rfl hK hP hD hS hA (fun _ => rfl) (by decide) (by decide) (by decide) (Nat.le_of_ble_eq_true rfl) (Nat.le_of_ble_eq_true rfl) dX1_init_7 (fun g1 c1 H hK hP hD hS => ?_)
  have hP : va_P (dC, dI) vwCl [(h0, .inr (1, [.null, .null, .null, .int 0, .int 0, .int 0, .int 0, .int 0])), (g1, .inl (c1, 96, .inl (fun _ => 0)))] _ := hP
  have hD : va_D A [(h0, .inr (1, [.null, .null, .null, .int 0, .int 0, .int 0, .int 0, .int 0])), (g1, .inl (c1, 96, .inl (fun _ => 0)))] := hD
  have hK : va_K (dC, dI) vwCl [(c1, .int)] s := hK
  refine va_putF (D := (dC, dI)) (ci := 1) (v := .ref g1) (ty := .array .int) (C := RX1) (T := TX1) (N := 8) hx hb hts hin tyX1 tyX1_ok nmX1 hown hK hP hD hS 0 rfl rfl 0 (by decide) (hts (.fieldLink RX1 7 "CapStoreModel" "memory" "[I") (by decide +kernel)) (fun _ h9 => h9) rfl hnm rfl (by decide +kernel) rfl rfl (Nat.le_of_ble_eq_true rfl) dX1_init_9 (fun H locs hP hD hS => ?_)
  have hP : va_P (dC, dI) vwCl [(h0, .inr (1, [.ref g1, .null, .null, .int 0, .int 0, .int 0, .int 0, .int 0])), (g1, .inl (c1, 96, .inl (fun _ => 0)))] _ := hP
  have hD : va_D A [(h0, .inr (1, [.ref g1, .null, .null, .int 0, .int 0, .int 0, .int 0, .int 0])), (g1, .inl (c1, 96, .inl (fun _ => 0)))] := hD
  refine lv_aload_n hx hb dX1_init_12 rfl (lv_at hl 0 rfl) ?_
  refine lv_sipush (v := 200) hx hb dX1_init_13 (by decide) ?_
  refine va_newa (atype := .int) (n := 200) (ty := .int) (a0 := (200, .inl (fun _ => 0))) (N' := 200) hx hb (hts (.arrayClass .int) (by decide +kernel)) rfl hK hP hD hS hA (fun _ => rfl) (by decide) (by decide) (by decide) (Nat.le_of_ble_eq_true rfl) (Nat.le_of_ble_eq_true rfl) dX1_init_16 (fun g2 c2 H hK hP hD hS => ?_)
  have hP : va_P (dC, dI) vwCl [(h0, .inr (1, [.ref g1, .null, .null, .int 0, .int 0, .int 0, .int 0, .int 0])), (g1, .inl (c1, 96, .inl (fun _ => 0))), (g2, .inl (c2, 200, .inl (fun _ => 0)))] _ := hP
  have hD : va_D A [(h0, .inr (1, [.ref g1, .null, .null, .int 0, .int 0, .int 0, .int 0, .int 0])), (g1, .inl (c1, 96, .inl (fun _ => 0))), (g2, .inl (c2, 200, .inl (fun _ => 0)))] := hD
  have hK : va_K (dC, dI) vwCl [(c1, .int), (c2, .int)] s := hK
  refine va_putF (D := (dC, dI)) (ci := 1) (v := .ref g2) (ty := .array .int) (C := RX1) (T := TX1) (N := 8) hx hb hts hin tyX1 tyX1_ok nmX1 hown hK hP hD hS 0 rfl rfl 1 (by decide) (hts (.fieldLink RX1 13 "CapStoreModel" "disk" "[I") (by decide +kernel)) (fun _ h9 => h9) rfl hnm rfl (by decide +kernel) rfl rfl (Nat.le_of_ble_eq_true rfl) dX1_init_18 (fun H locs hP hD hS => ?_)
  have hP : va_P (dC, dI) vwCl [(h0, .inr (1, [.ref g1, .ref g2, .null, .int 0, .int 0, .int 0, .int 0, .int 0])), (g1, .inl (c1, 96, .inl (fun _ => 0))), (g2, .inl (c2, 200, .inl (fun _ => 0)))] _ := hP
  have hD : va_D A [(h0, .inr (1, [.ref g1, .ref g2, .null, .int 0, .int 0, .int 0, .int 0, .int 0])), (g1, .inl (c1, 96, .inl (fun _ => 0))), (g2, .inl (c2, 200, .inl (fun _ => 0)))] := hD
  refine lv_aload_n hx hb dX1_init_21 rfl (lv_at hl 0 rfl) ?_
  refine lv_bipush (v := 12) hx hb dX1_init_22 (by decide) ?_
  refine va_newa (atype := .boolean) (n := 12) (ty := .boolean) (a0 := (12, .inl (fun _ => 0))) (N' := 12) hx hb (hts (.arrayClass .boolean) (by decide +kernel)) rfl hK hP hD hS hA (fun _ => rfl) (by decide) (by decide) (by decide) (Nat.le_of_ble_eq_true rfl) (Nat.le_of_ble_eq_true rfl) dX1_init_24 (fun g3 c3 H hK hP hD hS => ?_)
  have hP : va_P (dC, dI) vwCl [(h0, .inr (1, [.ref g1, .ref g2, .null, .int 0, .int 0, .int 0, .int 0, .int 0])), (g1, .inl (c1, 96, .inl (fun _ => 0))), (g2, .inl (c2, 200, .inl (fun _ => 0))), (g3, .inl (c3, 12, .inl (fun _ => 0)))] _ := hP
  have hD : va_D A [(h0, .inr (1, [.ref g1, .ref g2, .null, .int 0, .int 0, .int 0, .int 0, .int 0])), (g1, .inl (c1, 96, .inl (fun _ => 0))), (g2, .inl (c2, 200, .inl (fun _ => 0))), (g3, .inl (c3, 12, .inl (fun _ => 0)))] := hD
  have hK : va_K (dC, dI) vwCl [(c1, .int), (c2, .int), (c3, .boolean)] s := hK
  refine va_putF (D := (dC, dI)) (ci := 1) (v := .ref g3) (ty := .array .boolean) (C := RX1) (T := TX1) (N := 8) hx hb hts hin tyX1 tyX1_ok nmX1 hown hK hP hD hS 0 rfl rfl 2 (by decide) (hts (.fieldLink RX1 16 "CapStoreModel" "stored" "[Z") (by decide +kernel)) (fun _ h9 => h9) rfl hnm rfl (by decide +kernel) rfl rfl (Nat.le_of_ble_eq_true rfl) dX1_init_26 (fun H locs hP hD hS => ?_)
  have hP : va_P (dC, dI) vwCl [(h0, .inr (1, [.ref g1, .ref g2, .ref g3, .int 0, .int 0, .int 0, .int 0, .int 0])), (g1, .inl (c1, 96, .inl (fun _ => 0))), (g2, .inl (c2, 200, .inl (fun _ => 0))), (g3, .inl (c3, 12, .inl (fun _ => 0)))] _ := hP
  have hD : va_D A [(h0, .inr (1, [.ref g1, .ref g2, .ref g3, .int 0, .int 0, .int 0, .int 0, .int 0])), (g1, .inl (c1, 96, .inl (fun _ => 0))), (g2, .inl (c2, 200, .inl (fun _ => 0))), (g3, .inl (c3, 12, .inl (fun _ => 0)))] := hD
  refine lv_aload_n hx hb dX1_init_29 rfl (lv_at hl 0 rfl) ?_
  refine lv_iconst (v := 1) hx hb dX1_init_30 (by decide) ?_
  refine va_put (D := (dC, dI)) (ci := 1) (v := .int 1) (ty := .boolean) (C := RX1) (T := TX1) (N := 8) hx hb hts hin tyX1 tyX1_ok nmX1 hown hK hP hD hS 0 rfl rfl 4 (by decide) (hts (.fieldLink RX1 20 "CapStoreModel" "endless" "Z") (by decide +kernel)) (fun _ h9 => h9) rfl (by decide +kernel) rfl rfl (Nat.le_of_ble_eq_true rfl) dX1_init_31 (fun H locs hP hD hS => ?_)
  have hP : va_P (dC, dI) vwCl [(h0, .inr (1, [.ref g1, .ref g2, .ref g3, .int 0, .int 1, .int 0, .int 0, .int 0])), (g1, .inl (c1, 96, .inl (fun _ => 0))), (g2, .inl (c2, 200, .inl (fun _ => 0))), (g3, .inl (c3, 12, .inl (fun _ => 0)))] _ := hP
  have hD : va_D A [(h0, .inr (1, [.ref g1, .ref g2, .ref g3, .int 0, .int 1, .int 0, .int 0, .int 0])), (g1, .inl (c1, 96, .inl (fun _ => 0))), (g2, .inl (c2, 200, .inl (fun _ => 0))), (g3, .inl (c3, 12, .inl (fun _ => 0)))] := hD
  refine W.widen (k := 3) (n := 308) (by decide) (by decide) ?_
  exact W.vret hx hb hr (fun t ht hW => ⟨⟨(g1, g2, g3, c1, c2, c3), rfl, trivial, by rw [ht]; exact hP, va_K.moved hW.alike hK, hD⟩, hS.F ht⟩) hS.2.2 dX1_init_34
