set_option maxHeartbeats 4000000 in
set_option maxRecDepth 100000 in
theorem m0_refusal (l : Launch) (dC : Nat → ClassId) (dI : Nat → Nat → Nat) (h0 h1 h2 h3 : Nat) (c1 c2 c3 : ClassId) (mem blk hdr : Nat → Int32) (ds pw rn wr cm : Int32) (x0 : Int32) : Met l yX0_refusal wsX0_refusal ({ frames := 0, cells := 0, slots := 0, locals := 0 }) (pcR (dC, dI) (k0 c1 c2 c3) (w0 h0 h1 h2 h3 c1 c2 c3 (mem, blk, hdr, ds, pw, rn, wr, cm)) [.ref h0, .int x0]) (QcRead (f0_refusal mem blk hdr ds pw rn wr cm x0)) 0 0 (fun _ => False) := by
  refine Met.ofW (cc := cX0_refusal) (maxL := 2) (ret := (some .int)) (by decide) rfl ?_
  intro p e s m args below meth c s₁ B hml hv
  obtain ⟨rfl, hP, hK⟩ := hv
  have hx := B.exec
  have hb := B.bytes
  have hr := B.returns
  have hts := atoms_spec (ws := wsX0_refusal) B.pre
  have hown : s.vm.findClass RX0 = some m.cls := findClass_of_methodNamed B.named
  have hlocks := B.notSynchronized
  have hin : ∀ w ∈ wsX00, w ∈ wsX0_refusal := fun _ h => List.mem_cons_of_mem _ (List.mem_append_right _ h)
  have hP : va_P (dC, dI) vwCl [(h0, .inr (0, [.ref h1, .ref h2, .ref h3, .int ds, .int pw, .int rn, .int wr, .int cm])), (h1, .inl (c1, 96, .inl mem)), (h2, .inl (c2, 200, .inl blk)), (h3, .inl (c3, 8, .inl hdr))] s.heap := hP
  have hl := lv_entry ([.ref h0, .int x0]) (n := 2) (Nat.le_of_ble_eq_true rfl)
  rw [lg_entry_eq]
  generalize (lg_sl ([.ref h0, .int x0]) ++ List.replicate (2 - (lg_sl ([.ref h0, .int x0])).length) Slot.unset).toArray = ls at hl ⊢
  have hl : lv_has ls 2 [(0, .ref h0), (1, .int x0)] := hl
  refine lv_aload_n hx hb dX0_refusal_0 rfl (lv_at hl 0 rfl) ?_
  refine va_get (D := (dC, dI)) (ci := 0) (v := .int rn) (C := RX0) (T := TX0) (N := 8) hx hb hts hin hown hK hP 0 rfl rfl 5 (by decide) (hts (.fieldLink RX0 26 "CapStore" "running" "Z") (by decide +kernel)) (fun _ h9 => h9) rfl dX0_refusal_1 ?_
  refine lv_if_ne (tgt := 9) hx hb dX0_refusal_4 (by decide) (fun c_4 => ?_) (fun c_4 => ?_)
  · skip
    refine lv_iload_n hx hb dX0_refusal_9 rfl (lv_at hl 1 rfl) ?_
    refine lv_if_eq (tgt := 17) hx hb dX0_refusal_10 (by decide) (fun c_10 => ?_) (fun c_10 => ?_)
    · skip
      refine lv_bipush (v := (-2)) hx hb dX0_refusal_17 (by decide) ?_
      exact retP hx hb hr hlocks rfl (by unfold f0_refusal; rw [if_neg c_4, if_pos c_10]) rfl dX0_refusal_19
    · skip
      refine lv_iconst (v := 0) hx hb dX0_refusal_13 (by decide) ?_
      refine lv_goto (tgt := 19) hx hb dX0_refusal_14 (by decide) ?_
      exact retP hx hb hr hlocks rfl (by unfold f0_refusal; rw [if_neg c_4, if_neg c_10]) rfl dX0_refusal_19
  · skip
    refine lv_iconst (v := (-1)) hx hb dX0_refusal_7 (by decide) ?_
    exact retP hx hb hr hlocks rfl (by unfold f0_refusal; rw [if_pos c_4]) rfl dX0_refusal_8
set_option maxHeartbeats 4000000 in
set_option maxRecDepth 100000 in
theorem m0_get (l : Launch) (dC : Nat → ClassId) (dI : Nat → Nat → Nat) (h0 h1 h2 h3 : Nat) (c1 c2 c3 : ClassId) (mem blk hdr : Nat → Int32) (ds pw rn wr cm : Int32) (x0 : Int32) (x1 : Int32) (hi : vp_in (x0 * 8 + x1) 96) : Met l yX0_get wsX0_get ({ frames := 0, cells := 0, slots := 0, locals := 0 }) (pcR (dC, dI) (k0 c1 c2 c3) (w0 h0 h1 h2 h3 c1 c2 c3 (mem, blk, hdr, ds, pw, rn, wr, cm)) [.ref h0, .int x0, .int x1]) (QcRead (f0_get mem blk hdr ds pw rn wr cm x0 x1)) 0 0 (fun _ => False) := by
  refine Met.ofW (cc := cX0_get) (maxL := 3) (ret := (some .int)) (by decide) rfl ?_
  intro p e s m args below meth c s₁ B hml hv
  obtain ⟨rfl, hP, hK⟩ := hv
  have hx := B.exec
  have hb := B.bytes
  have hr := B.returns
  have hts := atoms_spec (ws := wsX0_get) B.pre
  have hown : s.vm.findClass RX0 = some m.cls := findClass_of_methodNamed B.named
  have hlocks := B.notSynchronized
  have hin : ∀ w ∈ wsX00, w ∈ wsX0_get := fun _ h => List.mem_cons_of_mem _ (List.mem_append_right _ h)
  have hP : va_P (dC, dI) vwCl [(h0, .inr (0, [.ref h1, .ref h2, .ref h3, .int ds, .int pw, .int rn, .int wr, .int cm])), (h1, .inl (c1, 96, .inl mem)), (h2, .inl (c2, 200, .inl blk)), (h3, .inl (c3, 8, .inl hdr))] s.heap := hP
  have hl := lv_entry ([.ref h0, .int x0, .int x1]) (n := 3) (Nat.le_of_ble_eq_true rfl)
  rw [lg_entry_eq]
  generalize (lg_sl ([.ref h0, .int x0, .int x1]) ++ List.replicate (3 - (lg_sl ([.ref h0, .int x0, .int x1])).length) Slot.unset).toArray = ls at hl ⊢
  have hl : lv_has ls 3 [(0, .ref h0), (1, .int x0), (2, .int x1)] := hl
  refine lv_aload_n hx hb dX0_get_0 rfl (lv_at hl 0 rfl) ?_
  refine va_get (D := (dC, dI)) (ci := 0) (v := .ref h1) (C := RX0) (T := TX0) (N := 8) hx hb hts hin hown hK hP 0 rfl rfl 0 (by decide) (hts (.fieldLink RX0 9 "CapStore" "memory" "[I") (by decide +kernel)) (fun _ h9 => h9) rfl dX0_get_1 ?_
  refine lv_iload_n hx hb dX0_get_4 rfl (lv_at hl 1 rfl) ?_
  refine lv_bipush (v := 8) hx hb dX0_get_5 (by decide) ?_
  refine lv_imul hx hb dX0_get_7 ?_
  refine lv_iload_n hx hb dX0_get_8 rfl (lv_at hl 2 rfl) ?_
  refine lv_iadd hx hb dX0_get_9 ?_
  refine va_iald hx hb hK hP 1 0 rfl rfl hi dX0_get_10 ?_
  exact retP hx hb hr hlocks rfl (rfl) rfl dX0_get_11
set_option maxHeartbeats 4000000 in
set_option maxRecDepth 100000 in
theorem m0_nodeRefusal (l : Launch) (dC : Nat → ClassId) (dI : Nat → Nat → Nat) (h0 h1 h2 h3 : Nat) (c1 c2 c3 : ClassId) (mem blk hdr : Nat → Int32) (ds pw rn wr cm : Int32) (x0 : Int32) (x1 : Int32) (x2 : Int32) : Met l yX0_nodeRefusal wsX0_nodeRefusal ({ frames := 2, cells := 0, slots := 0, locals := 41 }) (pcR (dC, dI) (k0 c1 c2 c3) (w0 h0 h1 h2 h3 c1 c2 c3 (mem, blk, hdr, ds, pw, rn, wr, cm)) [.ref h0, .int x0, .int x1, .int x2]) (QcRead (f0_nodeRefusal mem blk hdr ds pw rn wr cm x0 x1 x2)) 0 0 (fun _ => False) := by
  refine Met.ofW (cc := cX0_nodeRefusal) (maxL := 5) (ret := (some .int)) (by decide) rfl ?_
  intro p e s m args below meth c s₁ B hml hv
  obtain ⟨rfl, hP, hK⟩ := hv
  have hx := B.exec
  have hb := B.bytes
  have hr := B.returns
  have hts := atoms_spec (ws := wsX0_nodeRefusal) B.pre
  have hown : s.vm.findClass RX0 = some m.cls := findClass_of_methodNamed B.named
  have hlocks := B.notSynchronized
  have hP : va_P (dC, dI) vwCl [(h0, .inr (0, [.ref h1, .ref h2, .ref h3, .int ds, .int pw, .int rn, .int wr, .int cm])), (h1, .inl (c1, 96, .inl mem)), (h2, .inl (c2, 200, .inl blk)), (h3, .inl (c3, 8, .inl hdr))] s.heap := hP
  have hl := lv_entry ([.ref h0, .int x0, .int x1, .int x2]) (n := 5) (Nat.le_of_ble_eq_true rfl)
  rw [lg_entry_eq]
  generalize (lg_sl ([.ref h0, .int x0, .int x1, .int x2]) ++ List.replicate (5 - (lg_sl ([.ref h0, .int x0, .int x1, .int x2])).length) Slot.unset).toArray = ls at hl ⊢
  have hl : lv_has ls 5 [(0, .ref h0), (1, .int x0), (2, .int x1), (3, .int x2)] := hl
  refine w_cut 18 [.ref h0] (z0_nodeRefusal_18 x0 x1 x2) (fun z ez => ?_) (fun K => ?_)
  · subst ez
    refine callRi (q := (RX0, TX0, 8)) (ci := 0) (q0 := 0) (As := [.int (z0_nodeRefusal_18 x0 x1 x2)]) (rest := []) (m0_refusal l dC dI h0 h1 h2 h3 c1 c2 c3 mem blk hdr ds pw rn wr cm (z0_nodeRefusal_18 x0 x1 x2) ) ⟨hx, hb, hml, hown, hts⟩ (cwV 1 hts gX0_nodeRefusal_X0_refusal rfl rfl rfl (by decide +kernel) ⟨Nat.le_of_ble_eq_true rfl, Nat.le_of_ble_eq_true rfl⟩) hK hP rfl rfl rfl hl.1 rfl (Nat.le_of_ble_eq_true rfl) dX0_nodeRefusal_18 ⟨Nat.zero_le _, Nat.zero_le _⟩ ?_
    refine lv_istore (lv' := [(4, .int (f0_refusal mem blk hdr ds pw rn wr cm (z0_nodeRefusal_18 x0 x1 x2))), (0, .ref h0), (1, .int x0), (2, .int x1), (3, .int x2)]) hx hb dX0_nodeRefusal_21 hl (by decide) rfl (fun ls hl => ?_)
    refine lv_iload hx hb dX0_nodeRefusal_23 (lv_at hl 0 rfl) ?_
    refine lv_if_eq (tgt := 31) hx hb dX0_nodeRefusal_25 (by decide) (fun c_25 => ?_) (fun c_25 => ?_)
    · skip
      refine lv_aload_n hx hb dX0_nodeRefusal_31 rfl (lv_at hl 1 rfl) ?_
      refine lv_iload_n hx hb dX0_nodeRefusal_32 rfl (lv_at hl 2 rfl) ?_
      refine lv_iload_n hx hb dX0_nodeRefusal_33 rfl (lv_at hl 3 rfl) ?_
      refine callRi (q := (RX0, TX0, 8)) (ci := 0) (q0 := 0) (As := [.int x0, .int x1]) (rest := []) (m0_get l dC dI h0 h1 h2 h3 c1 c2 c3 mem blk hdr ds pw rn wr cm x0 x1 (sd0_nodeRefusal c_25)) ⟨hx, hb, hml, hown, hts⟩ (cwV 2 hts gX0_nodeRefusal_X0_get rfl rfl rfl (by decide +kernel) ⟨Nat.le_of_ble_eq_true rfl, Nat.le_of_ble_eq_true rfl⟩) hK hP rfl rfl rfl hl.1 rfl (Nat.le_of_ble_eq_true rfl) dX0_nodeRefusal_34 ⟨Nat.zero_le _, Nat.zero_le _⟩ ?_
      refine callSi (As := [.int (f0_get mem blk hdr ds pw rn wr cm x0 x1)]) (rest := []) (m0_isNodeKey l (f0_get mem blk hdr ds pw rn wr cm x0 x1)) ⟨hx, hb, hml, hown, hts⟩ (va_cwS 1 hts gX0_nodeRefusal_X0_isNodeKey rfl rfl rfl (by decide +kernel) ⟨Nat.le_of_ble_eq_true rfl, Nat.le_of_ble_eq_true rfl⟩) rfl hl.1 rfl (Nat.le_of_ble_eq_true rfl) dX0_nodeRefusal_37 ⟨Nat.zero_le _, Nat.zero_le _⟩ ?_
      refine lv_if_eq (tgt := 47) hx hb dX0_nodeRefusal_40 (by decide) (fun c_40 => ?_) (fun c_40 => ?_)
      · skip
        refine lv_bipush (v := (-3)) hx hb dX0_nodeRefusal_47 (by decide) ?_
        exact retP hx hb hr hlocks rfl (by unfold f0_nodeRefusal; rw [if_pos c_25, if_pos c_40]) rfl dX0_nodeRefusal_49
      · skip
        refine lv_iconst (v := 0) hx hb dX0_nodeRefusal_43 (by decide) ?_
        refine lv_goto (tgt := 49) hx hb dX0_nodeRefusal_44 (by decide) ?_
        exact retP hx hb hr hlocks rfl (by unfold f0_nodeRefusal; rw [if_pos c_25, if_neg c_40]) rfl dX0_nodeRefusal_49
    · skip
      refine lv_iload hx hb dX0_nodeRefusal_28 (lv_at hl 0 rfl) ?_
      exact retP hx hb hr hlocks rfl (by unfold f0_nodeRefusal; rw [if_neg c_25]) rfl dX0_nodeRefusal_30
  · skip
    refine lv_aload_n hx hb dX0_nodeRefusal_0 rfl (lv_at hl 0 rfl) ?_
    refine lv_iload_n hx hb dX0_nodeRefusal_1 rfl (lv_at hl 1 rfl) ?_
    refine lv_iload_n hx hb dX0_nodeRefusal_2 rfl (lv_at hl 2 rfl) ?_
    refine callSi (As := [.int x0, .int x1]) (rest := [.ref h0]) (m0_isRegister l x0 x1) ⟨hx, hb, hml, hown, hts⟩ (va_cwS 2 hts gX0_nodeRefusal_X0_isRegister rfl rfl rfl (by decide +kernel) ⟨Nat.le_of_ble_eq_true rfl, Nat.le_of_ble_eq_true rfl⟩) rfl hl.1 rfl (Nat.le_of_ble_eq_true rfl) dX0_nodeRefusal_3 ⟨Nat.zero_le _, Nat.zero_le _⟩ ?_
    refine lv_if_eq (tgt := 17) hx hb dX0_nodeRefusal_6 (by decide) (fun c_6 => ?_) (fun c_6 => ?_)
    · skip
      refine lv_iconst (v := 0) hx hb dX0_nodeRefusal_17 (by decide) ?_
      exact K 0 (by unfold z0_nodeRefusal_18; rw [if_pos c_6])
    · skip
      refine lv_iload_n hx hb dX0_nodeRefusal_9 rfl (lv_at hl 3 rfl) ?_
      refine lv_if_eq (tgt := 17) hx hb dX0_nodeRefusal_10 (by decide) (fun c_10 => ?_) (fun c_10 => ?_)
      · skip
        refine lv_iconst (v := 0) hx hb dX0_nodeRefusal_17 (by decide) ?_
        exact K 0 (by unfold z0_nodeRefusal_18; rw [if_neg c_6, if_pos c_10])
      · skip
        refine lv_iconst (v := 1) hx hb dX0_nodeRefusal_13 (by decide) ?_
        refine lv_goto (tgt := 18) hx hb dX0_nodeRefusal_14 (by decide) ?_
        exact K 1 (by unfold z0_nodeRefusal_18; rw [if_neg c_6, if_neg c_10])
set_option maxHeartbeats 4000000 in
set_option maxRecDepth 100000 in
theorem m0_pageRefusal (l : Launch) (dC : Nat → ClassId) (dI : Nat → Nat → Nat) (h0 h1 h2 h3 : Nat) (c1 c2 c3 : ClassId) (mem blk hdr : Nat → Int32) (ds pw rn wr cm : Int32) (x0 : Int32) (x1 : Int32) (x2 : Int32) : Met l yX0_pageRefusal wsX0_pageRefusal ({ frames := 2, cells := 0, slots := 0, locals := 41 }) (pcR (dC, dI) (k0 c1 c2 c3) (w0 h0 h1 h2 h3 c1 c2 c3 (mem, blk, hdr, ds, pw, rn, wr, cm)) [.ref h0, .int x0, .int x1, .int x2]) (QcRead (f0_pageRefusal mem blk hdr ds pw rn wr cm x0 x1 x2)) 0 0 (fun _ => False) := by
  refine Met.ofW (cc := cX0_pageRefusal) (maxL := 5) (ret := (some .int)) (by decide) rfl ?_
  intro p e s m args below meth c s₁ B hml hv
  obtain ⟨rfl, hP, hK⟩ := hv
  have hx := B.exec
  have hb := B.bytes
  have hr := B.returns
  have hts := atoms_spec (ws := wsX0_pageRefusal) B.pre
  have hown : s.vm.findClass RX0 = some m.cls := findClass_of_methodNamed B.named
  have hlocks := B.notSynchronized
  have hP : va_P (dC, dI) vwCl [(h0, .inr (0, [.ref h1, .ref h2, .ref h3, .int ds, .int pw, .int rn, .int wr, .int cm])), (h1, .inl (c1, 96, .inl mem)), (h2, .inl (c2, 200, .inl blk)), (h3, .inl (c3, 8, .inl hdr))] s.heap := hP
  have hl := lv_entry ([.ref h0, .int x0, .int x1, .int x2]) (n := 5) (Nat.le_of_ble_eq_true rfl)
  rw [lg_entry_eq]
  generalize (lg_sl ([.ref h0, .int x0, .int x1, .int x2]) ++ List.replicate (5 - (lg_sl ([.ref h0, .int x0, .int x1, .int x2])).length) Slot.unset).toArray = ls at hl ⊢
  have hl : lv_has ls 5 [(0, .ref h0), (1, .int x0), (2, .int x1), (3, .int x2)] := hl
  refine w_cut 18 [.ref h0] (z0_pageRefusal_18 x0 x1 x2) (fun z ez => ?_) (fun K => ?_)
  · subst ez
    refine callRi (q := (RX0, TX0, 8)) (ci := 0) (q0 := 0) (As := [.int (z0_pageRefusal_18 x0 x1 x2)]) (rest := []) (m0_refusal l dC dI h0 h1 h2 h3 c1 c2 c3 mem blk hdr ds pw rn wr cm (z0_pageRefusal_18 x0 x1 x2) ) ⟨hx, hb, hml, hown, hts⟩ (cwV 1 hts gX0_pageRefusal_X0_refusal rfl rfl rfl (by decide +kernel) ⟨Nat.le_of_ble_eq_true rfl, Nat.le_of_ble_eq_true rfl⟩) hK hP rfl rfl rfl hl.1 rfl (Nat.le_of_ble_eq_true rfl) dX0_pageRefusal_18 ⟨Nat.zero_le _, Nat.zero_le _⟩ ?_
    refine lv_istore (lv' := [(4, .int (f0_refusal mem blk hdr ds pw rn wr cm (z0_pageRefusal_18 x0 x1 x2))), (0, .ref h0), (1, .int x0), (2, .int x1), (3, .int x2)]) hx hb dX0_pageRefusal_21 hl (by decide) rfl (fun ls hl => ?_)
    refine lv_iload hx hb dX0_pageRefusal_23 (lv_at hl 0 rfl) ?_
    refine lv_if_eq (tgt := 31) hx hb dX0_pageRefusal_25 (by decide) (fun c_25 => ?_) (fun c_25 => ?_)
    · skip
      refine lv_aload_n hx hb dX0_pageRefusal_31 rfl (lv_at hl 1 rfl) ?_
      refine lv_iload_n hx hb dX0_pageRefusal_32 rfl (lv_at hl 2 rfl) ?_
      refine lv_iload_n hx hb dX0_pageRefusal_33 rfl (lv_at hl 3 rfl) ?_
      refine callRi (q := (RX0, TX0, 8)) (ci := 0) (q0 := 0) (As := [.int x0, .int x1]) (rest := []) (m0_get l dC dI h0 h1 h2 h3 c1 c2 c3 mem blk hdr ds pw rn wr cm x0 x1 (sd0_pageRefusal c_25)) ⟨hx, hb, hml, hown, hts⟩ (cwV 2 hts gX0_pageRefusal_X0_get rfl rfl rfl (by decide +kernel) ⟨Nat.le_of_ble_eq_true rfl, Nat.le_of_ble_eq_true rfl⟩) hK hP rfl rfl rfl hl.1 rfl (Nat.le_of_ble_eq_true rfl) dX0_pageRefusal_34 ⟨Nat.zero_le _, Nat.zero_le _⟩ ?_
      refine callSi (As := [.int (f0_get mem blk hdr ds pw rn wr cm x0 x1)]) (rest := []) (m0_isPageKey l (f0_get mem blk hdr ds pw rn wr cm x0 x1)) ⟨hx, hb, hml, hown, hts⟩ (va_cwS 1 hts gX0_pageRefusal_X0_isPageKey rfl rfl rfl (by decide +kernel) ⟨Nat.le_of_ble_eq_true rfl, Nat.le_of_ble_eq_true rfl⟩) rfl hl.1 rfl (Nat.le_of_ble_eq_true rfl) dX0_pageRefusal_37 ⟨Nat.zero_le _, Nat.zero_le _⟩ ?_
      refine lv_if_eq (tgt := 47) hx hb dX0_pageRefusal_40 (by decide) (fun c_40 => ?_) (fun c_40 => ?_)
      · skip
        refine lv_bipush (v := (-3)) hx hb dX0_pageRefusal_47 (by decide) ?_
        exact retP hx hb hr hlocks rfl (by unfold f0_pageRefusal; rw [if_pos c_25, if_pos c_40]) rfl dX0_pageRefusal_49
      · skip
        refine lv_iconst (v := 0) hx hb dX0_pageRefusal_43 (by decide) ?_
        refine lv_goto (tgt := 49) hx hb dX0_pageRefusal_44 (by decide) ?_
        exact retP hx hb hr hlocks rfl (by unfold f0_pageRefusal; rw [if_pos c_25, if_neg c_40]) rfl dX0_pageRefusal_49
    · skip
      refine lv_iload hx hb dX0_pageRefusal_28 (lv_at hl 0 rfl) ?_
      exact retP hx hb hr hlocks rfl (by unfold f0_pageRefusal; rw [if_neg c_25]) rfl dX0_pageRefusal_30
  · skip
    refine lv_aload_n hx hb dX0_pageRefusal_0 rfl (lv_at hl 0 rfl) ?_
    refine lv_iload_n hx hb dX0_pageRefusal_1 rfl (lv_at hl 1 rfl) ?_
    refine lv_iload_n hx hb dX0_pageRefusal_2 rfl (lv_at hl 2 rfl) ?_
    refine callSi (As := [.int x0, .int x1]) (rest := [.ref h0]) (m0_isRegister l x0 x1) ⟨hx, hb, hml, hown, hts⟩ (va_cwS 2 hts gX0_pageRefusal_X0_isRegister rfl rfl rfl (by decide +kernel) ⟨Nat.le_of_ble_eq_true rfl, Nat.le_of_ble_eq_true rfl⟩) rfl hl.1 rfl (Nat.le_of_ble_eq_true rfl) dX0_pageRefusal_3 ⟨Nat.zero_le _, Nat.zero_le _⟩ ?_
    refine lv_if_eq (tgt := 17) hx hb dX0_pageRefusal_6 (by decide) (fun c_6 => ?_) (fun c_6 => ?_)
    · skip
      refine lv_iconst (v := 0) hx hb dX0_pageRefusal_17 (by decide) ?_
      exact K 0 (by unfold z0_pageRefusal_18; rw [if_pos c_6])
    · skip
      refine lv_iload_n hx hb dX0_pageRefusal_9 rfl (lv_at hl 3 rfl) ?_
      refine lv_if_eq (tgt := 17) hx hb dX0_pageRefusal_10 (by decide) (fun c_10 => ?_) (fun c_10 => ?_)
      · skip
        refine lv_iconst (v := 0) hx hb dX0_pageRefusal_17 (by decide) ?_
        exact K 0 (by unfold z0_pageRefusal_18; rw [if_neg c_6, if_pos c_10])
      · skip
        refine lv_iconst (v := 1) hx hb dX0_pageRefusal_13 (by decide) ?_
        refine lv_goto (tgt := 18) hx hb dX0_pageRefusal_14 (by decide) ?_
        exact K 1 (by unfold z0_pageRefusal_18; rw [if_neg c_6, if_neg c_10])
set_option maxHeartbeats 4000000 in
set_option maxRecDepth 100000 in
theorem m0_read (l : Launch) (dC : Nat → ClassId) (dI : Nat → Nat → Nat) (h0 h1 h2 h3 : Nat) (c1 c2 c3 : ClassId) (mem blk hdr : Nat → Int32) (ds pw rn wr cm : Int32) (x0 : Int32) (x1 : Int32) (x2 : Int32) : Met l yX0_read wsX0_read ({ frames := 3, cells := 0, slots := 0, locals := 65 }) (pcR (dC, dI) (k0 c1 c2 c3) (w0 h0 h1 h2 h3 c1 c2 c3 (mem, blk, hdr, ds, pw, rn, wr, cm)) [.ref h0, .int x0, .int x1, .int x2]) (k2_QcV (.long (f0_read mem blk hdr ds pw rn wr cm x0 x1 x2))) 0 0 (fun _ => False) := by
  refine Met.ofW (cc := cX0_read) (maxL := 5) (ret := (some .long)) (by decide) rfl ?_
  intro p e s m args below meth c s₁ B hml hv
  obtain ⟨rfl, hP, hK⟩ := hv
  have hx := B.exec
  have hb := B.bytes
  have hr := B.returns
  have hts := atoms_spec (ws := wsX0_read) B.pre
  have hown : s.vm.findClass RX0 = some m.cls := findClass_of_methodNamed B.named
  have hlocks := B.notSynchronized
  have hP : va_P (dC, dI) vwCl [(h0, .inr (0, [.ref h1, .ref h2, .ref h3, .int ds, .int pw, .int rn, .int wr, .int cm])), (h1, .inl (c1, 96, .inl mem)), (h2, .inl (c2, 200, .inl blk)), (h3, .inl (c3, 8, .inl hdr))] s.heap := hP
  have hl := lv_entry ([.ref h0, .int x0, .int x1, .int x2]) (n := 5) (Nat.le_of_ble_eq_true rfl)
  rw [lg_entry_eq]
  generalize (lg_sl ([.ref h0, .int x0, .int x1, .int x2]) ++ List.replicate (5 - (lg_sl ([.ref h0, .int x0, .int x1, .int x2])).length) Slot.unset).toArray = ls at hl ⊢
  have hl : lv_has ls 5 [(0, .ref h0), (1, .int x0), (2, .int x1), (3, .int x2)] := hl
  refine lv_aload_n hx hb dX0_read_0 rfl (lv_at hl 0 rfl) ?_
  refine lv_iload_n hx hb dX0_read_1 rfl (lv_at hl 1 rfl) ?_
  refine lv_iload_n hx hb dX0_read_2 rfl (lv_at hl 2 rfl) ?_
  refine lv_iload_n hx hb dX0_read_3 rfl (lv_at hl 3 rfl) ?_
  refine callSi (As := [.int x2]) (rest := [.int x1, .int x0, .ref h0]) (m0_isInRow l x2) ⟨hx, hb, hml, hown, hts⟩ (va_cwS 1 hts gX0_read_X0_isInRow rfl rfl rfl (by decide +kernel) ⟨Nat.le_of_ble_eq_true rfl, Nat.le_of_ble_eq_true rfl⟩) rfl hl.1 rfl (Nat.le_of_ble_eq_true rfl) dX0_read_4 ⟨Nat.zero_le _, Nat.zero_le _⟩ ?_
  refine callRi (q := (RX0, TX0, 8)) (ci := 0) (q0 := 0) (As := [.int x0, .int x1, .int (f0_isInRow x2)]) (rest := []) (m0_pageRefusal l dC dI h0 h1 h2 h3 c1 c2 c3 mem blk hdr ds pw rn wr cm x0 x1 (f0_isInRow x2) ) ⟨hx, hb, hml, hown, hts⟩ (cwV 3 hts gX0_read_X0_pageRefusal rfl rfl rfl (by decide +kernel) ⟨Nat.le_of_ble_eq_true rfl, Nat.le_of_ble_eq_true rfl⟩) hK hP rfl rfl rfl hl.1 rfl (Nat.le_of_ble_eq_true rfl) dX0_read_7 ⟨Nat.zero_le _, Nat.zero_le _⟩ ?_
  refine lv_istore (lv' := [(4, .int (f0_pageRefusal mem blk hdr ds pw rn wr cm x0 x1 (f0_isInRow x2))), (0, .ref h0), (1, .int x0), (2, .int x1), (3, .int x2)]) hx hb dX0_read_10 hl (by decide) rfl (fun ls hl => ?_)
  refine lv_iload hx hb dX0_read_12 (lv_at hl 0 rfl) ?_
  refine lv_if_eq (tgt := 25) hx hb dX0_read_14 (by decide) (fun c_14 => ?_) (fun c_14 => ?_)
  · skip
    refine lv_aload_n hx hb dX0_read_25 rfl (lv_at hl 1 rfl) ?_
    refine lv_aload_n hx hb dX0_read_26 rfl (lv_at hl 1 rfl) ?_
    refine lv_iload_n hx hb dX0_read_27 rfl (lv_at hl 2 rfl) ?_
    refine lv_iload_n hx hb dX0_read_28 rfl (lv_at hl 3 rfl) ?_
    refine callRi (q := (RX0, TX0, 8)) (ci := 0) (q0 := 0) (As := [.int x0, .int x1]) (rest := [.ref h0]) (m0_get l dC dI h0 h1 h2 h3 c1 c2 c3 mem blk hdr ds pw rn wr cm x0 x1 (sd0_read1 c_14)) ⟨hx, hb, hml, hown, hts⟩ (cwV 2 hts gX0_read_X0_get rfl rfl rfl (by decide +kernel) ⟨Nat.le_of_ble_eq_true rfl, Nat.le_of_ble_eq_true rfl⟩) hK hP rfl rfl rfl hl.1 rfl (Nat.le_of_ble_eq_true rfl) dX0_read_29 ⟨Nat.zero_le _, Nat.zero_le _⟩ ?_
    refine callSi (As := [.int (f0_get mem blk hdr ds pw rn wr cm x0 x1)]) (rest := [.ref h0]) (m0_objectOf l (f0_get mem blk hdr ds pw rn wr cm x0 x1)) ⟨hx, hb, hml, hown, hts⟩ (va_cwS 1 hts gX0_read_X0_objectOf rfl rfl rfl (by decide +kernel) ⟨Nat.le_of_ble_eq_true rfl, Nat.le_of_ble_eq_true rfl⟩) rfl hl.1 rfl (Nat.le_of_ble_eq_true rfl) dX0_read_32 ⟨Nat.zero_le _, Nat.zero_le _⟩ ?_
    refine lv_iload_n hx hb dX0_read_35 rfl (lv_at hl 4 rfl) ?_
    refine callRi (q := (RX0, TX0, 8)) (ci := 0) (q0 := 0) (As := [.int (f0_objectOf (f0_get mem blk hdr ds pw rn wr cm x0 x1)), .int x2]) (rest := []) (m0_get l dC dI h0 h1 h2 h3 c1 c2 c3 mem blk hdr ds pw rn wr cm (f0_objectOf (f0_get mem blk hdr ds pw rn wr cm x0 x1)) x2 (sd0_read2 c_14)) ⟨hx, hb, hml, hown, hts⟩ (cwV 2 hts gX0_read_X0_get rfl rfl rfl (by decide +kernel) ⟨Nat.le_of_ble_eq_true rfl, Nat.le_of_ble_eq_true rfl⟩) hK hP rfl rfl rfl hl.1 rfl (Nat.le_of_ble_eq_true rfl) dX0_read_36 ⟨Nat.zero_le _, Nat.zero_le _⟩ ?_
    refine lv_i2l (v := (f0_get mem blk hdr ds pw rn wr cm (f0_objectOf (f0_get mem blk hdr ds pw rn wr cm x0 x1)) x2).toInt64) hx hb dX0_read_39 rfl ?_
    exact retL hx hb hr hlocks (by unfold f0_read; rw [if_pos c_14]) rfl dX0_read_40
  · skip
    refine lv_ldc2 (v := 4294967296) hx hb hown (hts (.constantLong RX0 78 4294967296) (by decide +kernel)) dX0_read_17 ?_
    refine lv_iload hx hb dX0_read_20 (lv_at hl 0 rfl) ?_
    refine lv_i2l (v := (f0_pageRefusal mem blk hdr ds pw rn wr cm x0 x1 (f0_isInRow x2)).toInt64) hx hb dX0_read_22 rfl ?_
    refine lv_ladd hx hb dX0_read_23 ?_
    exact retL hx hb hr hlocks (by unfold f0_read; rw [if_neg c_14]) rfl dX0_read_24
set_option maxHeartbeats 4000000 in
set_option maxRecDepth 100000 in
theorem m0_isUp (l : Launch) (dC : Nat → ClassId) (dI : Nat → Nat → Nat) (h0 h1 h2 h3 : Nat) (c1 c2 c3 : ClassId) (mem blk hdr : Nat → Int32) (ds pw rn wr cm : Int32) (hrn : rn = 0 ∨ rn = 1) : Met l yX0_isUp wsX0_isUp ({ frames := 0, cells := 0, slots := 0, locals := 0 }) (pcR (dC, dI) (k0 c1 c2 c3) (w0 h0 h1 h2 h3 c1 c2 c3 (mem, blk, hdr, ds, pw, rn, wr, cm)) [.ref h0]) (QcRead (f0_isUp mem blk hdr ds pw rn wr cm)) 0 0 (fun _ => False) := by
  refine Met.ofW (cc := cX0_isUp) (maxL := 1) (ret := (some .boolean)) (by decide) rfl ?_
  intro p e s m args below meth c s₁ B hml hv
  obtain ⟨rfl, hP, hK⟩ := hv
  have hx := B.exec
  have hb := B.bytes
  have hr := B.returns
  have hts := atoms_spec (ws := wsX0_isUp) B.pre
  have hown : s.vm.findClass RX0 = some m.cls := findClass_of_methodNamed B.named
  have hlocks := B.notSynchronized
  have hin : ∀ w ∈ wsX00, w ∈ wsX0_isUp := fun _ h => List.mem_cons_of_mem _ (List.mem_append_right _ h)
  have hP : va_P (dC, dI) vwCl [(h0, .inr (0, [.ref h1, .ref h2, .ref h3, .int ds, .int pw, .int rn, .int wr, .int cm])), (h1, .inl (c1, 96, .inl mem)), (h2, .inl (c2, 200, .inl blk)), (h3, .inl (c3, 8, .inl hdr))] s.heap := hP
  have hl := lv_entry ([.ref h0]) (n := 1) (Nat.le_of_ble_eq_true rfl)
  rw [lg_entry_eq]
  generalize (lg_sl ([.ref h0]) ++ List.replicate (1 - (lg_sl ([.ref h0])).length) Slot.unset).toArray = ls at hl ⊢
  have hl : lv_has ls 1 [(0, .ref h0)] := hl
  refine lv_aload_n hx hb dX0_isUp_0 rfl (lv_at hl 0 rfl) ?_
  refine va_get (D := (dC, dI)) (ci := 0) (v := .int rn) (C := RX0) (T := TX0) (N := 8) hx hb hts hin hown hK hP 0 rfl rfl 5 (by decide) (hts (.fieldLink RX0 26 "CapStore" "running" "Z") (by decide +kernel)) (fun _ h9 => h9) rfl dX0_isUp_1 ?_
  exact retP hx hb hr hlocks (by rcases hrn with rfl | rfl <;> rfl) (rfl) rfl dX0_isUp_4
set_option maxHeartbeats 4000000 in
set_option maxRecDepth 100000 in
theorem m0_key (l : Launch) (dC : Nat → ClassId) (dI : Nat → Nat → Nat) (h0 h1 h2 h3 : Nat) (c1 c2 c3 : ClassId) (mem blk hdr : Nat → Int32) (ds pw rn wr cm : Int32) (x0 : Int32) (x1 : Int32) : Met l yX0_key wsX0_key ({ frames := 1, cells := 0, slots := 0, locals := 22 }) (pcR (dC, dI) (k0 c1 c2 c3) (w0 h0 h1 h2 h3 c1 c2 c3 (mem, blk, hdr, ds, pw, rn, wr, cm)) [.ref h0, .int x0, .int x1]) (QcRead (f0_key mem blk hdr ds pw rn wr cm x0 x1)) 0 0 (fun _ => False) := by
  refine Met.ofW (cc := cX0_key) (maxL := 4) (ret := (some .int)) (by decide) rfl ?_
  intro p e s m args below meth c s₁ B hml hv
  obtain ⟨rfl, hP, hK⟩ := hv
  have hx := B.exec
  have hb := B.bytes
  have hr := B.returns
  have hts := atoms_spec (ws := wsX0_key) B.pre
  have hown : s.vm.findClass RX0 = some m.cls := findClass_of_methodNamed B.named
  have hlocks := B.notSynchronized
  have hP : va_P (dC, dI) vwCl [(h0, .inr (0, [.ref h1, .ref h2, .ref h3, .int ds, .int pw, .int rn, .int wr, .int cm])), (h1, .inl (c1, 96, .inl mem)), (h2, .inl (c2, 200, .inl blk)), (h3, .inl (c3, 8, .inl hdr))] s.heap := hP
  have hl := lv_entry ([.ref h0, .int x0, .int x1]) (n := 4) (Nat.le_of_ble_eq_true rfl)
  rw [lg_entry_eq]
  generalize (lg_sl ([.ref h0, .int x0, .int x1]) ++ List.replicate (4 - (lg_sl ([.ref h0, .int x0, .int x1])).length) Slot.unset).toArray = ls at hl ⊢
  have hl : lv_has ls 4 [(0, .ref h0), (1, .int x0), (2, .int x1)] := hl
  refine w_cut 20 [.ref h0] (z0_key_20 x0 x1) (fun z ez => ?_) (fun K => ?_)
  · subst ez
    refine callRi (q := (RX0, TX0, 8)) (ci := 0) (q0 := 0) (As := [.int (z0_key_20 x0 x1)]) (rest := []) (m0_refusal l dC dI h0 h1 h2 h3 c1 c2 c3 mem blk hdr ds pw rn wr cm (z0_key_20 x0 x1) ) ⟨hx, hb, hml, hown, hts⟩ (cwV 1 hts gX0_key_X0_refusal rfl rfl rfl (by decide +kernel) ⟨Nat.le_of_ble_eq_true rfl, Nat.le_of_ble_eq_true rfl⟩) hK hP rfl rfl rfl hl.1 rfl (Nat.le_of_ble_eq_true rfl) dX0_key_20 ⟨Nat.zero_le _, Nat.zero_le _⟩ ?_
    refine lv_istore_n (lv' := [(3, .int (f0_refusal mem blk hdr ds pw rn wr cm (z0_key_20 x0 x1))), (0, .ref h0), (1, .int x0), (2, .int x1)]) hx hb dX0_key_23 rfl hl (by decide) rfl (fun ls hl => ?_)
    refine lv_iload_n hx hb dX0_key_24 rfl (lv_at hl 0 rfl) ?_
    refine lv_if_eq (tgt := 32) hx hb dX0_key_25 (by decide) (fun c_25 => ?_) (fun c_25 => ?_)
    · skip
      refine lv_aload_n hx hb dX0_key_32 rfl (lv_at hl 1 rfl) ?_
      refine lv_iload_n hx hb dX0_key_33 rfl (lv_at hl 2 rfl) ?_
      refine lv_iload_n hx hb dX0_key_34 rfl (lv_at hl 3 rfl) ?_
      refine callRi (q := (RX0, TX0, 8)) (ci := 0) (q0 := 0) (As := [.int x0, .int x1]) (rest := []) (m0_get l dC dI h0 h1 h2 h3 c1 c2 c3 mem blk hdr ds pw rn wr cm x0 x1 (sd0_key c_25)) ⟨hx, hb, hml, hown, hts⟩ (cwV 2 hts gX0_key_X0_get rfl rfl rfl (by decide +kernel) ⟨Nat.le_of_ble_eq_true rfl, Nat.le_of_ble_eq_true rfl⟩) hK hP rfl rfl rfl hl.1 rfl (Nat.le_of_ble_eq_true rfl) dX0_key_35 ⟨Nat.zero_le _, Nat.zero_le _⟩ ?_
      exact retP hx hb hr hlocks rfl (by unfold f0_key; rw [if_pos c_25]) rfl dX0_key_38
    · skip
      refine lv_iload_n hx hb dX0_key_28 rfl (lv_at hl 0 rfl) ?_
      refine lv_goto (tgt := 38) hx hb dX0_key_29 (by decide) ?_
      exact retP hx hb hr hlocks rfl (by unfold f0_key; rw [if_neg c_25]) rfl dX0_key_38
  · skip
    refine lv_aload_n hx hb dX0_key_0 rfl (lv_at hl 0 rfl) ?_
    refine lv_iload_n hx hb dX0_key_1 rfl (lv_at hl 1 rfl) ?_
    refine callSi (As := [.int x0]) (rest := [.ref h0]) (m0_isNode l x0) ⟨hx, hb, hml, hown, hts⟩ (va_cwS 1 hts gX0_key_X0_isNode rfl rfl rfl (by decide +kernel) ⟨Nat.le_of_ble_eq_true rfl, Nat.le_of_ble_eq_true rfl⟩) rfl hl.1 rfl (Nat.le_of_ble_eq_true rfl) dX0_key_2 ⟨Nat.zero_le _, Nat.zero_le _⟩ ?_
    refine lv_if_eq (tgt := 19) hx hb dX0_key_5 (by decide) (fun c_5 => ?_) (fun c_5 => ?_)
    · skip
      refine lv_iconst (v := 0) hx hb dX0_key_19 (by decide) ?_
      exact K 0 (by unfold z0_key_20; rw [if_pos c_5])
    · skip
      refine lv_iload_n hx hb dX0_key_8 rfl (lv_at hl 2 rfl) ?_
      refine callSi (As := [.int x1]) (rest := [.ref h0]) (m0_isInRow l x1) ⟨hx, hb, hml, hown, hts⟩ (va_cwS 1 hts gX0_key_X0_isInRow rfl rfl rfl (by decide +kernel) ⟨Nat.le_of_ble_eq_true rfl, Nat.le_of_ble_eq_true rfl⟩) rfl hl.1 rfl (Nat.le_of_ble_eq_true rfl) dX0_key_9 ⟨Nat.zero_le _, Nat.zero_le _⟩ ?_
      refine lv_if_eq (tgt := 19) hx hb dX0_key_12 (by decide) (fun c_12 => ?_) (fun c_12 => ?_)
      · skip
        refine lv_iconst (v := 0) hx hb dX0_key_19 (by decide) ?_
        exact K 0 (by unfold z0_key_20; rw [if_neg c_5, if_pos c_12])
      · skip
        refine lv_iconst (v := 1) hx hb dX0_key_15 (by decide) ?_
        refine lv_goto (tgt := 20) hx hb dX0_key_16 (by decide) ?_
        exact K 1 (by unfold z0_key_20; rw [if_neg c_5, if_neg c_12])
set_option maxHeartbeats 4000000 in
set_option maxRecDepth 100000 in
theorem m0_word (l : Launch) (dC : Nat → ClassId) (dI : Nat → Nat → Nat) (h0 h1 h2 h3 : Nat) (c1 c2 c3 : ClassId) (mem blk hdr : Nat → Int32) (ds pw rn wr cm : Int32) (x0 : Int32) (x1 : Int32) : Met l yX0_word wsX0_word ({ frames := 1, cells := 0, slots := 0, locals := 22 }) (pcR (dC, dI) (k0 c1 c2 c3) (w0 h0 h1 h2 h3 c1 c2 c3 (mem, blk, hdr, ds, pw, rn, wr, cm)) [.ref h0, .int x0, .int x1]) (k2_QcV (.long (f0_word mem blk hdr ds pw rn wr cm x0 x1))) 0 0 (fun _ => False) := by
  refine Met.ofW (cc := cX0_word) (maxL := 4) (ret := (some .long)) (by decide) rfl ?_
  intro p e s m args below meth c s₁ B hml hv
  obtain ⟨rfl, hP, hK⟩ := hv
  have hx := B.exec
  have hb := B.bytes
  have hr := B.returns
  have hts := atoms_spec (ws := wsX0_word) B.pre
  have hown : s.vm.findClass RX0 = some m.cls := findClass_of_methodNamed B.named
  have hlocks := B.notSynchronized
  have hP : va_P (dC, dI) vwCl [(h0, .inr (0, [.ref h1, .ref h2, .ref h3, .int ds, .int pw, .int rn, .int wr, .int cm])), (h1, .inl (c1, 96, .inl mem)), (h2, .inl (c2, 200, .inl blk)), (h3, .inl (c3, 8, .inl hdr))] s.heap := hP
  have hl := lv_entry ([.ref h0, .int x0, .int x1]) (n := 4) (Nat.le_of_ble_eq_true rfl)
  rw [lg_entry_eq]
  generalize (lg_sl ([.ref h0, .int x0, .int x1]) ++ List.replicate (4 - (lg_sl ([.ref h0, .int x0, .int x1])).length) Slot.unset).toArray = ls at hl ⊢
  have hl : lv_has ls 4 [(0, .ref h0), (1, .int x0), (2, .int x1)] := hl
  refine w_cut 20 [.ref h0] (z0_word_20 x0 x1) (fun z ez => ?_) (fun K => ?_)
  · subst ez
    refine callRi (q := (RX0, TX0, 8)) (ci := 0) (q0 := 0) (As := [.int (z0_word_20 x0 x1)]) (rest := []) (m0_refusal l dC dI h0 h1 h2 h3 c1 c2 c3 mem blk hdr ds pw rn wr cm (z0_word_20 x0 x1) ) ⟨hx, hb, hml, hown, hts⟩ (cwV 1 hts gX0_word_X0_refusal rfl rfl rfl (by decide +kernel) ⟨Nat.le_of_ble_eq_true rfl, Nat.le_of_ble_eq_true rfl⟩) hK hP rfl rfl rfl hl.1 rfl (Nat.le_of_ble_eq_true rfl) dX0_word_20 ⟨Nat.zero_le _, Nat.zero_le _⟩ ?_
    refine lv_istore_n (lv' := [(3, .int (f0_refusal mem blk hdr ds pw rn wr cm (z0_word_20 x0 x1))), (0, .ref h0), (1, .int x0), (2, .int x1)]) hx hb dX0_word_23 rfl hl (by decide) rfl (fun ls hl => ?_)
    refine lv_iload_n hx hb dX0_word_24 rfl (lv_at hl 0 rfl) ?_
    refine lv_if_eq (tgt := 37) hx hb dX0_word_25 (by decide) (fun c_25 => ?_) (fun c_25 => ?_)
    · skip
      refine lv_aload_n hx hb dX0_word_37 rfl (lv_at hl 1 rfl) ?_
      refine lv_iload_n hx hb dX0_word_38 rfl (lv_at hl 2 rfl) ?_
      refine lv_iload_n hx hb dX0_word_39 rfl (lv_at hl 3 rfl) ?_
      refine callRi (q := (RX0, TX0, 8)) (ci := 0) (q0 := 0) (As := [.int x0, .int x1]) (rest := []) (m0_get l dC dI h0 h1 h2 h3 c1 c2 c3 mem blk hdr ds pw rn wr cm x0 x1 (sd0_word c_25)) ⟨hx, hb, hml, hown, hts⟩ (cwV 2 hts gX0_word_X0_get rfl rfl rfl (by decide +kernel) ⟨Nat.le_of_ble_eq_true rfl, Nat.le_of_ble_eq_true rfl⟩) hK hP rfl rfl rfl hl.1 rfl (Nat.le_of_ble_eq_true rfl) dX0_word_40 ⟨Nat.zero_le _, Nat.zero_le _⟩ ?_
      refine lv_i2l (v := (f0_get mem blk hdr ds pw rn wr cm x0 x1).toInt64) hx hb dX0_word_43 rfl ?_
      exact retL hx hb hr hlocks (by unfold f0_word; rw [if_pos c_25]) rfl dX0_word_44
    · skip
      refine lv_ldc2 (v := 4294967296) hx hb hown (hts (.constantLong RX0 78 4294967296) (by decide +kernel)) dX0_word_28 ?_
      refine lv_iload_n hx hb dX0_word_31 rfl (lv_at hl 0 rfl) ?_
      refine lv_i2l (v := (f0_refusal mem blk hdr ds pw rn wr cm (z0_word_20 x0 x1)).toInt64) hx hb dX0_word_32 rfl ?_
      refine lv_ladd hx hb dX0_word_33 ?_
      refine lv_goto (tgt := 44) hx hb dX0_word_34 (by decide) ?_
      exact retL hx hb hr hlocks (by unfold f0_word; rw [if_neg c_25]) rfl dX0_word_44
  · skip
    refine lv_aload_n hx hb dX0_word_0 rfl (lv_at hl 0 rfl) ?_
    refine lv_iload_n hx hb dX0_word_1 rfl (lv_at hl 1 rfl) ?_
    refine callSi (As := [.int x0]) (rest := [.ref h0]) (m0_isPage l x0) ⟨hx, hb, hml, hown, hts⟩ (va_cwS 1 hts gX0_word_X0_isPage rfl rfl rfl (by decide +kernel) ⟨Nat.le_of_ble_eq_true rfl, Nat.le_of_ble_eq_true rfl⟩) rfl hl.1 rfl (Nat.le_of_ble_eq_true rfl) dX0_word_2 ⟨Nat.zero_le _, Nat.zero_le _⟩ ?_
    refine lv_if_eq (tgt := 19) hx hb dX0_word_5 (by decide) (fun c_5 => ?_) (fun c_5 => ?_)
    · skip
      refine lv_iconst (v := 0) hx hb dX0_word_19 (by decide) ?_
      exact K 0 (by unfold z0_word_20; rw [if_pos c_5])
    · skip
      refine lv_iload_n hx hb dX0_word_8 rfl (lv_at hl 2 rfl) ?_
      refine callSi (As := [.int x1]) (rest := [.ref h0]) (m0_isInRow l x1) ⟨hx, hb, hml, hown, hts⟩ (va_cwS 1 hts gX0_word_X0_isInRow rfl rfl rfl (by decide +kernel) ⟨Nat.le_of_ble_eq_true rfl, Nat.le_of_ble_eq_true rfl⟩) rfl hl.1 rfl (Nat.le_of_ble_eq_true rfl) dX0_word_9 ⟨Nat.zero_le _, Nat.zero_le _⟩ ?_
      refine lv_if_eq (tgt := 19) hx hb dX0_word_12 (by decide) (fun c_12 => ?_) (fun c_12 => ?_)
      · skip
        refine lv_iconst (v := 0) hx hb dX0_word_19 (by decide) ?_
        exact K 0 (by unfold z0_word_20; rw [if_neg c_5, if_pos c_12])
      · skip
        refine lv_iconst (v := 1) hx hb dX0_word_15 (by decide) ?_
        refine lv_goto (tgt := 20) hx hb dX0_word_16 (by decide) ?_
        exact K 1 (by unfold z0_word_20; rw [if_neg c_5, if_neg c_12])
set_option maxHeartbeats 4000000 in
set_option maxRecDepth 100000 in
theorem m0_dirty (l : Launch) (dC : Nat → ClassId) (dI : Nat → Nat → Nat) (h0 h1 h2 h3 : Nat) (c1 c2 c3 : ClassId) (mem blk hdr : Nat → Int32) (ds pw rn wr cm : Int32) : Met l yX0_dirty wsX0_dirty ({ frames := 0, cells := 0, slots := 0, locals := 0 }) (pcR (dC, dI) (k0 c1 c2 c3) (w0 h0 h1 h2 h3 c1 c2 c3 (mem, blk, hdr, ds, pw, rn, wr, cm)) [.ref h0]) (QcRead (f0_dirty mem blk hdr ds pw rn wr cm)) 0 0 (fun _ => False) := by
  refine Met.ofW (cc := cX0_dirty) (maxL := 1) (ret := (some .int)) (by decide) rfl ?_
  intro p e s m args below meth c s₁ B hml hv
  obtain ⟨rfl, hP, hK⟩ := hv
  have hx := B.exec
  have hb := B.bytes
  have hr := B.returns
  have hts := atoms_spec (ws := wsX0_dirty) B.pre
  have hown : s.vm.findClass RX0 = some m.cls := findClass_of_methodNamed B.named
  have hlocks := B.notSynchronized
  have hin : ∀ w ∈ wsX00, w ∈ wsX0_dirty := fun _ h => List.mem_cons_of_mem _ (List.mem_append_right _ h)
  have hP : va_P (dC, dI) vwCl [(h0, .inr (0, [.ref h1, .ref h2, .ref h3, .int ds, .int pw, .int rn, .int wr, .int cm])), (h1, .inl (c1, 96, .inl mem)), (h2, .inl (c2, 200, .inl blk)), (h3, .inl (c3, 8, .inl hdr))] s.heap := hP
  have hl := lv_entry ([.ref h0]) (n := 1) (Nat.le_of_ble_eq_true rfl)
  rw [lg_entry_eq]
  generalize (lg_sl ([.ref h0]) ++ List.replicate (1 - (lg_sl ([.ref h0])).length) Slot.unset).toArray = ls at hl ⊢
  have hl : lv_has ls 1 [(0, .ref h0)] := hl
  refine lv_aload_n hx hb dX0_dirty_0 rfl (lv_at hl 0 rfl) ?_
  refine va_get (D := (dC, dI)) (ci := 0) (v := .int rn) (C := RX0) (T := TX0) (N := 8) hx hb hts hin hown hK hP 0 rfl rfl 5 (by decide) (hts (.fieldLink RX0 26 "CapStore" "running" "Z") (by decide +kernel)) (fun _ h9 => h9) rfl dX0_dirty_1 ?_
  refine lv_if_eq (tgt := 14) hx hb dX0_dirty_4 (by decide) (fun c_4 => ?_) (fun c_4 => ?_)
  · skip
    refine lv_iconst (v := (-1)) hx hb dX0_dirty_14 (by decide) ?_
    exact retP hx hb hr hlocks rfl (by unfold f0_dirty; rw [if_pos c_4]) rfl dX0_dirty_15
  · skip
    refine lv_aload_n hx hb dX0_dirty_7 rfl (lv_at hl 0 rfl) ?_
    refine va_get (D := (dC, dI)) (ci := 0) (v := .int ds) (C := RX0) (T := TX0) (N := 8) hx hb hts hin hown hK hP 0 rfl rfl 3 (by decide) (hts (.fieldLink RX0 19 "CapStore" "dirtySet" "I") (by decide +kernel)) (fun _ h9 => h9) rfl dX0_dirty_8 ?_
    refine lv_goto (tgt := 15) hx hb dX0_dirty_11 (by decide) ?_
    exact retP hx hb hr hlocks rfl (by unfold f0_dirty; rw [if_neg c_4]) rfl dX0_dirty_15
set_option maxHeartbeats 4000000 in
set_option maxRecDepth 100000 in
theorem m0_writes (l : Launch) (dC : Nat → ClassId) (dI : Nat → Nat → Nat) (h0 h1 h2 h3 : Nat) (c1 c2 c3 : ClassId) (mem blk hdr : Nat → Int32) (ds pw rn wr cm : Int32) : Met l yX0_writes wsX0_writes ({ frames := 0, cells := 0, slots := 0, locals := 0 }) (pcR (dC, dI) (k0 c1 c2 c3) (w0 h0 h1 h2 h3 c1 c2 c3 (mem, blk, hdr, ds, pw, rn, wr, cm)) [.ref h0]) (QcRead (f0_writes mem blk hdr ds pw rn wr cm)) 0 0 (fun _ => False) := by
  refine Met.ofW (cc := cX0_writes) (maxL := 1) (ret := (some .int)) (by decide) rfl ?_
  intro p e s m args below meth c s₁ B hml hv
  obtain ⟨rfl, hP, hK⟩ := hv
  have hx := B.exec
  have hb := B.bytes
  have hr := B.returns
  have hts := atoms_spec (ws := wsX0_writes) B.pre
  have hown : s.vm.findClass RX0 = some m.cls := findClass_of_methodNamed B.named
  have hlocks := B.notSynchronized
  have hin : ∀ w ∈ wsX00, w ∈ wsX0_writes := fun _ h => List.mem_cons_of_mem _ (List.mem_append_right _ h)
  have hP : va_P (dC, dI) vwCl [(h0, .inr (0, [.ref h1, .ref h2, .ref h3, .int ds, .int pw, .int rn, .int wr, .int cm])), (h1, .inl (c1, 96, .inl mem)), (h2, .inl (c2, 200, .inl blk)), (h3, .inl (c3, 8, .inl hdr))] s.heap := hP
  have hl := lv_entry ([.ref h0]) (n := 1) (Nat.le_of_ble_eq_true rfl)
  rw [lg_entry_eq]
  generalize (lg_sl ([.ref h0]) ++ List.replicate (1 - (lg_sl ([.ref h0])).length) Slot.unset).toArray = ls at hl ⊢
  have hl : lv_has ls 1 [(0, .ref h0)] := hl
  refine lv_aload_n hx hb dX0_writes_0 rfl (lv_at hl 0 rfl) ?_
  refine va_get (D := (dC, dI)) (ci := 0) (v := .int wr) (C := RX0) (T := TX0) (N := 8) hx hb hts hin hown hK hP 0 rfl rfl 6 (by decide) (hts (.fieldLink RX0 30 "CapStore" "written" "I") (by decide +kernel)) (fun _ h9 => h9) rfl dX0_writes_1 ?_
  exact retP hx hb hr hlocks rfl (rfl) rfl dX0_writes_4
set_option maxHeartbeats 4000000 in
set_option maxRecDepth 100000 in
theorem m0_commits (l : Launch) (dC : Nat → ClassId) (dI : Nat → Nat → Nat) (h0 h1 h2 h3 : Nat) (c1 c2 c3 : ClassId) (mem blk hdr : Nat → Int32) (ds pw rn wr cm : Int32) : Met l yX0_commits wsX0_commits ({ frames := 0, cells := 0, slots := 0, locals := 0 }) (pcR (dC, dI) (k0 c1 c2 c3) (w0 h0 h1 h2 h3 c1 c2 c3 (mem, blk, hdr, ds, pw, rn, wr, cm)) [.ref h0]) (QcRead (f0_commits mem blk hdr ds pw rn wr cm)) 0 0 (fun _ => False) := by
  refine Met.ofW (cc := cX0_commits) (maxL := 1) (ret := (some .int)) (by decide) rfl ?_
  intro p e s m args below meth c s₁ B hml hv
  obtain ⟨rfl, hP, hK⟩ := hv
  have hx := B.exec
  have hb := B.bytes
  have hr := B.returns
  have hts := atoms_spec (ws := wsX0_commits) B.pre
  have hown : s.vm.findClass RX0 = some m.cls := findClass_of_methodNamed B.named
  have hlocks := B.notSynchronized
  have hin : ∀ w ∈ wsX00, w ∈ wsX0_commits := fun _ h => List.mem_cons_of_mem _ (List.mem_append_right _ h)
  have hP : va_P (dC, dI) vwCl [(h0, .inr (0, [.ref h1, .ref h2, .ref h3, .int ds, .int pw, .int rn, .int wr, .int cm])), (h1, .inl (c1, 96, .inl mem)), (h2, .inl (c2, 200, .inl blk)), (h3, .inl (c3, 8, .inl hdr))] s.heap := hP
  have hl := lv_entry ([.ref h0]) (n := 1) (Nat.le_of_ble_eq_true rfl)
  rw [lg_entry_eq]
  generalize (lg_sl ([.ref h0]) ++ List.replicate (1 - (lg_sl ([.ref h0])).length) Slot.unset).toArray = ls at hl ⊢
  have hl : lv_has ls 1 [(0, .ref h0)] := hl
  refine lv_aload_n hx hb dX0_commits_0 rfl (lv_at hl 0 rfl) ?_
  refine va_get (D := (dC, dI)) (ci := 0) (v := .int cm) (C := RX0) (T := TX0) (N := 8) hx hb hts hin hown hK hP 0 rfl rfl 7 (by decide) (hts (.fieldLink RX0 33 "CapStore" "committed" "I") (by decide +kernel)) (fun _ h9 => h9) rfl dX0_commits_1 ?_
  exact retP hx hb hr hlocks rfl (rfl) rfl dX0_commits_4
set_option maxHeartbeats 4000000 in
set_option maxRecDepth 100000 in
theorem m0_disk (l : Launch) (dC : Nat → ClassId) (dI : Nat → Nat → Nat) (h0 h1 h2 h3 : Nat) (c1 c2 c3 : ClassId) (mem blk hdr : Nat → Int32) (ds pw rn wr cm : Int32) (x0 : Int32) (x1 : Int32) : Met l yX0_disk wsX0_disk ({ frames := 1, cells := 0, slots := 0, locals := 20 }) (pcR (dC, dI) (k0 c1 c2 c3) (w0 h0 h1 h2 h3 c1 c2 c3 (mem, blk, hdr, ds, pw, rn, wr, cm)) [.ref h0, .int x0, .int x1]) (QcRead (f0_disk mem blk hdr ds pw rn wr cm x0 x1)) 0 0 (fun _ => False) := by
  refine Met.ofW (cc := cX0_disk) (maxL := 3) (ret := (some .int)) (by decide) rfl ?_
  intro p e s m args below meth c s₁ B hml hv
  obtain ⟨rfl, hP, hK⟩ := hv
  have hx := B.exec
  have hb := B.bytes
  have hr := B.returns
  have hts := atoms_spec (ws := wsX0_disk) B.pre
  have hown : s.vm.findClass RX0 = some m.cls := findClass_of_methodNamed B.named
  have hlocks := B.notSynchronized
  have hin : ∀ w ∈ wsX00, w ∈ wsX0_disk := fun _ h => List.mem_cons_of_mem _ (List.mem_append_right _ h)
  have hP : va_P (dC, dI) vwCl [(h0, .inr (0, [.ref h1, .ref h2, .ref h3, .int ds, .int pw, .int rn, .int wr, .int cm])), (h1, .inl (c1, 96, .inl mem)), (h2, .inl (c2, 200, .inl blk)), (h3, .inl (c3, 8, .inl hdr))] s.heap := hP
  have hl := lv_entry ([.ref h0, .int x0, .int x1]) (n := 3) (Nat.le_of_ble_eq_true rfl)
  rw [lg_entry_eq]
  generalize (lg_sl ([.ref h0, .int x0, .int x1]) ++ List.replicate (3 - (lg_sl ([.ref h0, .int x0, .int x1])).length) Slot.unset).toArray = ls at hl ⊢
  have hl : lv_has ls 3 [(0, .ref h0), (1, .int x0), (2, .int x1)] := hl
  refine lv_iload_n hx hb dX0_disk_0 rfl (lv_at hl 1 rfl) ?_
  refine callSi (As := [.int x0]) (rest := []) (m0_isBlock l x0) ⟨hx, hb, hml, hown, hts⟩ (va_cwS 1 hts gX0_disk_X0_isBlock rfl rfl rfl (by decide +kernel) ⟨Nat.le_of_ble_eq_true rfl, Nat.le_of_ble_eq_true rfl⟩) rfl hl.1 rfl (Nat.le_of_ble_eq_true rfl) dX0_disk_1 ⟨Nat.zero_le _, Nat.zero_le _⟩ ?_
  refine lv_if_eq (tgt := 28) hx hb dX0_disk_4 (by decide) (fun c_4 => ?_) (fun c_4 => ?_)
  · skip
    refine lv_iconst (v := 0) hx hb dX0_disk_28 (by decide) ?_
    exact retP hx hb hr hlocks rfl (by unfold f0_disk; rw [if_pos c_4]) rfl dX0_disk_29
  · skip
    refine lv_iload_n hx hb dX0_disk_7 rfl (lv_at hl 2 rfl) ?_
    refine callSi (As := [.int x1]) (rest := []) (m0_isInRow l x1) ⟨hx, hb, hml, hown, hts⟩ (va_cwS 1 hts gX0_disk_X0_isInRow rfl rfl rfl (by decide +kernel) ⟨Nat.le_of_ble_eq_true rfl, Nat.le_of_ble_eq_true rfl⟩) rfl hl.1 rfl (Nat.le_of_ble_eq_true rfl) dX0_disk_8 ⟨Nat.zero_le _, Nat.zero_le _⟩ ?_
    refine lv_if_eq (tgt := 28) hx hb dX0_disk_11 (by decide) (fun c_11 => ?_) (fun c_11 => ?_)
    · skip
      refine lv_iconst (v := 0) hx hb dX0_disk_28 (by decide) ?_
      exact retP hx hb hr hlocks rfl (by unfold f0_disk; rw [if_neg c_4, if_pos c_11]) rfl dX0_disk_29
    · skip
      refine lv_aload_n hx hb dX0_disk_14 rfl (lv_at hl 0 rfl) ?_
      refine va_get (D := (dC, dI)) (ci := 0) (v := .ref h2) (C := RX0) (T := TX0) (N := 8) hx hb hts hin hown hK hP 0 rfl rfl 1 (by decide) (hts (.fieldLink RX0 13 "CapStore" "blocks" "[I") (by decide +kernel)) (fun _ h9 => h9) rfl dX0_disk_15 ?_
      refine lv_iload_n hx hb dX0_disk_18 rfl (lv_at hl 1 rfl) ?_
      refine lv_bipush (v := 8) hx hb dX0_disk_19 (by decide) ?_
      refine lv_imul hx hb dX0_disk_21 ?_
      refine lv_iload_n hx hb dX0_disk_22 rfl (lv_at hl 2 rfl) ?_
      refine lv_iadd hx hb dX0_disk_23 ?_
      refine va_iald hx hb hK hP 2 1 rfl rfl (sd0_disk c_4 c_11) dX0_disk_24 ?_
      refine lv_goto (tgt := 29) hx hb dX0_disk_25 (by decide) ?_
      exact retP hx hb hr hlocks rfl (by unfold f0_disk; rw [if_neg c_4, if_neg c_11]) rfl dX0_disk_29
set_option maxHeartbeats 4000000 in
set_option maxRecDepth 100000 in
theorem m0_put (l : Launch) (dC : Nat → ClassId) (dI : Nat → Nat → Nat) (h0 h1 h2 h3 : Nat) (c1 c2 c3 : ClassId) (sz : Nat) (mem blk hdr : Nat → Int32) (ds pw rn wr cm : Int32) (x0 : Int32) (x1 : Int32) (x2 : Int32) (hi : vp_in (x0 * 8 + x1) 96) : Met l yX0_put wsX0_put ({ frames := 0, cells := 0, slots := 0, locals := 0 }) (pcW (dC, dI) (k0 c1 c2 c3) (w0 h0 h1 h2 h3 c1 c2 c3 (mem, blk, hdr, ds, pw, rn, wr, cm)) sz [.ref h0, .int x0, .int x1, .int x2]) (qcWv (dC, dI) (k0 c1 c2 c3) (w0 h0 h1 h2 h3 c1 c2 c3 (mem, blk, hdr, ds, pw, rn, wr, cm)) (w0 h0 h1 h2 h3 c1 c2 c3 (F0_put mem blk hdr ds pw rn wr cm x0 x1 x2)) sz) 0 0 (va_A (w0 h0 h1 h2 h3 c1 c2 c3 (mem, blk, hdr, ds, pw, rn, wr, cm)) sz) := by
  refine Met.ofW (cc := cX0_put) (maxL := 4) (ret := none) (by decide) rfl ?_
  intro p e s m args below meth c s₁ B hml hv
  obtain ⟨rfl, hsz, hP, hK, hD0⟩ := hv
  have hx := B.exec
  have hb := B.bytes
  have hr := B.returns
  have hts := atoms_spec (ws := wsX0_put) B.pre
  have hown : s.vm.findClass RX0 = some m.cls := findClass_of_methodNamed B.named
  have hlocks := B.notSynchronized
  have hin : ∀ w ∈ wsX00, w ∈ wsX0_put := fun _ h => List.mem_cons_of_mem _ (List.mem_append_right _ h)
  have hP : va_P (dC, dI) vwCl [(h0, .inr (0, [.ref h1, .ref h2, .ref h3, .int ds, .int pw, .int rn, .int wr, .int cm])), (h1, .inl (c1, 96, .inl mem)), (h2, .inl (c2, 200, .inl blk)), (h3, .inl (c3, 8, .inl hdr))] s.heap := hP
  subst hsz
  have hD := hD0.self (sz := s.heap.size)
  have hA : ∀ q : Nat, s.heap.size ≤ q → (va_A (w0 h0 h1 h2 h3 c1 c2 c3 (mem, blk, hdr, ds, pw, rn, wr, cm)) s.heap.size) q := fun q h => Or.inr h
  have hS : va_S (va_A (w0 h0 h1 h2 h3 c1 c2 c3 (mem, blk, hdr, ds, pw, rn, wr, cm)) s.heap.size) s.heap s.heap [] := va_S.rf
  have hl := lv_entry ([.ref h0, .int x0, .int x1, .int x2]) (n := 4) (Nat.le_of_ble_eq_true rfl)
  rw [lg_entry_eq]
  generalize (lg_sl ([.ref h0, .int x0, .int x1, .int x2]) ++ List.replicate (4 - (lg_sl ([.ref h0, .int x0, .int x1, .int x2])).length) Slot.unset).toArray = ls at hl ⊢
  have hl : lv_has ls 4 [(0, .ref h0), (1, .int x0), (2, .int x1), (3, .int x2)] := hl
  refine lv_aload_n hx hb dX0_put_0 rfl (lv_at hl 0 rfl) ?_
  refine va_get (D := (dC, dI)) (ci := 0) (v := .ref h1) (C := RX0) (T := TX0) (N := 8) hx hb hts hin hown hK hP 0 rfl rfl 0 (by decide) (hts (.fieldLink RX0 9 "CapStore" "memory" "[I") (by decide +kernel)) (fun _ h9 => h9) rfl dX0_put_1 ?_
  refine lv_iload_n hx hb dX0_put_4 rfl (lv_at hl 1 rfl) ?_
  refine lv_bipush (v := 8) hx hb dX0_put_5 (by decide) ?_
  refine lv_imul hx hb dX0_put_7 ?_
  refine lv_iload_n hx hb dX0_put_8 rfl (lv_at hl 2 rfl) ?_
  refine lv_iadd hx hb dX0_put_9 ?_
  refine lv_iload_n hx hb dX0_put_10 rfl (lv_at hl 3 rfl) ?_
  refine va_iast hx hb hK hP hD hS 1 0 rfl rfl hi dX0_put_11 (fun H locs hP hD hS => ?_)
  have hP : va_P (dC, dI) vwCl [(h0, .inr (0, [.ref h1, .ref h2, .ref h3, .int ds, .int pw, .int rn, .int wr, .int cm])), (h1, .inl (c1, 96, .inl (upd mem ((x0 * 8) + x1).toNatClampNeg x2))), (h2, .inl (c2, 200, .inl blk)), (h3, .inl (c3, 8, .inl hdr))] _ := hP
  have hD : va_D _ [(h0, .inr (0, [.ref h1, .ref h2, .ref h3, .int ds, .int pw, .int rn, .int wr, .int cm])), (h1, .inl (c1, 96, .inl (upd mem ((x0 * 8) + x1).toNatClampNeg x2))), (h2, .inl (c2, 200, .inl blk)), (h3, .inl (c3, 8, .inl hdr))] := hD
  refine lv_aload_n hx hb dX0_put_12 rfl (lv_at hl 0 rfl) ?_
  refine lv_dup hx hb dX0_put_13 rfl ?_
  refine va_get (D := (dC, dI)) (ci := 0) (v := .int ds) (C := RX0) (T := TX0) (N := 8) hx hb hts hin hown hK hP 0 rfl rfl 3 (by decide) (hts (.fieldLink RX0 19 "CapStore" "dirtySet" "I") (by decide +kernel)) (fun _ h9 => h9) rfl dX0_put_14 ?_
  refine lv_iconst (v := 1) hx hb dX0_put_17 (by decide) ?_
  refine lv_iload_n hx hb dX0_put_18 rfl (lv_at hl 1 rfl) ?_
  refine lv_ishl hx hb dX0_put_19 ?_
  refine lv_ior hx hb dX0_put_20 ?_
  refine va_put (D := (dC, dI)) (ci := 0) (v := .int (ds ||| ((1 : Int32) <<< (x0 &&& 31)))) (ty := .int) (C := RX0) (T := TX0) (N := 8) hx hb hts hin tyX0 tyX0_ok nmX0 hown hK hP hD hS 0 rfl rfl 3 (by decide) (hts (.fieldLink RX0 19 "CapStore" "dirtySet" "I") (by decide +kernel)) (fun _ h9 => h9) rfl (by decide +kernel) rfl rfl (Nat.le_of_ble_eq_true rfl) dX0_put_21 (fun H locs hP hD hS => ?_)
  have hP : va_P (dC, dI) vwCl [(h0, .inr (0, [.ref h1, .ref h2, .ref h3, .int (ds ||| ((1 : Int32) <<< (x0 &&& 31))), .int pw, .int rn, .int wr, .int cm])), (h1, .inl (c1, 96, .inl (upd mem ((x0 * 8) + x1).toNatClampNeg x2))), (h2, .inl (c2, 200, .inl blk)), (h3, .inl (c3, 8, .inl hdr))] _ := hP
  have hD : va_D _ [(h0, .inr (0, [.ref h1, .ref h2, .ref h3, .int (ds ||| ((1 : Int32) <<< (x0 &&& 31))), .int pw, .int rn, .int wr, .int cm])), (h1, .inl (c1, 96, .inl (upd mem ((x0 * 8) + x1).toNatClampNeg x2))), (h2, .inl (c2, 200, .inl blk)), (h3, .inl (c3, 8, .inl hdr))] := hD
  have e9 : F0_put mem blk hdr ds pw rn wr cm x0 x1 x2 = ((upd mem ((x0 * 8) + x1).toNatClampNeg x2), blk, hdr, (ds ||| ((1 : Int32) <<< (x0 &&& 31))), pw, rn, wr, cm) := rfl
  rw [e9]
  exact retWv hx hb hr hlocks rfl hK hP hD hS dX0_put_24
set_option maxHeartbeats 4000000 in
set_option maxRecDepth 100000 in
theorem m0_place (l : Launch) (dC : Nat → ClassId) (dI : Nat → Nat → Nat) (h0 h1 h2 h3 : Nat) (c1 c2 c3 : ClassId) (sz : Nat) (mem blk hdr : Nat → Int32) (ds pw rn wr cm : Int32) (x0 : Int32) (x1 : Int32) (x2 : Int32) : Met l yX0_place wsX0_place ({ frames := 1, cells := 0, slots := 0, locals := 23 }) (pcW (dC, dI) (k0 c1 c2 c3) (w0 h0 h1 h2 h3 c1 c2 c3 (mem, blk, hdr, ds, pw, rn, wr, cm)) sz [.ref h0, .int x0, .int x1, .int x2]) (qcWi (dC, dI) (k0 c1 c2 c3) (w0 h0 h1 h2 h3 c1 c2 c3 (mem, blk, hdr, ds, pw, rn, wr, cm)) (w0 h0 h1 h2 h3 c1 c2 c3 (F0_place mem blk hdr ds pw rn wr cm x0 x1 x2).2) sz (F0_place mem blk hdr ds pw rn wr cm x0 x1 x2).1) 0 0 (va_A (w0 h0 h1 h2 h3 c1 c2 c3 (mem, blk, hdr, ds, pw, rn, wr, cm)) sz) := by
  refine Met.ofW (cc := cX0_place) (maxL := 5) (ret := (some .int)) (by decide) rfl ?_
  intro p e s m args below meth c s₁ B hml hv
  obtain ⟨rfl, hsz, hP, hK, hD0⟩ := hv
  have hx := B.exec
  have hb := B.bytes
  have hr := B.returns
  have hts := atoms_spec (ws := wsX0_place) B.pre
  have hown : s.vm.findClass RX0 = some m.cls := findClass_of_methodNamed B.named
  have hlocks := B.notSynchronized
  have hP : va_P (dC, dI) vwCl [(h0, .inr (0, [.ref h1, .ref h2, .ref h3, .int ds, .int pw, .int rn, .int wr, .int cm])), (h1, .inl (c1, 96, .inl mem)), (h2, .inl (c2, 200, .inl blk)), (h3, .inl (c3, 8, .inl hdr))] s.heap := hP
  subst hsz
  have hD := hD0.self (sz := s.heap.size)
  have hA : ∀ q : Nat, s.heap.size ≤ q → (va_A (w0 h0 h1 h2 h3 c1 c2 c3 (mem, blk, hdr, ds, pw, rn, wr, cm)) s.heap.size) q := fun q h => Or.inr h
  have hS : va_S (va_A (w0 h0 h1 h2 h3 c1 c2 c3 (mem, blk, hdr, ds, pw, rn, wr, cm)) s.heap.size) s.heap s.heap [] := va_S.rf
  have hl := lv_entry ([.ref h0, .int x0, .int x1, .int x2]) (n := 5) (Nat.le_of_ble_eq_true rfl)
  rw [lg_entry_eq]
  generalize (lg_sl ([.ref h0, .int x0, .int x1, .int x2]) ++ List.replicate (5 - (lg_sl ([.ref h0, .int x0, .int x1, .int x2])).length) Slot.unset).toArray = ls at hl ⊢
  have hl : lv_has ls 5 [(0, .ref h0), (1, .int x0), (2, .int x1), (3, .int x2)] := hl
  refine w_cut 27 [.ref h0] (z0_place_27 x0 x1 x2) (fun z ez => ?_) (fun K => ?_)
  · subst ez
    refine callRi (q := (RX0, TX0, 8)) (ci := 0) (q0 := 0) (As := [.int (z0_place_27 x0 x1 x2)]) (rest := []) (m0_refusal l dC dI h0 h1 h2 h3 c1 c2 c3 mem blk hdr ds pw rn wr cm (z0_place_27 x0 x1 x2) ) ⟨hx, hb, hml, hown, hts⟩ (cwV 1 hts gX0_place_X0_refusal rfl rfl rfl (by decide +kernel) ⟨Nat.le_of_ble_eq_true rfl, Nat.le_of_ble_eq_true rfl⟩) hK hP rfl rfl rfl hl.1 rfl (Nat.le_of_ble_eq_true rfl) dX0_place_27 ⟨Nat.zero_le _, Nat.zero_le _⟩ ?_
    refine lv_istore (lv' := [(4, .int (f0_refusal mem blk hdr ds pw rn wr cm (z0_place_27 x0 x1 x2))), (0, .ref h0), (1, .int x0), (2, .int x1), (3, .int x2)]) hx hb dX0_place_30 hl (by decide) rfl (fun ls hl => ?_)
    refine lv_iload hx hb dX0_place_32 (lv_at hl 0 rfl) ?_
    refine lv_if_eq (tgt := 40) hx hb dX0_place_34 (by decide) (fun c_34 => ?_) (fun c_34 => ?_)
    · skip
      refine lv_aload_n hx hb dX0_place_40 rfl (lv_at hl 1 rfl) ?_
      refine lv_iload_n hx hb dX0_place_41 rfl (lv_at hl 2 rfl) ?_
      refine lv_iload_n hx hb dX0_place_42 rfl (lv_at hl 3 rfl) ?_
      refine lv_iload_n hx hb dX0_place_43 rfl (lv_at hl 4 rfl) ?_
      refine callWv (q := (RX0, TX0, 8)) (ci := 0) (q0 := 0) (As := [.int x0, .int x1, .int x2]) (rest := []) (wr := []) (m0_put l dC dI h0 h1 h2 h3 c1 c2 c3 _ mem blk hdr ds pw rn wr cm x0 x1 x2 (sd0_place c_34)) ⟨hx, hb, hml, hown, hts⟩ (cwV 3 hts gX0_place_X0_put rfl rfl rfl (by decide +kernel) ⟨Nat.le_of_ble_eq_true rfl, Nat.le_of_ble_eq_true rfl⟩) hK hP hD hS hA rfl rfl [0, 1, 2, 3] [] rfl rfl rfl (by decide) (by decide) (by decide) rfl hl.1 rfl (Nat.le_of_ble_eq_true rfl) dX0_place_44 ⟨Nat.zero_le _, Nat.zero_le _⟩ (fun H locs hP hD hS => ?_)
      have hP : va_P (dC, dI) vwCl [(h0, .inr (0, [.ref h1, .ref h2, .ref h3, .int (ds ||| ((1 : Int32) <<< (x0 &&& 31))), .int pw, .int rn, .int wr, .int cm])), (h1, .inl (c1, 96, .inl (upd mem (x0 * 8 + x1).toNatClampNeg x2))), (h2, .inl (c2, 200, .inl blk)), (h3, .inl (c3, 8, .inl hdr))] _ := hP
      have hD : va_D _ [(h0, .inr (0, [.ref h1, .ref h2, .ref h3, .int (ds ||| ((1 : Int32) <<< (x0 &&& 31))), .int pw, .int rn, .int wr, .int cm])), (h1, .inl (c1, 96, .inl (upd mem (x0 * 8 + x1).toNatClampNeg x2))), (h2, .inl (c2, 200, .inl blk)), (h3, .inl (c3, 8, .inl hdr))] := hD
      refine lv_iconst (v := 0) hx hb dX0_place_47 (by decide) ?_
      have e9 : F0_place mem blk hdr ds pw rn wr cm x0 x1 x2 = (0, (upd mem (x0 * 8 + x1).toNatClampNeg x2), blk, hdr, (ds ||| ((1 : Int32) <<< (x0 &&& 31))), pw, rn, wr, cm) := by unfold F0_place; rw [if_pos c_34]
      rw [e9]
      exact retWi hx hb hr hlocks rfl rfl rfl hK hP hD hS dX0_place_48
    · skip
      refine lv_iload hx hb dX0_place_37 (lv_at hl 0 rfl) ?_
      have e9 : F0_place mem blk hdr ds pw rn wr cm x0 x1 x2 = ((f0_refusal mem blk hdr ds pw rn wr cm (z0_place_27 x0 x1 x2)), mem, blk, hdr, ds, pw, rn, wr, cm) := by unfold F0_place; rw [if_neg c_34]
      rw [e9]
      exact retWi hx hb hr hlocks rfl rfl rfl hK hP hD hS dX0_place_39
  · skip
    refine lv_aload_n hx hb dX0_place_0 rfl (lv_at hl 0 rfl) ?_
    refine lv_iload_n hx hb dX0_place_1 rfl (lv_at hl 1 rfl) ?_
    refine callSi (As := [.int x0]) (rest := [.ref h0]) (m0_isNode l x0) ⟨hx, hb, hml, hown, hts⟩ (va_cwS 1 hts gX0_place_X0_isNode rfl rfl rfl (by decide +kernel) ⟨Nat.le_of_ble_eq_true rfl, Nat.le_of_ble_eq_true rfl⟩) rfl hl.1 rfl (Nat.le_of_ble_eq_true rfl) dX0_place_2 ⟨Nat.zero_le _, Nat.zero_le _⟩ ?_
    refine lv_if_eq (tgt := 26) hx hb dX0_place_5 (by decide) (fun c_5 => ?_) (fun c_5 => ?_)
    · skip
      refine lv_iconst (v := 0) hx hb dX0_place_26 (by decide) ?_
      exact K 0 (by unfold z0_place_27; rw [if_pos c_5])
    · skip
      refine lv_iload_n hx hb dX0_place_8 rfl (lv_at hl 2 rfl) ?_
      refine callSi (As := [.int x1]) (rest := [.ref h0]) (m0_isInRow l x1) ⟨hx, hb, hml, hown, hts⟩ (va_cwS 1 hts gX0_place_X0_isInRow rfl rfl rfl (by decide +kernel) ⟨Nat.le_of_ble_eq_true rfl, Nat.le_of_ble_eq_true rfl⟩) rfl hl.1 rfl (Nat.le_of_ble_eq_true rfl) dX0_place_9 ⟨Nat.zero_le _, Nat.zero_le _⟩ ?_
      refine lv_if_eq (tgt := 26) hx hb dX0_place_12 (by decide) (fun c_12 => ?_) (fun c_12 => ?_)
      · skip
        refine lv_iconst (v := 0) hx hb dX0_place_26 (by decide) ?_
        exact K 0 (by unfold z0_place_27; rw [if_neg c_5, if_pos c_12])
      · skip
        refine lv_iload_n hx hb dX0_place_15 rfl (lv_at hl 3 rfl) ?_
        refine callSi (As := [.int x2]) (rest := [.ref h0]) (m0_isKey l x2) ⟨hx, hb, hml, hown, hts⟩ (va_cwS 1 hts gX0_place_X0_isKey rfl rfl rfl (by decide +kernel) ⟨Nat.le_of_ble_eq_true rfl, Nat.le_of_ble_eq_true rfl⟩) rfl hl.1 rfl (Nat.le_of_ble_eq_true rfl) dX0_place_16 ⟨Nat.zero_le _, Nat.zero_le _⟩ ?_
        refine lv_if_eq (tgt := 26) hx hb dX0_place_19 (by decide) (fun c_19 => ?_) (fun c_19 => ?_)
        · skip
          refine lv_iconst (v := 0) hx hb dX0_place_26 (by decide) ?_
          exact K 0 (by unfold z0_place_27; rw [if_neg c_5, if_neg c_12, if_pos c_19])
        · skip
          refine lv_iconst (v := 1) hx hb dX0_place_22 (by decide) ?_
          refine lv_goto (tgt := 27) hx hb dX0_place_23 (by decide) ?_
          exact K 1 (by unfold z0_place_27; rw [if_neg c_5, if_neg c_12, if_neg c_19])
set_option maxHeartbeats 4000000 in
set_option maxRecDepth 100000 in
theorem m0_fetch (l : Launch) (dC : Nat → ClassId) (dI : Nat → Nat → Nat) (h0 h1 h2 h3 : Nat) (c1 c2 c3 : ClassId) (sz : Nat) (mem blk hdr : Nat → Int32) (ds pw rn wr cm : Int32) (x0 : Int32) (x1 : Int32) (x2 : Int32) (x3 : Int32) : Met l yX0_fetch wsX0_fetch ({ frames := 3, cells := 0, slots := 0, locals := 65 }) (pcW (dC, dI) (k0 c1 c2 c3) (w0 h0 h1 h2 h3 c1 c2 c3 (mem, blk, hdr, ds, pw, rn, wr, cm)) sz [.ref h0, .int x0, .int x1, .int x2, .int x3]) (qcWi (dC, dI) (k0 c1 c2 c3) (w0 h0 h1 h2 h3 c1 c2 c3 (mem, blk, hdr, ds, pw, rn, wr, cm)) (w0 h0 h1 h2 h3 c1 c2 c3 (F0_fetch mem blk hdr ds pw rn wr cm x0 x1 x2 x3).2) sz (F0_fetch mem blk hdr ds pw rn wr cm x0 x1 x2 x3).1) 0 0 (va_A (w0 h0 h1 h2 h3 c1 c2 c3 (mem, blk, hdr, ds, pw, rn, wr, cm)) sz) := by
  refine Met.ofW (cc := cX0_fetch) (maxL := 8) (ret := (some .int)) (by decide) rfl ?_
  intro p e s m args below meth c s₁ B hml hv
  obtain ⟨rfl, hsz, hP, hK, hD0⟩ := hv
  have hx := B.exec
  have hb := B.bytes
  have hr := B.returns
  have hts := atoms_spec (ws := wsX0_fetch) B.pre
  have hown : s.vm.findClass RX0 = some m.cls := findClass_of_methodNamed B.named
  have hlocks := B.notSynchronized
  have hP : va_P (dC, dI) vwCl [(h0, .inr (0, [.ref h1, .ref h2, .ref h3, .int ds, .int pw, .int rn, .int wr, .int cm])), (h1, .inl (c1, 96, .inl mem)), (h2, .inl (c2, 200, .inl blk)), (h3, .inl (c3, 8, .inl hdr))] s.heap := hP
  subst hsz
  have hD := hD0.self (sz := s.heap.size)
  have hA : ∀ q : Nat, s.heap.size ≤ q → (va_A (w0 h0 h1 h2 h3 c1 c2 c3 (mem, blk, hdr, ds, pw, rn, wr, cm)) s.heap.size) q := fun q h => Or.inr h
  have hS : va_S (va_A (w0 h0 h1 h2 h3 c1 c2 c3 (mem, blk, hdr, ds, pw, rn, wr, cm)) s.heap.size) s.heap s.heap [] := va_S.rf
  have hl := lv_entry ([.ref h0, .int x0, .int x1, .int x2, .int x3]) (n := 8) (Nat.le_of_ble_eq_true rfl)
  rw [lg_entry_eq]
  generalize (lg_sl ([.ref h0, .int x0, .int x1, .int x2, .int x3]) ++ List.replicate (8 - (lg_sl ([.ref h0, .int x0, .int x1, .int x2, .int x3])).length) Slot.unset).toArray = ls at hl ⊢
  have hl : lv_has ls 8 [(0, .ref h0), (1, .int x0), (2, .int x1), (3, .int x2), (4, .int x3)] := hl
  refine w_cut 23 [.int x1, .int x0, .ref h0] (z0_fetch_23 x2 x3) (fun z ez => ?_) (fun K => ?_)
  · subst ez
    refine callRi (q := (RX0, TX0, 8)) (ci := 0) (q0 := 0) (As := [.int x0, .int x1, .int (z0_fetch_23 x2 x3)]) (rest := []) (m0_nodeRefusal l dC dI h0 h1 h2 h3 c1 c2 c3 mem blk hdr ds pw rn wr cm x0 x1 (z0_fetch_23 x2 x3) ) ⟨hx, hb, hml, hown, hts⟩ (cwV 3 hts gX0_fetch_X0_nodeRefusal rfl rfl rfl (by decide +kernel) ⟨Nat.le_of_ble_eq_true rfl, Nat.le_of_ble_eq_true rfl⟩) hK hP rfl rfl rfl hl.1 rfl (Nat.le_of_ble_eq_true rfl) dX0_fetch_23 ⟨Nat.zero_le _, Nat.zero_le _⟩ ?_
    refine lv_istore (lv' := [(5, .int (f0_nodeRefusal mem blk hdr ds pw rn wr cm x0 x1 (z0_fetch_23 x2 x3))), (0, .ref h0), (1, .int x0), (2, .int x1), (3, .int x2), (4, .int x3)]) hx hb dX0_fetch_26 hl (by decide) rfl (fun ls hl => ?_)
    refine lv_iload hx hb dX0_fetch_28 (lv_at hl 0 rfl) ?_
    refine lv_if_eq (tgt := 36) hx hb dX0_fetch_30 (by decide) (fun c_30 => ?_) (fun c_30 => ?_)
    · skip
      refine lv_aload_n hx hb dX0_fetch_36 rfl (lv_at hl 1 rfl) ?_
      refine lv_iload_n hx hb dX0_fetch_37 rfl (lv_at hl 2 rfl) ?_
      refine lv_iload_n hx hb dX0_fetch_38 rfl (lv_at hl 3 rfl) ?_
      refine callRi (q := (RX0, TX0, 8)) (ci := 0) (q0 := 0) (As := [.int x0, .int x1]) (rest := []) (m0_get l dC dI h0 h1 h2 h3 c1 c2 c3 mem blk hdr ds pw rn wr cm x0 x1 (sd0_fetch1 c_30)) ⟨hx, hb, hml, hown, hts⟩ (cwV 2 hts gX0_fetch_X0_get rfl rfl rfl (by decide +kernel) ⟨Nat.le_of_ble_eq_true rfl, Nat.le_of_ble_eq_true rfl⟩) hK hP rfl rfl rfl hl.1 rfl (Nat.le_of_ble_eq_true rfl) dX0_fetch_39 ⟨Nat.zero_le _, Nat.zero_le _⟩ ?_
      refine lv_istore (lv' := [(6, .int (f0_get mem blk hdr ds pw rn wr cm x0 x1)), (5, .int (f0_nodeRefusal mem blk hdr ds pw rn wr cm x0 x1 (z0_fetch_23 x2 x3))), (0, .ref h0), (1, .int x0), (2, .int x1), (3, .int x2), (4, .int x3)]) hx hb dX0_fetch_42 hl (by decide) rfl (fun ls hl => ?_)
      refine lv_aload_n hx hb dX0_fetch_44 rfl (lv_at hl 2 rfl) ?_
      refine lv_iload hx hb dX0_fetch_45 (lv_at hl 0 rfl) ?_
      refine callSi (As := [.int (f0_get mem blk hdr ds pw rn wr cm x0 x1)]) (rest := [.ref h0]) (m0_objectOf l (f0_get mem blk hdr ds pw rn wr cm x0 x1)) ⟨hx, hb, hml, hown, hts⟩ (va_cwS 1 hts gX0_fetch_X0_objectOf rfl rfl rfl (by decide +kernel) ⟨Nat.le_of_ble_eq_true rfl, Nat.le_of_ble_eq_true rfl⟩) rfl hl.1 rfl (Nat.le_of_ble_eq_true rfl) dX0_fetch_47 ⟨Nat.zero_le _, Nat.zero_le _⟩ ?_
      refine lv_iload_n hx hb dX0_fetch_50 rfl (lv_at hl 5 rfl) ?_
      refine callRi (q := (RX0, TX0, 8)) (ci := 0) (q0 := 0) (As := [.int (f0_objectOf (f0_get mem blk hdr ds pw rn wr cm x0 x1)), .int x2]) (rest := []) (m0_get l dC dI h0 h1 h2 h3 c1 c2 c3 mem blk hdr ds pw rn wr cm (f0_objectOf (f0_get mem blk hdr ds pw rn wr cm x0 x1)) x2 (sd0_fetch2 c_30)) ⟨hx, hb, hml, hown, hts⟩ (cwV 2 hts gX0_fetch_X0_get rfl rfl rfl (by decide +kernel) ⟨Nat.le_of_ble_eq_true rfl, Nat.le_of_ble_eq_true rfl⟩) hK hP rfl rfl rfl hl.1 rfl (Nat.le_of_ble_eq_true rfl) dX0_fetch_51 ⟨Nat.zero_le _, Nat.zero_le _⟩ ?_
      refine lv_istore (lv' := [(7, .int (f0_get mem blk hdr ds pw rn wr cm (f0_objectOf (f0_get mem blk hdr ds pw rn wr cm x0 x1)) x2)), (6, .int (f0_get mem blk hdr ds pw rn wr cm x0 x1)), (5, .int (f0_nodeRefusal mem blk hdr ds pw rn wr cm x0 x1 (z0_fetch_23 x2 x3))), (0, .ref h0), (1, .int x0), (2, .int x1), (3, .int x2), (4, .int x3)]) hx hb dX0_fetch_54 hl (by decide) rfl (fun ls hl => ?_)
      refine w_cut 79 [.int x3, .int x0, .ref h0] (z0_fetch_79 mem blk hdr ds pw rn wr cm x0 x1 x2) (fun z ez => ?_) (fun K => ?_)
      · subst ez
        refine callWv (q := (RX0, TX0, 8)) (ci := 0) (q0 := 0) (As := [.int x0, .int x3, .int (z0_fetch_79 mem blk hdr ds pw rn wr cm x0 x1 x2)]) (rest := []) (wr := []) (m0_put l dC dI h0 h1 h2 h3 c1 c2 c3 _ mem blk hdr ds pw rn wr cm x0 x3 (z0_fetch_79 mem blk hdr ds pw rn wr cm x0 x1 x2) (sd0_fetch3 c_30)) ⟨hx, hb, hml, hown, hts⟩ (cwV 3 hts gX0_fetch_X0_put rfl rfl rfl (by decide +kernel) ⟨Nat.le_of_ble_eq_true rfl, Nat.le_of_ble_eq_true rfl⟩) hK hP hD hS hA rfl rfl [0, 1, 2, 3] [] rfl rfl rfl (by decide) (by decide) (by decide) rfl hl.1 rfl (Nat.le_of_ble_eq_true rfl) dX0_fetch_79 ⟨Nat.zero_le _, Nat.zero_le _⟩ (fun H locs hP hD hS => ?_)
        have hP : va_P (dC, dI) vwCl [(h0, .inr (0, [.ref h1, .ref h2, .ref h3, .int (ds ||| ((1 : Int32) <<< (x0 &&& 31))), .int pw, .int rn, .int wr, .int cm])), (h1, .inl (c1, 96, .inl (upd mem (x0 * 8 + x3).toNatClampNeg (z0_fetch_79 mem blk hdr ds pw rn wr cm x0 x1 x2)))), (h2, .inl (c2, 200, .inl blk)), (h3, .inl (c3, 8, .inl hdr))] _ := hP
        have hD : va_D _ [(h0, .inr (0, [.ref h1, .ref h2, .ref h3, .int (ds ||| ((1 : Int32) <<< (x0 &&& 31))), .int pw, .int rn, .int wr, .int cm])), (h1, .inl (c1, 96, .inl (upd mem (x0 * 8 + x3).toNatClampNeg (z0_fetch_79 mem blk hdr ds pw rn wr cm x0 x1 x2)))), (h2, .inl (c2, 200, .inl blk)), (h3, .inl (c3, 8, .inl hdr))] := hD
        refine lv_iconst (v := 0) hx hb dX0_fetch_82 (by decide) ?_
        have e9 : F0_fetch mem blk hdr ds pw rn wr cm x0 x1 x2 x3 = (0, (upd mem (x0 * 8 + x3).toNatClampNeg (z0_fetch_79 mem blk hdr ds pw rn wr cm x0 x1 x2)), blk, hdr, (ds ||| ((1 : Int32) <<< (x0 &&& 31))), pw, rn, wr, cm) := by unfold F0_fetch; rw [if_pos c_30]
        rw [e9]
        exact retWi hx hb hr hlocks rfl rfl rfl hK hP hD hS dX0_fetch_83
      · skip
        refine lv_aload_n hx hb dX0_fetch_56 rfl (lv_at hl 3 rfl) ?_
        refine lv_iload_n hx hb dX0_fetch_57 rfl (lv_at hl 4 rfl) ?_
        refine lv_iload hx hb dX0_fetch_58 (lv_at hl 7 rfl) ?_
        refine lv_iload hx hb dX0_fetch_60 (lv_at hl 1 rfl) ?_
        refine callSi (As := [.int (f0_get mem blk hdr ds pw rn wr cm x0 x1)]) (rest := [.int x3, .int x0, .ref h0]) (m0_isWeak l (f0_get mem blk hdr ds pw rn wr cm x0 x1)) ⟨hx, hb, hml, hown, hts⟩ (va_cwS 1 hts gX0_fetch_X0_isWeak rfl rfl rfl (by decide +kernel) ⟨Nat.le_of_ble_eq_true rfl, Nat.le_of_ble_eq_true rfl⟩) rfl hl.1 rfl (Nat.le_of_ble_eq_true rfl) dX0_fetch_62 ⟨Nat.zero_le _, Nat.zero_le _⟩ ?_
        refine lv_if_eq (tgt := 77) hx hb dX0_fetch_65 (by decide) (fun c_65 => ?_) (fun c_65 => ?_)
        · skip
          refine lv_iload hx hb dX0_fetch_77 (lv_at hl 0 rfl) ?_
          exact K (f0_get mem blk hdr ds pw rn wr cm (f0_objectOf (f0_get mem blk hdr ds pw rn wr cm x0 x1)) x2) (by unfold z0_fetch_79; rw [if_pos c_65])
        · skip
          refine lv_iload hx hb dX0_fetch_68 (lv_at hl 0 rfl) ?_
          refine lv_iconst (v := 3) hx hb dX0_fetch_70 (by decide) ?_
          refine callSi (As := [.int (f0_get mem blk hdr ds pw rn wr cm (f0_objectOf (f0_get mem blk hdr ds pw rn wr cm x0 x1)) x2), .int 3]) (rest := [.int x3, .int x0, .ref h0]) (m0_limited l (f0_get mem blk hdr ds pw rn wr cm (f0_objectOf (f0_get mem blk hdr ds pw rn wr cm x0 x1)) x2) 3) ⟨hx, hb, hml, hown, hts⟩ (va_cwS 2 hts gX0_fetch_X0_limited rfl rfl rfl (by decide +kernel) ⟨Nat.le_of_ble_eq_true rfl, Nat.le_of_ble_eq_true rfl⟩) rfl hl.1 rfl (Nat.le_of_ble_eq_true rfl) dX0_fetch_71 ⟨Nat.zero_le _, Nat.zero_le _⟩ ?_
          refine lv_goto (tgt := 79) hx hb dX0_fetch_74 (by decide) ?_
          exact K (f0_limited (f0_get mem blk hdr ds pw rn wr cm (f0_objectOf (f0_get mem blk hdr ds pw rn wr cm x0 x1)) x2) 3) (by unfold z0_fetch_79; rw [if_neg c_65])
    · skip
      refine lv_iload hx hb dX0_fetch_33 (lv_at hl 0 rfl) ?_
      have e9 : F0_fetch mem blk hdr ds pw rn wr cm x0 x1 x2 x3 = ((f0_nodeRefusal mem blk hdr ds pw rn wr cm x0 x1 (z0_fetch_23 x2 x3)), mem, blk, hdr, ds, pw, rn, wr, cm) := by unfold F0_fetch; rw [if_neg c_30]
      rw [e9]
      exact retWi hx hb hr hlocks rfl rfl rfl hK hP hD hS dX0_fetch_35
  · skip
    refine lv_aload_n hx hb dX0_fetch_0 rfl (lv_at hl 0 rfl) ?_
    refine lv_iload_n hx hb dX0_fetch_1 rfl (lv_at hl 1 rfl) ?_
    refine lv_iload_n hx hb dX0_fetch_2 rfl (lv_at hl 2 rfl) ?_
    refine lv_iload_n hx hb dX0_fetch_3 rfl (lv_at hl 3 rfl) ?_
    refine callSi (As := [.int x2]) (rest := [.int x1, .int x0, .ref h0]) (m0_isInRow l x2) ⟨hx, hb, hml, hown, hts⟩ (va_cwS 1 hts gX0_fetch_X0_isInRow rfl rfl rfl (by decide +kernel) ⟨Nat.le_of_ble_eq_true rfl, Nat.le_of_ble_eq_true rfl⟩) rfl hl.1 rfl (Nat.le_of_ble_eq_true rfl) dX0_fetch_4 ⟨Nat.zero_le _, Nat.zero_le _⟩ ?_
    refine lv_if_eq (tgt := 22) hx hb dX0_fetch_7 (by decide) (fun c_7 => ?_) (fun c_7 => ?_)
    · skip
      refine lv_iconst (v := 0) hx hb dX0_fetch_22 (by decide) ?_
      exact K 0 (by unfold z0_fetch_23; rw [if_pos c_7])
    · skip
      refine lv_iload hx hb dX0_fetch_10 (lv_at hl 4 rfl) ?_
      refine callSi (As := [.int x3]) (rest := [.int x1, .int x0, .ref h0]) (m0_isInRow l x3) ⟨hx, hb, hml, hown, hts⟩ (va_cwS 1 hts gX0_fetch_X0_isInRow rfl rfl rfl (by decide +kernel) ⟨Nat.le_of_ble_eq_true rfl, Nat.le_of_ble_eq_true rfl⟩) rfl hl.1 rfl (Nat.le_of_ble_eq_true rfl) dX0_fetch_12 ⟨Nat.zero_le _, Nat.zero_le _⟩ ?_
      refine lv_if_eq (tgt := 22) hx hb dX0_fetch_15 (by decide) (fun c_15 => ?_) (fun c_15 => ?_)
      · skip
        refine lv_iconst (v := 0) hx hb dX0_fetch_22 (by decide) ?_
        exact K 0 (by unfold z0_fetch_23; rw [if_neg c_7, if_pos c_15])
      · skip
        refine lv_iconst (v := 1) hx hb dX0_fetch_18 (by decide) ?_
        refine lv_goto (tgt := 23) hx hb dX0_fetch_19 (by decide) ?_
        exact K 1 (by unfold z0_fetch_23; rw [if_neg c_7, if_neg c_15])
set_option maxHeartbeats 4000000 in
set_option maxRecDepth 100000 in
theorem m0_store (l : Launch) (dC : Nat → ClassId) (dI : Nat → Nat → Nat) (h0 h1 h2 h3 : Nat) (c1 c2 c3 : ClassId) (sz : Nat) (mem blk hdr : Nat → Int32) (ds pw rn wr cm : Int32) (x0 : Int32) (x1 : Int32) (x2 : Int32) (x3 : Int32) : Met l yX0_store wsX0_store ({ frames := 3, cells := 0, slots := 0, locals := 65 }) (pcW (dC, dI) (k0 c1 c2 c3) (w0 h0 h1 h2 h3 c1 c2 c3 (mem, blk, hdr, ds, pw, rn, wr, cm)) sz [.ref h0, .int x0, .int x1, .int x2, .int x3]) (qcWi (dC, dI) (k0 c1 c2 c3) (w0 h0 h1 h2 h3 c1 c2 c3 (mem, blk, hdr, ds, pw, rn, wr, cm)) (w0 h0 h1 h2 h3 c1 c2 c3 (F0_store mem blk hdr ds pw rn wr cm x0 x1 x2 x3).2) sz (F0_store mem blk hdr ds pw rn wr cm x0 x1 x2 x3).1) 0 0 (va_A (w0 h0 h1 h2 h3 c1 c2 c3 (mem, blk, hdr, ds, pw, rn, wr, cm)) sz) := by
  refine Met.ofW (cc := cX0_store) (maxL := 7) (ret := (some .int)) (by decide) rfl ?_
  intro p e s m args below meth c s₁ B hml hv
  obtain ⟨rfl, hsz, hP, hK, hD0⟩ := hv
  have hx := B.exec
  have hb := B.bytes
  have hr := B.returns
  have hts := atoms_spec (ws := wsX0_store) B.pre
  have hown : s.vm.findClass RX0 = some m.cls := findClass_of_methodNamed B.named
  have hlocks := B.notSynchronized
  have hP : va_P (dC, dI) vwCl [(h0, .inr (0, [.ref h1, .ref h2, .ref h3, .int ds, .int pw, .int rn, .int wr, .int cm])), (h1, .inl (c1, 96, .inl mem)), (h2, .inl (c2, 200, .inl blk)), (h3, .inl (c3, 8, .inl hdr))] s.heap := hP
  subst hsz
  have hD := hD0.self (sz := s.heap.size)
  have hA : ∀ q : Nat, s.heap.size ≤ q → (va_A (w0 h0 h1 h2 h3 c1 c2 c3 (mem, blk, hdr, ds, pw, rn, wr, cm)) s.heap.size) q := fun q h => Or.inr h
  have hS : va_S (va_A (w0 h0 h1 h2 h3 c1 c2 c3 (mem, blk, hdr, ds, pw, rn, wr, cm)) s.heap.size) s.heap s.heap [] := va_S.rf
  have hl := lv_entry ([.ref h0, .int x0, .int x1, .int x2, .int x3]) (n := 7) (Nat.le_of_ble_eq_true rfl)
  rw [lg_entry_eq]
  generalize (lg_sl ([.ref h0, .int x0, .int x1, .int x2, .int x3]) ++ List.replicate (7 - (lg_sl ([.ref h0, .int x0, .int x1, .int x2, .int x3])).length) Slot.unset).toArray = ls at hl ⊢
  have hl : lv_has ls 7 [(0, .ref h0), (1, .int x0), (2, .int x1), (3, .int x2), (4, .int x3)] := hl
  refine w_cut 23 [.int x1, .int x0, .ref h0] (z0_store_23 x2 x3) (fun z ez => ?_) (fun K => ?_)
  · subst ez
    refine callRi (q := (RX0, TX0, 8)) (ci := 0) (q0 := 0) (As := [.int x0, .int x1, .int (z0_store_23 x2 x3)]) (rest := []) (m0_nodeRefusal l dC dI h0 h1 h2 h3 c1 c2 c3 mem blk hdr ds pw rn wr cm x0 x1 (z0_store_23 x2 x3) ) ⟨hx, hb, hml, hown, hts⟩ (cwV 3 hts gX0_store_X0_nodeRefusal rfl rfl rfl (by decide +kernel) ⟨Nat.le_of_ble_eq_true rfl, Nat.le_of_ble_eq_true rfl⟩) hK hP rfl rfl rfl hl.1 rfl (Nat.le_of_ble_eq_true rfl) dX0_store_23 ⟨Nat.zero_le _, Nat.zero_le _⟩ ?_
    refine lv_istore (lv' := [(5, .int (f0_nodeRefusal mem blk hdr ds pw rn wr cm x0 x1 (z0_store_23 x2 x3))), (0, .ref h0), (1, .int x0), (2, .int x1), (3, .int x2), (4, .int x3)]) hx hb dX0_store_26 hl (by decide) rfl (fun ls hl => ?_)
    refine lv_iload hx hb dX0_store_28 (lv_at hl 0 rfl) ?_
    refine lv_if_eq (tgt := 36) hx hb dX0_store_30 (by decide) (fun c_30 => ?_) (fun c_30 => ?_)
    · skip
      refine lv_aload_n hx hb dX0_store_36 rfl (lv_at hl 1 rfl) ?_
      refine lv_iload_n hx hb dX0_store_37 rfl (lv_at hl 2 rfl) ?_
      refine lv_iload_n hx hb dX0_store_38 rfl (lv_at hl 3 rfl) ?_
      refine callRi (q := (RX0, TX0, 8)) (ci := 0) (q0 := 0) (As := [.int x0, .int x1]) (rest := []) (m0_get l dC dI h0 h1 h2 h3 c1 c2 c3 mem blk hdr ds pw rn wr cm x0 x1 (sd0_store1 c_30)) ⟨hx, hb, hml, hown, hts⟩ (cwV 2 hts gX0_store_X0_get rfl rfl rfl (by decide +kernel) ⟨Nat.le_of_ble_eq_true rfl, Nat.le_of_ble_eq_true rfl⟩) hK hP rfl rfl rfl hl.1 rfl (Nat.le_of_ble_eq_true rfl) dX0_store_39 ⟨Nat.zero_le _, Nat.zero_le _⟩ ?_
      refine lv_istore (lv' := [(6, .int (f0_get mem blk hdr ds pw rn wr cm x0 x1)), (5, .int (f0_nodeRefusal mem blk hdr ds pw rn wr cm x0 x1 (z0_store_23 x2 x3))), (0, .ref h0), (1, .int x0), (2, .int x1), (3, .int x2), (4, .int x3)]) hx hb dX0_store_42 hl (by decide) rfl (fun ls hl => ?_)
      refine lv_iload hx hb dX0_store_44 (lv_at hl 0 rfl) ?_
      refine callSi (As := [.int (f0_get mem blk hdr ds pw rn wr cm x0 x1)]) (rest := []) (m0_isWriting l (f0_get mem blk hdr ds pw rn wr cm x0 x1)) ⟨hx, hb, hml, hown, hts⟩ (va_cwS 1 hts gX0_store_X0_isWriting rfl rfl rfl (by decide +kernel) ⟨Nat.le_of_ble_eq_true rfl, Nat.le_of_ble_eq_true rfl⟩) rfl hl.1 rfl (Nat.le_of_ble_eq_true rfl) dX0_store_46 ⟨Nat.zero_le _, Nat.zero_le _⟩ ?_
      refine lv_if_ne (tgt := 55) hx hb dX0_store_49 (by decide) (fun c_49 => ?_) (fun c_49 => ?_)
      · skip
        refine lv_aload_n hx hb dX0_store_55 rfl (lv_at hl 2 rfl) ?_
        refine lv_iload hx hb dX0_store_56 (lv_at hl 0 rfl) ?_
        refine callSi (As := [.int (f0_get mem blk hdr ds pw rn wr cm x0 x1)]) (rest := [.ref h0]) (m0_objectOf l (f0_get mem blk hdr ds pw rn wr cm x0 x1)) ⟨hx, hb, hml, hown, hts⟩ (va_cwS 1 hts gX0_store_X0_objectOf rfl rfl rfl (by decide +kernel) ⟨Nat.le_of_ble_eq_true rfl, Nat.le_of_ble_eq_true rfl⟩) rfl hl.1 rfl (Nat.le_of_ble_eq_true rfl) dX0_store_58 ⟨Nat.zero_le _, Nat.zero_le _⟩ ?_
        refine lv_iload_n hx hb dX0_store_61 rfl (lv_at hl 5 rfl) ?_
        refine lv_aload_n hx hb dX0_store_62 rfl (lv_at hl 2 rfl) ?_
        refine lv_iload_n hx hb dX0_store_63 rfl (lv_at hl 3 rfl) ?_
        refine lv_iload hx hb dX0_store_64 (lv_at hl 6 rfl) ?_
        refine callRi (q := (RX0, TX0, 8)) (ci := 0) (q0 := 0) (As := [.int x0, .int x3]) (rest := [.int x2, .int (f0_objectOf (f0_get mem blk hdr ds pw rn wr cm x0 x1)), .ref h0]) (m0_get l dC dI h0 h1 h2 h3 c1 c2 c3 mem blk hdr ds pw rn wr cm x0 x3 (sd0_store3 c_30)) ⟨hx, hb, hml, hown, hts⟩ (cwV 2 hts gX0_store_X0_get rfl rfl rfl (by decide +kernel) ⟨Nat.le_of_ble_eq_true rfl, Nat.le_of_ble_eq_true rfl⟩) hK hP rfl rfl rfl hl.1 rfl (Nat.le_of_ble_eq_true rfl) dX0_store_66 ⟨Nat.zero_le _, Nat.zero_le _⟩ ?_
        refine callWv (q := (RX0, TX0, 8)) (ci := 0) (q0 := 0) (As := [.int (f0_objectOf (f0_get mem blk hdr ds pw rn wr cm x0 x1)), .int x2, .int (f0_get mem blk hdr ds pw rn wr cm x0 x3)]) (rest := []) (wr := []) (m0_put l dC dI h0 h1 h2 h3 c1 c2 c3 _ mem blk hdr ds pw rn wr cm (f0_objectOf (f0_get mem blk hdr ds pw rn wr cm x0 x1)) x2 (f0_get mem blk hdr ds pw rn wr cm x0 x3) (sd0_store2 c_30)) ⟨hx, hb, hml, hown, hts⟩ (cwV 3 hts gX0_store_X0_put rfl rfl rfl (by decide +kernel) ⟨Nat.le_of_ble_eq_true rfl, Nat.le_of_ble_eq_true rfl⟩) hK hP hD hS hA rfl rfl [0, 1, 2, 3] [] rfl rfl rfl (by decide) (by decide) (by decide) rfl hl.1 rfl (Nat.le_of_ble_eq_true rfl) dX0_store_69 ⟨Nat.zero_le _, Nat.zero_le _⟩ (fun H locs hP hD hS => ?_)
        have hP : va_P (dC, dI) vwCl [(h0, .inr (0, [.ref h1, .ref h2, .ref h3, .int (ds ||| ((1 : Int32) <<< ((f0_objectOf (f0_get mem blk hdr ds pw rn wr cm x0 x1)) &&& 31))), .int pw, .int rn, .int wr, .int cm])), (h1, .inl (c1, 96, .inl (upd mem ((f0_objectOf (f0_get mem blk hdr ds pw rn wr cm x0 x1)) * 8 + x2).toNatClampNeg (f0_get mem blk hdr ds pw rn wr cm x0 x3)))), (h2, .inl (c2, 200, .inl blk)), (h3, .inl (c3, 8, .inl hdr))] _ := hP
        have hD : va_D _ [(h0, .inr (0, [.ref h1, .ref h2, .ref h3, .int (ds ||| ((1 : Int32) <<< ((f0_objectOf (f0_get mem blk hdr ds pw rn wr cm x0 x1)) &&& 31))), .int pw, .int rn, .int wr, .int cm])), (h1, .inl (c1, 96, .inl (upd mem ((f0_objectOf (f0_get mem blk hdr ds pw rn wr cm x0 x1)) * 8 + x2).toNatClampNeg (f0_get mem blk hdr ds pw rn wr cm x0 x3)))), (h2, .inl (c2, 200, .inl blk)), (h3, .inl (c3, 8, .inl hdr))] := hD
        refine lv_iconst (v := 0) hx hb dX0_store_72 (by decide) ?_
        have e9 : F0_store mem blk hdr ds pw rn wr cm x0 x1 x2 x3 = (0, (upd mem ((f0_objectOf (f0_get mem blk hdr ds pw rn wr cm x0 x1)) * 8 + x2).toNatClampNeg (f0_get mem blk hdr ds pw rn wr cm x0 x3)), blk, hdr, (ds ||| ((1 : Int32) <<< ((f0_objectOf (f0_get mem blk hdr ds pw rn wr cm x0 x1)) &&& 31))), pw, rn, wr, cm) := by unfold F0_store; rw [if_pos c_30, if_neg c_49]
        rw [e9]
        exact retWi hx hb hr hlocks rfl rfl rfl hK hP hD hS dX0_store_73
      · skip
        refine lv_bipush (v := (-4)) hx hb dX0_store_52 (by decide) ?_
        have e9 : F0_store mem blk hdr ds pw rn wr cm x0 x1 x2 x3 = ((-4), mem, blk, hdr, ds, pw, rn, wr, cm) := by unfold F0_store; rw [if_pos c_30, if_pos c_49]
        rw [e9]
        exact retWi hx hb hr hlocks rfl rfl rfl hK hP hD hS dX0_store_54
    · skip
      refine lv_iload hx hb dX0_store_33 (lv_at hl 0 rfl) ?_
      have e9 : F0_store mem blk hdr ds pw rn wr cm x0 x1 x2 x3 = ((f0_nodeRefusal mem blk hdr ds pw rn wr cm x0 x1 (z0_store_23 x2 x3)), mem, blk, hdr, ds, pw, rn, wr, cm) := by unfold F0_store; rw [if_neg c_30]
      rw [e9]
      exact retWi hx hb hr hlocks rfl rfl rfl hK hP hD hS dX0_store_35
  · skip
    refine lv_aload_n hx hb dX0_store_0 rfl (lv_at hl 0 rfl) ?_
    refine lv_iload_n hx hb dX0_store_1 rfl (lv_at hl 1 rfl) ?_
    refine lv_iload_n hx hb dX0_store_2 rfl (lv_at hl 2 rfl) ?_
    refine lv_iload_n hx hb dX0_store_3 rfl (lv_at hl 3 rfl) ?_
    refine callSi (As := [.int x2]) (rest := [.int x1, .int x0, .ref h0]) (m0_isInRow l x2) ⟨hx, hb, hml, hown, hts⟩ (va_cwS 1 hts gX0_store_X0_isInRow rfl rfl rfl (by decide +kernel) ⟨Nat.le_of_ble_eq_true rfl, Nat.le_of_ble_eq_true rfl⟩) rfl hl.1 rfl (Nat.le_of_ble_eq_true rfl) dX0_store_4 ⟨Nat.zero_le _, Nat.zero_le _⟩ ?_
    refine lv_if_eq (tgt := 22) hx hb dX0_store_7 (by decide) (fun c_7 => ?_) (fun c_7 => ?_)
    · skip
      refine lv_iconst (v := 0) hx hb dX0_store_22 (by decide) ?_
      exact K 0 (by unfold z0_store_23; rw [if_pos c_7])
    · skip
      refine lv_iload hx hb dX0_store_10 (lv_at hl 4 rfl) ?_
      refine callSi (As := [.int x3]) (rest := [.int x1, .int x0, .ref h0]) (m0_isInRow l x3) ⟨hx, hb, hml, hown, hts⟩ (va_cwS 1 hts gX0_store_X0_isInRow rfl rfl rfl (by decide +kernel) ⟨Nat.le_of_ble_eq_true rfl, Nat.le_of_ble_eq_true rfl⟩) rfl hl.1 rfl (Nat.le_of_ble_eq_true rfl) dX0_store_12 ⟨Nat.zero_le _, Nat.zero_le _⟩ ?_
      refine lv_if_eq (tgt := 22) hx hb dX0_store_15 (by decide) (fun c_15 => ?_) (fun c_15 => ?_)
      · skip
        refine lv_iconst (v := 0) hx hb dX0_store_22 (by decide) ?_
        exact K 0 (by unfold z0_store_23; rw [if_neg c_7, if_pos c_15])
      · skip
        refine lv_iconst (v := 1) hx hb dX0_store_18 (by decide) ?_
        refine lv_goto (tgt := 23) hx hb dX0_store_19 (by decide) ?_
        exact K 1 (by unfold z0_store_23; rw [if_neg c_7, if_neg c_15])
set_option maxHeartbeats 4000000 in
set_option maxRecDepth 100000 in
theorem m0_write (l : Launch) (dC : Nat → ClassId) (dI : Nat → Nat → Nat) (h0 h1 h2 h3 : Nat) (c1 c2 c3 : ClassId) (sz : Nat) (mem blk hdr : Nat → Int32) (ds pw rn wr cm : Int32) (x0 : Int32) (x1 : Int32) (x2 : Int32) (x3 : Int32) : Met l yX0_write wsX0_write ({ frames := 3, cells := 0, slots := 0, locals := 65 }) (pcW (dC, dI) (k0 c1 c2 c3) (w0 h0 h1 h2 h3 c1 c2 c3 (mem, blk, hdr, ds, pw, rn, wr, cm)) sz [.ref h0, .int x0, .int x1, .int x2, .int x3]) (qcWi (dC, dI) (k0 c1 c2 c3) (w0 h0 h1 h2 h3 c1 c2 c3 (mem, blk, hdr, ds, pw, rn, wr, cm)) (w0 h0 h1 h2 h3 c1 c2 c3 (F0_write mem blk hdr ds pw rn wr cm x0 x1 x2 x3).2) sz (F0_write mem blk hdr ds pw rn wr cm x0 x1 x2 x3).1) 0 0 (va_A (w0 h0 h1 h2 h3 c1 c2 c3 (mem, blk, hdr, ds, pw, rn, wr, cm)) sz) := by
  refine Met.ofW (cc := cX0_write) (maxL := 7) (ret := (some .int)) (by decide) rfl ?_
  intro p e s m args below meth c s₁ B hml hv
  obtain ⟨rfl, hsz, hP, hK, hD0⟩ := hv
  have hx := B.exec
  have hb := B.bytes
  have hr := B.returns
  have hts := atoms_spec (ws := wsX0_write) B.pre
  have hown : s.vm.findClass RX0 = some m.cls := findClass_of_methodNamed B.named
  have hlocks := B.notSynchronized
  have hP : va_P (dC, dI) vwCl [(h0, .inr (0, [.ref h1, .ref h2, .ref h3, .int ds, .int pw, .int rn, .int wr, .int cm])), (h1, .inl (c1, 96, .inl mem)), (h2, .inl (c2, 200, .inl blk)), (h3, .inl (c3, 8, .inl hdr))] s.heap := hP
  subst hsz
  have hD := hD0.self (sz := s.heap.size)
  have hA : ∀ q : Nat, s.heap.size ≤ q → (va_A (w0 h0 h1 h2 h3 c1 c2 c3 (mem, blk, hdr, ds, pw, rn, wr, cm)) s.heap.size) q := fun q h => Or.inr h
  have hS : va_S (va_A (w0 h0 h1 h2 h3 c1 c2 c3 (mem, blk, hdr, ds, pw, rn, wr, cm)) s.heap.size) s.heap s.heap [] := va_S.rf
  have hl := lv_entry ([.ref h0, .int x0, .int x1, .int x2, .int x3]) (n := 7) (Nat.le_of_ble_eq_true rfl)
  rw [lg_entry_eq]
  generalize (lg_sl ([.ref h0, .int x0, .int x1, .int x2, .int x3]) ++ List.replicate (7 - (lg_sl ([.ref h0, .int x0, .int x1, .int x2, .int x3])).length) Slot.unset).toArray = ls at hl ⊢
  have hl : lv_has ls 7 [(0, .ref h0), (1, .int x0), (2, .int x1), (3, .int x2), (4, .int x3)] := hl
  refine lv_aload_n hx hb dX0_write_0 rfl (lv_at hl 0 rfl) ?_
  refine lv_iload_n hx hb dX0_write_1 rfl (lv_at hl 1 rfl) ?_
  refine lv_iload_n hx hb dX0_write_2 rfl (lv_at hl 2 rfl) ?_
  refine lv_iload_n hx hb dX0_write_3 rfl (lv_at hl 3 rfl) ?_
  refine callSi (As := [.int x2]) (rest := [.int x1, .int x0, .ref h0]) (m0_isInRow l x2) ⟨hx, hb, hml, hown, hts⟩ (va_cwS 1 hts gX0_write_X0_isInRow rfl rfl rfl (by decide +kernel) ⟨Nat.le_of_ble_eq_true rfl, Nat.le_of_ble_eq_true rfl⟩) rfl hl.1 rfl (Nat.le_of_ble_eq_true rfl) dX0_write_4 ⟨Nat.zero_le _, Nat.zero_le _⟩ ?_
  refine callRi (q := (RX0, TX0, 8)) (ci := 0) (q0 := 0) (As := [.int x0, .int x1, .int (f0_isInRow x2)]) (rest := []) (m0_pageRefusal l dC dI h0 h1 h2 h3 c1 c2 c3 mem blk hdr ds pw rn wr cm x0 x1 (f0_isInRow x2) ) ⟨hx, hb, hml, hown, hts⟩ (cwV 3 hts gX0_write_X0_pageRefusal rfl rfl rfl (by decide +kernel) ⟨Nat.le_of_ble_eq_true rfl, Nat.le_of_ble_eq_true rfl⟩) hK hP rfl rfl rfl hl.1 rfl (Nat.le_of_ble_eq_true rfl) dX0_write_7 ⟨Nat.zero_le _, Nat.zero_le _⟩ ?_
  refine lv_istore (lv' := [(5, .int (f0_pageRefusal mem blk hdr ds pw rn wr cm x0 x1 (f0_isInRow x2))), (0, .ref h0), (1, .int x0), (2, .int x1), (3, .int x2), (4, .int x3)]) hx hb dX0_write_10 hl (by decide) rfl (fun ls hl => ?_)
  refine lv_iload hx hb dX0_write_12 (lv_at hl 0 rfl) ?_
  refine lv_if_eq (tgt := 20) hx hb dX0_write_14 (by decide) (fun c_14 => ?_) (fun c_14 => ?_)
  · skip
    refine lv_aload_n hx hb dX0_write_20 rfl (lv_at hl 1 rfl) ?_
    refine lv_iload_n hx hb dX0_write_21 rfl (lv_at hl 2 rfl) ?_
    refine lv_iload_n hx hb dX0_write_22 rfl (lv_at hl 3 rfl) ?_
    refine callRi (q := (RX0, TX0, 8)) (ci := 0) (q0 := 0) (As := [.int x0, .int x1]) (rest := []) (m0_get l dC dI h0 h1 h2 h3 c1 c2 c3 mem blk hdr ds pw rn wr cm x0 x1 (sd0_read1 c_14)) ⟨hx, hb, hml, hown, hts⟩ (cwV 2 hts gX0_write_X0_get rfl rfl rfl (by decide +kernel) ⟨Nat.le_of_ble_eq_true rfl, Nat.le_of_ble_eq_true rfl⟩) hK hP rfl rfl rfl hl.1 rfl (Nat.le_of_ble_eq_true rfl) dX0_write_23 ⟨Nat.zero_le _, Nat.zero_le _⟩ ?_
    refine lv_istore (lv' := [(6, .int (f0_get mem blk hdr ds pw rn wr cm x0 x1)), (5, .int (f0_pageRefusal mem blk hdr ds pw rn wr cm x0 x1 (f0_isInRow x2))), (0, .ref h0), (1, .int x0), (2, .int x1), (3, .int x2), (4, .int x3)]) hx hb dX0_write_26 hl (by decide) rfl (fun ls hl => ?_)
    refine lv_iload hx hb dX0_write_28 (lv_at hl 0 rfl) ?_
    refine callSi (As := [.int (f0_get mem blk hdr ds pw rn wr cm x0 x1)]) (rest := []) (m0_isWriting l (f0_get mem blk hdr ds pw rn wr cm x0 x1)) ⟨hx, hb, hml, hown, hts⟩ (va_cwS 1 hts gX0_write_X0_isWriting rfl rfl rfl (by decide +kernel) ⟨Nat.le_of_ble_eq_true rfl, Nat.le_of_ble_eq_true rfl⟩) rfl hl.1 rfl (Nat.le_of_ble_eq_true rfl) dX0_write_30 ⟨Nat.zero_le _, Nat.zero_le _⟩ ?_
    refine lv_if_ne (tgt := 39) hx hb dX0_write_33 (by decide) (fun c_33 => ?_) (fun c_33 => ?_)
    · skip
      refine lv_aload_n hx hb dX0_write_39 rfl (lv_at hl 2 rfl) ?_
      refine lv_iload hx hb dX0_write_40 (lv_at hl 0 rfl) ?_
      refine callSi (As := [.int (f0_get mem blk hdr ds pw rn wr cm x0 x1)]) (rest := [.ref h0]) (m0_objectOf l (f0_get mem blk hdr ds pw rn wr cm x0 x1)) ⟨hx, hb, hml, hown, hts⟩ (va_cwS 1 hts gX0_write_X0_objectOf rfl rfl rfl (by decide +kernel) ⟨Nat.le_of_ble_eq_true rfl, Nat.le_of_ble_eq_true rfl⟩) rfl hl.1 rfl (Nat.le_of_ble_eq_true rfl) dX0_write_42 ⟨Nat.zero_le _, Nat.zero_le _⟩ ?_
      refine lv_iload_n hx hb dX0_write_45 rfl (lv_at hl 5 rfl) ?_
      refine lv_iload hx hb dX0_write_46 (lv_at hl 6 rfl) ?_
      refine callWv (q := (RX0, TX0, 8)) (ci := 0) (q0 := 0) (As := [.int (f0_objectOf (f0_get mem blk hdr ds pw rn wr cm x0 x1)), .int x2, .int x3]) (rest := []) (wr := []) (m0_put l dC dI h0 h1 h2 h3 c1 c2 c3 _ mem blk hdr ds pw rn wr cm (f0_objectOf (f0_get mem blk hdr ds pw rn wr cm x0 x1)) x2 x3 (sd0_read2 c_14)) ⟨hx, hb, hml, hown, hts⟩ (cwV 3 hts gX0_write_X0_put rfl rfl rfl (by decide +kernel) ⟨Nat.le_of_ble_eq_true rfl, Nat.le_of_ble_eq_true rfl⟩) hK hP hD hS hA rfl rfl [0, 1, 2, 3] [] rfl rfl rfl (by decide) (by decide) (by decide) rfl hl.1 rfl (Nat.le_of_ble_eq_true rfl) dX0_write_48 ⟨Nat.zero_le _, Nat.zero_le _⟩ (fun H locs hP hD hS => ?_)
      have hP : va_P (dC, dI) vwCl [(h0, .inr (0, [.ref h1, .ref h2, .ref h3, .int (ds ||| ((1 : Int32) <<< ((f0_objectOf (f0_get mem blk hdr ds pw rn wr cm x0 x1)) &&& 31))), .int pw, .int rn, .int wr, .int cm])), (h1, .inl (c1, 96, .inl (upd mem ((f0_objectOf (f0_get mem blk hdr ds pw rn wr cm x0 x1)) * 8 + x2).toNatClampNeg x3))), (h2, .inl (c2, 200, .inl blk)), (h3, .inl (c3, 8, .inl hdr))] _ := hP
      have hD : va_D _ [(h0, .inr (0, [.ref h1, .ref h2, .ref h3, .int (ds ||| ((1 : Int32) <<< ((f0_objectOf (f0_get mem blk hdr ds pw rn wr cm x0 x1)) &&& 31))), .int pw, .int rn, .int wr, .int cm])), (h1, .inl (c1, 96, .inl (upd mem ((f0_objectOf (f0_get mem blk hdr ds pw rn wr cm x0 x1)) * 8 + x2).toNatClampNeg x3))), (h2, .inl (c2, 200, .inl blk)), (h3, .inl (c3, 8, .inl hdr))] := hD
      refine lv_iconst (v := 0) hx hb dX0_write_51 (by decide) ?_
      have e9 : F0_write mem blk hdr ds pw rn wr cm x0 x1 x2 x3 = (0, (upd mem ((f0_objectOf (f0_get mem blk hdr ds pw rn wr cm x0 x1)) * 8 + x2).toNatClampNeg x3), blk, hdr, (ds ||| ((1 : Int32) <<< ((f0_objectOf (f0_get mem blk hdr ds pw rn wr cm x0 x1)) &&& 31))), pw, rn, wr, cm) := by unfold F0_write; rw [if_pos c_14, if_neg c_33]
      rw [e9]
      exact retWi hx hb hr hlocks rfl rfl rfl hK hP hD hS dX0_write_52
    · skip
      refine lv_bipush (v := (-4)) hx hb dX0_write_36 (by decide) ?_
      have e9 : F0_write mem blk hdr ds pw rn wr cm x0 x1 x2 x3 = ((-4), mem, blk, hdr, ds, pw, rn, wr, cm) := by unfold F0_write; rw [if_pos c_14, if_pos c_33]
      rw [e9]
      exact retWi hx hb hr hlocks rfl rfl rfl hK hP hD hS dX0_write_38
  · skip
    refine lv_iload hx hb dX0_write_17 (lv_at hl 0 rfl) ?_
    have e9 : F0_write mem blk hdr ds pw rn wr cm x0 x1 x2 x3 = ((f0_pageRefusal mem blk hdr ds pw rn wr cm x0 x1 (f0_isInRow x2)), mem, blk, hdr, ds, pw, rn, wr, cm) := by unfold F0_write; rw [if_neg c_14]
    rw [e9]
    exact retWi hx hb hr hlocks rfl rfl rfl hK hP hD hS dX0_write_19
set_option maxHeartbeats 4000000 in
set_option maxRecDepth 100000 in
theorem m0_restrict (l : Launch) (dC : Nat → ClassId) (dI : Nat → Nat → Nat) (h0 h1 h2 h3 : Nat) (c1 c2 c3 : ClassId) (sz : Nat) (mem blk hdr : Nat → Int32) (ds pw rn wr cm : Int32) (x0 : Int32) (x1 : Int32) (x2 : Int32) (x3 : Int32) : Met l yX0_restrict wsX0_restrict ({ frames := 2, cells := 0, slots := 0, locals := 41 }) (pcW (dC, dI) (k0 c1 c2 c3) (w0 h0 h1 h2 h3 c1 c2 c3 (mem, blk, hdr, ds, pw, rn, wr, cm)) sz [.ref h0, .int x0, .int x1, .int x2, .int x3]) (qcWi (dC, dI) (k0 c1 c2 c3) (w0 h0 h1 h2 h3 c1 c2 c3 (mem, blk, hdr, ds, pw, rn, wr, cm)) (w0 h0 h1 h2 h3 c1 c2 c3 (F0_restrict mem blk hdr ds pw rn wr cm x0 x1 x2 x3).2) sz (F0_restrict mem blk hdr ds pw rn wr cm x0 x1 x2 x3).1) 0 0 (va_A (w0 h0 h1 h2 h3 c1 c2 c3 (mem, blk, hdr, ds, pw, rn, wr, cm)) sz) := by
  refine Met.ofW (cc := cX0_restrict) (maxL := 6) (ret := (some .int)) (by decide) rfl ?_
  intro p e s m args below meth c s₁ B hml hv
  obtain ⟨rfl, hsz, hP, hK, hD0⟩ := hv
  have hx := B.exec
  have hb := B.bytes
  have hr := B.returns
  have hts := atoms_spec (ws := wsX0_restrict) B.pre
  have hown : s.vm.findClass RX0 = some m.cls := findClass_of_methodNamed B.named
  have hlocks := B.notSynchronized
  have hP : va_P (dC, dI) vwCl [(h0, .inr (0, [.ref h1, .ref h2, .ref h3, .int ds, .int pw, .int rn, .int wr, .int cm])), (h1, .inl (c1, 96, .inl mem)), (h2, .inl (c2, 200, .inl blk)), (h3, .inl (c3, 8, .inl hdr))] s.heap := hP
  subst hsz
  have hD := hD0.self (sz := s.heap.size)
  have hA : ∀ q : Nat, s.heap.size ≤ q → (va_A (w0 h0 h1 h2 h3 c1 c2 c3 (mem, blk, hdr, ds, pw, rn, wr, cm)) s.heap.size) q := fun q h => Or.inr h
  have hS : va_S (va_A (w0 h0 h1 h2 h3 c1 c2 c3 (mem, blk, hdr, ds, pw, rn, wr, cm)) s.heap.size) s.heap s.heap [] := va_S.rf
  have hl := lv_entry ([.ref h0, .int x0, .int x1, .int x2, .int x3]) (n := 6) (Nat.le_of_ble_eq_true rfl)
  rw [lg_entry_eq]
  generalize (lg_sl ([.ref h0, .int x0, .int x1, .int x2, .int x3]) ++ List.replicate (6 - (lg_sl ([.ref h0, .int x0, .int x1, .int x2, .int x3])).length) Slot.unset).toArray = ls at hl ⊢
  have hl : lv_has ls 6 [(0, .ref h0), (1, .int x0), (2, .int x1), (3, .int x2), (4, .int x3)] := hl
  refine w_cut 29 [.ref h0] (z0_restrict_29 x0 x1 x2 x3) (fun z ez => ?_) (fun K => ?_)
  · subst ez
    refine callRi (q := (RX0, TX0, 8)) (ci := 0) (q0 := 0) (As := [.int (z0_restrict_29 x0 x1 x2 x3)]) (rest := []) (m0_refusal l dC dI h0 h1 h2 h3 c1 c2 c3 mem blk hdr ds pw rn wr cm (z0_restrict_29 x0 x1 x2 x3) ) ⟨hx, hb, hml, hown, hts⟩ (cwV 1 hts gX0_restrict_X0_refusal rfl rfl rfl (by decide +kernel) ⟨Nat.le_of_ble_eq_true rfl, Nat.le_of_ble_eq_true rfl⟩) hK hP rfl rfl rfl hl.1 rfl (Nat.le_of_ble_eq_true rfl) dX0_restrict_29 ⟨Nat.zero_le _, Nat.zero_le _⟩ ?_
    refine lv_istore (lv' := [(5, .int (f0_refusal mem blk hdr ds pw rn wr cm (z0_restrict_29 x0 x1 x2 x3))), (0, .ref h0), (1, .int x0), (2, .int x1), (3, .int x2), (4, .int x3)]) hx hb dX0_restrict_32 hl (by decide) rfl (fun ls hl => ?_)
    refine lv_iload hx hb dX0_restrict_34 (lv_at hl 0 rfl) ?_
    refine lv_if_eq (tgt := 42) hx hb dX0_restrict_36 (by decide) (fun c_36 => ?_) (fun c_36 => ?_)
    · skip
      refine lv_aload_n hx hb dX0_restrict_42 rfl (lv_at hl 1 rfl) ?_
      refine lv_iload_n hx hb dX0_restrict_43 rfl (lv_at hl 2 rfl) ?_
      refine lv_iload hx hb dX0_restrict_44 (lv_at hl 5 rfl) ?_
      refine lv_aload_n hx hb dX0_restrict_46 rfl (lv_at hl 1 rfl) ?_
      refine lv_iload_n hx hb dX0_restrict_47 rfl (lv_at hl 2 rfl) ?_
      refine lv_iload_n hx hb dX0_restrict_48 rfl (lv_at hl 3 rfl) ?_
      refine callRi (q := (RX0, TX0, 8)) (ci := 0) (q0 := 0) (As := [.int x0, .int x1]) (rest := [.int x3, .int x0, .ref h0]) (m0_get l dC dI h0 h1 h2 h3 c1 c2 c3 mem blk hdr ds pw rn wr cm x0 x1 (sd0_restrict1 c_36)) ⟨hx, hb, hml, hown, hts⟩ (cwV 2 hts gX0_restrict_X0_get rfl rfl rfl (by decide +kernel) ⟨Nat.le_of_ble_eq_true rfl, Nat.le_of_ble_eq_true rfl⟩) hK hP rfl rfl rfl hl.1 rfl (Nat.le_of_ble_eq_true rfl) dX0_restrict_49 ⟨Nat.zero_le _, Nat.zero_le _⟩ ?_
      refine lv_iload_n hx hb dX0_restrict_52 rfl (lv_at hl 4 rfl) ?_
      refine callSi (As := [.int (f0_get mem blk hdr ds pw rn wr cm x0 x1), .int x2]) (rest := [.int x3, .int x0, .ref h0]) (m0_limited l (f0_get mem blk hdr ds pw rn wr cm x0 x1) x2) ⟨hx, hb, hml, hown, hts⟩ (va_cwS 2 hts gX0_restrict_X0_limited rfl rfl rfl (by decide +kernel) ⟨Nat.le_of_ble_eq_true rfl, Nat.le_of_ble_eq_true rfl⟩) rfl hl.1 rfl (Nat.le_of_ble_eq_true rfl) dX0_restrict_53 ⟨Nat.zero_le _, Nat.zero_le _⟩ ?_
      refine callWv (q := (RX0, TX0, 8)) (ci := 0) (q0 := 0) (As := [.int x0, .int x3, .int (f0_limited (f0_get mem blk hdr ds pw rn wr cm x0 x1) x2)]) (rest := []) (wr := []) (m0_put l dC dI h0 h1 h2 h3 c1 c2 c3 _ mem blk hdr ds pw rn wr cm x0 x3 (f0_limited (f0_get mem blk hdr ds pw rn wr cm x0 x1) x2) (sd0_restrict2 c_36)) ⟨hx, hb, hml, hown, hts⟩ (cwV 3 hts gX0_restrict_X0_put rfl rfl rfl (by decide +kernel) ⟨Nat.le_of_ble_eq_true rfl, Nat.le_of_ble_eq_true rfl⟩) hK hP hD hS hA rfl rfl [0, 1, 2, 3] [] rfl rfl rfl (by decide) (by decide) (by decide) rfl hl.1 rfl (Nat.le_of_ble_eq_true rfl) dX0_restrict_56 ⟨Nat.zero_le _, Nat.zero_le _⟩ (fun H locs hP hD hS => ?_)
      have hP : va_P (dC, dI) vwCl [(h0, .inr (0, [.ref h1, .ref h2, .ref h3, .int (ds ||| ((1 : Int32) <<< (x0 &&& 31))), .int pw, .int rn, .int wr, .int cm])), (h1, .inl (c1, 96, .inl (upd mem (x0 * 8 + x3).toNatClampNeg (f0_limited (f0_get mem blk hdr ds pw rn wr cm x0 x1) x2)))), (h2, .inl (c2, 200, .inl blk)), (h3, .inl (c3, 8, .inl hdr))] _ := hP
      have hD : va_D _ [(h0, .inr (0, [.ref h1, .ref h2, .ref h3, .int (ds ||| ((1 : Int32) <<< (x0 &&& 31))), .int pw, .int rn, .int wr, .int cm])), (h1, .inl (c1, 96, .inl (upd mem (x0 * 8 + x3).toNatClampNeg (f0_limited (f0_get mem blk hdr ds pw rn wr cm x0 x1) x2)))), (h2, .inl (c2, 200, .inl blk)), (h3, .inl (c3, 8, .inl hdr))] := hD
      refine lv_iconst (v := 0) hx hb dX0_restrict_59 (by decide) ?_
      have e9 : F0_restrict mem blk hdr ds pw rn wr cm x0 x1 x2 x3 = (0, (upd mem (x0 * 8 + x3).toNatClampNeg (f0_limited (f0_get mem blk hdr ds pw rn wr cm x0 x1) x2)), blk, hdr, (ds ||| ((1 : Int32) <<< (x0 &&& 31))), pw, rn, wr, cm) := by unfold F0_restrict; rw [if_pos c_36]
      rw [e9]
      exact retWi hx hb hr hlocks rfl rfl rfl hK hP hD hS dX0_restrict_60
    · skip
      refine lv_iload hx hb dX0_restrict_39 (lv_at hl 0 rfl) ?_
      have e9 : F0_restrict mem blk hdr ds pw rn wr cm x0 x1 x2 x3 = ((f0_refusal mem blk hdr ds pw rn wr cm (z0_restrict_29 x0 x1 x2 x3)), mem, blk, hdr, ds, pw, rn, wr, cm) := by unfold F0_restrict; rw [if_neg c_36]
      rw [e9]
      exact retWi hx hb hr hlocks rfl rfl rfl hK hP hD hS dX0_restrict_41
  · skip
    refine lv_aload_n hx hb dX0_restrict_0 rfl (lv_at hl 0 rfl) ?_
    refine lv_iload_n hx hb dX0_restrict_1 rfl (lv_at hl 1 rfl) ?_
    refine lv_iload_n hx hb dX0_restrict_2 rfl (lv_at hl 2 rfl) ?_
    refine callSi (As := [.int x0, .int x1]) (rest := [.ref h0]) (m0_isRegister l x0 x1) ⟨hx, hb, hml, hown, hts⟩ (va_cwS 2 hts gX0_restrict_X0_isRegister rfl rfl rfl (by decide +kernel) ⟨Nat.le_of_ble_eq_true rfl, Nat.le_of_ble_eq_true rfl⟩) rfl hl.1 rfl (Nat.le_of_ble_eq_true rfl) dX0_restrict_3 ⟨Nat.zero_le _, Nat.zero_le _⟩ ?_
    refine lv_if_eq (tgt := 28) hx hb dX0_restrict_6 (by decide) (fun c_6 => ?_) (fun c_6 => ?_)
    · skip
      refine lv_iconst (v := 0) hx hb dX0_restrict_28 (by decide) ?_
      exact K 0 (by unfold z0_restrict_29; rw [if_pos c_6])
    · skip
      refine lv_iload_n hx hb dX0_restrict_9 rfl (lv_at hl 3 rfl) ?_
      refine callSi (As := [.int x2]) (rest := [.ref h0]) (m0_isLimits l x2) ⟨hx, hb, hml, hown, hts⟩ (va_cwS 1 hts gX0_restrict_X0_isLimits rfl rfl rfl (by decide +kernel) ⟨Nat.le_of_ble_eq_true rfl, Nat.le_of_ble_eq_true rfl⟩) rfl hl.1 rfl (Nat.le_of_ble_eq_true rfl) dX0_restrict_10 ⟨Nat.zero_le _, Nat.zero_le _⟩ ?_
      refine lv_if_eq (tgt := 28) hx hb dX0_restrict_13 (by decide) (fun c_13 => ?_) (fun c_13 => ?_)
      · skip
        refine lv_iconst (v := 0) hx hb dX0_restrict_28 (by decide) ?_
        exact K 0 (by unfold z0_restrict_29; rw [if_neg c_6, if_pos c_13])
      · skip
        refine lv_iload hx hb dX0_restrict_16 (lv_at hl 4 rfl) ?_
        refine callSi (As := [.int x3]) (rest := [.ref h0]) (m0_isInRow l x3) ⟨hx, hb, hml, hown, hts⟩ (va_cwS 1 hts gX0_restrict_X0_isInRow rfl rfl rfl (by decide +kernel) ⟨Nat.le_of_ble_eq_true rfl, Nat.le_of_ble_eq_true rfl⟩) rfl hl.1 rfl (Nat.le_of_ble_eq_true rfl) dX0_restrict_18 ⟨Nat.zero_le _, Nat.zero_le _⟩ ?_
        refine lv_if_eq (tgt := 28) hx hb dX0_restrict_21 (by decide) (fun c_21 => ?_) (fun c_21 => ?_)
        · skip
          refine lv_iconst (v := 0) hx hb dX0_restrict_28 (by decide) ?_
          exact K 0 (by unfold z0_restrict_29; rw [if_neg c_6, if_neg c_13, if_pos c_21])
        · skip
          refine lv_iconst (v := 1) hx hb dX0_restrict_24 (by decide) ?_
          refine lv_goto (tgt := 29) hx hb dX0_restrict_25 (by decide) ?_
          exact K 1 (by unfold z0_restrict_29; rw [if_neg c_6, if_neg c_13, if_neg c_21])
set_option maxHeartbeats 4000000 in
set_option maxRecDepth 100000 in
theorem m0_clear (l : Launch) (dC : Nat → ClassId) (dI : Nat → Nat → Nat) (h0 h1 h2 h3 : Nat) (c1 c2 c3 : ClassId) (sz : Nat) (mem blk hdr : Nat → Int32) (ds pw rn wr cm : Int32) (x0 : Int32) (x1 : Int32) : Met l yX0_clear wsX0_clear ({ frames := 2, cells := 0, slots := 0, locals := 41 }) (pcW (dC, dI) (k0 c1 c2 c3) (w0 h0 h1 h2 h3 c1 c2 c3 (mem, blk, hdr, ds, pw, rn, wr, cm)) sz [.ref h0, .int x0, .int x1]) (qcWi (dC, dI) (k0 c1 c2 c3) (w0 h0 h1 h2 h3 c1 c2 c3 (mem, blk, hdr, ds, pw, rn, wr, cm)) (w0 h0 h1 h2 h3 c1 c2 c3 (F0_clear mem blk hdr ds pw rn wr cm x0 x1).2) sz (F0_clear mem blk hdr ds pw rn wr cm x0 x1).1) 0 0 (va_A (w0 h0 h1 h2 h3 c1 c2 c3 (mem, blk, hdr, ds, pw, rn, wr, cm)) sz) := by
  refine Met.ofW (cc := cX0_clear) (maxL := 4) (ret := (some .int)) (by decide) rfl ?_
  intro p e s m args below meth c s₁ B hml hv
  obtain ⟨rfl, hsz, hP, hK, hD0⟩ := hv
  have hx := B.exec
  have hb := B.bytes
  have hr := B.returns
  have hts := atoms_spec (ws := wsX0_clear) B.pre
  have hown : s.vm.findClass RX0 = some m.cls := findClass_of_methodNamed B.named
  have hlocks := B.notSynchronized
  have hP : va_P (dC, dI) vwCl [(h0, .inr (0, [.ref h1, .ref h2, .ref h3, .int ds, .int pw, .int rn, .int wr, .int cm])), (h1, .inl (c1, 96, .inl mem)), (h2, .inl (c2, 200, .inl blk)), (h3, .inl (c3, 8, .inl hdr))] s.heap := hP
  subst hsz
  have hD := hD0.self (sz := s.heap.size)
  have hA : ∀ q : Nat, s.heap.size ≤ q → (va_A (w0 h0 h1 h2 h3 c1 c2 c3 (mem, blk, hdr, ds, pw, rn, wr, cm)) s.heap.size) q := fun q h => Or.inr h
  have hS : va_S (va_A (w0 h0 h1 h2 h3 c1 c2 c3 (mem, blk, hdr, ds, pw, rn, wr, cm)) s.heap.size) s.heap s.heap [] := va_S.rf
  have hl := lv_entry ([.ref h0, .int x0, .int x1]) (n := 4) (Nat.le_of_ble_eq_true rfl)
  rw [lg_entry_eq]
  generalize (lg_sl ([.ref h0, .int x0, .int x1]) ++ List.replicate (4 - (lg_sl ([.ref h0, .int x0, .int x1])).length) Slot.unset).toArray = ls at hl ⊢
  have hl : lv_has ls 4 [(0, .ref h0), (1, .int x0), (2, .int x1)] := hl
  refine lv_aload_n hx hb dX0_clear_0 rfl (lv_at hl 0 rfl) ?_
  refine lv_iload_n hx hb dX0_clear_1 rfl (lv_at hl 1 rfl) ?_
  refine lv_iload_n hx hb dX0_clear_2 rfl (lv_at hl 2 rfl) ?_
  refine callSi (As := [.int x0, .int x1]) (rest := [.ref h0]) (m0_isRegister l x0 x1) ⟨hx, hb, hml, hown, hts⟩ (va_cwS 2 hts gX0_clear_X0_isRegister rfl rfl rfl (by decide +kernel) ⟨Nat.le_of_ble_eq_true rfl, Nat.le_of_ble_eq_true rfl⟩) rfl hl.1 rfl (Nat.le_of_ble_eq_true rfl) dX0_clear_3 ⟨Nat.zero_le _, Nat.zero_le _⟩ ?_
  refine callRi (q := (RX0, TX0, 8)) (ci := 0) (q0 := 0) (As := [.int (f0_isRegister x0 x1)]) (rest := []) (m0_refusal l dC dI h0 h1 h2 h3 c1 c2 c3 mem blk hdr ds pw rn wr cm (f0_isRegister x0 x1) ) ⟨hx, hb, hml, hown, hts⟩ (cwV 1 hts gX0_clear_X0_refusal rfl rfl rfl (by decide +kernel) ⟨Nat.le_of_ble_eq_true rfl, Nat.le_of_ble_eq_true rfl⟩) hK hP rfl rfl rfl hl.1 rfl (Nat.le_of_ble_eq_true rfl) dX0_clear_6 ⟨Nat.zero_le _, Nat.zero_le _⟩ ?_
  refine lv_istore_n (lv' := [(3, .int (f0_refusal mem blk hdr ds pw rn wr cm (f0_isRegister x0 x1))), (0, .ref h0), (1, .int x0), (2, .int x1)]) hx hb dX0_clear_9 rfl hl (by decide) rfl (fun ls hl => ?_)
  refine lv_iload_n hx hb dX0_clear_10 rfl (lv_at hl 0 rfl) ?_
  refine lv_if_eq (tgt := 16) hx hb dX0_clear_11 (by decide) (fun c_11 => ?_) (fun c_11 => ?_)
  · skip
    refine lv_aload_n hx hb dX0_clear_16 rfl (lv_at hl 1 rfl) ?_
    refine lv_iload_n hx hb dX0_clear_17 rfl (lv_at hl 2 rfl) ?_
    refine lv_iload_n hx hb dX0_clear_18 rfl (lv_at hl 3 rfl) ?_
    refine lv_iconst (v := 0) hx hb dX0_clear_19 (by decide) ?_
    refine callWv (q := (RX0, TX0, 8)) (ci := 0) (q0 := 0) (As := [.int x0, .int x1, .int 0]) (rest := []) (wr := []) (m0_put l dC dI h0 h1 h2 h3 c1 c2 c3 _ mem blk hdr ds pw rn wr cm x0 x1 0 (sd0_clear c_11)) ⟨hx, hb, hml, hown, hts⟩ (cwV 3 hts gX0_clear_X0_put rfl rfl rfl (by decide +kernel) ⟨Nat.le_of_ble_eq_true rfl, Nat.le_of_ble_eq_true rfl⟩) hK hP hD hS hA rfl rfl [0, 1, 2, 3] [] rfl rfl rfl (by decide) (by decide) (by decide) rfl hl.1 rfl (Nat.le_of_ble_eq_true rfl) dX0_clear_20 ⟨Nat.zero_le _, Nat.zero_le _⟩ (fun H locs hP hD hS => ?_)
    have hP : va_P (dC, dI) vwCl [(h0, .inr (0, [.ref h1, .ref h2, .ref h3, .int (ds ||| ((1 : Int32) <<< (x0 &&& 31))), .int pw, .int rn, .int wr, .int cm])), (h1, .inl (c1, 96, .inl (upd mem (x0 * 8 + x1).toNatClampNeg 0))), (h2, .inl (c2, 200, .inl blk)), (h3, .inl (c3, 8, .inl hdr))] _ := hP
    have hD : va_D _ [(h0, .inr (0, [.ref h1, .ref h2, .ref h3, .int (ds ||| ((1 : Int32) <<< (x0 &&& 31))), .int pw, .int rn, .int wr, .int cm])), (h1, .inl (c1, 96, .inl (upd mem (x0 * 8 + x1).toNatClampNeg 0))), (h2, .inl (c2, 200, .inl blk)), (h3, .inl (c3, 8, .inl hdr))] := hD
    refine lv_iconst (v := 0) hx hb dX0_clear_23 (by decide) ?_
    have e9 : F0_clear mem blk hdr ds pw rn wr cm x0 x1 = (0, (upd mem (x0 * 8 + x1).toNatClampNeg 0), blk, hdr, (ds ||| ((1 : Int32) <<< (x0 &&& 31))), pw, rn, wr, cm) := by unfold F0_clear; rw [if_pos c_11]
    rw [e9]
    exact retWi hx hb hr hlocks rfl rfl rfl hK hP hD hS dX0_clear_24
  · skip
    refine lv_iload_n hx hb dX0_clear_14 rfl (lv_at hl 0 rfl) ?_
    have e9 : F0_clear mem blk hdr ds pw rn wr cm x0 x1 = ((f0_refusal mem blk hdr ds pw rn wr cm (f0_isRegister x0 x1)), mem, blk, hdr, ds, pw, rn, wr, cm) := by unfold F0_clear; rw [if_neg c_11]
    rw [e9]
    exact retWi hx hb hr hlocks rfl rfl rfl hK hP hD hS dX0_clear_15
set_option maxHeartbeats 4000000 in
set_option maxRecDepth 100000 in
theorem m0_power (l : Launch) (dC : Nat → ClassId) (dI : Nat → Nat → Nat) (h0 h1 h2 h3 : Nat) (c1 c2 c3 : ClassId) (sz : Nat) (mem blk hdr : Nat → Int32) (ds pw rn wr cm : Int32) (x0 : Int32) : Met l yX0_power wsX0_power ({ frames := 1, cells := 0, slots := 0, locals := 21 }) (pcW (dC, dI) (k0 c1 c2 c3) (w0 h0 h1 h2 h3 c1 c2 c3 (mem, blk, hdr, ds, pw, rn, wr, cm)) sz [.ref h0, .int x0]) (qcWi (dC, dI) (k0 c1 c2 c3) (w0 h0 h1 h2 h3 c1 c2 c3 (mem, blk, hdr, ds, pw, rn, wr, cm)) (w0 h0 h1 h2 h3 c1 c2 c3 (F0_power mem blk hdr ds pw rn wr cm x0).2) sz (F0_power mem blk hdr ds pw rn wr cm x0).1) 0 0 (va_A (w0 h0 h1 h2 h3 c1 c2 c3 (mem, blk, hdr, ds, pw, rn, wr, cm)) sz) := by
  refine Met.ofW (cc := cX0_power) (maxL := 3) (ret := (some .int)) (by decide) rfl ?_
  intro p e s m args below meth c s₁ B hml hv
  obtain ⟨rfl, hsz, hP, hK, hD0⟩ := hv
  have hx := B.exec
  have hb := B.bytes
  have hr := B.returns
  have hts := atoms_spec (ws := wsX0_power) B.pre
  have hown : s.vm.findClass RX0 = some m.cls := findClass_of_methodNamed B.named
  have hlocks := B.notSynchronized
  have hin : ∀ w ∈ wsX00, w ∈ wsX0_power := fun _ h => List.mem_cons_of_mem _ (List.mem_append_right _ h)
  have hP : va_P (dC, dI) vwCl [(h0, .inr (0, [.ref h1, .ref h2, .ref h3, .int ds, .int pw, .int rn, .int wr, .int cm])), (h1, .inl (c1, 96, .inl mem)), (h2, .inl (c2, 200, .inl blk)), (h3, .inl (c3, 8, .inl hdr))] s.heap := hP
  subst hsz
  have hD := hD0.self (sz := s.heap.size)
  have hA : ∀ q : Nat, s.heap.size ≤ q → (va_A (w0 h0 h1 h2 h3 c1 c2 c3 (mem, blk, hdr, ds, pw, rn, wr, cm)) s.heap.size) q := fun q h => Or.inr h
  have hS : va_S (va_A (w0 h0 h1 h2 h3 c1 c2 c3 (mem, blk, hdr, ds, pw, rn, wr, cm)) s.heap.size) s.heap s.heap [] := va_S.rf
  have hl := lv_entry ([.ref h0, .int x0]) (n := 3) (Nat.le_of_ble_eq_true rfl)
  rw [lg_entry_eq]
  generalize (lg_sl ([.ref h0, .int x0]) ++ List.replicate (3 - (lg_sl ([.ref h0, .int x0])).length) Slot.unset).toArray = ls at hl ⊢
  have hl : lv_has ls 3 [(0, .ref h0), (1, .int x0)] := hl
  refine lv_aload_n hx hb dX0_power_0 rfl (lv_at hl 0 rfl) ?_
  refine lv_iload_n hx hb dX0_power_1 rfl (lv_at hl 1 rfl) ?_
  refine callSi (As := [.int x0]) (rest := [.ref h0]) (m0_isPower l x0) ⟨hx, hb, hml, hown, hts⟩ (va_cwS 1 hts gX0_power_X0_isPower rfl rfl rfl (by decide +kernel) ⟨Nat.le_of_ble_eq_true rfl, Nat.le_of_ble_eq_true rfl⟩) rfl hl.1 rfl (Nat.le_of_ble_eq_true rfl) dX0_power_2 ⟨Nat.zero_le _, Nat.zero_le _⟩ ?_
  refine callRi (q := (RX0, TX0, 8)) (ci := 0) (q0 := 0) (As := [.int (f0_isPower x0)]) (rest := []) (m0_refusal l dC dI h0 h1 h2 h3 c1 c2 c3 mem blk hdr ds pw rn wr cm (f0_isPower x0) ) ⟨hx, hb, hml, hown, hts⟩ (cwV 1 hts gX0_power_X0_refusal rfl rfl rfl (by decide +kernel) ⟨Nat.le_of_ble_eq_true rfl, Nat.le_of_ble_eq_true rfl⟩) hK hP rfl rfl rfl hl.1 rfl (Nat.le_of_ble_eq_true rfl) dX0_power_5 ⟨Nat.zero_le _, Nat.zero_le _⟩ ?_
  refine lv_istore_n (lv' := [(2, .int (f0_refusal mem blk hdr ds pw rn wr cm (f0_isPower x0))), (0, .ref h0), (1, .int x0)]) hx hb dX0_power_8 rfl hl (by decide) rfl (fun ls hl => ?_)
  refine lv_iload_n hx hb dX0_power_9 rfl (lv_at hl 0 rfl) ?_
  refine lv_if_eq (tgt := 15) hx hb dX0_power_10 (by decide) (fun c_10 => ?_) (fun c_10 => ?_)
  · skip
    refine lv_aload_n hx hb dX0_power_15 rfl (lv_at hl 1 rfl) ?_
    refine lv_iload_n hx hb dX0_power_16 rfl (lv_at hl 2 rfl) ?_
    refine va_put (D := (dC, dI)) (ci := 0) (v := .int x0) (ty := .int) (C := RX0) (T := TX0) (N := 8) hx hb hts hin tyX0 tyX0_ok nmX0 hown hK hP hD hS 0 rfl rfl 4 (by decide) (hts (.fieldLink RX0 23 "CapStore" "powerLeft" "I") (by decide +kernel)) (fun _ h9 => h9) rfl (by decide +kernel) rfl rfl (Nat.le_of_ble_eq_true rfl) dX0_power_17 (fun H locs hP hD hS => ?_)
    have hP : va_P (dC, dI) vwCl [(h0, .inr (0, [.ref h1, .ref h2, .ref h3, .int ds, .int x0, .int rn, .int wr, .int cm])), (h1, .inl (c1, 96, .inl mem)), (h2, .inl (c2, 200, .inl blk)), (h3, .inl (c3, 8, .inl hdr))] _ := hP
    have hD : va_D _ [(h0, .inr (0, [.ref h1, .ref h2, .ref h3, .int ds, .int x0, .int rn, .int wr, .int cm])), (h1, .inl (c1, 96, .inl mem)), (h2, .inl (c2, 200, .inl blk)), (h3, .inl (c3, 8, .inl hdr))] := hD
    refine lv_iconst (v := 0) hx hb dX0_power_20 (by decide) ?_
    have e9 : F0_power mem blk hdr ds pw rn wr cm x0 = (0, mem, blk, hdr, ds, x0, rn, wr, cm) := by unfold F0_power; rw [if_pos c_10]
    rw [e9]
    exact retWi hx hb hr hlocks rfl rfl rfl hK hP hD hS dX0_power_21
  · skip
    refine lv_iload_n hx hb dX0_power_13 rfl (lv_at hl 0 rfl) ?_
    have e9 : F0_power mem blk hdr ds pw rn wr cm x0 = ((f0_refusal mem blk hdr ds pw rn wr cm (f0_isPower x0)), mem, blk, hdr, ds, pw, rn, wr, cm) := by unfold F0_power; rw [if_neg c_10]
    rw [e9]
    exact retWi hx hb hr hlocks rfl rfl rfl hK hP hD hS dX0_power_14
set_option maxHeartbeats 4000000 in
set_option maxRecDepth 100000 in
theorem m0_crash (l : Launch) (dC : Nat → ClassId) (dI : Nat → Nat → Nat) (h0 h1 h2 h3 : Nat) (c1 c2 c3 : ClassId) (sz : Nat) (mem blk hdr : Nat → Int32) (ds pw rn wr cm : Int32) (hrn : rn = 0 ∨ rn = 1) : Met l yX0_crash wsX0_crash ({ frames := 0, cells := 0, slots := 0, locals := 0 }) (pcW (dC, dI) (k0 c1 c2 c3) (w0 h0 h1 h2 h3 c1 c2 c3 (mem, blk, hdr, ds, pw, rn, wr, cm)) sz [.ref h0]) (qcWi (dC, dI) (k0 c1 c2 c3) (w0 h0 h1 h2 h3 c1 c2 c3 (mem, blk, hdr, ds, pw, rn, wr, cm)) (w0 h0 h1 h2 h3 c1 c2 c3 (F0_crash mem blk hdr ds pw rn wr cm).2) sz (F0_crash mem blk hdr ds pw rn wr cm).1) 0 0 (va_A (w0 h0 h1 h2 h3 c1 c2 c3 (mem, blk, hdr, ds, pw, rn, wr, cm)) sz) := by
  refine Met.ofW (cc := cX0_crash) (maxL := 2) (ret := (some .boolean)) (by decide) rfl ?_
  intro p e s m args below meth c s₁ B hml hv
  obtain ⟨rfl, hsz, hP, hK, hD0⟩ := hv
  have hx := B.exec
  have hb := B.bytes
  have hr := B.returns
  have hts := atoms_spec (ws := wsX0_crash) B.pre
  have hown : s.vm.findClass RX0 = some m.cls := findClass_of_methodNamed B.named
  have hlocks := B.notSynchronized
  have hin : ∀ w ∈ wsX00, w ∈ wsX0_crash := fun _ h => List.mem_cons_of_mem _ (List.mem_append_right _ h)
  have hP : va_P (dC, dI) vwCl [(h0, .inr (0, [.ref h1, .ref h2, .ref h3, .int ds, .int pw, .int rn, .int wr, .int cm])), (h1, .inl (c1, 96, .inl mem)), (h2, .inl (c2, 200, .inl blk)), (h3, .inl (c3, 8, .inl hdr))] s.heap := hP
  subst hsz
  have hD := hD0.self (sz := s.heap.size)
  have hA : ∀ q : Nat, s.heap.size ≤ q → (va_A (w0 h0 h1 h2 h3 c1 c2 c3 (mem, blk, hdr, ds, pw, rn, wr, cm)) s.heap.size) q := fun q h => Or.inr h
  have hS : va_S (va_A (w0 h0 h1 h2 h3 c1 c2 c3 (mem, blk, hdr, ds, pw, rn, wr, cm)) s.heap.size) s.heap s.heap [] := va_S.rf
  have hl := lv_entry ([.ref h0]) (n := 2) (Nat.le_of_ble_eq_true rfl)
  rw [lg_entry_eq]
  generalize (lg_sl ([.ref h0]) ++ List.replicate (2 - (lg_sl ([.ref h0])).length) Slot.unset).toArray = ls at hl ⊢
  have hl : lv_has ls 2 [(0, .ref h0)] := hl
  refine lv_aload_n hx hb dX0_crash_0 rfl (lv_at hl 0 rfl) ?_
  refine va_get (D := (dC, dI)) (ci := 0) (v := .int rn) (C := RX0) (T := TX0) (N := 8) hx hb hts hin hown hK hP 0 rfl rfl 5 (by decide) (hts (.fieldLink RX0 26 "CapStore" "running" "Z") (by decide +kernel)) (fun _ h9 => h9) rfl dX0_crash_1 ?_
  refine lv_istore_n (lv' := [(1, .int rn), (0, .ref h0)]) hx hb dX0_crash_4 rfl hl (by decide) rfl (fun ls hl => ?_)
  refine lv_aload_n hx hb dX0_crash_5 rfl (lv_at hl 1 rfl) ?_
  refine lv_iconst (v := 0) hx hb dX0_crash_6 (by decide) ?_
  refine va_put (D := (dC, dI)) (ci := 0) (v := .int 0) (ty := .boolean) (C := RX0) (T := TX0) (N := 8) hx hb hts hin tyX0 tyX0_ok nmX0 hown hK hP hD hS 0 rfl rfl 5 (by decide) (hts (.fieldLink RX0 26 "CapStore" "running" "Z") (by decide +kernel)) (fun _ h9 => h9) rfl (by decide +kernel) rfl rfl (Nat.le_of_ble_eq_true rfl) dX0_crash_7 (fun H locs hP hD hS => ?_)
  have hP : va_P (dC, dI) vwCl [(h0, .inr (0, [.ref h1, .ref h2, .ref h3, .int ds, .int pw, .int 0, .int wr, .int cm])), (h1, .inl (c1, 96, .inl mem)), (h2, .inl (c2, 200, .inl blk)), (h3, .inl (c3, 8, .inl hdr))] _ := hP
  have hD : va_D _ [(h0, .inr (0, [.ref h1, .ref h2, .ref h3, .int ds, .int pw, .int 0, .int wr, .int cm])), (h1, .inl (c1, 96, .inl mem)), (h2, .inl (c2, 200, .inl blk)), (h3, .inl (c3, 8, .inl hdr))] := hD
  refine lv_iload_n hx hb dX0_crash_10 rfl (lv_at hl 0 rfl) ?_
  have e9 : F0_crash mem blk hdr ds pw rn wr cm = (rn, mem, blk, hdr, ds, pw, 0, wr, cm) := rfl
  rw [e9]
  exact retWi hx hb hr hlocks (by rcases hrn with rfl | rfl <;> rfl) rfl rfl hK hP hD hS dX0_crash_11
