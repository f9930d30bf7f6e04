set_option maxHeartbeats 8000000 in
set_option maxRecDepth 100000 in
theorem m1_checkpoint (l : Launch) (dC : Nat → ClassId) (dI : Nat → Nat → Nat) (h0 h1 h2 h3 : Nat) (c1 c2 c3 : ClassId) (sz : Nat) (mem dsk sto : Nat → Int32) (dn en pw wr cm : Int32) : Met l yX1_checkpoint wsX1_checkpoint ({ frames := 1, cells := 0, slots := 0, locals := 24 }) (pcW (dC, dI) (k1 c1 c2 c3) (w1 h0 h1 h2 h3 c1 c2 c3 (mem, dsk, sto, dn, en, pw, wr, cm)) sz [.ref h0]) (qcWi (dC, dI) (k1 c1 c2 c3) (w1 h0 h1 h2 h3 c1 c2 c3 (mem, dsk, sto, dn, en, pw, wr, cm)) (w1 h0 h1 h2 h3 c1 c2 c3 (F1_checkpoint mem dsk sto dn en pw wr cm).2) sz (F1_checkpoint mem dsk sto dn en pw wr cm).1) 0 0 (va_A (w1 h0 h1 h2 h3 c1 c2 c3 (mem, dsk, sto, dn, en, pw, wr, cm)) sz) := by
  refine Met.ofW (cc := cX1_checkpoint) (maxL := 7) (ret := (some .int)) (by decide) rfl ?_
  intro p e s m args below meth c s₁ B hml hv
  obtain ⟨rfl, hsz, hP, hK, hD0⟩ := hv
  have hx := B.exec
  have hb := B.bytes
  have hr := B.returns
  have hts := atoms_spec (ws := wsX1_checkpoint) B.pre
  have hown : s.vm.findClass RX1 = some m.cls := findClass_of_methodNamed B.named
  have hlocks := B.notSynchronized
  have hin : ∀ w ∈ wsX10, w ∈ wsX1_checkpoint := fun _ h => List.mem_cons_of_mem _ (List.mem_append_right _ h)
  have hP : va_P (dC, dI) vwCl [(h0, .inr (1, [.ref h1, .ref h2, .ref h3, .int dn, .int en, .int pw, .int wr, .int cm])), (h1, .inl (c1, 96, .inl mem)), (h2, .inl (c2, 200, .inl dsk)), (h3, .inl (c3, 12, .inl sto))] s.heap := hP
  subst hsz
  have hD := hD0.self (sz := s.heap.size)
  have hA : ∀ q : Nat, s.heap.size ≤ q → (va_A (w1 h0 h1 h2 h3 c1 c2 c3 (mem, dsk, sto, dn, en, pw, wr, cm)) s.heap.size) q := fun q h => Or.inr h
  have hS : va_S (va_A (w1 h0 h1 h2 h3 c1 c2 c3 (mem, dsk, sto, dn, en, pw, wr, cm)) s.heap.size) s.heap s.heap [] := va_S.rf
  have hl := lv_entry ([.ref h0]) (n := 7) (Nat.le_of_ble_eq_true rfl)
  rw [lg_entry_eq]
  generalize (lg_sl ([.ref h0]) ++ List.replicate (7 - (lg_sl ([.ref h0])).length) Slot.unset).toArray = ls at hl ⊢
  have hl : lv_has ls 7 [(0, .ref h0)] := hl
  have loop : ∀ (x mny : Int32) (nn : Nat), nn ≤ 12 → mny = nI nn → ∀ (f : Nat), f ≤ 2 * nn + 2 → ∀ (k : Int32), k = nI (2 * nn + 2 - f) → ∀ (mem_0 dsk_0 sto_0 : Nat → Int32) (dn_0 en_0 pw_0 wr_0 cm_0 : Int32) (H : Heap) (locs : List Loc) (ls : Array Slot), va_P (dC, dI) vwCl [(h0, .inr (1, [.ref h1, .ref h2, .ref h3, .int dn_0, .int en_0, .int pw_0, .int wr_0, .int cm_0])), (h1, .inl (c1, 96, .inl mem_0)), (h2, .inl (c2, 200, .inl dsk_0)), (h3, .inl (c3, 12, .inl sto_0))] H → va_D (va_A (w1 h0 h1 h2 h3 c1 c2 c3 (mem, dsk, sto, dn, en, pw, wr, cm)) s.heap.size) [(h0, .inr (1, [.ref h1, .ref h2, .ref h3, .int dn_0, .int en_0, .int pw_0, .int wr_0, .int cm_0])), (h1, .inl (c1, 96, .inl mem_0)), (h2, .inl (c2, 200, .inl dsk_0)), (h3, .inl (c3, 12, .inl sto_0))] → va_S (va_A (w1 h0 h1 h2 h3 c1 c2 c3 (mem, dsk, sto, dn, en, pw, wr, cm)) s.heap.size) s.heap H locs → lv_has ls 7 [(3, .int k), (2, .int mny), (1, .int x), (0, .ref h0)] →
      W p l e (headSpec wsX1_checkpoint ({ frames := 1, cells := 0, slots := 0, locals := 24 })).room s m #[Value.ref h0] below meth c H locs 0 0 (MQ below (qcWi (dC, dI) (k1 c1 c2 c3) (w1 h0 h1 h2 h3 c1 c2 c3 (mem, dsk, sto, dn, en, pw, wr, cm)) (w1 h0 h1 h2 h3 c1 c2 c3 (F1_cp x mny f k (mem_0, dsk_0, sto_0, dn_0, en_0, pw_0, wr_0, cm_0)).2) s.heap.size (F1_cp x mny f k (mem_0, dsk_0, sto_0, dn_0, en_0, pw_0, wr_0, cm_0)).1) #[Value.ref h0] s 0 0 (va_A (w1 h0 h1 h2 h3 c1 c2 c3 (mem, dsk, sto, dn, en, pw, wr, cm)) s.heap.size)) (F0 m 28 ls []) := by
    intro x mny nn hnn eny f
    induction f with
    | zero =>
      intro hf k ek mem_0 dsk_0 sto_0 dn_0 en_0 pw_0 wr_0 cm_0 H locs ls hP hD hS hl
      refine lv_iload_n hx hb dX1_checkpoint_28 rfl (lv_at hl 0 rfl) ?_
      refine lv_iconst (v := 2) hx hb dX1_checkpoint_29 (by decide) ?_
      refine lv_iload_n hx hb dX1_checkpoint_30 rfl (lv_at hl 1 rfl) ?_
      refine lv_imul hx hb dX1_checkpoint_31 ?_
      refine lv_iconst (v := 2) hx hb dX1_checkpoint_32 (by decide) ?_
      refine lv_iadd hx hb dX1_checkpoint_33 ?_
      refine lv_icmp_ge (tgt := 171) hx hb dX1_checkpoint_34 (by decide) (fun c_34 => ?_) (fun c_34 => ?_)
      · skip
        refine lv_iconst (v := 0) hx hb dX1_checkpoint_171 (by decide) ?_
        refine lv_istore_n (lv' := [(3, .int 0), (2, .int mny), (1, .int x), (0, .ref h0)]) hx hb dX1_checkpoint_172 rfl hl (by decide) rfl (fun ls hl => ?_)
        have lp1 : ∀ (Q : State → Prop) (n : Nat), n ≤ 12 → ∀ (v2_1 : Nat → Int32) (H : Heap) (locs : List Loc) (ls : Array Slot), va_P (dC, dI) vwCl [(h0, .inr (1, [.ref h1, .ref h2, .ref h3, .int dn_0, .int en_0, .int pw_0, .int wr_0, .int cm_0])), (h1, .inl (c1, 96, .inl mem_0)), (h2, .inl (c2, 200, .inl dsk_0)), (h3, .inl (c3, 12, .inl v2_1))] H → va_D (va_A (w1 h0 h1 h2 h3 c1 c2 c3 (mem, dsk, sto, dn, en, pw, wr, cm)) s.heap.size) [(h0, .inr (1, [.ref h1, .ref h2, .ref h3, .int dn_0, .int en_0, .int pw_0, .int wr_0, .int cm_0])), (h1, .inl (c1, 96, .inl mem_0)), (h2, .inl (c2, 200, .inl dsk_0)), (h3, .inl (c3, 12, .inl v2_1))] → va_S (va_A (w1 h0 h1 h2 h3 c1 c2 c3 (mem, dsk, sto, dn, en, pw, wr, cm)) s.heap.size) s.heap H locs → lv_has ls 7 [(3, .int (nI (12 - n))), (2, .int mny), (1, .int x), (0, .ref h0)] →
            (∀ (H : Heap) (locs : List Loc) (ls : Array Slot), va_P (dC, dI) vwCl [(h0, .inr (1, [.ref h1, .ref h2, .ref h3, .int dn_0, .int en_0, .int pw_0, .int wr_0, .int cm_0])), (h1, .inl (c1, 96, .inl mem_0)), (h2, .inl (c2, 200, .inl dsk_0)), (h3, .inl (c3, 12, .inl (rst n v2_1)))] H → va_D (va_A (w1 h0 h1 h2 h3 c1 c2 c3 (mem, dsk, sto, dn, en, pw, wr, cm)) s.heap.size) [(h0, .inr (1, [.ref h1, .ref h2, .ref h3, .int dn_0, .int en_0, .int pw_0, .int wr_0, .int cm_0])), (h1, .inl (c1, 96, .inl mem_0)), (h2, .inl (c2, 200, .inl dsk_0)), (h3, .inl (c3, 12, .inl (rst n v2_1)))] → va_S (va_A (w1 h0 h1 h2 h3 c1 c2 c3 (mem, dsk, sto, dn, en, pw, wr, cm)) s.heap.size) s.heap H locs → lv_has ls 7 [(3, .int (nI 12)), (2, .int mny), (1, .int x), (0, .ref h0)] → W p l e (headSpec wsX1_checkpoint ({ frames := 1, cells := 0, slots := 0, locals := 24 })).room s m #[Value.ref h0] below meth c H locs 0 0 Q (F0 m 192 ls [])) → W p l e (headSpec wsX1_checkpoint ({ frames := 1, cells := 0, slots := 0, locals := 24 })).room s m #[Value.ref h0] below meth c H locs 0 0 Q (F0 m 173 ls []) := by
          intro Q n
          induction n with
          | zero =>
            intro hn v2_1 H locs ls hP hD hS hl K
            have hl : lv_has ls 7 [(3, .int (nI 12)), (2, .int mny), (1, .int x), (0, .ref h0)] := hl
            refine lv_iload_n hx hb dX1_checkpoint_173 rfl (lv_at hl 0 rfl) ?_
            refine lv_bipush (v := 12) hx hb dX1_checkpoint_174 (by decide) ?_
            refine lv_icmp_ge (tgt := 192) hx hb dX1_checkpoint_176 (by decide) (fun c_176 => ?_) (fun c_176 => ?_)
            · skip
              exact K H locs ls hP hD hS hl
            · skip
              exact absurd (by decide) c_176
          | succ n ih =>
            intro hn v2_1 H locs ls hP hD hS hl K
            have enx : 12 - (n + 1) = 11 - n := by omega
            rw [enx] at hl
            have ei : nI (11 - n) + 1 = nI (12 - n) := by rw [nI_1]; congr 1; omega
            have hl : lv_has ls 7 [(3, .int (nI (11 - n))), (2, .int mny), (1, .int x), (0, .ref h0)] := hl
            refine lv_iload_n hx hb dX1_checkpoint_173 rfl (lv_at hl 0 rfl) ?_
            refine lv_bipush (v := 12) hx hb dX1_checkpoint_174 (by decide) ?_
            refine lv_icmp_ge (tgt := 192) hx hb dX1_checkpoint_176 (by decide) (fun c_176 => ?_) (fun c_176 => ?_)
            · skip
              exact absurd c_176 (nI_ge (a := 11 - n) (b := 12) (by omega) (by decide))
            · skip
              refine lv_aload_n hx hb dX1_checkpoint_179 rfl (lv_at hl 3 rfl) ?_
              refine va_get (D := (dC, dI)) (ci := 1) (v := .ref h3) (C := RX1) (T := TX1) (N := 8) hx hb hts hin hown hK hP 0 rfl rfl 2 (by decide) (hts (.fieldLink RX1 16 "CapStoreModel" "stored" "[Z") (by decide +kernel)) (fun _ h9 => h9) rfl dX1_checkpoint_180 ?_
              refine lv_iload_n hx hb dX1_checkpoint_183 rfl (lv_at hl 0 rfl) ?_
              refine lv_iconst (v := 0) hx hb dX1_checkpoint_184 (by decide) ?_
              refine va_zast hx hb hK hP hD hS 3 2 rfl rfl (vp_in_nI (by omega) (by decide)) dX1_checkpoint_185 (fun H locs hP hD hS => ?_)
              have hP : va_P (dC, dI) vwCl [(h0, .inr (1, [.ref h1, .ref h2, .ref h3, .int dn_0, .int en_0, .int pw_0, .int wr_0, .int cm_0])), (h1, .inl (c1, 96, .inl mem_0)), (h2, .inl (c2, 200, .inl dsk_0)), (h3, .inl (c3, 12, .inl (upd v2_1 (nI (11 - n)).toNatClampNeg (vp_nar .boolean 0))))] _ := hP
              have hD : va_D _ [(h0, .inr (1, [.ref h1, .ref h2, .ref h3, .int dn_0, .int en_0, .int pw_0, .int wr_0, .int cm_0])), (h1, .inl (c1, 96, .inl mem_0)), (h2, .inl (c2, 200, .inl dsk_0)), (h3, .inl (c3, 12, .inl (upd v2_1 (nI (11 - n)).toNatClampNeg (vp_nar .boolean 0))))] := hD
              refine lv_iinc (v := ((nI (11 - n)) + 1)) (lv' := [(3, .int ((nI (11 - n)) + 1)), (2, .int mny), (1, .int x), (0, .ref h0)]) hx hb dX1_checkpoint_186 hl (k := 0) rfl rfl (by decide) rfl (fun ls hl => ?_)
              refine lv_goto (tgt := 173) hx hb dX1_checkpoint_189 (by decide) ?_
              rw [ei] at hl
              exact ih (by omega) (upd v2_1 (nI (11 - n)).toNatClampNeg (vp_nar .boolean 0)) _ _ ls hP hD hS (lv_sub hl [0, 1, 2, 3] rfl) K
        refine lp1 _ 12 (Nat.le_refl _) sto_0 _ _ ls hP hD hS (lv_sub hl [0, 1, 2, 3] rfl) (fun H locs ls hP hD hS hl => ?_)
        have hP : va_P (dC, dI) vwCl [(h0, .inr (1, [.ref h1, .ref h2, .ref h3, .int dn_0, .int en_0, .int pw_0, .int wr_0, .int cm_0])), (h1, .inl (c1, 96, .inl mem_0)), (h2, .inl (c2, 200, .inl dsk_0)), (h3, .inl (c3, 12, .inl (rst 12 sto_0)))] _ := hP
        have hD : va_D _ [(h0, .inr (1, [.ref h1, .ref h2, .ref h3, .int dn_0, .int en_0, .int pw_0, .int wr_0, .int cm_0])), (h1, .inl (c1, 96, .inl mem_0)), (h2, .inl (c2, 200, .inl dsk_0)), (h3, .inl (c3, 12, .inl (rst 12 sto_0)))] := hD
        refine lv_iconst (v := 2) hx hb dX1_checkpoint_192 (by decide) ?_
        refine lv_iload_n hx hb dX1_checkpoint_193 rfl (lv_at hl 1 rfl) ?_
        refine lv_imul hx hb dX1_checkpoint_194 ?_
        refine lv_iconst (v := 2) hx hb dX1_checkpoint_195 (by decide) ?_
        refine lv_iadd hx hb dX1_checkpoint_196 ?_
        have e9 : F1_cp x mny 0 k (mem_0, dsk_0, sto_0, dn_0, en_0, pw_0, wr_0, cm_0) = (((2 * mny) + 2), mem_0, dsk_0, (rst 12 sto_0), dn_0, en_0, pw_0, wr_0, cm_0) := by rw [F1_cp]
        rw [e9]
        exact retWi hx hb hr hlocks rfl rfl rfl hK hP hD hS dX1_checkpoint_197
      · skip
        exact absurd (ck_out hnn eny ek) c_34
    | succ f ih =>
      intro hf k ek mem_0 dsk_0 sto_0 dn_0 en_0 pw_0 wr_0 cm_0 H locs ls hP hD hS hl
      refine lv_iload_n hx hb dX1_checkpoint_28 rfl (lv_at hl 0 rfl) ?_
      refine lv_iconst (v := 2) hx hb dX1_checkpoint_29 (by decide) ?_
      refine lv_iload_n hx hb dX1_checkpoint_30 rfl (lv_at hl 1 rfl) ?_
      refine lv_imul hx hb dX1_checkpoint_31 ?_
      refine lv_iconst (v := 2) hx hb dX1_checkpoint_32 (by decide) ?_
      refine lv_iadd hx hb dX1_checkpoint_33 ?_
      refine lv_icmp_ge (tgt := 171) hx hb dX1_checkpoint_34 (by decide) (fun c_34 => ?_) (fun c_34 => ?_)
      · skip
        exact absurd c_34 (ck_in hnn hf eny ek)
      · skip
        refine lv_aload_n hx hb dX1_checkpoint_37 rfl (lv_at hl 3 rfl) ?_
        refine callWi (q := (RX1, TX1, 8)) (ci := 1) (q0 := 0) (As := []) (rest := []) (wr := []) (m1_may l dC dI h0 h1 h2 h3 c1 c2 c3 _ mem_0 dsk_0 sto_0 dn_0 en_0 pw_0 wr_0 cm_0  ) ⟨hx, hb, hml, hown, hts⟩ (cwV 0 hts gX1_checkpoint_X1_may rfl rfl rfl (by decide +kernel) ⟨Nat.le_of_ble_eq_true rfl, Nat.le_of_ble_eq_true rfl⟩) hK hP hD hS hA rfl rfl [0, 1, 2, 3] [] rfl rfl rfl (by decide) (by decide) (by decide) rfl hl.1 rfl (Nat.le_of_ble_eq_true rfl) dX1_checkpoint_38 ⟨Nat.zero_le _, Nat.zero_le _⟩ (fun H locs hP hD hS => ?_)
        generalize hF1 : (F1_may mem_0 dsk_0 sto_0 dn_0 en_0 pw_0 wr_0 cm_0) = u at hP hD ⊢
        obtain ⟨r_1, mem_1, dsk_1, sto_1, dn_1, en_1, pw_1, wr_1, cm_1⟩ := u
        have hP : va_P (dC, dI) vwCl [(h0, .inr (1, [.ref h1, .ref h2, .ref h3, .int dn_1, .int en_1, .int pw_1, .int wr_1, .int cm_1])), (h1, .inl (c1, 96, .inl mem_1)), (h2, .inl (c2, 200, .inl dsk_1)), (h3, .inl (c3, 12, .inl sto_1))] _ := hP
        have hD : va_D _ [(h0, .inr (1, [.ref h1, .ref h2, .ref h3, .int dn_1, .int en_1, .int pw_1, .int wr_1, .int cm_1])), (h1, .inl (c1, 96, .inl mem_1)), (h2, .inl (c2, 200, .inl dsk_1)), (h3, .inl (c3, 12, .inl sto_1))] := hD
        show W _ _ _ _ _ _ _ _ _ _ _ _ _ _ _ (F0 m 41 ls [.int r_1])
        refine lv_if_ne (tgt := 47) hx hb dX1_checkpoint_41 (by decide) (fun c_41 => ?_) (fun c_41 => ?_)
        · skip
          refine lv_iload_n hx hb dX1_checkpoint_47 rfl (lv_at hl 0 rfl) ?_
          refine lv_iload_n hx hb dX1_checkpoint_48 rfl (lv_at hl 1 rfl) ?_
          refine lv_icmp_ne (tgt := 70) hx hb dX1_checkpoint_49 (by decide) (fun c_49 => ?_) (fun c_49 => ?_)
          · skip
            refine lv_iload_n hx hb dX1_checkpoint_70 rfl (lv_at hl 0 rfl) ?_
            refine lv_iconst (v := 2) hx hb dX1_checkpoint_71 (by decide) ?_
            refine lv_iload_n hx hb dX1_checkpoint_72 rfl (lv_at hl 1 rfl) ?_
            refine lv_imul hx hb dX1_checkpoint_73 ?_
            refine lv_icmp_le (tgt := 85) hx hb dX1_checkpoint_74 (by decide) (fun c_74 => ?_) (fun c_74 => ?_)
            · skip
              refine lv_aload_n hx hb dX1_checkpoint_85 rfl (lv_at hl 3 rfl) ?_
              refine lv_iload_n hx hb dX1_checkpoint_86 rfl (lv_at hl 2 rfl) ?_
              refine lv_iload_n hx hb dX1_checkpoint_87 rfl (lv_at hl 0 rfl) ?_
              refine lv_iload_n hx hb dX1_checkpoint_88 rfl (lv_at hl 1 rfl) ?_
              refine lv_icmp_ge (tgt := 96) hx hb dX1_checkpoint_89 (by decide) (fun c_89 => ?_) (fun c_89 => ?_)
              · skip
                refine lv_iload_n hx hb dX1_checkpoint_96 rfl (lv_at hl 0 rfl) ?_
                refine lv_iload_n hx hb dX1_checkpoint_97 rfl (lv_at hl 1 rfl) ?_
                refine lv_isub hx hb dX1_checkpoint_98 ?_
                refine lv_iconst (v := 1) hx hb dX1_checkpoint_99 (by decide) ?_
                refine lv_isub hx hb dX1_checkpoint_100 ?_
                refine callRi (q := (RX1, TX1, 8)) (ci := 1) (q0 := 0) (As := [.int x, .int ((k - mny) - 1)]) (rest := []) (m1_member l dC dI h0 h1 h2 h3 c1 c2 c3 mem_1 dsk_1 sto_1 dn_1 en_1 pw_1 wr_1 cm_1 x ((k - mny) - 1) ) ⟨hx, hb, hml, hown, hts⟩ (cwV 2 hts gX1_checkpoint_X1_member rfl rfl rfl (by decide +kernel) ⟨Nat.le_of_ble_eq_true rfl, Nat.le_of_ble_eq_true rfl⟩) hK hP rfl rfl rfl hl.1 rfl (Nat.le_of_ble_eq_true rfl) dX1_checkpoint_101 ⟨Nat.zero_le _, Nat.zero_le _⟩ ?_
                refine lv_istore (lv' := [(4, .int (f1_member mem_1 dsk_1 sto_1 dn_1 en_1 pw_1 wr_1 cm_1 x ((k - mny) - 1))), (3, .int k), (2, .int mny), (1, .int x), (0, .ref h0)]) hx hb dX1_checkpoint_104 hl (by decide) rfl (fun ls hl => ?_)
                refine lv_iload_n hx hb dX1_checkpoint_106 rfl (lv_at hl 1 rfl) ?_
                refine lv_iload_n hx hb dX1_checkpoint_107 rfl (lv_at hl 2 rfl) ?_
                refine lv_icmp_ge (tgt := 119) hx hb dX1_checkpoint_108 (by decide) (fun c_108 => ?_) (fun c_108 => ?_)
                · skip
                  refine lv_iload hx hb dX1_checkpoint_119 (lv_at hl 0 rfl) ?_
                  refine lv_istore (lv' := [(5, .int (f1_member mem_1 dsk_1 sto_1 dn_1 en_1 pw_1 wr_1 cm_1 x ((k - mny) - 1))), (4, .int (f1_member mem_1 dsk_1 sto_1 dn_1 en_1 pw_1 wr_1 cm_1 x ((k - mny) - 1))), (3, .int k), (2, .int mny), (1, .int x), (0, .ref h0)]) hx hb dX1_checkpoint_121 hl (by decide) rfl (fun ls hl => ?_)
                  refine lv_iconst (v := 0) hx hb dX1_checkpoint_123 (by decide) ?_
                  refine lv_istore (lv' := [(6, .int 0), (5, .int (f1_member mem_1 dsk_1 sto_1 dn_1 en_1 pw_1 wr_1 cm_1 x ((k - mny) - 1))), (4, .int (f1_member mem_1 dsk_1 sto_1 dn_1 en_1 pw_1 wr_1 cm_1 x ((k - mny) - 1))), (3, .int k), (2, .int mny), (1, .int x), (0, .ref h0)]) hx hb dX1_checkpoint_124 hl (by decide) rfl (fun ls hl => ?_)
                  have lp2 : ∀ (Q : State → Prop) (n : Nat), n ≤ 8 → ∀ (v1_2 : Nat → Int32) (H : Heap) (locs : List Loc) (ls : Array Slot), va_P (dC, dI) vwCl [(h0, .inr (1, [.ref h1, .ref h2, .ref h3, .int dn_1, .int en_1, .int pw_1, .int wr_1, .int cm_1])), (h1, .inl (c1, 96, .inl mem_1)), (h2, .inl (c2, 200, .inl v1_2)), (h3, .inl (c3, 12, .inl sto_1))] H → va_D (va_A (w1 h0 h1 h2 h3 c1 c2 c3 (mem, dsk, sto, dn, en, pw, wr, cm)) s.heap.size) [(h0, .inr (1, [.ref h1, .ref h2, .ref h3, .int dn_1, .int en_1, .int pw_1, .int wr_1, .int cm_1])), (h1, .inl (c1, 96, .inl mem_1)), (h2, .inl (c2, 200, .inl v1_2)), (h3, .inl (c3, 12, .inl sto_1))] → va_S (va_A (w1 h0 h1 h2 h3 c1 c2 c3 (mem, dsk, sto, dn, en, pw, wr, cm)) s.heap.size) s.heap H locs → lv_has ls 7 [(6, .int (nI (8 - n))), (5, .int (f1_member mem_1 dsk_1 sto_1 dn_1 en_1 pw_1 wr_1 cm_1 x ((k - mny) - 1))), (4, .int (f1_member mem_1 dsk_1 sto_1 dn_1 en_1 pw_1 wr_1 cm_1 x ((k - mny) - 1))), (3, .int k), (2, .int mny), (1, .int x), (0, .ref h0)] →
                      (∀ (H : Heap) (locs : List Loc) (ls : Array Slot), va_P (dC, dI) vwCl [(h0, .inr (1, [.ref h1, .ref h2, .ref h3, .int dn_1, .int en_1, .int pw_1, .int wr_1, .int cm_1])), (h1, .inl (c1, 96, .inl mem_1)), (h2, .inl (c2, 200, .inl (cpm mem_1 (f1_member mem_1 dsk_1 sto_1 dn_1 en_1 pw_1 wr_1 cm_1 x ((k - mny) - 1)) (f1_member mem_1 dsk_1 sto_1 dn_1 en_1 pw_1 wr_1 cm_1 x ((k - mny) - 1)) n v1_2))), (h3, .inl (c3, 12, .inl sto_1))] H → va_D (va_A (w1 h0 h1 h2 h3 c1 c2 c3 (mem, dsk, sto, dn, en, pw, wr, cm)) s.heap.size) [(h0, .inr (1, [.ref h1, .ref h2, .ref h3, .int dn_1, .int en_1, .int pw_1, .int wr_1, .int cm_1])), (h1, .inl (c1, 96, .inl mem_1)), (h2, .inl (c2, 200, .inl (cpm mem_1 (f1_member mem_1 dsk_1 sto_1 dn_1 en_1 pw_1 wr_1 cm_1 x ((k - mny) - 1)) (f1_member mem_1 dsk_1 sto_1 dn_1 en_1 pw_1 wr_1 cm_1 x ((k - mny) - 1)) n v1_2))), (h3, .inl (c3, 12, .inl sto_1))] → va_S (va_A (w1 h0 h1 h2 h3 c1 c2 c3 (mem, dsk, sto, dn, en, pw, wr, cm)) s.heap.size) s.heap H locs → lv_has ls 7 [(6, .int (nI 8)), (5, .int (f1_member mem_1 dsk_1 sto_1 dn_1 en_1 pw_1 wr_1 cm_1 x ((k - mny) - 1))), (4, .int (f1_member mem_1 dsk_1 sto_1 dn_1 en_1 pw_1 wr_1 cm_1 x ((k - mny) - 1))), (3, .int k), (2, .int mny), (1, .int x), (0, .ref h0)] → W p l e (headSpec wsX1_checkpoint ({ frames := 1, cells := 0, slots := 0, locals := 24 })).room s m #[Value.ref h0] below meth c H locs 0 0 Q (F0 m 165 ls [])) → W p l e (headSpec wsX1_checkpoint ({ frames := 1, cells := 0, slots := 0, locals := 24 })).room s m #[Value.ref h0] below meth c H locs 0 0 Q (F0 m 126 ls []) := by
                    intro Q n
                    induction n with
                    | zero =>
                      intro hn v1_2 H locs ls hP hD hS hl K
                      have hl : lv_has ls 7 [(6, .int (nI 8)), (5, .int (f1_member mem_1 dsk_1 sto_1 dn_1 en_1 pw_1 wr_1 cm_1 x ((k - mny) - 1))), (4, .int (f1_member mem_1 dsk_1 sto_1 dn_1 en_1 pw_1 wr_1 cm_1 x ((k - mny) - 1))), (3, .int k), (2, .int mny), (1, .int x), (0, .ref h0)] := hl
                      refine lv_iload hx hb dX1_checkpoint_126 (lv_at hl 0 rfl) ?_
                      refine lv_bipush (v := 8) hx hb dX1_checkpoint_128 (by decide) ?_
                      refine lv_icmp_ge (tgt := 165) hx hb dX1_checkpoint_130 (by decide) (fun c_130 => ?_) (fun c_130 => ?_)
                      · skip
                        exact K H locs ls hP hD hS hl
                      · skip
                        exact absurd (by decide) c_130
                    | succ n ih =>
                      intro hn v1_2 H locs ls hP hD hS hl K
                      have enx : 8 - (n + 1) = 7 - n := by omega
                      rw [enx] at hl
                      have ei : nI (7 - n) + 1 = nI (8 - n) := by rw [nI_1]; congr 1; omega
                      have hl : lv_has ls 7 [(6, .int (nI (7 - n))), (5, .int (f1_member mem_1 dsk_1 sto_1 dn_1 en_1 pw_1 wr_1 cm_1 x ((k - mny) - 1))), (4, .int (f1_member mem_1 dsk_1 sto_1 dn_1 en_1 pw_1 wr_1 cm_1 x ((k - mny) - 1))), (3, .int k), (2, .int mny), (1, .int x), (0, .ref h0)] := hl
                      refine lv_iload hx hb dX1_checkpoint_126 (lv_at hl 0 rfl) ?_
                      refine lv_bipush (v := 8) hx hb dX1_checkpoint_128 (by decide) ?_
                      refine lv_icmp_ge (tgt := 165) hx hb dX1_checkpoint_130 (by decide) (fun c_130 => ?_) (fun c_130 => ?_)
                      · skip
                        exact absurd c_130 (nI_ge (a := 7 - n) (b := 8) (by omega) (by decide))
                      · skip
                        refine lv_aload_n hx hb dX1_checkpoint_133 rfl (lv_at hl 6 rfl) ?_
                        refine va_get (D := (dC, dI)) (ci := 1) (v := .ref h2) (C := RX1) (T := TX1) (N := 8) hx hb hts hin hown hK hP 0 rfl rfl 1 (by decide) (hts (.fieldLink RX1 13 "CapStoreModel" "disk" "[I") (by decide +kernel)) (fun _ h9 => h9) rfl dX1_checkpoint_134 ?_
                        refine lv_bipush (v := 8) hx hb dX1_checkpoint_137 (by decide) ?_
                        refine lv_iload hx hb dX1_checkpoint_139 (lv_at hl 1 rfl) ?_
                        refine lv_imul hx hb dX1_checkpoint_141 ?_
                        refine lv_iload hx hb dX1_checkpoint_142 (lv_at hl 0 rfl) ?_
                        refine lv_iadd hx hb dX1_checkpoint_144 ?_
                        refine lv_aload_n hx hb dX1_checkpoint_145 rfl (lv_at hl 6 rfl) ?_
                        refine va_get (D := (dC, dI)) (ci := 1) (v := .ref h1) (C := RX1) (T := TX1) (N := 8) hx hb hts hin hown hK hP 0 rfl rfl 0 (by decide) (hts (.fieldLink RX1 7 "CapStoreModel" "memory" "[I") (by decide +kernel)) (fun _ h9 => h9) rfl dX1_checkpoint_146 ?_
                        refine lv_bipush (v := 8) hx hb dX1_checkpoint_149 (by decide) ?_
                        refine lv_iload hx hb dX1_checkpoint_151 (lv_at hl 2 rfl) ?_
                        refine lv_imul hx hb dX1_checkpoint_153 ?_
                        refine lv_iload hx hb dX1_checkpoint_154 (lv_at hl 0 rfl) ?_
                        refine lv_iadd hx hb dX1_checkpoint_156 ?_
                        refine va_iald hx hb hK hP 1 0 rfl rfl (sdc_1 (mb_ok _ _) (by omega)) dX1_checkpoint_157 ?_
                        refine va_iast hx hb hK hP hD hS 2 1 rfl rfl (sdc_2 (mb_ok _ _) (by omega)) dX1_checkpoint_158 (fun H locs hP hD hS => ?_)
                        have hP : va_P (dC, dI) vwCl [(h0, .inr (1, [.ref h1, .ref h2, .ref h3, .int dn_1, .int en_1, .int pw_1, .int wr_1, .int cm_1])), (h1, .inl (c1, 96, .inl mem_1)), (h2, .inl (c2, 200, .inl (upd v1_2 ((8 * (f1_member mem_1 dsk_1 sto_1 dn_1 en_1 pw_1 wr_1 cm_1 x ((k - mny) - 1))) + (nI (7 - n))).toNatClampNeg (mem_1 ((8 * (f1_member mem_1 dsk_1 sto_1 dn_1 en_1 pw_1 wr_1 cm_1 x ((k - mny) - 1))) + (nI (7 - n))).toNatClampNeg)))), (h3, .inl (c3, 12, .inl sto_1))] _ := hP
                        have hD : va_D _ [(h0, .inr (1, [.ref h1, .ref h2, .ref h3, .int dn_1, .int en_1, .int pw_1, .int wr_1, .int cm_1])), (h1, .inl (c1, 96, .inl mem_1)), (h2, .inl (c2, 200, .inl (upd v1_2 ((8 * (f1_member mem_1 dsk_1 sto_1 dn_1 en_1 pw_1 wr_1 cm_1 x ((k - mny) - 1))) + (nI (7 - n))).toNatClampNeg (mem_1 ((8 * (f1_member mem_1 dsk_1 sto_1 dn_1 en_1 pw_1 wr_1 cm_1 x ((k - mny) - 1))) + (nI (7 - n))).toNatClampNeg)))), (h3, .inl (c3, 12, .inl sto_1))] := hD
                        refine lv_iinc (v := ((nI (7 - n)) + 1)) (lv' := [(6, .int ((nI (7 - n)) + 1)), (5, .int (f1_member mem_1 dsk_1 sto_1 dn_1 en_1 pw_1 wr_1 cm_1 x ((k - mny) - 1))), (4, .int (f1_member mem_1 dsk_1 sto_1 dn_1 en_1 pw_1 wr_1 cm_1 x ((k - mny) - 1))), (3, .int k), (2, .int mny), (1, .int x), (0, .ref h0)]) hx hb dX1_checkpoint_159 hl (k := 0) rfl rfl (by decide) rfl (fun ls hl => ?_)
                        refine lv_goto (tgt := 126) hx hb dX1_checkpoint_162 (by decide) ?_
                        rw [ei] at hl
                        exact ih (by omega) (upd v1_2 ((8 * (f1_member mem_1 dsk_1 sto_1 dn_1 en_1 pw_1 wr_1 cm_1 x ((k - mny) - 1))) + (nI (7 - n))).toNatClampNeg (mem_1 ((8 * (f1_member mem_1 dsk_1 sto_1 dn_1 en_1 pw_1 wr_1 cm_1 x ((k - mny) - 1))) + (nI (7 - n))).toNatClampNeg)) _ _ ls hP hD hS (lv_sub hl [0, 1, 2, 3, 4, 5, 6] rfl) K
                  refine lp2 _ 8 (Nat.le_refl _) dsk_1 _ _ ls hP hD hS (lv_sub hl [0, 1, 2, 3, 4, 5, 6] rfl) (fun H locs ls hP hD hS hl => ?_)
                  have hP : va_P (dC, dI) vwCl [(h0, .inr (1, [.ref h1, .ref h2, .ref h3, .int dn_1, .int en_1, .int pw_1, .int wr_1, .int cm_1])), (h1, .inl (c1, 96, .inl mem_1)), (h2, .inl (c2, 200, .inl (cpm mem_1 (f1_member mem_1 dsk_1 sto_1 dn_1 en_1 pw_1 wr_1 cm_1 x ((k - mny) - 1)) (f1_member mem_1 dsk_1 sto_1 dn_1 en_1 pw_1 wr_1 cm_1 x ((k - mny) - 1)) 8 dsk_1))), (h3, .inl (c3, 12, .inl sto_1))] _ := hP
                  have hD : va_D _ [(h0, .inr (1, [.ref h1, .ref h2, .ref h3, .int dn_1, .int en_1, .int pw_1, .int wr_1, .int cm_1])), (h1, .inl (c1, 96, .inl mem_1)), (h2, .inl (c2, 200, .inl (cpm mem_1 (f1_member mem_1 dsk_1 sto_1 dn_1 en_1 pw_1 wr_1 cm_1 x ((k - mny) - 1)) (f1_member mem_1 dsk_1 sto_1 dn_1 en_1 pw_1 wr_1 cm_1 x ((k - mny) - 1)) 8 dsk_1))), (h3, .inl (c3, 12, .inl sto_1))] := hD
                  refine lv_iinc (v := (k + 1)) (lv' := [(3, .int (k + 1)), (6, .int (nI 8)), (5, .int (f1_member mem_1 dsk_1 sto_1 dn_1 en_1 pw_1 wr_1 cm_1 x ((k - mny) - 1))), (4, .int (f1_member mem_1 dsk_1 sto_1 dn_1 en_1 pw_1 wr_1 cm_1 x ((k - mny) - 1))), (2, .int mny), (1, .int x), (0, .ref h0)]) hx hb dX1_checkpoint_165 hl (k := 3) rfl rfl (by decide) rfl (fun ls hl => ?_)
                  refine lv_goto (tgt := 28) hx hb dX1_checkpoint_168 (by decide) ?_
                  have e9 : F1_cp x mny (f + 1) k (mem_0, dsk_0, sto_0, dn_0, en_0, pw_0, wr_0, cm_0) = F1_cp x mny f (k + 1) (mem_1, (cpm mem_1 (f1_member mem_1 dsk_1 sto_1 dn_1 en_1 pw_1 wr_1 cm_1 x ((k - mny) - 1)) (f1_member mem_1 dsk_1 sto_1 dn_1 en_1 pw_1 wr_1 cm_1 x ((k - mny) - 1)) 8 dsk_1), sto_1, dn_1, en_1, pw_1, wr_1, cm_1) := by rw [F1_cp]; (try dsimp only); rw [hF1]; (try dsimp only); rw [if_neg c_41, if_neg c_49, if_pos c_74, if_pos c_89]
                  rw [e9]
                  exact ih (by omega) (k + 1) (ck_nxt hf ek) mem_1 (cpm mem_1 (f1_member mem_1 dsk_1 sto_1 dn_1 en_1 pw_1 wr_1 cm_1 x ((k - mny) - 1)) (f1_member mem_1 dsk_1 sto_1 dn_1 en_1 pw_1 wr_1 cm_1 x ((k - mny) - 1)) 8 dsk_1) sto_1 dn_1 en_1 pw_1 wr_1 cm_1 _ _ ls hP hD hS (lv_sub hl [0, 4, 5, 6] rfl)
                · skip
                  exact absurd (c_89) c_108
              · skip
                refine lv_iload_n hx hb dX1_checkpoint_92 rfl (lv_at hl 0 rfl) ?_
                refine lv_goto (tgt := 101) hx hb dX1_checkpoint_93 (by decide) ?_
                refine callRi (q := (RX1, TX1, 8)) (ci := 1) (q0 := 0) (As := [.int x, .int k]) (rest := []) (m1_member l dC dI h0 h1 h2 h3 c1 c2 c3 mem_1 dsk_1 sto_1 dn_1 en_1 pw_1 wr_1 cm_1 x k ) ⟨hx, hb, hml, hown, hts⟩ (cwV 2 hts gX1_checkpoint_X1_member rfl rfl rfl (by decide +kernel) ⟨Nat.le_of_ble_eq_true rfl, Nat.le_of_ble_eq_true rfl⟩) hK hP rfl rfl rfl hl.1 rfl (Nat.le_of_ble_eq_true rfl) dX1_checkpoint_101 ⟨Nat.zero_le _, Nat.zero_le _⟩ ?_
                refine lv_istore (lv' := [(4, .int (f1_member mem_1 dsk_1 sto_1 dn_1 en_1 pw_1 wr_1 cm_1 x k)), (3, .int k), (2, .int mny), (1, .int x), (0, .ref h0)]) hx hb dX1_checkpoint_104 hl (by decide) rfl (fun ls hl => ?_)
                refine lv_iload_n hx hb dX1_checkpoint_106 rfl (lv_at hl 1 rfl) ?_
                refine lv_iload_n hx hb dX1_checkpoint_107 rfl (lv_at hl 2 rfl) ?_
                refine lv_icmp_ge (tgt := 119) hx hb dX1_checkpoint_108 (by decide) (fun c_108 => ?_) (fun c_108 => ?_)
                · skip
                  exact absurd c_108 (c_89)
                · skip
                  refine lv_bipush (v := 12) hx hb dX1_checkpoint_111 (by decide) ?_
                  refine lv_iload hx hb dX1_checkpoint_113 (lv_at hl 0 rfl) ?_
                  refine lv_iadd hx hb dX1_checkpoint_115 ?_
                  refine lv_goto (tgt := 121) hx hb dX1_checkpoint_116 (by decide) ?_
                  refine lv_istore (lv' := [(5, .int (12 + (f1_member mem_1 dsk_1 sto_1 dn_1 en_1 pw_1 wr_1 cm_1 x k))), (4, .int (f1_member mem_1 dsk_1 sto_1 dn_1 en_1 pw_1 wr_1 cm_1 x k)), (3, .int k), (2, .int mny), (1, .int x), (0, .ref h0)]) hx hb dX1_checkpoint_121 hl (by decide) rfl (fun ls hl => ?_)
                  refine lv_iconst (v := 0) hx hb dX1_checkpoint_123 (by decide) ?_
                  refine lv_istore (lv' := [(6, .int 0), (5, .int (12 + (f1_member mem_1 dsk_1 sto_1 dn_1 en_1 pw_1 wr_1 cm_1 x k))), (4, .int (f1_member mem_1 dsk_1 sto_1 dn_1 en_1 pw_1 wr_1 cm_1 x k)), (3, .int k), (2, .int mny), (1, .int x), (0, .ref h0)]) hx hb dX1_checkpoint_124 hl (by decide) rfl (fun ls hl => ?_)
                  have lp3 : ∀ (Q : State → Prop) (n : Nat), n ≤ 8 → ∀ (v1_3 : Nat → Int32) (H : Heap) (locs : List Loc) (ls : Array Slot), va_P (dC, dI) vwCl [(h0, .inr (1, [.ref h1, .ref h2, .ref h3, .int dn_1, .int en_1, .int pw_1, .int wr_1, .int cm_1])), (h1, .inl (c1, 96, .inl mem_1)), (h2, .inl (c2, 200, .inl v1_3)), (h3, .inl (c3, 12, .inl sto_1))] H → va_D (va_A (w1 h0 h1 h2 h3 c1 c2 c3 (mem, dsk, sto, dn, en, pw, wr, cm)) s.heap.size) [(h0, .inr (1, [.ref h1, .ref h2, .ref h3, .int dn_1, .int en_1, .int pw_1, .int wr_1, .int cm_1])), (h1, .inl (c1, 96, .inl mem_1)), (h2, .inl (c2, 200, .inl v1_3)), (h3, .inl (c3, 12, .inl sto_1))] → va_S (va_A (w1 h0 h1 h2 h3 c1 c2 c3 (mem, dsk, sto, dn, en, pw, wr, cm)) s.heap.size) s.heap H locs → lv_has ls 7 [(6, .int (nI (8 - n))), (5, .int (12 + (f1_member mem_1 dsk_1 sto_1 dn_1 en_1 pw_1 wr_1 cm_1 x k))), (4, .int (f1_member mem_1 dsk_1 sto_1 dn_1 en_1 pw_1 wr_1 cm_1 x k)), (3, .int k), (2, .int mny), (1, .int x), (0, .ref h0)] →
                      (∀ (H : Heap) (locs : List Loc) (ls : Array Slot), va_P (dC, dI) vwCl [(h0, .inr (1, [.ref h1, .ref h2, .ref h3, .int dn_1, .int en_1, .int pw_1, .int wr_1, .int cm_1])), (h1, .inl (c1, 96, .inl mem_1)), (h2, .inl (c2, 200, .inl (cpm mem_1 (12 + (f1_member mem_1 dsk_1 sto_1 dn_1 en_1 pw_1 wr_1 cm_1 x k)) (f1_member mem_1 dsk_1 sto_1 dn_1 en_1 pw_1 wr_1 cm_1 x k) n v1_3))), (h3, .inl (c3, 12, .inl sto_1))] H → va_D (va_A (w1 h0 h1 h2 h3 c1 c2 c3 (mem, dsk, sto, dn, en, pw, wr, cm)) s.heap.size) [(h0, .inr (1, [.ref h1, .ref h2, .ref h3, .int dn_1, .int en_1, .int pw_1, .int wr_1, .int cm_1])), (h1, .inl (c1, 96, .inl mem_1)), (h2, .inl (c2, 200, .inl (cpm mem_1 (12 + (f1_member mem_1 dsk_1 sto_1 dn_1 en_1 pw_1 wr_1 cm_1 x k)) (f1_member mem_1 dsk_1 sto_1 dn_1 en_1 pw_1 wr_1 cm_1 x k) n v1_3))), (h3, .inl (c3, 12, .inl sto_1))] → va_S (va_A (w1 h0 h1 h2 h3 c1 c2 c3 (mem, dsk, sto, dn, en, pw, wr, cm)) s.heap.size) s.heap H locs → lv_has ls 7 [(6, .int (nI 8)), (5, .int (12 + (f1_member mem_1 dsk_1 sto_1 dn_1 en_1 pw_1 wr_1 cm_1 x k))), (4, .int (f1_member mem_1 dsk_1 sto_1 dn_1 en_1 pw_1 wr_1 cm_1 x k)), (3, .int k), (2, .int mny), (1, .int x), (0, .ref h0)] → W p l e (headSpec wsX1_checkpoint ({ frames := 1, cells := 0, slots := 0, locals := 24 })).room s m #[Value.ref h0] below meth c H locs 0 0 Q (F0 m 165 ls [])) → W p l e (headSpec wsX1_checkpoint ({ frames := 1, cells := 0, slots := 0, locals := 24 })).room s m #[Value.ref h0] below meth c H locs 0 0 Q (F0 m 126 ls []) := by
                    intro Q n
                    induction n with
                    | zero =>
                      intro hn v1_3 H locs ls hP hD hS hl K
                      have hl : lv_has ls 7 [(6, .int (nI 8)), (5, .int (12 + (f1_member mem_1 dsk_1 sto_1 dn_1 en_1 pw_1 wr_1 cm_1 x k))), (4, .int (f1_member mem_1 dsk_1 sto_1 dn_1 en_1 pw_1 wr_1 cm_1 x k)), (3, .int k), (2, .int mny), (1, .int x), (0, .ref h0)] := hl
                      refine lv_iload hx hb dX1_checkpoint_126 (lv_at hl 0 rfl) ?_
                      refine lv_bipush (v := 8) hx hb dX1_checkpoint_128 (by decide) ?_
                      refine lv_icmp_ge (tgt := 165) hx hb dX1_checkpoint_130 (by decide) (fun c_130 => ?_) (fun c_130 => ?_)
                      · skip
                        exact K H locs ls hP hD hS hl
                      · skip
                        exact absurd (by decide) c_130
                    | succ n ih =>
                      intro hn v1_3 H locs ls hP hD hS hl K
                      have enx : 8 - (n + 1) = 7 - n := by omega
                      rw [enx] at hl
                      have ei : nI (7 - n) + 1 = nI (8 - n) := by rw [nI_1]; congr 1; omega
                      have hl : lv_has ls 7 [(6, .int (nI (7 - n))), (5, .int (12 + (f1_member mem_1 dsk_1 sto_1 dn_1 en_1 pw_1 wr_1 cm_1 x k))), (4, .int (f1_member mem_1 dsk_1 sto_1 dn_1 en_1 pw_1 wr_1 cm_1 x k)), (3, .int k), (2, .int mny), (1, .int x), (0, .ref h0)] := hl
                      refine lv_iload hx hb dX1_checkpoint_126 (lv_at hl 0 rfl) ?_
                      refine lv_bipush (v := 8) hx hb dX1_checkpoint_128 (by decide) ?_
                      refine lv_icmp_ge (tgt := 165) hx hb dX1_checkpoint_130 (by decide) (fun c_130 => ?_) (fun c_130 => ?_)
                      · skip
                        exact absurd c_130 (nI_ge (a := 7 - n) (b := 8) (by omega) (by decide))
                      · skip
                        refine lv_aload_n hx hb dX1_checkpoint_133 rfl (lv_at hl 6 rfl) ?_
                        refine va_get (D := (dC, dI)) (ci := 1) (v := .ref h2) (C := RX1) (T := TX1) (N := 8) hx hb hts hin hown hK hP 0 rfl rfl 1 (by decide) (hts (.fieldLink RX1 13 "CapStoreModel" "disk" "[I") (by decide +kernel)) (fun _ h9 => h9) rfl dX1_checkpoint_134 ?_
                        refine lv_bipush (v := 8) hx hb dX1_checkpoint_137 (by decide) ?_
                        refine lv_iload hx hb dX1_checkpoint_139 (lv_at hl 1 rfl) ?_
                        refine lv_imul hx hb dX1_checkpoint_141 ?_
                        refine lv_iload hx hb dX1_checkpoint_142 (lv_at hl 0 rfl) ?_
                        refine lv_iadd hx hb dX1_checkpoint_144 ?_
                        refine lv_aload_n hx hb dX1_checkpoint_145 rfl (lv_at hl 6 rfl) ?_
                        refine va_get (D := (dC, dI)) (ci := 1) (v := .ref h1) (C := RX1) (T := TX1) (N := 8) hx hb hts hin hown hK hP 0 rfl rfl 0 (by decide) (hts (.fieldLink RX1 7 "CapStoreModel" "memory" "[I") (by decide +kernel)) (fun _ h9 => h9) rfl dX1_checkpoint_146 ?_
                        refine lv_bipush (v := 8) hx hb dX1_checkpoint_149 (by decide) ?_
                        refine lv_iload hx hb dX1_checkpoint_151 (lv_at hl 2 rfl) ?_
                        refine lv_imul hx hb dX1_checkpoint_153 ?_
                        refine lv_iload hx hb dX1_checkpoint_154 (lv_at hl 0 rfl) ?_
                        refine lv_iadd hx hb dX1_checkpoint_156 ?_
                        refine va_iald hx hb hK hP 1 0 rfl rfl (sdc_1 (mb_ok _ _) (by omega)) dX1_checkpoint_157 ?_
                        refine va_iast hx hb hK hP hD hS 2 1 rfl rfl (sdc_3 (mb_ok _ _) (by omega)) dX1_checkpoint_158 (fun H locs hP hD hS => ?_)
                        have hP : va_P (dC, dI) vwCl [(h0, .inr (1, [.ref h1, .ref h2, .ref h3, .int dn_1, .int en_1, .int pw_1, .int wr_1, .int cm_1])), (h1, .inl (c1, 96, .inl mem_1)), (h2, .inl (c2, 200, .inl (upd v1_3 ((8 * (12 + (f1_member mem_1 dsk_1 sto_1 dn_1 en_1 pw_1 wr_1 cm_1 x k))) + (nI (7 - n))).toNatClampNeg (mem_1 ((8 * (f1_member mem_1 dsk_1 sto_1 dn_1 en_1 pw_1 wr_1 cm_1 x k)) + (nI (7 - n))).toNatClampNeg)))), (h3, .inl (c3, 12, .inl sto_1))] _ := hP
                        have hD : va_D _ [(h0, .inr (1, [.ref h1, .ref h2, .ref h3, .int dn_1, .int en_1, .int pw_1, .int wr_1, .int cm_1])), (h1, .inl (c1, 96, .inl mem_1)), (h2, .inl (c2, 200, .inl (upd v1_3 ((8 * (12 + (f1_member mem_1 dsk_1 sto_1 dn_1 en_1 pw_1 wr_1 cm_1 x k))) + (nI (7 - n))).toNatClampNeg (mem_1 ((8 * (f1_member mem_1 dsk_1 sto_1 dn_1 en_1 pw_1 wr_1 cm_1 x k)) + (nI (7 - n))).toNatClampNeg)))), (h3, .inl (c3, 12, .inl sto_1))] := hD
                        refine lv_iinc (v := ((nI (7 - n)) + 1)) (lv' := [(6, .int ((nI (7 - n)) + 1)), (5, .int (12 + (f1_member mem_1 dsk_1 sto_1 dn_1 en_1 pw_1 wr_1 cm_1 x k))), (4, .int (f1_member mem_1 dsk_1 sto_1 dn_1 en_1 pw_1 wr_1 cm_1 x k)), (3, .int k), (2, .int mny), (1, .int x), (0, .ref h0)]) hx hb dX1_checkpoint_159 hl (k := 0) rfl rfl (by decide) rfl (fun ls hl => ?_)
                        refine lv_goto (tgt := 126) hx hb dX1_checkpoint_162 (by decide) ?_
                        rw [ei] at hl
                        exact ih (by omega) (upd v1_3 ((8 * (12 + (f1_member mem_1 dsk_1 sto_1 dn_1 en_1 pw_1 wr_1 cm_1 x k))) + (nI (7 - n))).toNatClampNeg (mem_1 ((8 * (f1_member mem_1 dsk_1 sto_1 dn_1 en_1 pw_1 wr_1 cm_1 x k)) + (nI (7 - n))).toNatClampNeg)) _ _ ls hP hD hS (lv_sub hl [0, 1, 2, 3, 4, 5, 6] rfl) K
                  refine lp3 _ 8 (Nat.le_refl _) dsk_1 _ _ ls hP hD hS (lv_sub hl [0, 1, 2, 3, 4, 5, 6] rfl) (fun H locs ls hP hD hS hl => ?_)
                  have hP : va_P (dC, dI) vwCl [(h0, .inr (1, [.ref h1, .ref h2, .ref h3, .int dn_1, .int en_1, .int pw_1, .int wr_1, .int cm_1])), (h1, .inl (c1, 96, .inl mem_1)), (h2, .inl (c2, 200, .inl (cpm mem_1 (12 + (f1_member mem_1 dsk_1 sto_1 dn_1 en_1 pw_1 wr_1 cm_1 x k)) (f1_member mem_1 dsk_1 sto_1 dn_1 en_1 pw_1 wr_1 cm_1 x k) 8 dsk_1))), (h3, .inl (c3, 12, .inl sto_1))] _ := hP
                  have hD : va_D _ [(h0, .inr (1, [.ref h1, .ref h2, .ref h3, .int dn_1, .int en_1, .int pw_1, .int wr_1, .int cm_1])), (h1, .inl (c1, 96, .inl mem_1)), (h2, .inl (c2, 200, .inl (cpm mem_1 (12 + (f1_member mem_1 dsk_1 sto_1 dn_1 en_1 pw_1 wr_1 cm_1 x k)) (f1_member mem_1 dsk_1 sto_1 dn_1 en_1 pw_1 wr_1 cm_1 x k) 8 dsk_1))), (h3, .inl (c3, 12, .inl sto_1))] := hD
                  refine lv_iinc (v := (k + 1)) (lv' := [(3, .int (k + 1)), (6, .int (nI 8)), (5, .int (12 + (f1_member mem_1 dsk_1 sto_1 dn_1 en_1 pw_1 wr_1 cm_1 x k))), (4, .int (f1_member mem_1 dsk_1 sto_1 dn_1 en_1 pw_1 wr_1 cm_1 x k)), (2, .int mny), (1, .int x), (0, .ref h0)]) hx hb dX1_checkpoint_165 hl (k := 3) rfl rfl (by decide) rfl (fun ls hl => ?_)
                  refine lv_goto (tgt := 28) hx hb dX1_checkpoint_168 (by decide) ?_
                  have e9 : F1_cp x mny (f + 1) k (mem_0, dsk_0, sto_0, dn_0, en_0, pw_0, wr_0, cm_0) = F1_cp x mny f (k + 1) (mem_1, (cpm mem_1 (12 + (f1_member mem_1 dsk_1 sto_1 dn_1 en_1 pw_1 wr_1 cm_1 x k)) (f1_member mem_1 dsk_1 sto_1 dn_1 en_1 pw_1 wr_1 cm_1 x k) 8 dsk_1), sto_1, dn_1, en_1, pw_1, wr_1, cm_1) := by rw [F1_cp]; (try dsimp only); rw [hF1]; (try dsimp only); rw [if_neg c_41, if_neg c_49, if_pos c_74, if_neg c_89]
                  rw [e9]
                  exact ih (by omega) (k + 1) (ck_nxt hf ek) mem_1 (cpm mem_1 (12 + (f1_member mem_1 dsk_1 sto_1 dn_1 en_1 pw_1 wr_1 cm_1 x k)) (f1_member mem_1 dsk_1 sto_1 dn_1 en_1 pw_1 wr_1 cm_1 x k) 8 dsk_1) sto_1 dn_1 en_1 pw_1 wr_1 cm_1 _ _ ls hP hD hS (lv_sub hl [0, 4, 5, 6] rfl)
            · skip
              refine lv_aload_n hx hb dX1_checkpoint_77 rfl (lv_at hl 3 rfl) ?_
              refine lv_iconst (v := 0) hx hb dX1_checkpoint_78 (by decide) ?_
              refine callWv (q := (RX1, TX1, 8)) (ci := 1) (q0 := 0) (As := [.int 0]) (rest := []) (wr := []) (m1_header l dC dI h0 h1 h2 h3 c1 c2 c3 _ mem_1 dsk_1 sto_1 dn_1 en_1 pw_1 wr_1 cm_1 0 ) ⟨hx, hb, hml, hown, hts⟩ (cwV 1 hts gX1_checkpoint_X1_header rfl rfl rfl (by decide +kernel) ⟨Nat.le_of_ble_eq_true rfl, Nat.le_of_ble_eq_true rfl⟩) hK hP hD hS hA rfl rfl [0, 1, 2, 3] [] rfl rfl rfl (by decide) (by decide) (by decide) rfl hl.1 rfl (Nat.le_of_ble_eq_true rfl) dX1_checkpoint_79 ⟨Nat.zero_le _, Nat.zero_le _⟩ (fun H locs hP hD hS => ?_)
              have hP : va_P (dC, dI) vwCl [(h0, .inr (1, [.ref h1, .ref h2, .ref h3, .int dn_1, .int en_1, .int pw_1, .int wr_1, .int cm_1])), (h1, .inl (c1, 96, .inl mem_1)), (h2, .inl (c2, 200, .inl (upd dsk_1 (192 : Int32).toNatClampNeg 0))), (h3, .inl (c3, 12, .inl sto_1))] _ := hP
              have hD : va_D _ [(h0, .inr (1, [.ref h1, .ref h2, .ref h3, .int dn_1, .int en_1, .int pw_1, .int wr_1, .int cm_1])), (h1, .inl (c1, 96, .inl mem_1)), (h2, .inl (c2, 200, .inl (upd dsk_1 (192 : Int32).toNatClampNeg 0))), (h3, .inl (c3, 12, .inl sto_1))] := hD
              refine lv_goto (tgt := 165) hx hb dX1_checkpoint_82 (by decide) ?_
              refine lv_iinc (v := (k + 1)) (lv' := [(3, .int (k + 1)), (2, .int mny), (1, .int x), (0, .ref h0)]) hx hb dX1_checkpoint_165 hl (k := 0) rfl rfl (by decide) rfl (fun ls hl => ?_)
              refine lv_goto (tgt := 28) hx hb dX1_checkpoint_168 (by decide) ?_
              have e9 : F1_cp x mny (f + 1) k (mem_0, dsk_0, sto_0, dn_0, en_0, pw_0, wr_0, cm_0) = F1_cp x mny f (k + 1) (mem_1, (upd dsk_1 (192 : Int32).toNatClampNeg 0), sto_1, dn_1, en_1, pw_1, wr_1, cm_1) := by rw [F1_cp]; (try dsimp only); rw [hF1]; (try dsimp only); rw [if_neg c_41, if_neg c_49, if_neg c_74]
              rw [e9]
              exact ih (by omega) (k + 1) (ck_nxt hf ek) mem_1 (upd dsk_1 (192 : Int32).toNatClampNeg 0) sto_1 dn_1 en_1 pw_1 wr_1 cm_1 _ _ ls hP hD hS (lv_sub hl [0, 1, 2, 3] rfl)
          · skip
            refine lv_aload_n hx hb dX1_checkpoint_52 rfl (lv_at hl 3 rfl) ?_
            refine lv_iload_n hx hb dX1_checkpoint_53 rfl (lv_at hl 2 rfl) ?_
            refine callWv (q := (RX1, TX1, 8)) (ci := 1) (q0 := 0) (As := [.int x]) (rest := []) (wr := []) (m1_header l dC dI h0 h1 h2 h3 c1 c2 c3 _ mem_1 dsk_1 sto_1 dn_1 en_1 pw_1 wr_1 cm_1 x ) ⟨hx, hb, hml, hown, hts⟩ (cwV 1 hts gX1_checkpoint_X1_header rfl rfl rfl (by decide +kernel) ⟨Nat.le_of_ble_eq_true rfl, Nat.le_of_ble_eq_true rfl⟩) hK hP hD hS hA rfl rfl [0, 1, 2, 3] [] rfl rfl rfl (by decide) (by decide) (by decide) rfl hl.1 rfl (Nat.le_of_ble_eq_true rfl) dX1_checkpoint_54 ⟨Nat.zero_le _, Nat.zero_le _⟩ (fun H locs hP hD hS => ?_)
            have hP : va_P (dC, dI) vwCl [(h0, .inr (1, [.ref h1, .ref h2, .ref h3, .int dn_1, .int en_1, .int pw_1, .int wr_1, .int cm_1])), (h1, .inl (c1, 96, .inl mem_1)), (h2, .inl (c2, 200, .inl (upd dsk_1 (192 : Int32).toNatClampNeg x))), (h3, .inl (c3, 12, .inl sto_1))] _ := hP
            have hD : va_D _ [(h0, .inr (1, [.ref h1, .ref h2, .ref h3, .int dn_1, .int en_1, .int pw_1, .int wr_1, .int cm_1])), (h1, .inl (c1, 96, .inl mem_1)), (h2, .inl (c2, 200, .inl (upd dsk_1 (192 : Int32).toNatClampNeg x))), (h3, .inl (c3, 12, .inl sto_1))] := hD
            refine lv_aload_n hx hb dX1_checkpoint_57 rfl (lv_at hl 3 rfl) ?_
            refine lv_dup hx hb dX1_checkpoint_58 rfl ?_
            refine va_get (D := (dC, dI)) (ci := 1) (v := .int cm_1) (C := RX1) (T := TX1) (N := 8) hx hb hts hin hown hK hP 0 rfl rfl 7 (by decide) (hts (.fieldLink RX1 77 "CapStoreModel" "commits" "I") (by decide +kernel)) (fun _ h9 => h9) rfl dX1_checkpoint_59 ?_
            refine lv_iconst (v := 1) hx hb dX1_checkpoint_62 (by decide) ?_
            refine lv_iadd hx hb dX1_checkpoint_63 ?_
            refine va_put (D := (dC, dI)) (ci := 1) (v := .int (cm_1 + 1)) (ty := .int) (C := RX1) (T := TX1) (N := 8) hx hb hts hin tyX1 tyX1_ok nmX1 hown hK hP hD hS 0 rfl rfl 7 (by decide) (hts (.fieldLink RX1 77 "CapStoreModel" "commits" "I") (by decide +kernel)) (fun _ h9 => h9) rfl (by decide +kernel) rfl rfl (Nat.le_of_ble_eq_true rfl) dX1_checkpoint_64 (fun H locs hP hD hS => ?_)
            have hP : va_P (dC, dI) vwCl [(h0, .inr (1, [.ref h1, .ref h2, .ref h3, .int dn_1, .int en_1, .int pw_1, .int wr_1, .int (cm_1 + 1)])), (h1, .inl (c1, 96, .inl mem_1)), (h2, .inl (c2, 200, .inl (upd dsk_1 (192 : Int32).toNatClampNeg x))), (h3, .inl (c3, 12, .inl sto_1))] _ := hP
            have hD : va_D _ [(h0, .inr (1, [.ref h1, .ref h2, .ref h3, .int dn_1, .int en_1, .int pw_1, .int wr_1, .int (cm_1 + 1)])), (h1, .inl (c1, 96, .inl mem_1)), (h2, .inl (c2, 200, .inl (upd dsk_1 (192 : Int32).toNatClampNeg x))), (h3, .inl (c3, 12, .inl sto_1))] := hD
            refine lv_goto (tgt := 165) hx hb dX1_checkpoint_67 (by decide) ?_
            refine lv_iinc (v := (k + 1)) (lv' := [(3, .int (k + 1)), (2, .int mny), (1, .int x), (0, .ref h0)]) hx hb dX1_checkpoint_165 hl (k := 0) rfl rfl (by decide) rfl (fun ls hl => ?_)
            refine lv_goto (tgt := 28) hx hb dX1_checkpoint_168 (by decide) ?_
            have e9 : F1_cp x mny (f + 1) k (mem_0, dsk_0, sto_0, dn_0, en_0, pw_0, wr_0, cm_0) = F1_cp x mny f (k + 1) (mem_1, (upd dsk_1 (192 : Int32).toNatClampNeg x), sto_1, dn_1, en_1, pw_1, wr_1, (cm_1 + 1)) := by rw [F1_cp]; (try dsimp only); rw [hF1]; (try dsimp only); rw [if_neg c_41, if_pos c_49]
            rw [e9]
            exact ih (by omega) (k + 1) (ck_nxt hf ek) mem_1 (upd dsk_1 (192 : Int32).toNatClampNeg x) sto_1 dn_1 en_1 pw_1 wr_1 (cm_1 + 1) _ _ ls hP hD hS (lv_sub hl [0, 1, 2, 3] rfl)
        · skip
          refine lv_bipush (v := (-2)) hx hb dX1_checkpoint_44 (by decide) ?_
          have e9 : F1_cp x mny (f + 1) k (mem_0, dsk_0, sto_0, dn_0, en_0, pw_0, wr_0, cm_0) = ((-2), mem_1, dsk_1, sto_1, dn_1, en_1, pw_1, wr_1, cm_1) := by rw [F1_cp]; (try dsimp only); rw [hF1]; (try dsimp only); rw [if_pos c_41]
          rw [e9]
          exact retWi hx hb hr hlocks rfl rfl rfl hK hP hD hS dX1_checkpoint_46
  refine lv_aload_n hx hb dX1_checkpoint_0 rfl (lv_at hl 0 rfl) ?_
  refine va_get (D := (dC, dI)) (ci := 1) (v := .int dn) (C := RX1) (T := TX1) (N := 8) hx hb hts hin hown hK hP 0 rfl rfl 3 (by decide) (hts (.fieldLink RX1 28 "CapStoreModel" "down" "Z") (by decide +kernel)) (fun _ h9 => h9) rfl dX1_checkpoint_1 ?_
  refine lv_if_eq (tgt := 9) hx hb dX1_checkpoint_4 (by decide) (fun c_4 => ?_) (fun c_4 => ?_)
  · skip
    refine lv_aload_n hx hb dX1_checkpoint_9 rfl (lv_at hl 0 rfl) ?_
    refine callRi (q := (RX1, TX1, 8)) (ci := 1) (q0 := 0) (As := []) (rest := []) (m1_dirty l dC dI h0 h1 h2 h3 c1 c2 c3 mem dsk sto dn en pw wr cm  ) ⟨hx, hb, hml, hown, hts⟩ (cwV 0 hts gX1_checkpoint_X1_dirty rfl rfl rfl (by decide +kernel) ⟨Nat.le_of_ble_eq_true rfl, Nat.le_of_ble_eq_true rfl⟩) hK hP rfl rfl rfl hl.1 rfl (Nat.le_of_ble_eq_true rfl) dX1_checkpoint_10 ⟨Nat.zero_le _, Nat.zero_le _⟩ ?_
    refine lv_istore_n (lv' := [(1, .int (f1_dirty mem dsk sto dn en pw wr cm)), (0, .ref h0)]) hx hb dX1_checkpoint_13 rfl hl (by decide) rfl (fun ls hl => ?_)
    refine lv_aload_n hx hb dX1_checkpoint_14 rfl (lv_at hl 1 rfl) ?_
    refine lv_iload_n hx hb dX1_checkpoint_15 rfl (lv_at hl 0 rfl) ?_
    refine callRi (q := (RX1, TX1, 8)) (ci := 1) (q0 := 0) (As := [.int (f1_dirty mem dsk sto dn en pw wr cm)]) (rest := []) (m1_inSet l dC dI h0 h1 h2 h3 c1 c2 c3 mem dsk sto dn en pw wr cm (f1_dirty mem dsk sto dn en pw wr cm) ) ⟨hx, hb, hml, hown, hts⟩ (cwV 1 hts gX1_checkpoint_X1_inSet rfl rfl rfl (by decide +kernel) ⟨Nat.le_of_ble_eq_true rfl, Nat.le_of_ble_eq_true rfl⟩) hK hP rfl rfl rfl hl.1 rfl (Nat.le_of_ble_eq_true rfl) dX1_checkpoint_16 ⟨Nat.zero_le _, Nat.zero_le _⟩ ?_
    refine lv_istore_n (lv' := [(2, .int (f1_inSet mem dsk sto dn en pw wr cm (f1_dirty mem dsk sto dn en pw wr cm))), (1, .int (f1_dirty mem dsk sto dn en pw wr cm)), (0, .ref h0)]) hx hb dX1_checkpoint_19 rfl hl (by decide) rfl (fun ls hl => ?_)
    refine lv_iload_n hx hb dX1_checkpoint_20 rfl (lv_at hl 0 rfl) ?_
    refine lv_if_ne (tgt := 26) hx hb dX1_checkpoint_21 (by decide) (fun c_21 => ?_) (fun c_21 => ?_)
    · skip
      refine lv_iconst (v := 0) hx hb dX1_checkpoint_26 (by decide) ?_
      refine lv_istore_n (lv' := [(3, .int 0), (2, .int (f1_inSet mem dsk sto dn en pw wr cm (f1_dirty mem dsk sto dn en pw wr cm))), (1, .int (f1_dirty mem dsk sto dn en pw wr cm)), (0, .ref h0)]) hx hb dX1_checkpoint_27 rfl hl (by decide) rfl (fun ls hl => ?_)
      obtain ⟨nn, hnn, enn⟩ : ∃ nn : Nat, nn ≤ 12 ∧ (f1_inSet mem dsk sto dn en pw wr cm (f1_dirty mem dsk sto dn en pw wr cm)) = nI nn := is_ok (f1_dirty mem dsk sto dn en pw wr cm)
      have ec : (f1_inSet mem dsk sto dn en pw wr cm (f1_dirty mem dsk sto dn en pw wr cm)).toNatClampNeg = nn := by rw [enn]; exact nI_clamp (by omega)
      have e9 : F1_checkpoint mem dsk sto dn en pw wr cm = F1_cp (f1_dirty mem dsk sto dn en pw wr cm) (f1_inSet mem dsk sto dn en pw wr cm (f1_dirty mem dsk sto dn en pw wr cm)) (2 * nn + 2) 0 (mem, dsk, sto, dn, en, pw, wr, cm) := by unfold F1_checkpoint; rw [if_pos c_4, if_neg c_21]; rw [ec]
      rw [e9]
      exact loop (f1_dirty mem dsk sto dn en pw wr cm) (f1_inSet mem dsk sto dn en pw wr cm (f1_dirty mem dsk sto dn en pw wr cm)) nn hnn enn (2 * nn + 2) (Nat.le_refl _) 0 (by rw [Nat.sub_self]; rfl) mem dsk sto dn en pw wr cm _ _ ls hP hD hS (lv_sub hl [0, 1, 2, 3] rfl)
    · skip
      refine lv_iconst (v := 0) hx hb dX1_checkpoint_24 (by decide) ?_
      have e9 : F1_checkpoint mem dsk sto dn en pw wr cm = (0, mem, dsk, sto, dn, en, pw, wr, cm) := by unfold F1_checkpoint; rw [if_pos c_4, if_pos c_21]
      rw [e9]
      exact retWi hx hb hr hlocks rfl rfl rfl hK hP hD hS dX1_checkpoint_25
  · skip
    refine lv_iconst (v := (-1)) hx hb dX1_checkpoint_7 (by decide) ?_
    have e9 : F1_checkpoint mem dsk sto dn en pw wr cm = ((-1), mem, dsk, sto, dn, en, pw, wr, cm) := by unfold F1_checkpoint; rw [if_neg c_4]
    rw [e9]
    exact retWi hx hb hr hlocks rfl rfl rfl hK hP hD hS dX1_checkpoint_8
set_option maxHeartbeats 8000000 in
set_option maxRecDepth 100000 in
theorem m1_start (l : Launch) (dC : Nat → ClassId) (dI : Nat → Nat → Nat) (h0 h1 h2 h3 : Nat) (c1 c2 c3 : ClassId) (sz : Nat) (mem dsk sto : Nat → Int32) (dn en pw wr cm : Int32) (x0 : Int32) : Met l yX1_start wsX1_start ({ frames := 1, cells := 0, slots := 0, locals := 24 }) (pcW (dC, dI) (k1 c1 c2 c3) (w1 h0 h1 h2 h3 c1 c2 c3 (mem, dsk, sto, dn, en, pw, wr, cm)) sz [.ref h0, .int x0]) (qcWi (dC, dI) (k1 c1 c2 c3) (w1 h0 h1 h2 h3 c1 c2 c3 (mem, dsk, sto, dn, en, pw, wr, cm)) (w1 h0 h1 h2 h3 c1 c2 c3 (F1_start mem dsk sto dn en pw wr cm x0).2) sz (F1_start mem dsk sto dn en pw wr cm x0).1) 0 0 (va_A (w1 h0 h1 h2 h3 c1 c2 c3 (mem, dsk, sto, dn, en, pw, wr, cm)) sz) := by
  refine Met.ofW (cc := cX1_start) (maxL := 7) (ret := (some .int)) (by decide) rfl ?_
  intro p e s m args below meth c s₁ B hml hv
  obtain ⟨rfl, hsz, hP, hK, hD0⟩ := hv
  have hx := B.exec
  have hb := B.bytes
  have hr := B.returns
  have hts := atoms_spec (ws := wsX1_start) B.pre
  have hown : s.vm.findClass RX1 = some m.cls := findClass_of_methodNamed B.named
  have hlocks := B.notSynchronized
  have hin : ∀ w ∈ wsX10, w ∈ wsX1_start := fun _ h => List.mem_cons_of_mem _ (List.mem_append_right _ h)
  have hP : va_P (dC, dI) vwCl [(h0, .inr (1, [.ref h1, .ref h2, .ref h3, .int dn, .int en, .int pw, .int wr, .int cm])), (h1, .inl (c1, 96, .inl mem)), (h2, .inl (c2, 200, .inl dsk)), (h3, .inl (c3, 12, .inl sto))] s.heap := hP
  subst hsz
  have hD := hD0.self (sz := s.heap.size)
  have hA : ∀ q : Nat, s.heap.size ≤ q → (va_A (w1 h0 h1 h2 h3 c1 c2 c3 (mem, dsk, sto, dn, en, pw, wr, cm)) s.heap.size) q := fun q h => Or.inr h
  have hS : va_S (va_A (w1 h0 h1 h2 h3 c1 c2 c3 (mem, dsk, sto, dn, en, pw, wr, cm)) s.heap.size) s.heap s.heap [] := va_S.rf
  have hl := lv_entry ([.ref h0, .int x0]) (n := 7) (Nat.le_of_ble_eq_true rfl)
  rw [lg_entry_eq]
  generalize (lg_sl ([.ref h0, .int x0]) ++ List.replicate (7 - (lg_sl ([.ref h0, .int x0])).length) Slot.unset).toArray = ls at hl ⊢
  have hl : lv_has ls 7 [(0, .ref h0), (1, .int x0)] := hl
  have loop : ∀ (x mny : Int32) (nn : Nat), nn ≤ 13 → mny = nI nn → ∀ (f : Nat), f ≤ nn → ∀ (k : Int32), k = nI (nn - f) → ∀ (mem_0 dsk_0 sto_0 : Nat → Int32) (dn_0 en_0 pw_0 wr_0 cm_0 : Int32) (H : Heap) (locs : List Loc) (ls : Array Slot), va_P (dC, dI) vwCl [(h0, .inr (1, [.ref h1, .ref h2, .ref h3, .int dn_0, .int en_0, .int pw_0, .int wr_0, .int cm_0])), (h1, .inl (c1, 96, .inl mem_0)), (h2, .inl (c2, 200, .inl dsk_0)), (h3, .inl (c3, 12, .inl sto_0))] H → va_D (va_A (w1 h0 h1 h2 h3 c1 c2 c3 (mem, dsk, sto, dn, en, pw, wr, cm)) s.heap.size) [(h0, .inr (1, [.ref h1, .ref h2, .ref h3, .int dn_0, .int en_0, .int pw_0, .int wr_0, .int cm_0])), (h1, .inl (c1, 96, .inl mem_0)), (h2, .inl (c2, 200, .inl dsk_0)), (h3, .inl (c3, 12, .inl sto_0))] → va_S (va_A (w1 h0 h1 h2 h3 c1 c2 c3 (mem, dsk, sto, dn, en, pw, wr, cm)) s.heap.size) s.heap H locs → lv_has ls 7 [(4, .int k), (3, .int mny), (2, .int x), (1, .int x0), (0, .ref h0)] →
      W p l e (headSpec wsX1_start ({ frames := 1, cells := 0, slots := 0, locals := 24 })).room s m #[Value.ref h0, Value.int x0] below meth c H locs 0 0 (MQ below (qcWi (dC, dI) (k1 c1 c2 c3) (w1 h0 h1 h2 h3 c1 c2 c3 (mem, dsk, sto, dn, en, pw, wr, cm)) (w1 h0 h1 h2 h3 c1 c2 c3 (F1_st x mny f k (mem_0, dsk_0, sto_0, dn_0, en_0, pw_0, wr_0, cm_0)).2) s.heap.size (F1_st x mny f k (mem_0, dsk_0, sto_0, dn_0, en_0, pw_0, wr_0, cm_0)).1) #[Value.ref h0, Value.int x0] s 0 0 (va_A (w1 h0 h1 h2 h3 c1 c2 c3 (mem, dsk, sto, dn, en, pw, wr, cm)) s.heap.size)) (F0 m 70 ls []) := by
    intro x mny nn hnn eny f
    induction f with
    | zero =>
      intro hf k ek mem_0 dsk_0 sto_0 dn_0 en_0 pw_0 wr_0 cm_0 H locs ls hP hD hS hl
      refine lv_iload hx hb dX1_start_70 (lv_at hl 0 rfl) ?_
      refine lv_iload_n hx hb dX1_start_72 rfl (lv_at hl 1 rfl) ?_
      refine lv_icmp_ge (tgt := 162) hx hb dX1_start_73 (by decide) (fun c_73 => ?_) (fun c_73 => ?_)
      · skip
        refine lv_iconst (v := 0) hx hb dX1_start_162 (by decide) ?_
        refine lv_istore (lv' := [(4, .int 0), (3, .int mny), (2, .int x), (1, .int x0), (0, .ref h0)]) hx hb dX1_start_163 hl (by decide) rfl (fun ls hl => ?_)
        have lp1 : ∀ (Q : State → Prop) (n : Nat), n ≤ 96 → ∀ (v0_1 : Nat → Int32) (H : Heap) (locs : List Loc) (ls : Array Slot), va_P (dC, dI) vwCl [(h0, .inr (1, [.ref h1, .ref h2, .ref h3, .int dn_0, .int en_0, .int pw_0, .int wr_0, .int cm_0])), (h1, .inl (c1, 96, .inl v0_1)), (h2, .inl (c2, 200, .inl dsk_0)), (h3, .inl (c3, 12, .inl sto_0))] H → va_D (va_A (w1 h0 h1 h2 h3 c1 c2 c3 (mem, dsk, sto, dn, en, pw, wr, cm)) s.heap.size) [(h0, .inr (1, [.ref h1, .ref h2, .ref h3, .int dn_0, .int en_0, .int pw_0, .int wr_0, .int cm_0])), (h1, .inl (c1, 96, .inl v0_1)), (h2, .inl (c2, 200, .inl dsk_0)), (h3, .inl (c3, 12, .inl sto_0))] → va_S (va_A (w1 h0 h1 h2 h3 c1 c2 c3 (mem, dsk, sto, dn, en, pw, wr, cm)) s.heap.size) s.heap H locs → lv_has ls 7 [(4, .int (nI (96 - n))), (3, .int mny), (2, .int x), (1, .int x0), (0, .ref h0)] →
            (∀ (H : Heap) (locs : List Loc) (ls : Array Slot), va_P (dC, dI) vwCl [(h0, .inr (1, [.ref h1, .ref h2, .ref h3, .int dn_0, .int en_0, .int pw_0, .int wr_0, .int cm_0])), (h1, .inl (c1, 96, .inl (ldm dsk_0 n v0_1))), (h2, .inl (c2, 200, .inl dsk_0)), (h3, .inl (c3, 12, .inl sto_0))] H → va_D (va_A (w1 h0 h1 h2 h3 c1 c2 c3 (mem, dsk, sto, dn, en, pw, wr, cm)) s.heap.size) [(h0, .inr (1, [.ref h1, .ref h2, .ref h3, .int dn_0, .int en_0, .int pw_0, .int wr_0, .int cm_0])), (h1, .inl (c1, 96, .inl (ldm dsk_0 n v0_1))), (h2, .inl (c2, 200, .inl dsk_0)), (h3, .inl (c3, 12, .inl sto_0))] → va_S (va_A (w1 h0 h1 h2 h3 c1 c2 c3 (mem, dsk, sto, dn, en, pw, wr, cm)) s.heap.size) s.heap H locs → lv_has ls 7 [(4, .int (nI 96)), (3, .int mny), (2, .int x), (1, .int x0), (0, .ref h0)] → W p l e (headSpec wsX1_start ({ frames := 1, cells := 0, slots := 0, locals := 24 })).room s m #[Value.ref h0, Value.int x0] below meth c H locs 0 0 Q (F0 m 192 ls [])) → W p l e (headSpec wsX1_start ({ frames := 1, cells := 0, slots := 0, locals := 24 })).room s m #[Value.ref h0, Value.int x0] below meth c H locs 0 0 Q (F0 m 165 ls []) := by
          intro Q n
          induction n with
          | zero =>
            intro hn v0_1 H locs ls hP hD hS hl K
            have hl : lv_has ls 7 [(4, .int (nI 96)), (3, .int mny), (2, .int x), (1, .int x0), (0, .ref h0)] := hl
            refine lv_iload hx hb dX1_start_165 (lv_at hl 0 rfl) ?_
            refine lv_bipush (v := 96) hx hb dX1_start_167 (by decide) ?_
            refine lv_icmp_ge (tgt := 192) hx hb dX1_start_169 (by decide) (fun c_169 => ?_) (fun c_169 => ?_)
            · skip
              exact K H locs ls hP hD hS hl
            · skip
              exact absurd (by decide) c_169
          | succ n ih =>
            intro hn v0_1 H locs ls hP hD hS hl K
            have enx : 96 - (n + 1) = 95 - n := by omega
            rw [enx] at hl
            have ei : nI (95 - n) + 1 = nI (96 - n) := by rw [nI_1]; congr 1; omega
            have hl : lv_has ls 7 [(4, .int (nI (95 - n))), (3, .int mny), (2, .int x), (1, .int x0), (0, .ref h0)] := hl
            refine lv_iload hx hb dX1_start_165 (lv_at hl 0 rfl) ?_
            refine lv_bipush (v := 96) hx hb dX1_start_167 (by decide) ?_
            refine lv_icmp_ge (tgt := 192) hx hb dX1_start_169 (by decide) (fun c_169 => ?_) (fun c_169 => ?_)
            · skip
              exact absurd c_169 (nI_ge (a := 95 - n) (b := 96) (by omega) (by decide))
            · skip
              refine lv_aload_n hx hb dX1_start_172 rfl (lv_at hl 4 rfl) ?_
              refine va_get (D := (dC, dI)) (ci := 1) (v := .ref h1) (C := RX1) (T := TX1) (N := 8) hx hb hts hin hown hK hP 0 rfl rfl 0 (by decide) (hts (.fieldLink RX1 7 "CapStoreModel" "memory" "[I") (by decide +kernel)) (fun _ h9 => h9) rfl dX1_start_173 ?_
              refine lv_iload hx hb dX1_start_176 (lv_at hl 0 rfl) ?_
              refine lv_aload_n hx hb dX1_start_178 rfl (lv_at hl 4 rfl) ?_
              refine va_get (D := (dC, dI)) (ci := 1) (v := .ref h2) (C := RX1) (T := TX1) (N := 8) hx hb hts hin hown hK hP 0 rfl rfl 1 (by decide) (hts (.fieldLink RX1 13 "CapStoreModel" "disk" "[I") (by decide +kernel)) (fun _ h9 => h9) rfl dX1_start_179 ?_
              refine lv_iload hx hb dX1_start_182 (lv_at hl 0 rfl) ?_
              refine va_iald hx hb hK hP 2 1 rfl rfl (vp_in_nI (by omega) (by decide)) dX1_start_184 ?_
              refine va_iast hx hb hK hP hD hS 1 0 rfl rfl (vp_in_nI (by omega) (by decide)) dX1_start_185 (fun H locs hP hD hS => ?_)
              have hP : va_P (dC, dI) vwCl [(h0, .inr (1, [.ref h1, .ref h2, .ref h3, .int dn_0, .int en_0, .int pw_0, .int wr_0, .int cm_0])), (h1, .inl (c1, 96, .inl (upd v0_1 (nI (95 - n)).toNatClampNeg (dsk_0 (nI (95 - n)).toNatClampNeg)))), (h2, .inl (c2, 200, .inl dsk_0)), (h3, .inl (c3, 12, .inl sto_0))] _ := hP
              have hD : va_D _ [(h0, .inr (1, [.ref h1, .ref h2, .ref h3, .int dn_0, .int en_0, .int pw_0, .int wr_0, .int cm_0])), (h1, .inl (c1, 96, .inl (upd v0_1 (nI (95 - n)).toNatClampNeg (dsk_0 (nI (95 - n)).toNatClampNeg)))), (h2, .inl (c2, 200, .inl dsk_0)), (h3, .inl (c3, 12, .inl sto_0))] := hD
              refine lv_iinc (v := ((nI (95 - n)) + 1)) (lv' := [(4, .int ((nI (95 - n)) + 1)), (3, .int mny), (2, .int x), (1, .int x0), (0, .ref h0)]) hx hb dX1_start_186 hl (k := 0) rfl rfl (by decide) rfl (fun ls hl => ?_)
              refine lv_goto (tgt := 165) hx hb dX1_start_189 (by decide) ?_
              rw [ei] at hl
              exact ih (by omega) (upd v0_1 (nI (95 - n)).toNatClampNeg (dsk_0 (nI (95 - n)).toNatClampNeg)) _ _ ls hP hD hS (lv_sub hl [0, 1, 2, 3, 4] rfl) K
        refine lp1 _ 96 (Nat.le_refl _) mem_0 _ _ ls hP hD hS (lv_sub hl [0, 1, 2, 3, 4] rfl) (fun H locs ls hP hD hS hl => ?_)
        have hP : va_P (dC, dI) vwCl [(h0, .inr (1, [.ref h1, .ref h2, .ref h3, .int dn_0, .int en_0, .int pw_0, .int wr_0, .int cm_0])), (h1, .inl (c1, 96, .inl (ldm dsk_0 96 mem_0))), (h2, .inl (c2, 200, .inl dsk_0)), (h3, .inl (c3, 12, .inl sto_0))] _ := hP
        have hD : va_D _ [(h0, .inr (1, [.ref h1, .ref h2, .ref h3, .int dn_0, .int en_0, .int pw_0, .int wr_0, .int cm_0])), (h1, .inl (c1, 96, .inl (ldm dsk_0 96 mem_0))), (h2, .inl (c2, 200, .inl dsk_0)), (h3, .inl (c3, 12, .inl sto_0))] := hD
        refine lv_iconst (v := 0) hx hb dX1_start_192 (by decide) ?_
        refine lv_istore (lv' := [(4, .int 0), (3, .int mny), (2, .int x), (1, .int x0), (0, .ref h0)]) hx hb dX1_start_193 hl (by decide) rfl (fun ls hl => ?_)
        have lp2 : ∀ (Q : State → Prop) (n : Nat), n ≤ 12 → ∀ (v2_2 : Nat → Int32) (H : Heap) (locs : List Loc) (ls : Array Slot), va_P (dC, dI) vwCl [(h0, .inr (1, [.ref h1, .ref h2, .ref h3, .int dn_0, .int en_0, .int pw_0, .int wr_0, .int cm_0])), (h1, .inl (c1, 96, .inl (ldm dsk_0 96 mem_0))), (h2, .inl (c2, 200, .inl dsk_0)), (h3, .inl (c3, 12, .inl v2_2))] H → va_D (va_A (w1 h0 h1 h2 h3 c1 c2 c3 (mem, dsk, sto, dn, en, pw, wr, cm)) s.heap.size) [(h0, .inr (1, [.ref h1, .ref h2, .ref h3, .int dn_0, .int en_0, .int pw_0, .int wr_0, .int cm_0])), (h1, .inl (c1, 96, .inl (ldm dsk_0 96 mem_0))), (h2, .inl (c2, 200, .inl dsk_0)), (h3, .inl (c3, 12, .inl v2_2))] → va_S (va_A (w1 h0 h1 h2 h3 c1 c2 c3 (mem, dsk, sto, dn, en, pw, wr, cm)) s.heap.size) s.heap H locs → lv_has ls 7 [(4, .int (nI (12 - n))), (3, .int mny), (2, .int x), (1, .int x0), (0, .ref h0)] →
            (∀ (H : Heap) (locs : List Loc) (ls : Array Slot), va_P (dC, dI) vwCl [(h0, .inr (1, [.ref h1, .ref h2, .ref h3, .int dn_0, .int en_0, .int pw_0, .int wr_0, .int cm_0])), (h1, .inl (c1, 96, .inl (ldm dsk_0 96 mem_0))), (h2, .inl (c2, 200, .inl dsk_0)), (h3, .inl (c3, 12, .inl (rst n v2_2)))] H → va_D (va_A (w1 h0 h1 h2 h3 c1 c2 c3 (mem, dsk, sto, dn, en, pw, wr, cm)) s.heap.size) [(h0, .inr (1, [.ref h1, .ref h2, .ref h3, .int dn_0, .int en_0, .int pw_0, .int wr_0, .int cm_0])), (h1, .inl (c1, 96, .inl (ldm dsk_0 96 mem_0))), (h2, .inl (c2, 200, .inl dsk_0)), (h3, .inl (c3, 12, .inl (rst n v2_2)))] → va_S (va_A (w1 h0 h1 h2 h3 c1 c2 c3 (mem, dsk, sto, dn, en, pw, wr, cm)) s.heap.size) s.heap H locs → lv_has ls 7 [(4, .int (nI 12)), (3, .int mny), (2, .int x), (1, .int x0), (0, .ref h0)] → W p l e (headSpec wsX1_start ({ frames := 1, cells := 0, slots := 0, locals := 24 })).room s m #[Value.ref h0, Value.int x0] below meth c H locs 0 0 Q (F0 m 216 ls [])) → W p l e (headSpec wsX1_start ({ frames := 1, cells := 0, slots := 0, locals := 24 })).room s m #[Value.ref h0, Value.int x0] below meth c H locs 0 0 Q (F0 m 195 ls []) := by
          intro Q n
          induction n with
          | zero =>
            intro hn v2_2 H locs ls hP hD hS hl K
            have hl : lv_has ls 7 [(4, .int (nI 12)), (3, .int mny), (2, .int x), (1, .int x0), (0, .ref h0)] := hl
            refine lv_iload hx hb dX1_start_195 (lv_at hl 0 rfl) ?_
            refine lv_bipush (v := 12) hx hb dX1_start_197 (by decide) ?_
            refine lv_icmp_ge (tgt := 216) hx hb dX1_start_199 (by decide) (fun c_199 => ?_) (fun c_199 => ?_)
            · skip
              exact K H locs ls hP hD hS hl
            · skip
              exact absurd (by decide) c_199
          | succ n ih =>
            intro hn v2_2 H locs ls hP hD hS hl K
            have enx : 12 - (n + 1) = 11 - n := by omega
            rw [enx] at hl
            have ei : nI (11 - n) + 1 = nI (12 - n) := by rw [nI_1]; congr 1; omega
            have hl : lv_has ls 7 [(4, .int (nI (11 - n))), (3, .int mny), (2, .int x), (1, .int x0), (0, .ref h0)] := hl
            refine lv_iload hx hb dX1_start_195 (lv_at hl 0 rfl) ?_
            refine lv_bipush (v := 12) hx hb dX1_start_197 (by decide) ?_
            refine lv_icmp_ge (tgt := 216) hx hb dX1_start_199 (by decide) (fun c_199 => ?_) (fun c_199 => ?_)
            · skip
              exact absurd c_199 (nI_ge (a := 11 - n) (b := 12) (by omega) (by decide))
            · skip
              refine lv_aload_n hx hb dX1_start_202 rfl (lv_at hl 4 rfl) ?_
              refine va_get (D := (dC, dI)) (ci := 1) (v := .ref h3) (C := RX1) (T := TX1) (N := 8) hx hb hts hin hown hK hP 0 rfl rfl 2 (by decide) (hts (.fieldLink RX1 16 "CapStoreModel" "stored" "[Z") (by decide +kernel)) (fun _ h9 => h9) rfl dX1_start_203 ?_
              refine lv_iload hx hb dX1_start_206 (lv_at hl 0 rfl) ?_
              refine lv_iconst (v := 0) hx hb dX1_start_208 (by decide) ?_
              refine va_zast hx hb hK hP hD hS 3 2 rfl rfl (vp_in_nI (by omega) (by decide)) dX1_start_209 (fun H locs hP hD hS => ?_)
              have hP : va_P (dC, dI) vwCl [(h0, .inr (1, [.ref h1, .ref h2, .ref h3, .int dn_0, .int en_0, .int pw_0, .int wr_0, .int cm_0])), (h1, .inl (c1, 96, .inl (ldm dsk_0 96 mem_0))), (h2, .inl (c2, 200, .inl dsk_0)), (h3, .inl (c3, 12, .inl (upd v2_2 (nI (11 - n)).toNatClampNeg (vp_nar .boolean 0))))] _ := hP
              have hD : va_D _ [(h0, .inr (1, [.ref h1, .ref h2, .ref h3, .int dn_0, .int en_0, .int pw_0, .int wr_0, .int cm_0])), (h1, .inl (c1, 96, .inl (ldm dsk_0 96 mem_0))), (h2, .inl (c2, 200, .inl dsk_0)), (h3, .inl (c3, 12, .inl (upd v2_2 (nI (11 - n)).toNatClampNeg (vp_nar .boolean 0))))] := hD
              refine lv_iinc (v := ((nI (11 - n)) + 1)) (lv' := [(4, .int ((nI (11 - n)) + 1)), (3, .int mny), (2, .int x), (1, .int x0), (0, .ref h0)]) hx hb dX1_start_210 hl (k := 0) rfl rfl (by decide) rfl (fun ls hl => ?_)
              refine lv_goto (tgt := 195) hx hb dX1_start_213 (by decide) ?_
              rw [ei] at hl
              exact ih (by omega) (upd v2_2 (nI (11 - n)).toNatClampNeg (vp_nar .boolean 0)) _ _ ls hP hD hS (lv_sub hl [0, 1, 2, 3, 4] rfl) K
        refine lp2 _ 12 (Nat.le_refl _) sto_0 _ _ ls hP hD hS (lv_sub hl [0, 1, 2, 3, 4] rfl) (fun H locs ls hP hD hS hl => ?_)
        have hP : va_P (dC, dI) vwCl [(h0, .inr (1, [.ref h1, .ref h2, .ref h3, .int dn_0, .int en_0, .int pw_0, .int wr_0, .int cm_0])), (h1, .inl (c1, 96, .inl (ldm dsk_0 96 mem_0))), (h2, .inl (c2, 200, .inl dsk_0)), (h3, .inl (c3, 12, .inl (rst 12 sto_0)))] _ := hP
        have hD : va_D _ [(h0, .inr (1, [.ref h1, .ref h2, .ref h3, .int dn_0, .int en_0, .int pw_0, .int wr_0, .int cm_0])), (h1, .inl (c1, 96, .inl (ldm dsk_0 96 mem_0))), (h2, .inl (c2, 200, .inl dsk_0)), (h3, .inl (c3, 12, .inl (rst 12 sto_0)))] := hD
        refine lv_aload_n hx hb dX1_start_216 rfl (lv_at hl 4 rfl) ?_
        refine lv_iconst (v := 0) hx hb dX1_start_217 (by decide) ?_
        refine va_put (D := (dC, dI)) (ci := 1) (v := .int 0) (ty := .boolean) (C := RX1) (T := TX1) (N := 8) hx hb hts hin tyX1 tyX1_ok nmX1 hown hK hP hD hS 0 rfl rfl 3 (by decide) (hts (.fieldLink RX1 28 "CapStoreModel" "down" "Z") (by decide +kernel)) (fun _ h9 => h9) rfl (by decide +kernel) rfl rfl (Nat.le_of_ble_eq_true rfl) dX1_start_218 (fun H locs hP hD hS => ?_)
        have hP : va_P (dC, dI) vwCl [(h0, .inr (1, [.ref h1, .ref h2, .ref h3, .int 0, .int en_0, .int pw_0, .int wr_0, .int cm_0])), (h1, .inl (c1, 96, .inl (ldm dsk_0 96 mem_0))), (h2, .inl (c2, 200, .inl dsk_0)), (h3, .inl (c3, 12, .inl (rst 12 sto_0)))] _ := hP
        have hD : va_D _ [(h0, .inr (1, [.ref h1, .ref h2, .ref h3, .int 0, .int en_0, .int pw_0, .int wr_0, .int cm_0])), (h1, .inl (c1, 96, .inl (ldm dsk_0 96 mem_0))), (h2, .inl (c2, 200, .inl dsk_0)), (h3, .inl (c3, 12, .inl (rst 12 sto_0)))] := hD
        refine lv_iload_n hx hb dX1_start_221 rfl (lv_at hl 1 rfl) ?_
        have e9 : F1_st x mny 0 k (mem_0, dsk_0, sto_0, dn_0, en_0, pw_0, wr_0, cm_0) = (mny, (ldm dsk_0 96 mem_0), dsk_0, (rst 12 sto_0), 0, en_0, pw_0, wr_0, cm_0) := by rw [F1_st]
        rw [e9]
        exact retWi hx hb hr hlocks rfl rfl rfl hK hP hD hS dX1_start_222
      · skip
        exact absurd (st_out hnn eny ek) c_73
    | succ f ih =>
      intro hf k ek mem_0 dsk_0 sto_0 dn_0 en_0 pw_0 wr_0 cm_0 H locs ls hP hD hS hl
      refine lv_iload hx hb dX1_start_70 (lv_at hl 0 rfl) ?_
      refine lv_iload_n hx hb dX1_start_72 rfl (lv_at hl 1 rfl) ?_
      refine lv_icmp_ge (tgt := 162) hx hb dX1_start_73 (by decide) (fun c_73 => ?_) (fun c_73 => ?_)
      · skip
        exact absurd c_73 (st_in hnn hf eny ek)
      · skip
        refine lv_aload_n hx hb dX1_start_76 rfl (lv_at hl 4 rfl) ?_
        refine callWi (q := (RX1, TX1, 8)) (ci := 1) (q0 := 0) (As := []) (rest := []) (wr := []) (m1_may l dC dI h0 h1 h2 h3 c1 c2 c3 _ mem_0 dsk_0 sto_0 dn_0 en_0 pw_0 wr_0 cm_0  ) ⟨hx, hb, hml, hown, hts⟩ (cwV 0 hts gX1_start_X1_may rfl rfl rfl (by decide +kernel) ⟨Nat.le_of_ble_eq_true rfl, Nat.le_of_ble_eq_true rfl⟩) hK hP hD hS hA rfl rfl [0, 1, 2, 3] [] rfl rfl rfl (by decide) (by decide) (by decide) rfl hl.1 rfl (Nat.le_of_ble_eq_true rfl) dX1_start_77 ⟨Nat.zero_le _, Nat.zero_le _⟩ (fun H locs hP hD hS => ?_)
        generalize hF1 : (F1_may mem_0 dsk_0 sto_0 dn_0 en_0 pw_0 wr_0 cm_0) = u at hP hD ⊢
        obtain ⟨r_1, mem_1, dsk_1, sto_1, dn_1, en_1, pw_1, wr_1, cm_1⟩ := u
        have hP : va_P (dC, dI) vwCl [(h0, .inr (1, [.ref h1, .ref h2, .ref h3, .int dn_1, .int en_1, .int pw_1, .int wr_1, .int cm_1])), (h1, .inl (c1, 96, .inl mem_1)), (h2, .inl (c2, 200, .inl dsk_1)), (h3, .inl (c3, 12, .inl sto_1))] _ := hP
        have hD : va_D _ [(h0, .inr (1, [.ref h1, .ref h2, .ref h3, .int dn_1, .int en_1, .int pw_1, .int wr_1, .int cm_1])), (h1, .inl (c1, 96, .inl mem_1)), (h2, .inl (c2, 200, .inl dsk_1)), (h3, .inl (c3, 12, .inl sto_1))] := hD
        show W _ _ _ _ _ _ _ _ _ _ _ _ _ _ _ (F0 m 80 ls [.int r_1])
        refine lv_if_ne (tgt := 86) hx hb dX1_start_80 (by decide) (fun c_80 => ?_) (fun c_80 => ?_)
        · skip
          refine lv_iload hx hb dX1_start_86 (lv_at hl 0 rfl) ?_
          refine lv_iload_n hx hb dX1_start_88 rfl (lv_at hl 1 rfl) ?_
          refine lv_iconst (v := 1) hx hb dX1_start_89 (by decide) ?_
          refine lv_isub hx hb dX1_start_90 ?_
          refine lv_icmp_ne (tgt := 102) hx hb dX1_start_91 (by decide) (fun c_91 => ?_) (fun c_91 => ?_)
          · skip
            refine lv_aload_n hx hb dX1_start_102 rfl (lv_at hl 4 rfl) ?_
            refine lv_iload_n hx hb dX1_start_103 rfl (lv_at hl 2 rfl) ?_
            refine lv_iload hx hb dX1_start_104 (lv_at hl 0 rfl) ?_
            refine callRi (q := (RX1, TX1, 8)) (ci := 1) (q0 := 0) (As := [.int x, .int k]) (rest := []) (m1_member l dC dI h0 h1 h2 h3 c1 c2 c3 mem_1 dsk_1 sto_1 dn_1 en_1 pw_1 wr_1 cm_1 x k ) ⟨hx, hb, hml, hown, hts⟩ (cwV 2 hts gX1_start_X1_member rfl rfl rfl (by decide +kernel) ⟨Nat.le_of_ble_eq_true rfl, Nat.le_of_ble_eq_true rfl⟩) hK hP rfl rfl rfl hl.1 rfl (Nat.le_of_ble_eq_true rfl) dX1_start_106 ⟨Nat.zero_le _, Nat.zero_le _⟩ ?_
            refine lv_istore (lv' := [(5, .int (f1_member mem_1 dsk_1 sto_1 dn_1 en_1 pw_1 wr_1 cm_1 x k)), (4, .int k), (3, .int mny), (2, .int x), (1, .int x0), (0, .ref h0)]) hx hb dX1_start_109 hl (by decide) rfl (fun ls hl => ?_)
            refine lv_iconst (v := 0) hx hb dX1_start_111 (by decide) ?_
            refine lv_istore (lv' := [(6, .int 0), (5, .int (f1_member mem_1 dsk_1 sto_1 dn_1 en_1 pw_1 wr_1 cm_1 x k)), (4, .int k), (3, .int mny), (2, .int x), (1, .int x0), (0, .ref h0)]) hx hb dX1_start_112 hl (by decide) rfl (fun ls hl => ?_)
            have lp3 : ∀ (Q : State → Prop) (n : Nat), n ≤ 8 → ∀ (v1_3 : Nat → Int32) (H : Heap) (locs : List Loc) (ls : Array Slot), va_P (dC, dI) vwCl [(h0, .inr (1, [.ref h1, .ref h2, .ref h3, .int dn_1, .int en_1, .int pw_1, .int wr_1, .int cm_1])), (h1, .inl (c1, 96, .inl mem_1)), (h2, .inl (c2, 200, .inl v1_3)), (h3, .inl (c3, 12, .inl sto_1))] H → va_D (va_A (w1 h0 h1 h2 h3 c1 c2 c3 (mem, dsk, sto, dn, en, pw, wr, cm)) s.heap.size) [(h0, .inr (1, [.ref h1, .ref h2, .ref h3, .int dn_1, .int en_1, .int pw_1, .int wr_1, .int cm_1])), (h1, .inl (c1, 96, .inl mem_1)), (h2, .inl (c2, 200, .inl v1_3)), (h3, .inl (c3, 12, .inl sto_1))] → va_S (va_A (w1 h0 h1 h2 h3 c1 c2 c3 (mem, dsk, sto, dn, en, pw, wr, cm)) s.heap.size) s.heap H locs → lv_has ls 7 [(6, .int (nI (8 - n))), (5, .int (f1_member mem_1 dsk_1 sto_1 dn_1 en_1 pw_1 wr_1 cm_1 x k)), (4, .int k), (3, .int mny), (2, .int x), (1, .int x0), (0, .ref h0)] →
                (∀ (H : Heap) (locs : List Loc) (ls : Array Slot), va_P (dC, dI) vwCl [(h0, .inr (1, [.ref h1, .ref h2, .ref h3, .int dn_1, .int en_1, .int pw_1, .int wr_1, .int cm_1])), (h1, .inl (c1, 96, .inl mem_1)), (h2, .inl (c2, 200, .inl (cpd (f1_member mem_1 dsk_1 sto_1 dn_1 en_1 pw_1 wr_1 cm_1 x k) n v1_3))), (h3, .inl (c3, 12, .inl sto_1))] H → va_D (va_A (w1 h0 h1 h2 h3 c1 c2 c3 (mem, dsk, sto, dn, en, pw, wr, cm)) s.heap.size) [(h0, .inr (1, [.ref h1, .ref h2, .ref h3, .int dn_1, .int en_1, .int pw_1, .int wr_1, .int cm_1])), (h1, .inl (c1, 96, .inl mem_1)), (h2, .inl (c2, 200, .inl (cpd (f1_member mem_1 dsk_1 sto_1 dn_1 en_1 pw_1 wr_1 cm_1 x k) n v1_3))), (h3, .inl (c3, 12, .inl sto_1))] → va_S (va_A (w1 h0 h1 h2 h3 c1 c2 c3 (mem, dsk, sto, dn, en, pw, wr, cm)) s.heap.size) s.heap H locs → lv_has ls 7 [(6, .int (nI 8)), (5, .int (f1_member mem_1 dsk_1 sto_1 dn_1 en_1 pw_1 wr_1 cm_1 x k)), (4, .int k), (3, .int mny), (2, .int x), (1, .int x0), (0, .ref h0)] → W p l e (headSpec wsX1_start ({ frames := 1, cells := 0, slots := 0, locals := 24 })).room s m #[Value.ref h0, Value.int x0] below meth c H locs 0 0 Q (F0 m 156 ls [])) → W p l e (headSpec wsX1_start ({ frames := 1, cells := 0, slots := 0, locals := 24 })).room s m #[Value.ref h0, Value.int x0] below meth c H locs 0 0 Q (F0 m 114 ls []) := by
              intro Q n
              induction n with
              | zero =>
                intro hn v1_3 H locs ls hP hD hS hl K
                have hl : lv_has ls 7 [(6, .int (nI 8)), (5, .int (f1_member mem_1 dsk_1 sto_1 dn_1 en_1 pw_1 wr_1 cm_1 x k)), (4, .int k), (3, .int mny), (2, .int x), (1, .int x0), (0, .ref h0)] := hl
                refine lv_iload hx hb dX1_start_114 (lv_at hl 0 rfl) ?_
                refine lv_bipush (v := 8) hx hb dX1_start_116 (by decide) ?_
                refine lv_icmp_ge (tgt := 156) hx hb dX1_start_118 (by decide) (fun c_118 => ?_) (fun c_118 => ?_)
                · skip
                  exact K H locs ls hP hD hS hl
                · skip
                  exact absurd (by decide) c_118
              | succ n ih =>
                intro hn v1_3 H locs ls hP hD hS hl K
                have enx : 8 - (n + 1) = 7 - n := by omega
                rw [enx] at hl
                have ei : nI (7 - n) + 1 = nI (8 - n) := by rw [nI_1]; congr 1; omega
                have hl : lv_has ls 7 [(6, .int (nI (7 - n))), (5, .int (f1_member mem_1 dsk_1 sto_1 dn_1 en_1 pw_1 wr_1 cm_1 x k)), (4, .int k), (3, .int mny), (2, .int x), (1, .int x0), (0, .ref h0)] := hl
                refine lv_iload hx hb dX1_start_114 (lv_at hl 0 rfl) ?_
                refine lv_bipush (v := 8) hx hb dX1_start_116 (by decide) ?_
                refine lv_icmp_ge (tgt := 156) hx hb dX1_start_118 (by decide) (fun c_118 => ?_) (fun c_118 => ?_)
                · skip
                  exact absurd c_118 (nI_ge (a := 7 - n) (b := 8) (by omega) (by decide))
                · skip
                  refine lv_aload_n hx hb dX1_start_121 rfl (lv_at hl 6 rfl) ?_
                  refine va_get (D := (dC, dI)) (ci := 1) (v := .ref h2) (C := RX1) (T := TX1) (N := 8) hx hb hts hin hown hK hP 0 rfl rfl 1 (by decide) (hts (.fieldLink RX1 13 "CapStoreModel" "disk" "[I") (by decide +kernel)) (fun _ h9 => h9) rfl dX1_start_122 ?_
                  refine lv_bipush (v := 8) hx hb dX1_start_125 (by decide) ?_
                  refine lv_iload hx hb dX1_start_127 (lv_at hl 1 rfl) ?_
                  refine lv_imul hx hb dX1_start_129 ?_
                  refine lv_iload hx hb dX1_start_130 (lv_at hl 0 rfl) ?_
                  refine lv_iadd hx hb dX1_start_132 ?_
                  refine lv_aload_n hx hb dX1_start_133 rfl (lv_at hl 6 rfl) ?_
                  refine va_get (D := (dC, dI)) (ci := 1) (v := .ref h2) (C := RX1) (T := TX1) (N := 8) hx hb hts hin hown hK hP 0 rfl rfl 1 (by decide) (hts (.fieldLink RX1 13 "CapStoreModel" "disk" "[I") (by decide +kernel)) (fun _ h9 => h9) rfl dX1_start_134 ?_
                  refine lv_bipush (v := 96) hx hb dX1_start_137 (by decide) ?_
                  refine lv_bipush (v := 8) hx hb dX1_start_139 (by decide) ?_
                  refine lv_iload hx hb dX1_start_141 (lv_at hl 1 rfl) ?_
                  refine lv_imul hx hb dX1_start_143 ?_
                  refine lv_iadd hx hb dX1_start_144 ?_
                  refine lv_iload hx hb dX1_start_145 (lv_at hl 0 rfl) ?_
                  refine lv_iadd hx hb dX1_start_147 ?_
                  refine va_iald hx hb hK hP 2 1 rfl rfl (sdc_4 (mb_ok _ _) (by omega)) dX1_start_148 ?_
                  refine va_iast hx hb hK hP hD hS 2 1 rfl rfl (sdc_2 (mb_ok _ _) (by omega)) dX1_start_149 (fun H locs hP hD hS => ?_)
                  have hP : va_P (dC, dI) vwCl [(h0, .inr (1, [.ref h1, .ref h2, .ref h3, .int dn_1, .int en_1, .int pw_1, .int wr_1, .int cm_1])), (h1, .inl (c1, 96, .inl mem_1)), (h2, .inl (c2, 200, .inl (upd v1_3 ((8 * (f1_member mem_1 dsk_1 sto_1 dn_1 en_1 pw_1 wr_1 cm_1 x k)) + (nI (7 - n))).toNatClampNeg (v1_3 ((96 + (8 * (f1_member mem_1 dsk_1 sto_1 dn_1 en_1 pw_1 wr_1 cm_1 x k))) + (nI (7 - n))).toNatClampNeg)))), (h3, .inl (c3, 12, .inl sto_1))] _ := hP
                  have hD : va_D _ [(h0, .inr (1, [.ref h1, .ref h2, .ref h3, .int dn_1, .int en_1, .int pw_1, .int wr_1, .int cm_1])), (h1, .inl (c1, 96, .inl mem_1)), (h2, .inl (c2, 200, .inl (upd v1_3 ((8 * (f1_member mem_1 dsk_1 sto_1 dn_1 en_1 pw_1 wr_1 cm_1 x k)) + (nI (7 - n))).toNatClampNeg (v1_3 ((96 + (8 * (f1_member mem_1 dsk_1 sto_1 dn_1 en_1 pw_1 wr_1 cm_1 x k))) + (nI (7 - n))).toNatClampNeg)))), (h3, .inl (c3, 12, .inl sto_1))] := hD
                  refine lv_iinc (v := ((nI (7 - n)) + 1)) (lv' := [(6, .int ((nI (7 - n)) + 1)), (5, .int (f1_member mem_1 dsk_1 sto_1 dn_1 en_1 pw_1 wr_1 cm_1 x k)), (4, .int k), (3, .int mny), (2, .int x), (1, .int x0), (0, .ref h0)]) hx hb dX1_start_150 hl (k := 0) rfl rfl (by decide) rfl (fun ls hl => ?_)
                  refine lv_goto (tgt := 114) hx hb dX1_start_153 (by decide) ?_
                  rw [ei] at hl
                  exact ih (by omega) (upd v1_3 ((8 * (f1_member mem_1 dsk_1 sto_1 dn_1 en_1 pw_1 wr_1 cm_1 x k)) + (nI (7 - n))).toNatClampNeg (v1_3 ((96 + (8 * (f1_member mem_1 dsk_1 sto_1 dn_1 en_1 pw_1 wr_1 cm_1 x k))) + (nI (7 - n))).toNatClampNeg)) _ _ ls hP hD hS (lv_sub hl [0, 1, 2, 3, 4, 5, 6] rfl) K
            refine lp3 _ 8 (Nat.le_refl _) dsk_1 _ _ ls hP hD hS (lv_sub hl [0, 1, 2, 3, 4, 5, 6] rfl) (fun H locs ls hP hD hS hl => ?_)
            have hP : va_P (dC, dI) vwCl [(h0, .inr (1, [.ref h1, .ref h2, .ref h3, .int dn_1, .int en_1, .int pw_1, .int wr_1, .int cm_1])), (h1, .inl (c1, 96, .inl mem_1)), (h2, .inl (c2, 200, .inl (cpd (f1_member mem_1 dsk_1 sto_1 dn_1 en_1 pw_1 wr_1 cm_1 x k) 8 dsk_1))), (h3, .inl (c3, 12, .inl sto_1))] _ := hP
            have hD : va_D _ [(h0, .inr (1, [.ref h1, .ref h2, .ref h3, .int dn_1, .int en_1, .int pw_1, .int wr_1, .int cm_1])), (h1, .inl (c1, 96, .inl mem_1)), (h2, .inl (c2, 200, .inl (cpd (f1_member mem_1 dsk_1 sto_1 dn_1 en_1 pw_1 wr_1 cm_1 x k) 8 dsk_1))), (h3, .inl (c3, 12, .inl sto_1))] := hD
            refine lv_iinc (v := (k + 1)) (lv' := [(4, .int (k + 1)), (6, .int (nI 8)), (5, .int (f1_member mem_1 dsk_1 sto_1 dn_1 en_1 pw_1 wr_1 cm_1 x k)), (3, .int mny), (2, .int x), (1, .int x0), (0, .ref h0)]) hx hb dX1_start_156 hl (k := 2) rfl rfl (by decide) rfl (fun ls hl => ?_)
            refine lv_goto (tgt := 70) hx hb dX1_start_159 (by decide) ?_
            have e9 : F1_st x mny (f + 1) k (mem_0, dsk_0, sto_0, dn_0, en_0, pw_0, wr_0, cm_0) = F1_st x mny f (k + 1) (mem_1, (cpd (f1_member mem_1 dsk_1 sto_1 dn_1 en_1 pw_1 wr_1 cm_1 x k) 8 dsk_1), sto_1, dn_1, en_1, pw_1, wr_1, cm_1) := by rw [F1_st]; (try dsimp only); rw [hF1]; (try dsimp only); rw [if_neg c_80, if_neg c_91]
            rw [e9]
            exact ih (by omega) (k + 1) (st_nxt hf ek) mem_1 (cpd (f1_member mem_1 dsk_1 sto_1 dn_1 en_1 pw_1 wr_1 cm_1 x k) 8 dsk_1) sto_1 dn_1 en_1 pw_1 wr_1 cm_1 _ _ ls hP hD hS (lv_sub hl [0, 3, 4, 5, 6] rfl)
          · skip
            refine lv_aload_n hx hb dX1_start_94 rfl (lv_at hl 4 rfl) ?_
            refine lv_iconst (v := 0) hx hb dX1_start_95 (by decide) ?_
            refine callWv (q := (RX1, TX1, 8)) (ci := 1) (q0 := 0) (As := [.int 0]) (rest := []) (wr := []) (m1_header l dC dI h0 h1 h2 h3 c1 c2 c3 _ mem_1 dsk_1 sto_1 dn_1 en_1 pw_1 wr_1 cm_1 0 ) ⟨hx, hb, hml, hown, hts⟩ (cwV 1 hts gX1_start_X1_header rfl rfl rfl (by decide +kernel) ⟨Nat.le_of_ble_eq_true rfl, Nat.le_of_ble_eq_true rfl⟩) hK hP hD hS hA rfl rfl [0, 1, 2, 3] [] rfl rfl rfl (by decide) (by decide) (by decide) rfl hl.1 rfl (Nat.le_of_ble_eq_true rfl) dX1_start_96 ⟨Nat.zero_le _, Nat.zero_le _⟩ (fun H locs hP hD hS => ?_)
            have hP : va_P (dC, dI) vwCl [(h0, .inr (1, [.ref h1, .ref h2, .ref h3, .int dn_1, .int en_1, .int pw_1, .int wr_1, .int cm_1])), (h1, .inl (c1, 96, .inl mem_1)), (h2, .inl (c2, 200, .inl (upd dsk_1 (192 : Int32).toNatClampNeg 0))), (h3, .inl (c3, 12, .inl sto_1))] _ := hP
            have hD : va_D _ [(h0, .inr (1, [.ref h1, .ref h2, .ref h3, .int dn_1, .int en_1, .int pw_1, .int wr_1, .int cm_1])), (h1, .inl (c1, 96, .inl mem_1)), (h2, .inl (c2, 200, .inl (upd dsk_1 (192 : Int32).toNatClampNeg 0))), (h3, .inl (c3, 12, .inl sto_1))] := hD
            refine lv_goto (tgt := 156) hx hb dX1_start_99 (by decide) ?_
            refine lv_iinc (v := (k + 1)) (lv' := [(4, .int (k + 1)), (3, .int mny), (2, .int x), (1, .int x0), (0, .ref h0)]) hx hb dX1_start_156 hl (k := 0) rfl rfl (by decide) rfl (fun ls hl => ?_)
            refine lv_goto (tgt := 70) hx hb dX1_start_159 (by decide) ?_
            have e9 : F1_st x mny (f + 1) k (mem_0, dsk_0, sto_0, dn_0, en_0, pw_0, wr_0, cm_0) = F1_st x mny f (k + 1) (mem_1, (upd dsk_1 (192 : Int32).toNatClampNeg 0), sto_1, dn_1, en_1, pw_1, wr_1, cm_1) := by rw [F1_st]; (try dsimp only); rw [hF1]; (try dsimp only); rw [if_neg c_80, if_pos c_91]
            rw [e9]
            exact ih (by omega) (k + 1) (st_nxt hf ek) mem_1 (upd dsk_1 (192 : Int32).toNatClampNeg 0) sto_1 dn_1 en_1 pw_1 wr_1 cm_1 _ _ ls hP hD hS (lv_sub hl [0, 1, 2, 3, 4] rfl)
        · skip
          refine lv_bipush (v := (-3)) hx hb dX1_start_83 (by decide) ?_
          have e9 : F1_st x mny (f + 1) k (mem_0, dsk_0, sto_0, dn_0, en_0, pw_0, wr_0, cm_0) = ((-3), mem_1, dsk_1, sto_1, dn_1, en_1, pw_1, wr_1, cm_1) := by rw [F1_st]; (try dsimp only); rw [hF1]; (try dsimp only); rw [if_pos c_80]
          rw [e9]
          exact retWi hx hb hr hlocks rfl rfl rfl hK hP hD hS dX1_start_85
  refine lv_aload_n hx hb dX1_start_0 rfl (lv_at hl 0 rfl) ?_
  refine va_get (D := (dC, dI)) (ci := 1) (v := .int dn) (C := RX1) (T := TX1) (N := 8) hx hb hts hin hown hK hP 0 rfl rfl 3 (by decide) (hts (.fieldLink RX1 28 "CapStoreModel" "down" "Z") (by decide +kernel)) (fun _ h9 => h9) rfl dX1_start_1 ?_
  refine lv_if_ne (tgt := 9) hx hb dX1_start_4 (by decide) (fun c_4 => ?_) (fun c_4 => ?_)
  · skip
    refine lv_iload_n hx hb dX1_start_9 rfl (lv_at hl 1 rfl) ?_
    refine lv_iconst (v := (-1)) hx hb dX1_start_10 (by decide) ?_
    refine lv_icmp_lt (tgt := 20) hx hb dX1_start_11 (by decide) (fun c_11 => ?_) (fun c_11 => ?_)
    · skip
      refine lv_bipush (v := (-2)) hx hb dX1_start_20 (by decide) ?_
      have e9 : F1_start mem dsk sto dn en pw wr cm x0 = ((-2), mem, dsk, sto, dn, en, pw, wr, cm) := by unfold F1_start; rw [if_neg c_4, if_pos c_11]
      rw [e9]
      exact retWi hx hb hr hlocks rfl rfl rfl hK hP hD hS dX1_start_22
    · skip
      refine lv_iload_n hx hb dX1_start_14 rfl (lv_at hl 1 rfl) ?_
      refine lv_bipush (v := 63) hx hb dX1_start_15 (by decide) ?_
      refine lv_icmp_le (tgt := 23) hx hb dX1_start_17 (by decide) (fun c_17 => ?_) (fun c_17 => ?_)
      · skip
        refine w_cut 34 [.ref h0] (z1_start_34 x0) (fun z ez => ?_) (fun K => ?_)
        · subst ez
          refine va_put (D := (dC, dI)) (ci := 1) (v := .int (z1_start_34 x0)) (ty := .boolean) (C := RX1) (T := TX1) (N := 8) hx hb hts hin tyX1 tyX1_ok nmX1 hown hK hP hD hS 0 rfl rfl 4 (by decide) (hts (.fieldLink RX1 20 "CapStoreModel" "endless" "Z") (by decide +kernel)) (fun _ h9 => h9) rfl (by decide +kernel) (nar_z34 x0) (fit_z34 x0) (Nat.le_of_ble_eq_true rfl) dX1_start_34 (fun H locs hP hD hS => ?_)
          have hP : va_P (dC, dI) vwCl [(h0, .inr (1, [.ref h1, .ref h2, .ref h3, .int dn, .int (z1_start_34 x0), .int pw, .int wr, .int cm])), (h1, .inl (c1, 96, .inl mem)), (h2, .inl (c2, 200, .inl dsk)), (h3, .inl (c3, 12, .inl sto))] _ := hP
          have hD : va_D _ [(h0, .inr (1, [.ref h1, .ref h2, .ref h3, .int dn, .int (z1_start_34 x0), .int pw, .int wr, .int cm])), (h1, .inl (c1, 96, .inl mem)), (h2, .inl (c2, 200, .inl dsk)), (h3, .inl (c3, 12, .inl sto))] := hD
          refine lv_aload_n hx hb dX1_start_37 rfl (lv_at hl 0 rfl) ?_
          refine lv_iload_n hx hb dX1_start_38 rfl (lv_at hl 1 rfl) ?_
          refine va_put (D := (dC, dI)) (ci := 1) (v := .int x0) (ty := .int) (C := RX1) (T := TX1) (N := 8) hx hb hts hin tyX1 tyX1_ok nmX1 hown hK hP hD hS 0 rfl rfl 5 (by decide) (hts (.fieldLink RX1 55 "CapStoreModel" "power" "I") (by decide +kernel)) (fun _ h9 => h9) rfl (by decide +kernel) rfl rfl (Nat.le_of_ble_eq_true rfl) dX1_start_39 (fun H locs hP hD hS => ?_)
          have hP : va_P (dC, dI) vwCl [(h0, .inr (1, [.ref h1, .ref h2, .ref h3, .int dn, .int (z1_start_34 x0), .int x0, .int wr, .int cm])), (h1, .inl (c1, 96, .inl mem)), (h2, .inl (c2, 200, .inl dsk)), (h3, .inl (c3, 12, .inl sto))] _ := hP
          have hD : va_D _ [(h0, .inr (1, [.ref h1, .ref h2, .ref h3, .int dn, .int (z1_start_34 x0), .int x0, .int wr, .int cm])), (h1, .inl (c1, 96, .inl mem)), (h2, .inl (c2, 200, .inl dsk)), (h3, .inl (c3, 12, .inl sto))] := hD
          refine lv_aload_n hx hb dX1_start_42 rfl (lv_at hl 0 rfl) ?_
          refine va_get (D := (dC, dI)) (ci := 1) (v := .ref h2) (C := RX1) (T := TX1) (N := 8) hx hb hts hin hown hK hP 0 rfl rfl 1 (by decide) (hts (.fieldLink RX1 13 "CapStoreModel" "disk" "[I") (by decide +kernel)) (fun _ h9 => h9) rfl dX1_start_43 ?_
          refine lv_sipush (v := 192) hx hb dX1_start_46 (by decide) ?_
          refine va_iald hx hb hK hP 2 1 rfl rfl (vp_in_nI (n := 192) (by decide) (by decide)) dX1_start_49 ?_
          refine lv_istore_n (lv' := [(2, .int (dsk (192 : Int32).toNatClampNeg)), (0, .ref h0), (1, .int x0)]) hx hb dX1_start_50 rfl hl (by decide) rfl (fun ls hl => ?_)
          refine w_cut 66 [] (z1_start_66 mem dsk sto dn wr cm x0) (fun z ez => ?_) (fun K => ?_)
          · subst ez
            refine lv_istore_n (lv' := [(3, .int (z1_start_66 mem dsk sto dn wr cm x0)), (2, .int (dsk (192 : Int32).toNatClampNeg)), (0, .ref h0), (1, .int x0)]) hx hb dX1_start_66 rfl hl (by decide) rfl (fun ls hl => ?_)
            refine lv_iconst (v := 0) hx hb dX1_start_67 (by decide) ?_
            refine lv_istore (lv' := [(4, .int 0), (3, .int (z1_start_66 mem dsk sto dn wr cm x0)), (2, .int (dsk (192 : Int32).toNatClampNeg)), (0, .ref h0), (1, .int x0)]) hx hb dX1_start_68 hl (by decide) rfl (fun ls hl => ?_)
            obtain ⟨nn, hnn, enn⟩ : ∃ nn : Nat, nn ≤ 13 ∧ (z1_start_66 mem dsk sto dn wr cm x0) = nI nn := st_ok _ _ _ _ _ _ _
            have ec : (z1_start_66 mem dsk sto dn wr cm x0).toNatClampNeg = nn := by rw [enn]; exact nI_clamp (by omega)
            have e9 : F1_start mem dsk sto dn en pw wr cm x0 = F1_st (dsk (192 : Int32).toNatClampNeg) (z1_start_66 mem dsk sto dn wr cm x0) (nn) 0 (mem, dsk, sto, dn, (z1_start_34 x0), x0, wr, cm) := by unfold F1_start; rw [if_neg c_4, if_neg c_11, if_pos c_17]; rw [ec]
            rw [e9]
            exact loop (dsk (192 : Int32).toNatClampNeg) (z1_start_66 mem dsk sto dn wr cm x0) nn hnn enn (nn) (Nat.le_refl _) 0 (by rw [Nat.sub_self]; rfl) mem dsk sto dn (z1_start_34 x0) x0 wr cm _ _ ls hP hD hS (lv_sub hl [0, 1, 2, 4, 3] rfl)
          · skip
            refine lv_iload_n hx hb dX1_start_51 rfl (lv_at hl 0 rfl) ?_
            refine lv_if_ne (tgt := 59) hx hb dX1_start_52 (by decide) (fun c_52 => ?_) (fun c_52 => ?_)
            · skip
              refine lv_aload_n hx hb dX1_start_59 rfl (lv_at hl 1 rfl) ?_
              refine lv_iload_n hx hb dX1_start_60 rfl (lv_at hl 0 rfl) ?_
              refine callRi (q := (RX1, TX1, 8)) (ci := 1) (q0 := 0) (As := [.int (dsk (192 : Int32).toNatClampNeg)]) (rest := []) (m1_inSet l dC dI h0 h1 h2 h3 c1 c2 c3 mem dsk sto dn (z1_start_34 x0) x0 wr cm (dsk (192 : Int32).toNatClampNeg) ) ⟨hx, hb, hml, hown, hts⟩ (cwV 1 hts gX1_start_X1_inSet rfl rfl rfl (by decide +kernel) ⟨Nat.le_of_ble_eq_true rfl, Nat.le_of_ble_eq_true rfl⟩) hK hP rfl rfl rfl hl.1 rfl (Nat.le_of_ble_eq_true rfl) dX1_start_61 ⟨Nat.zero_le _, Nat.zero_le _⟩ ?_
              refine lv_iconst (v := 1) hx hb dX1_start_64 (by decide) ?_
              refine lv_iadd hx hb dX1_start_65 ?_
              exact K ((f1_inSet mem dsk sto dn (z1_start_34 x0) x0 wr cm (dsk (192 : Int32).toNatClampNeg)) + 1) (by unfold z1_start_66; rw [if_neg c_52])
            · skip
              refine lv_iconst (v := 0) hx hb dX1_start_55 (by decide) ?_
              refine lv_goto (tgt := 66) hx hb dX1_start_56 (by decide) ?_
              exact K 0 (by unfold z1_start_66; rw [if_pos c_52])
        · skip
          refine lv_aload_n hx hb dX1_start_23 rfl (lv_at hl 0 rfl) ?_
          refine lv_iload_n hx hb dX1_start_24 rfl (lv_at hl 1 rfl) ?_
          refine lv_iconst (v := (-1)) hx hb dX1_start_25 (by decide) ?_
          refine lv_icmp_ne (tgt := 33) hx hb dX1_start_26 (by decide) (fun c_26 => ?_) (fun c_26 => ?_)
          · skip
            refine lv_iconst (v := 0) hx hb dX1_start_33 (by decide) ?_
            exact K 0 (by unfold z1_start_34; rw [if_neg c_26])
          · skip
            refine lv_iconst (v := 1) hx hb dX1_start_29 (by decide) ?_
            refine lv_goto (tgt := 34) hx hb dX1_start_30 (by decide) ?_
            exact K 1 (by unfold z1_start_34; rw [if_pos c_26])
      · skip
        refine lv_bipush (v := (-2)) hx hb dX1_start_20 (by decide) ?_
        have e9 : F1_start mem dsk sto dn en pw wr cm x0 = ((-2), mem, dsk, sto, dn, en, pw, wr, cm) := by unfold F1_start; rw [if_neg c_4, if_neg c_11, if_neg c_17]
        rw [e9]
        exact retWi hx hb hr hlocks rfl rfl rfl hK hP hD hS dX1_start_22
  · skip
    refine lv_iconst (v := (-1)) hx hb dX1_start_7 (by decide) ?_
    have e9 : F1_start mem dsk sto dn en pw wr cm x0 = ((-1), mem, dsk, sto, dn, en, pw, wr, cm) := by unfold F1_start; rw [if_pos c_4]
    rw [e9]
    exact retWi hx hb hr hlocks rfl rfl rfl hK hP hD hS dX1_start_8
