set_option maxHeartbeats 4000000 in
set_option maxRecDepth 100000 in
theorem m1_inSet (l : Launch) (dC : Nat → ClassId) (dI : Nat → Nat → Nat) (h0 h1 h2 h3 : Nat) (c1 c2 c3 : ClassId) (mem dsk sto : Nat → Int32) (dn en pw wr cm : Int32) (x0 : Int32) : Met l yX1_inSet wsX1_inSet ({ frames := 0, cells := 0, slots := 0, locals := 0 }) (pcR (dC, dI) (k1 c1 c2 c3) (w1 h0 h1 h2 h3 c1 c2 c3 (mem, dsk, sto, dn, en, pw, wr, cm)) [.ref h0, .int x0]) (QcRead (f1_inSet mem dsk sto dn en pw wr cm x0)) 0 0 (fun _ => False) := by
  refine Met.ofW (cc := cX1_inSet) (maxL := 4) (ret := (some .int)) (by decide) rfl ?_
  intro p e s m args below meth c s₁ B hml hv
  obtain ⟨rfl, hP, hK⟩ := hv
  have hx := B.exec
  have hb := B.bytes
  have hr := B.returns
  have hts := atoms_spec (ws := wsX1_inSet) B.pre
  have hown : s.vm.findClass RX1 = some m.cls := findClass_of_methodNamed B.named
  have hlocks := B.notSynchronized
  have hP : va_P (dC, dI) vwCl [(h0, .inr (1, [.ref h1, .ref h2, .ref h3, .int dn, .int en, .int pw, .int wr, .int cm])), (h1, .inl (c1, 96, .inl mem)), (h2, .inl (c2, 200, .inl dsk)), (h3, .inl (c3, 12, .inl sto))] s.heap := hP
  have hl := lv_entry ([.ref h0, .int x0]) (n := 4) (Nat.le_of_ble_eq_true rfl)
  rw [lg_entry_eq]
  generalize (lg_sl ([.ref h0, .int x0]) ++ List.replicate (4 - (lg_sl ([.ref h0, .int x0])).length) Slot.unset).toArray = ls at hl ⊢
  have hl : lv_has ls 4 [(0, .ref h0), (1, .int x0)] := hl
  have loop : ∀ (n : Nat), n ≤ 12 → ∀ (a : Int32) (ls : Array Slot), lv_has ls 4 [(3, .int (nI (12 - n))), (2, .int a), (0, .ref h0), (1, .int x0)] → W p l e (headSpec wsX1_inSet ({ frames := 0, cells := 0, slots := 0, locals := 0 })).room s m #[Value.ref h0, Value.int x0] below meth c s.heap [] 0 0 (MQ below (QcRead (f1_is x0 n a)) #[Value.ref h0, Value.int x0] s 0 0 (fun _ => False)) (F0 m 4 ls []) := by
    intro n
    induction n with
    | zero =>
      intro hn a ls hl
      have hl : lv_has ls 4 [(3, .int (nI 12)), (2, .int a), (0, .ref h0), (1, .int x0)] := hl
      refine lv_iload_n hx hb dX1_inSet_4 rfl (lv_at hl 0 rfl) ?_
      refine lv_bipush (v := 12) hx hb dX1_inSet_5 (by decide) ?_
      refine lv_icmp_ge (tgt := 24) hx hb dX1_inSet_7 (by decide) (fun c_7 => ?_) (fun c_7 => ?_)
      · skip
        refine lv_iload_n hx hb dX1_inSet_24 rfl (lv_at hl 1 rfl) ?_
        exact retP hx hb hr hlocks rfl rfl rfl dX1_inSet_25
      · skip
        exact absurd (by decide) c_7
    | succ n ih =>
      intro hn a ls hl
      have enx : 12 - (n + 1) = 11 - n := by omega
      rw [enx] at hl
      have ei : nI (11 - n) + 1 = nI (12 - n) := by rw [nI_1]; congr 1; omega
      have hl : lv_has ls 4 [(3, .int (nI (11 - n))), (2, .int a), (0, .ref h0), (1, .int x0)] := hl
      refine lv_iload_n hx hb dX1_inSet_4 rfl (lv_at hl 0 rfl) ?_
      refine lv_bipush (v := 12) hx hb dX1_inSet_5 (by decide) ?_
      refine lv_icmp_ge (tgt := 24) hx hb dX1_inSet_7 (by decide) (fun c_7 => ?_) (fun c_7 => ?_)
      · skip
        exact absurd c_7 (nI_ge (a := 11 - n) (b := 12) (by omega) (by decide))
      · skip
        refine lv_iload_n hx hb dX1_inSet_10 rfl (lv_at hl 1 rfl) ?_
        refine lv_iload_n hx hb dX1_inSet_11 rfl (lv_at hl 3 rfl) ?_
        refine lv_iload_n hx hb dX1_inSet_12 rfl (lv_at hl 0 rfl) ?_
        refine lv_ishr hx hb dX1_inSet_13 ?_
        refine lv_iconst (v := 1) hx hb dX1_inSet_14 (by decide) ?_
        refine lv_iand hx hb dX1_inSet_15 ?_
        refine lv_iadd hx hb dX1_inSet_16 ?_
        refine lv_istore_n (lv' := [(2, .int (a + ((x0 >>> ((nI (11 - n)) &&& 31)) &&& 1))), (3, .int (nI (11 - n))), (0, .ref h0), (1, .int x0)]) hx hb dX1_inSet_17 rfl hl (by decide) rfl (fun ls hl => ?_)
        refine lv_iinc (v := ((nI (11 - n)) + 1)) (lv' := [(3, .int ((nI (11 - n)) + 1)), (2, .int (a + ((x0 >>> ((nI (11 - n)) &&& 31)) &&& 1))), (0, .ref h0), (1, .int x0)]) hx hb dX1_inSet_18 hl (k := 1) rfl rfl (by decide) rfl (fun ls hl => ?_)
        refine lv_goto (tgt := 4) hx hb dX1_inSet_21 (by decide) ?_
        have e9 : f1_is x0 (n + 1) a = f1_is x0 n (a + ((x0 >>> ((nI (11 - n)) &&& 31)) &&& 1)) := by rw [f1_is]
        rw [e9]
        rw [ei] at hl
        exact ih (by omega) (a + ((x0 >>> ((nI (11 - n)) &&& 31)) &&& 1)) ls (lv_sub hl [0, 1, 2, 3] rfl)
  refine lv_iconst (v := 0) hx hb dX1_inSet_0 (by decide) ?_
  refine lv_istore_n (lv' := [(2, .int 0), (0, .ref h0), (1, .int x0)]) hx hb dX1_inSet_1 rfl hl (by decide) rfl (fun ls hl => ?_)
  refine lv_iconst (v := 0) hx hb dX1_inSet_2 (by decide) ?_
  refine lv_istore_n (lv' := [(3, .int 0), (2, .int 0), (0, .ref h0), (1, .int x0)]) hx hb dX1_inSet_3 rfl hl (by decide) rfl (fun ls hl => ?_)
  have hl := lv_sub hl [0, 1, 2, 3] rfl
  exact loop 12 (Nat.le_refl _) 0 ls hl
set_option maxHeartbeats 4000000 in
set_option maxRecDepth 100000 in
theorem m1_member (l : Launch) (dC : Nat → ClassId) (dI : Nat → Nat → Nat) (h0 h1 h2 h3 : Nat) (c1 c2 c3 : ClassId) (mem dsk sto : Nat → Int32) (dn en pw wr cm : Int32) (x0 : Int32) (x1 : Int32) : Met l yX1_member wsX1_member ({ frames := 0, cells := 0, slots := 0, locals := 0 }) (pcR (dC, dI) (k1 c1 c2 c3) (w1 h0 h1 h2 h3 c1 c2 c3 (mem, dsk, sto, dn, en, pw, wr, cm)) [.ref h0, .int x0, .int x1]) (QcRead (f1_member mem dsk sto dn en pw wr cm x0 x1)) 0 0 (fun _ => False) := by
  refine Met.ofW (cc := cX1_member) (maxL := 5) (ret := (some .int)) (by decide) rfl ?_
  intro p e s m args below meth c s₁ B hml hv
  obtain ⟨rfl, hP, hK⟩ := hv
  have hx := B.exec
  have hb := B.bytes
  have hr := B.returns
  have hts := atoms_spec (ws := wsX1_member) B.pre
  have hown : s.vm.findClass RX1 = some m.cls := findClass_of_methodNamed B.named
  have hlocks := B.notSynchronized
  have hP : va_P (dC, dI) vwCl [(h0, .inr (1, [.ref h1, .ref h2, .ref h3, .int dn, .int en, .int pw, .int wr, .int cm])), (h1, .inl (c1, 96, .inl mem)), (h2, .inl (c2, 200, .inl dsk)), (h3, .inl (c3, 12, .inl sto))] s.heap := hP
  have hl := lv_entry ([.ref h0, .int x0, .int x1]) (n := 5) (Nat.le_of_ble_eq_true rfl)
  rw [lg_entry_eq]
  generalize (lg_sl ([.ref h0, .int x0, .int x1]) ++ List.replicate (5 - (lg_sl ([.ref h0, .int x0, .int x1])).length) Slot.unset).toArray = ls at hl ⊢
  have hl : lv_has ls 5 [(0, .ref h0), (1, .int x0), (2, .int x1)] := hl
  have loop : ∀ (n : Nat), n ≤ 12 → ∀ (a : Int32) (ls : Array Slot), lv_has ls 5 [(4, .int (nI (12 - n))), (3, .int a), (0, .ref h0), (1, .int x0), (2, .int x1)] → W p l e (headSpec wsX1_member ({ frames := 0, cells := 0, slots := 0, locals := 0 })).room s m #[Value.ref h0, Value.int x0, Value.int x1] below meth c s.heap [] 0 0 (MQ below (QcRead (f1_mb x0 n a)) #[Value.ref h0, Value.int x0, Value.int x1] s 0 0 (fun _ => False)) (F0 m 5 ls []) := by
    intro n
    induction n with
    | zero =>
      intro hn a ls hl
      have hl : lv_has ls 5 [(4, .int (nI 12)), (3, .int a), (0, .ref h0), (1, .int x0), (2, .int x1)] := hl
      refine lv_iload hx hb dX1_member_5 (lv_at hl 0 rfl) ?_
      refine lv_bipush (v := 12) hx hb dX1_member_7 (by decide) ?_
      refine lv_icmp_ge (tgt := 38) hx hb dX1_member_9 (by decide) (fun c_9 => ?_) (fun c_9 => ?_)
      · skip
        refine lv_iconst (v := 0) hx hb dX1_member_38 (by decide) ?_
        exact retP hx hb hr hlocks rfl rfl rfl dX1_member_39
      · skip
        exact absurd (by decide) c_9
    | succ n ih =>
      intro hn a ls hl
      have enx : 12 - (n + 1) = 11 - n := by omega
      rw [enx] at hl
      have ei : nI (11 - n) + 1 = nI (12 - n) := by rw [nI_1]; congr 1; omega
      have hl : lv_has ls 5 [(4, .int (nI (11 - n))), (3, .int a), (0, .ref h0), (1, .int x0), (2, .int x1)] := hl
      refine lv_iload hx hb dX1_member_5 (lv_at hl 0 rfl) ?_
      refine lv_bipush (v := 12) hx hb dX1_member_7 (by decide) ?_
      refine lv_icmp_ge (tgt := 38) hx hb dX1_member_9 (by decide) (fun c_9 => ?_) (fun c_9 => ?_)
      · skip
        exact absurd c_9 (nI_ge (a := 11 - n) (b := 12) (by omega) (by decide))
      · skip
        refine lv_iload_n hx hb dX1_member_12 rfl (lv_at hl 3 rfl) ?_
        refine lv_iload hx hb dX1_member_13 (lv_at hl 0 rfl) ?_
        refine lv_ishr hx hb dX1_member_15 ?_
        refine lv_iconst (v := 1) hx hb dX1_member_16 (by decide) ?_
        refine lv_iand hx hb dX1_member_17 ?_
        refine lv_iconst (v := 1) hx hb dX1_member_18 (by decide) ?_
        refine lv_icmp_ne (tgt := 32) hx hb dX1_member_19 (by decide) (fun c_19 => ?_) (fun c_19 => ?_)
        · skip
          refine lv_iinc (v := ((nI (11 - n)) + 1)) (lv' := [(4, .int ((nI (11 - n)) + 1)), (3, .int a), (0, .ref h0), (1, .int x0), (2, .int x1)]) hx hb dX1_member_32 hl (k := 0) rfl rfl (by decide) rfl (fun ls hl => ?_)
          refine lv_goto (tgt := 5) hx hb dX1_member_35 (by decide) ?_
          have e9 : f1_mb x0 (n + 1) a = f1_mb x0 n a := by rw [f1_mb]; rw [if_neg c_19]
          rw [e9]
          rw [ei] at hl
          exact ih (by omega) a ls (lv_sub hl [0, 1, 2, 3, 4] rfl)
        · skip
          refine lv_iload_n hx hb dX1_member_22 rfl (lv_at hl 1 rfl) ?_
          refine lv_if_ne (tgt := 29) hx hb dX1_member_23 (by decide) (fun c_23 => ?_) (fun c_23 => ?_)
          · skip
            refine lv_iinc (v := (a + (-1))) (lv' := [(3, .int (a + (-1))), (4, .int (nI (11 - n))), (0, .ref h0), (1, .int x0), (2, .int x1)]) hx hb dX1_member_29 hl (k := 1) rfl rfl (by decide) rfl (fun ls hl => ?_)
            refine lv_iinc (v := ((nI (11 - n)) + 1)) (lv' := [(4, .int ((nI (11 - n)) + 1)), (3, .int (a + (-1))), (0, .ref h0), (1, .int x0), (2, .int x1)]) hx hb dX1_member_32 hl (k := 1) rfl rfl (by decide) rfl (fun ls hl => ?_)
            refine lv_goto (tgt := 5) hx hb dX1_member_35 (by decide) ?_
            have e9 : f1_mb x0 (n + 1) a = f1_mb x0 n (a + (-1)) := by rw [f1_mb]; rw [if_pos c_19, if_neg c_23]
            rw [e9]
            rw [ei] at hl
            exact ih (by omega) (a + (-1)) ls (lv_sub hl [0, 1, 2, 3, 4] rfl)
          · skip
            refine lv_iload hx hb dX1_member_26 (lv_at hl 0 rfl) ?_
            have e9 : f1_mb x0 (n + 1) a = (nI (11 - n)) := by rw [f1_mb]; rw [if_pos c_19, if_pos c_23]
            rw [e9]
            exact retP hx hb hr hlocks rfl rfl rfl dX1_member_28
  refine lv_iload_n hx hb dX1_member_0 rfl (lv_at hl 2 rfl) ?_
  refine lv_istore_n (lv' := [(3, .int x1), (0, .ref h0), (1, .int x0), (2, .int x1)]) hx hb dX1_member_1 rfl hl (by decide) rfl (fun ls hl => ?_)
  refine lv_iconst (v := 0) hx hb dX1_member_2 (by decide) ?_
  refine lv_istore (lv' := [(4, .int 0), (3, .int x1), (0, .ref h0), (1, .int x0), (2, .int x1)]) hx hb dX1_member_3 hl (by decide) rfl (fun ls hl => ?_)
  have hl := lv_sub hl [0, 1, 2, 3, 4] rfl
  exact loop 12 (Nat.le_refl _) x1 ls hl
set_option maxHeartbeats 4000000 in
set_option maxRecDepth 100000 in
theorem m1_dirty (l : Launch) (dC : Nat → ClassId) (dI : Nat → Nat → Nat) (h0 h1 h2 h3 : Nat) (c1 c2 c3 : ClassId) (mem dsk sto : Nat → Int32) (dn en pw wr cm : Int32) : Met l yX1_dirty wsX1_dirty ({ frames := 0, cells := 0, slots := 0, locals := 0 }) (pcR (dC, dI) (k1 c1 c2 c3) (w1 h0 h1 h2 h3 c1 c2 c3 (mem, dsk, sto, dn, en, pw, wr, cm)) [.ref h0]) (QcRead (f1_dirty mem dsk sto dn en pw wr cm)) 0 0 (fun _ => False) := by
  refine Met.ofW (cc := cX1_dirty) (maxL := 3) (ret := (some .int)) (by decide) rfl ?_
  intro p e s m args below meth c s₁ B hml hv
  obtain ⟨rfl, hP, hK⟩ := hv
  have hx := B.exec
  have hb := B.bytes
  have hr := B.returns
  have hts := atoms_spec (ws := wsX1_dirty) B.pre
  have hown : s.vm.findClass RX1 = some m.cls := findClass_of_methodNamed B.named
  have hlocks := B.notSynchronized
  have hin : ∀ w ∈ wsX10, w ∈ wsX1_dirty := fun _ h => List.mem_cons_of_mem _ (List.mem_append_right _ h)
  have hP : va_P (dC, dI) vwCl [(h0, .inr (1, [.ref h1, .ref h2, .ref h3, .int dn, .int en, .int pw, .int wr, .int cm])), (h1, .inl (c1, 96, .inl mem)), (h2, .inl (c2, 200, .inl dsk)), (h3, .inl (c3, 12, .inl sto))] s.heap := hP
  have hl := lv_entry ([.ref h0]) (n := 3) (Nat.le_of_ble_eq_true rfl)
  rw [lg_entry_eq]
  generalize (lg_sl ([.ref h0]) ++ List.replicate (3 - (lg_sl ([.ref h0])).length) Slot.unset).toArray = ls at hl ⊢
  have hl : lv_has ls 3 [(0, .ref h0)] := hl
  have loop : ∀ (n : Nat), n ≤ 12 → ∀ (a : Int32) (ls : Array Slot), lv_has ls 3 [(2, .int (nI (12 - n))), (1, .int a), (0, .ref h0)] → W p l e (headSpec wsX1_dirty ({ frames := 0, cells := 0, slots := 0, locals := 0 })).room s m #[Value.ref h0] below meth c s.heap [] 0 0 (MQ below (QcRead (f1_dt sto n a)) #[Value.ref h0] s 0 0 (fun _ => False)) (F0 m 13 ls []) := by
    intro n
    induction n with
    | zero =>
      intro hn a ls hl
      have hl : lv_has ls 3 [(2, .int (nI 12)), (1, .int a), (0, .ref h0)] := hl
      refine lv_iload_n hx hb dX1_dirty_13 rfl (lv_at hl 0 rfl) ?_
      refine lv_bipush (v := 12) hx hb dX1_dirty_14 (by decide) ?_
      refine lv_icmp_ge (tgt := 40) hx hb dX1_dirty_16 (by decide) (fun c_16 => ?_) (fun c_16 => ?_)
      · skip
        refine lv_iload_n hx hb dX1_dirty_40 rfl (lv_at hl 1 rfl) ?_
        exact retP hx hb hr hlocks rfl rfl rfl dX1_dirty_41
      · skip
        exact absurd (by decide) c_16
    | succ n ih =>
      intro hn a ls hl
      have enx : 12 - (n + 1) = 11 - n := by omega
      rw [enx] at hl
      have ei : nI (11 - n) + 1 = nI (12 - n) := by rw [nI_1]; congr 1; omega
      have hl : lv_has ls 3 [(2, .int (nI (11 - n))), (1, .int a), (0, .ref h0)] := hl
      refine lv_iload_n hx hb dX1_dirty_13 rfl (lv_at hl 0 rfl) ?_
      refine lv_bipush (v := 12) hx hb dX1_dirty_14 (by decide) ?_
      refine lv_icmp_ge (tgt := 40) hx hb dX1_dirty_16 (by decide) (fun c_16 => ?_) (fun c_16 => ?_)
      · skip
        exact absurd c_16 (nI_ge (a := 11 - n) (b := 12) (by omega) (by decide))
      · skip
        refine lv_aload_n hx hb dX1_dirty_19 rfl (lv_at hl 2 rfl) ?_
        refine va_get (D := (dC, dI)) (ci := 1) (v := .ref h3) (C := RX1) (T := TX1) (N := 8) hx hb hts hin hown hK hP 0 rfl rfl 2 (by decide) (hts (.fieldLink RX1 16 "CapStoreModel" "stored" "[Z") (by decide +kernel)) (fun _ h9 => h9) rfl dX1_dirty_20 ?_
        refine lv_iload_n hx hb dX1_dirty_23 rfl (lv_at hl 0 rfl) ?_
        refine va_zald hx hb hK hP 3 2 rfl rfl (vp_in_nI (by omega) (by decide)) dX1_dirty_24 ?_
        refine lv_if_eq (tgt := 34) hx hb dX1_dirty_25 (by decide) (fun c_25 => ?_) (fun c_25 => ?_)
        · skip
          refine lv_iinc (v := ((nI (11 - n)) + 1)) (lv' := [(2, .int ((nI (11 - n)) + 1)), (1, .int a), (0, .ref h0)]) hx hb dX1_dirty_34 hl (k := 0) rfl rfl (by decide) rfl (fun ls hl => ?_)
          refine lv_goto (tgt := 13) hx hb dX1_dirty_37 (by decide) ?_
          have e9 : f1_dt sto (n + 1) a = f1_dt sto n a := by rw [f1_dt]; rw [if_pos c_25]
          rw [e9]
          rw [ei] at hl
          exact ih (by omega) a ls (lv_sub hl [0, 1, 2] rfl)
        · skip
          refine lv_iload_n hx hb dX1_dirty_28 rfl (lv_at hl 1 rfl) ?_
          refine lv_iconst (v := 1) hx hb dX1_dirty_29 (by decide) ?_
          refine lv_iload_n hx hb dX1_dirty_30 rfl (lv_at hl 0 rfl) ?_
          refine lv_ishl hx hb dX1_dirty_31 ?_
          refine lv_iadd hx hb dX1_dirty_32 ?_
          refine lv_istore_n (lv' := [(1, .int (a + ((1 : Int32) <<< ((nI (11 - n)) &&& 31)))), (2, .int (nI (11 - n))), (0, .ref h0)]) hx hb dX1_dirty_33 rfl hl (by decide) rfl (fun ls hl => ?_)
          refine lv_iinc (v := ((nI (11 - n)) + 1)) (lv' := [(2, .int ((nI (11 - n)) + 1)), (1, .int (a + ((1 : Int32) <<< ((nI (11 - n)) &&& 31)))), (0, .ref h0)]) hx hb dX1_dirty_34 hl (k := 1) rfl rfl (by decide) rfl (fun ls hl => ?_)
          refine lv_goto (tgt := 13) hx hb dX1_dirty_37 (by decide) ?_
          have e9 : f1_dt sto (n + 1) a = f1_dt sto n (a + ((1 : Int32) <<< ((nI (11 - n)) &&& 31))) := by rw [f1_dt]; rw [if_neg c_25]
          rw [e9]
          rw [ei] at hl
          exact ih (by omega) (a + ((1 : Int32) <<< ((nI (11 - n)) &&& 31))) ls (lv_sub hl [0, 1, 2] rfl)
  refine lv_aload_n hx hb dX1_dirty_0 rfl (lv_at hl 0 rfl) ?_
  refine va_get (D := (dC, dI)) (ci := 1) (v := .int dn) (C := RX1) (T := TX1) (N := 8) hx hb hts hin hown hK hP 0 rfl rfl 3 (by decide) (hts (.fieldLink RX1 28 "CapStoreModel" "down" "Z") (by decide +kernel)) (fun _ h9 => h9) rfl dX1_dirty_1 ?_
  refine lv_if_eq (tgt := 9) hx hb dX1_dirty_4 (by decide) (fun c_4 => ?_) (fun c_4 => ?_)
  · skip
    refine lv_iconst (v := 0) hx hb dX1_dirty_9 (by decide) ?_
    refine lv_istore_n (lv' := [(1, .int 0), (0, .ref h0)]) hx hb dX1_dirty_10 rfl hl (by decide) rfl (fun ls hl => ?_)
    refine lv_iconst (v := 0) hx hb dX1_dirty_11 (by decide) ?_
    refine lv_istore_n (lv' := [(2, .int 0), (1, .int 0), (0, .ref h0)]) hx hb dX1_dirty_12 rfl hl (by decide) rfl (fun ls hl => ?_)
    have hl := lv_sub hl [0, 1, 2] rfl
    have e9 : f1_dirty mem dsk sto dn en pw wr cm = f1_dt sto 12 0 := by unfold f1_dirty; rw [if_pos c_4]
    rw [e9]
    exact loop 12 (Nat.le_refl _) 0 ls hl
  · skip
    refine lv_iconst (v := (-1)) hx hb dX1_dirty_7 (by decide) ?_
    exact retP hx hb hr hlocks rfl (by unfold f1_dirty; rw [if_neg c_4]) rfl dX1_dirty_8
set_option maxHeartbeats 4000000 in
set_option maxRecDepth 100000 in
theorem m1_refusal (l : Launch) (dC : Nat → ClassId) (dI : Nat → Nat → Nat) (h0 h1 h2 h3 : Nat) (c1 c2 c3 : ClassId) (mem dsk sto : Nat → Int32) (dn en pw wr cm : Int32) (x0 : Int32) (x1 : Int32) (x2 : Int32) (x3 : Int32) (x4 : Int32) : Met l yX1_refusal wsX1_refusal ({ frames := 1, cells := 0, slots := 0, locals := 20 }) (pcR (dC, dI) (k1 c1 c2 c3) (w1 h0 h1 h2 h3 c1 c2 c3 (mem, dsk, sto, dn, en, pw, wr, cm)) [.ref h0, .int x0, .int x1, .int x2, .int x3, .int x4]) (QcRead (f1_refusal mem dsk sto dn en pw wr cm x0 x1 x2 x3 x4)) 0 0 (fun _ => False) := by
  refine Met.ofW (cc := cX1_refusal) (maxL := 8) (ret := (some .int)) (by decide) rfl ?_
  intro p e s m args below meth c s₁ B hml hv
  obtain ⟨rfl, hP, hK⟩ := hv
  have hx := B.exec
  have hb := B.bytes
  have hr := B.returns
  have hts := atoms_spec (ws := wsX1_refusal) B.pre
  have hown : s.vm.findClass RX1 = some m.cls := findClass_of_methodNamed B.named
  have hlocks := B.notSynchronized
  have hin : ∀ w ∈ wsX10, w ∈ wsX1_refusal := fun _ h => List.mem_cons_of_mem _ (List.mem_append_right _ h)
  have hP : va_P (dC, dI) vwCl [(h0, .inr (1, [.ref h1, .ref h2, .ref h3, .int dn, .int en, .int pw, .int wr, .int cm])), (h1, .inl (c1, 96, .inl mem)), (h2, .inl (c2, 200, .inl dsk)), (h3, .inl (c3, 12, .inl sto))] s.heap := hP
  have hl := lv_entry ([.ref h0, .int x0, .int x1, .int x2, .int x3, .int x4]) (n := 8) (Nat.le_of_ble_eq_true rfl)
  rw [lg_entry_eq]
  generalize (lg_sl ([.ref h0, .int x0, .int x1, .int x2, .int x3, .int x4]) ++ List.replicate (8 - (lg_sl ([.ref h0, .int x0, .int x1, .int x2, .int x3, .int x4])).length) Slot.unset).toArray = ls at hl ⊢
  have hl : lv_has ls 8 [(0, .ref h0), (1, .int x0), (2, .int x1), (3, .int x2), (4, .int x3), (5, .int x4)] := hl
  refine lv_aload_n hx hb dX1_refusal_0 rfl (lv_at hl 0 rfl) ?_
  refine va_get (D := (dC, dI)) (ci := 1) (v := .int dn) (C := RX1) (T := TX1) (N := 8) hx hb hts hin hown hK hP 0 rfl rfl 3 (by decide) (hts (.fieldLink RX1 28 "CapStoreModel" "down" "Z") (by decide +kernel)) (fun _ h9 => h9) rfl dX1_refusal_1 ?_
  refine lv_if_eq (tgt := 9) hx hb dX1_refusal_4 (by decide) (fun c_4 => ?_) (fun c_4 => ?_)
  · skip
    refine lv_iload_n hx hb dX1_refusal_9 rfl (lv_at hl 1 rfl) ?_
    refine callSi (As := [.int x0]) (rest := []) (m1_third l x0) ⟨hx, hb, hml, hown, hts⟩ (va_cwS 1 hts gX1_refusal_X1_third rfl rfl rfl (by decide +kernel) ⟨Nat.le_of_ble_eq_true rfl, Nat.le_of_ble_eq_true rfl⟩) rfl hl.1 rfl (Nat.le_of_ble_eq_true rfl) dX1_refusal_10 ⟨Nat.zero_le _, Nat.zero_le _⟩ ?_
    refine lv_if_eq (tgt := 30) hx hb dX1_refusal_13 (by decide) (fun c_13 => ?_) (fun c_13 => ?_)
    · skip
      refine lv_bipush (v := (-2)) hx hb dX1_refusal_30 (by decide) ?_
      exact retP hx hb hr hlocks rfl (by unfold f1_refusal; rw [if_pos c_4, if_pos c_13]) rfl dX1_refusal_32
    · skip
      refine lv_iload_n hx hb dX1_refusal_16 rfl (lv_at hl 2 rfl) ?_
      refine callSi (As := [.int x1]) (rest := []) (m1_eight l x1) ⟨hx, hb, hml, hown, hts⟩ (va_cwS 1 hts gX1_refusal_X1_eight rfl rfl rfl (by decide +kernel) ⟨Nat.le_of_ble_eq_true rfl, Nat.le_of_ble_eq_true rfl⟩) rfl hl.1 rfl (Nat.le_of_ble_eq_true rfl) dX1_refusal_17 ⟨Nat.zero_le _, Nat.zero_le _⟩ ?_
      refine lv_if_eq (tgt := 30) hx hb dX1_refusal_20 (by decide) (fun c_20 => ?_) (fun c_20 => ?_)
      · skip
        refine lv_bipush (v := (-2)) hx hb dX1_refusal_30 (by decide) ?_
        exact retP hx hb hr hlocks rfl (by unfold f1_refusal; rw [if_pos c_4, if_neg c_13, if_pos c_20]) rfl dX1_refusal_32
      · skip
        refine lv_iload_n hx hb dX1_refusal_23 rfl (lv_at hl 3 rfl) ?_
        refine callSi (As := [.int x2]) (rest := []) (m1_eight l x2) ⟨hx, hb, hml, hown, hts⟩ (va_cwS 1 hts gX1_refusal_X1_eight rfl rfl rfl (by decide +kernel) ⟨Nat.le_of_ble_eq_true rfl, Nat.le_of_ble_eq_true rfl⟩) rfl hl.1 rfl (Nat.le_of_ble_eq_true rfl) dX1_refusal_24 ⟨Nat.zero_le _, Nat.zero_le _⟩ ?_
        refine lv_if_ne (tgt := 33) hx hb dX1_refusal_27 (by decide) (fun c_27 => ?_) (fun c_27 => ?_)
        · skip
          refine lv_aload_n hx hb dX1_refusal_33 rfl (lv_at hl 0 rfl) ?_
          refine va_get (D := (dC, dI)) (ci := 1) (v := .ref h1) (C := RX1) (T := TX1) (N := 8) hx hb hts hin hown hK hP 0 rfl rfl 0 (by decide) (hts (.fieldLink RX1 7 "CapStoreModel" "memory" "[I") (by decide +kernel)) (fun _ h9 => h9) rfl dX1_refusal_34 ?_
          refine lv_bipush (v := 8) hx hb dX1_refusal_37 (by decide) ?_
          refine lv_iload_n hx hb dX1_refusal_39 rfl (lv_at hl 1 rfl) ?_
          refine lv_imul hx hb dX1_refusal_40 ?_
          refine lv_iload_n hx hb dX1_refusal_41 rfl (lv_at hl 2 rfl) ?_
          refine lv_iadd hx hb dX1_refusal_42 ?_
          refine va_iald hx hb hK hP 1 0 rfl rfl (sd1_ix c_13 c_20) dX1_refusal_43 ?_
          refine lv_istore (lv' := [(6, .int (mem ((8 * x0) + x1).toNatClampNeg)), (0, .ref h0), (1, .int x0), (2, .int x1), (3, .int x2), (4, .int x3), (5, .int x4)]) hx hb dX1_refusal_44 hl (by decide) rfl (fun ls hl => ?_)
          refine lv_iload hx hb dX1_refusal_46 (lv_at hl 0 rfl) ?_
          refine callSi (As := [.int (mem ((8 * x0) + x1).toNatClampNeg)]) (rest := []) (m1_object l (mem ((8 * x0) + x1).toNatClampNeg)) ⟨hx, hb, hml, hown, hts⟩ (va_cwS 1 hts gX1_refusal_X1_object rfl rfl rfl (by decide +kernel) ⟨Nat.le_of_ble_eq_true rfl, Nat.le_of_ble_eq_true rfl⟩) rfl hl.1 rfl (Nat.le_of_ble_eq_true rfl) dX1_refusal_48 ⟨Nat.zero_le _, Nat.zero_le _⟩ ?_
          refine lv_istore (lv' := [(7, .int (f1_object (mem ((8 * x0) + x1).toNatClampNeg))), (6, .int (mem ((8 * x0) + x1).toNatClampNeg)), (0, .ref h0), (1, .int x0), (2, .int x1), (3, .int x2), (4, .int x3), (5, .int x4)]) hx hb dX1_refusal_51 hl (by decide) rfl (fun ls hl => ?_)
          refine lv_iload hx hb dX1_refusal_53 (lv_at hl 0 rfl) ?_
          refine lv_bipush (v := 12) hx hb dX1_refusal_55 (by decide) ?_
          refine lv_icmp_eq (tgt := 77) hx hb dX1_refusal_57 (by decide) (fun c_57 => ?_) (fun c_57 => ?_)
          · skip
            refine lv_bipush (v := (-3)) hx hb dX1_refusal_77 (by decide) ?_
            exact retP hx hb hr hlocks rfl (by unfold f1_refusal; rw [if_pos c_4, if_neg c_13, if_neg c_20, if_neg c_27, if_pos c_57]) rfl dX1_refusal_79
          · skip
            refine lv_iload hx hb dX1_refusal_60 (lv_at hl 6 rfl) ?_
            refine lv_iload hx hb dX1_refusal_62 (lv_at hl 0 rfl) ?_
            refine lv_bipush (v := 7) hx hb dX1_refusal_64 (by decide) ?_
            refine lv_icmp_le (tgt := 73) hx hb dX1_refusal_66 (by decide) (fun c_66 => ?_) (fun c_66 => ?_)
            · skip
              refine lv_iconst (v := 0) hx hb dX1_refusal_73 (by decide) ?_
              refine lv_icmp_eq (tgt := 80) hx hb dX1_refusal_74 (by decide) (fun c_74 => ?_) (fun c_74 => ?_)
              · skip
                refine lv_iload hx hb dX1_refusal_80 (lv_at hl 7 rfl) ?_
                refine lv_if_eq (tgt := 98) hx hb dX1_refusal_82 (by decide) (fun c_82 => ?_) (fun c_82 => ?_)
                · skip
                  refine lv_iconst (v := 0) hx hb dX1_refusal_98 (by decide) ?_
                  exact retP hx hb hr hlocks rfl (by unfold f1_refusal; rw [if_pos c_4, if_neg c_13, if_neg c_20, if_neg c_27, if_neg c_57, if_pos c_66, if_pos c_74, if_pos c_82]) rfl dX1_refusal_99
                · skip
                  refine lv_iload hx hb dX1_refusal_85 (lv_at hl 1 rfl) ?_
                  refine callSi (As := [.int (mem ((8 * x0) + x1).toNatClampNeg)]) (rest := []) (m1_limits l (mem ((8 * x0) + x1).toNatClampNeg)) ⟨hx, hb, hml, hown, hts⟩ (va_cwS 1 hts gX1_refusal_X1_limits rfl rfl rfl (by decide +kernel) ⟨Nat.le_of_ble_eq_true rfl, Nat.le_of_ble_eq_true rfl⟩) rfl hl.1 rfl (Nat.le_of_ble_eq_true rfl) dX1_refusal_87 ⟨Nat.zero_le _, Nat.zero_le _⟩ ?_
                  refine lv_if_eq (tgt := 98) hx hb dX1_refusal_90 (by decide) (fun c_90 => ?_) (fun c_90 => ?_)
                  · skip
                    refine lv_iconst (v := 0) hx hb dX1_refusal_98 (by decide) ?_
                    exact retP hx hb hr hlocks rfl (by unfold f1_refusal; rw [if_pos c_4, if_neg c_13, if_neg c_20, if_neg c_27, if_neg c_57, if_pos c_66, if_pos c_74, if_neg c_82, if_pos c_90]) rfl dX1_refusal_99
                  · skip
                    refine lv_bipush (v := (-4)) hx hb dX1_refusal_93 (by decide) ?_
                    refine lv_goto (tgt := 99) hx hb dX1_refusal_95 (by decide) ?_
                    exact retP hx hb hr hlocks rfl (by unfold f1_refusal; rw [if_pos c_4, if_neg c_13, if_neg c_20, if_neg c_27, if_neg c_57, if_pos c_66, if_pos c_74, if_neg c_82, if_neg c_90]) rfl dX1_refusal_99
              · skip
                refine lv_bipush (v := (-3)) hx hb dX1_refusal_77 (by decide) ?_
                exact retP hx hb hr hlocks rfl (by unfold f1_refusal; rw [if_pos c_4, if_neg c_13, if_neg c_20, if_neg c_27, if_neg c_57, if_pos c_66, if_neg c_74]) rfl dX1_refusal_79
            · skip
              refine lv_iconst (v := 1) hx hb dX1_refusal_69 (by decide) ?_
              refine lv_goto (tgt := 74) hx hb dX1_refusal_70 (by decide) ?_
              refine lv_icmp_eq (tgt := 80) hx hb dX1_refusal_74 (by decide) (fun c_74 => ?_) (fun c_74 => ?_)
              · skip
                refine lv_iload hx hb dX1_refusal_80 (lv_at hl 7 rfl) ?_
                refine lv_if_eq (tgt := 98) hx hb dX1_refusal_82 (by decide) (fun c_82 => ?_) (fun c_82 => ?_)
                · skip
                  refine lv_iconst (v := 0) hx hb dX1_refusal_98 (by decide) ?_
                  exact retP hx hb hr hlocks rfl (by unfold f1_refusal; rw [if_pos c_4, if_neg c_13, if_neg c_20, if_neg c_27, if_neg c_57, if_neg c_66, if_pos c_74, if_pos c_82]) rfl dX1_refusal_99
                · skip
                  refine lv_iload hx hb dX1_refusal_85 (lv_at hl 1 rfl) ?_
                  refine callSi (As := [.int (mem ((8 * x0) + x1).toNatClampNeg)]) (rest := []) (m1_limits l (mem ((8 * x0) + x1).toNatClampNeg)) ⟨hx, hb, hml, hown, hts⟩ (va_cwS 1 hts gX1_refusal_X1_limits rfl rfl rfl (by decide +kernel) ⟨Nat.le_of_ble_eq_true rfl, Nat.le_of_ble_eq_true rfl⟩) rfl hl.1 rfl (Nat.le_of_ble_eq_true rfl) dX1_refusal_87 ⟨Nat.zero_le _, Nat.zero_le _⟩ ?_
                  refine lv_if_eq (tgt := 98) hx hb dX1_refusal_90 (by decide) (fun c_90 => ?_) (fun c_90 => ?_)
                  · skip
                    refine lv_iconst (v := 0) hx hb dX1_refusal_98 (by decide) ?_
                    exact retP hx hb hr hlocks rfl (by unfold f1_refusal; rw [if_pos c_4, if_neg c_13, if_neg c_20, if_neg c_27, if_neg c_57, if_neg c_66, if_pos c_74, if_neg c_82, if_pos c_90]) rfl dX1_refusal_99
                  · skip
                    refine lv_bipush (v := (-4)) hx hb dX1_refusal_93 (by decide) ?_
                    refine lv_goto (tgt := 99) hx hb dX1_refusal_95 (by decide) ?_
                    exact retP hx hb hr hlocks rfl (by unfold f1_refusal; rw [if_pos c_4, if_neg c_13, if_neg c_20, if_neg c_27, if_neg c_57, if_neg c_66, if_pos c_74, if_neg c_82, if_neg c_90]) rfl dX1_refusal_99
              · skip
                refine lv_bipush (v := (-3)) hx hb dX1_refusal_77 (by decide) ?_
                exact retP hx hb hr hlocks rfl (by unfold f1_refusal; rw [if_pos c_4, if_neg c_13, if_neg c_20, if_neg c_27, if_neg c_57, if_neg c_66, if_neg c_74]) rfl dX1_refusal_79
        · skip
          refine lv_bipush (v := (-2)) hx hb dX1_refusal_30 (by decide) ?_
          exact retP hx hb hr hlocks rfl (by unfold f1_refusal; rw [if_pos c_4, if_neg c_13, if_neg c_20, if_pos c_27]) rfl dX1_refusal_32
  · skip
    refine lv_iconst (v := (-1)) hx hb dX1_refusal_7 (by decide) ?_
    exact retP hx hb hr hlocks rfl (by unfold f1_refusal; rw [if_neg c_4]) rfl dX1_refusal_8
set_option maxHeartbeats 4000000 in
set_option maxRecDepth 100000 in
theorem m1_read (l : Launch) (dC : Nat → ClassId) (dI : Nat → Nat → Nat) (h0 h1 h2 h3 : Nat) (c1 c2 c3 : ClassId) (mem dsk sto : Nat → Int32) (dn en pw wr cm : Int32) (x0 : Int32) (x1 : Int32) (x2 : Int32) (hk : KI mem) : Met l yX1_read wsX1_read ({ frames := 2, cells := 0, slots := 0, locals := 47 }) (pcR (dC, dI) (k1 c1 c2 c3) (w1 h0 h1 h2 h3 c1 c2 c3 (mem, dsk, sto, dn, en, pw, wr, cm)) [.ref h0, .int x0, .int x1, .int x2]) (k2_QcV (.long (f1_read mem dsk sto dn en pw wr cm x0 x1 x2))) 0 0 (fun _ => False) := by
  refine Met.ofW (cc := cX1_read) (maxL := 5) (ret := (some .long)) (by decide) rfl ?_
  intro p e s m args below meth c s₁ B hml hv
  obtain ⟨rfl, hP, hK⟩ := hv
  have hx := B.exec
  have hb := B.bytes
  have hr := B.returns
  have hts := atoms_spec (ws := wsX1_read) B.pre
  have hown : s.vm.findClass RX1 = some m.cls := findClass_of_methodNamed B.named
  have hlocks := B.notSynchronized
  have hin : ∀ w ∈ wsX10, w ∈ wsX1_read := fun _ h => List.mem_cons_of_mem _ (List.mem_append_right _ h)
  have hP : va_P (dC, dI) vwCl [(h0, .inr (1, [.ref h1, .ref h2, .ref h3, .int dn, .int en, .int pw, .int wr, .int cm])), (h1, .inl (c1, 96, .inl mem)), (h2, .inl (c2, 200, .inl dsk)), (h3, .inl (c3, 12, .inl sto))] s.heap := hP
  have hl := lv_entry ([.ref h0, .int x0, .int x1, .int x2]) (n := 5) (Nat.le_of_ble_eq_true rfl)
  rw [lg_entry_eq]
  generalize (lg_sl ([.ref h0, .int x0, .int x1, .int x2]) ++ List.replicate (5 - (lg_sl ([.ref h0, .int x0, .int x1, .int x2])).length) Slot.unset).toArray = ls at hl ⊢
  have hl : lv_has ls 5 [(0, .ref h0), (1, .int x0), (2, .int x1), (3, .int x2)] := hl
  refine lv_aload_n hx hb dX1_read_0 rfl (lv_at hl 0 rfl) ?_
  refine lv_iload_n hx hb dX1_read_1 rfl (lv_at hl 1 rfl) ?_
  refine lv_iload_n hx hb dX1_read_2 rfl (lv_at hl 2 rfl) ?_
  refine lv_iload_n hx hb dX1_read_3 rfl (lv_at hl 3 rfl) ?_
  refine lv_iconst (v := 1) hx hb dX1_read_4 (by decide) ?_
  refine lv_iconst (v := 0) hx hb dX1_read_5 (by decide) ?_
  refine callRi (q := (RX1, TX1, 8)) (ci := 1) (q0 := 0) (As := [.int x0, .int x1, .int x2, .int 1, .int 0]) (rest := []) (m1_refusal l dC dI h0 h1 h2 h3 c1 c2 c3 mem dsk sto dn en pw wr cm x0 x1 x2 1 0 ) ⟨hx, hb, hml, hown, hts⟩ (cwV 5 hts gX1_read_X1_refusal rfl rfl rfl (by decide +kernel) ⟨Nat.le_of_ble_eq_true rfl, Nat.le_of_ble_eq_true rfl⟩) hK hP rfl rfl rfl hl.1 rfl (Nat.le_of_ble_eq_true rfl) dX1_read_6 ⟨Nat.zero_le _, Nat.zero_le _⟩ ?_
  refine lv_istore (lv' := [(4, .int (f1_refusal mem dsk sto dn en pw wr cm x0 x1 x2 1 0)), (0, .ref h0), (1, .int x0), (2, .int x1), (3, .int x2)]) hx hb dX1_read_9 hl (by decide) rfl (fun ls hl => ?_)
  refine lv_iload hx hb dX1_read_11 (lv_at hl 0 rfl) ?_
  refine lv_if_eq (tgt := 26) hx hb dX1_read_13 (by decide) (fun c_13 => ?_) (fun c_13 => ?_)
  · skip
    refine lv_aload_n hx hb dX1_read_26 rfl (lv_at hl 1 rfl) ?_
    refine va_get (D := (dC, dI)) (ci := 1) (v := .ref h1) (C := RX1) (T := TX1) (N := 8) hx hb hts hin hown hK hP 0 rfl rfl 0 (by decide) (hts (.fieldLink RX1 7 "CapStoreModel" "memory" "[I") (by decide +kernel)) (fun _ h9 => h9) rfl dX1_read_27 ?_
    refine lv_bipush (v := 8) hx hb dX1_read_30 (by decide) ?_
    refine lv_aload_n hx hb dX1_read_32 rfl (lv_at hl 1 rfl) ?_
    refine va_get (D := (dC, dI)) (ci := 1) (v := .ref h1) (C := RX1) (T := TX1) (N := 8) hx hb hts hin hown hK hP 0 rfl rfl 0 (by decide) (hts (.fieldLink RX1 7 "CapStoreModel" "memory" "[I") (by decide +kernel)) (fun _ h9 => h9) rfl dX1_read_33 ?_
    refine lv_bipush (v := 8) hx hb dX1_read_36 (by decide) ?_
    refine lv_iload_n hx hb dX1_read_38 rfl (lv_at hl 2 rfl) ?_
    refine lv_imul hx hb dX1_read_39 ?_
    refine lv_iload_n hx hb dX1_read_40 rfl (lv_at hl 3 rfl) ?_
    refine lv_iadd hx hb dX1_read_41 ?_
    refine va_iald hx hb hK hP 1 0 rfl rfl (sd1_r1 c_13) dX1_read_42 ?_
    refine callSi (As := [.int (mem ((8 * x0) + x1).toNatClampNeg)]) (rest := [.int 8, .ref h1]) (m1_object l (mem ((8 * x0) + x1).toNatClampNeg)) ⟨hx, hb, hml, hown, hts⟩ (va_cwS 1 hts gX1_read_X1_object rfl rfl rfl (by decide +kernel) ⟨Nat.le_of_ble_eq_true rfl, Nat.le_of_ble_eq_true rfl⟩) rfl hl.1 rfl (Nat.le_of_ble_eq_true rfl) dX1_read_43 ⟨Nat.zero_le _, Nat.zero_le _⟩ ?_
    refine lv_imul hx hb dX1_read_46 ?_
    refine lv_iload_n hx hb dX1_read_47 rfl (lv_at hl 4 rfl) ?_
    refine lv_iadd hx hb dX1_read_48 ?_
    refine va_iald hx hb hK hP 1 0 rfl rfl (sd1_p hk c_13) dX1_read_49 ?_
    refine lv_i2l (v := (mem ((8 * (f1_object (mem ((8 * x0) + x1).toNatClampNeg))) + x2).toNatClampNeg).toInt64) hx hb dX1_read_50 rfl ?_
    exact retL hx hb hr hlocks (by unfold f1_read; rw [if_pos c_13]) rfl dX1_read_51
  · skip
    refine lv_ldc2 (v := 4294967296) hx hb hown (hts (.constantLong RX1 53 4294967296) (by decide +kernel)) dX1_read_16 ?_
    refine lv_iload hx hb dX1_read_19 (lv_at hl 0 rfl) ?_
    refine lv_i2l (v := (f1_refusal mem dsk sto dn en pw wr cm x0 x1 x2 1 0).toInt64) hx hb dX1_read_21 rfl ?_
    refine lv_ladd hx hb dX1_read_22 ?_
    refine lv_goto (tgt := 51) hx hb dX1_read_23 (by decide) ?_
    exact retL hx hb hr hlocks (by unfold f1_read; rw [if_neg c_13]) rfl dX1_read_51
set_option maxHeartbeats 4000000 in
set_option maxRecDepth 100000 in
theorem m1_isUp (l : Launch) (dC : Nat → ClassId) (dI : Nat → Nat → Nat) (h0 h1 h2 h3 : Nat) (c1 c2 c3 : ClassId) (mem dsk sto : Nat → Int32) (dn en pw wr cm : Int32) : Met l yX1_isUp wsX1_isUp ({ frames := 0, cells := 0, slots := 0, locals := 0 }) (pcR (dC, dI) (k1 c1 c2 c3) (w1 h0 h1 h2 h3 c1 c2 c3 (mem, dsk, sto, dn, en, pw, wr, cm)) [.ref h0]) (QcRead (f1_isUp mem dsk sto dn en pw wr cm)) 0 0 (fun _ => False) := by
  refine Met.ofW (cc := cX1_isUp) (maxL := 1) (ret := (some .boolean)) (by decide) rfl ?_
  intro p e s m args below meth c s₁ B hml hv
  obtain ⟨rfl, hP, hK⟩ := hv
  have hx := B.exec
  have hb := B.bytes
  have hr := B.returns
  have hts := atoms_spec (ws := wsX1_isUp) B.pre
  have hown : s.vm.findClass RX1 = some m.cls := findClass_of_methodNamed B.named
  have hlocks := B.notSynchronized
  have hin : ∀ w ∈ wsX10, w ∈ wsX1_isUp := fun _ h => List.mem_cons_of_mem _ (List.mem_append_right _ h)
  have hP : va_P (dC, dI) vwCl [(h0, .inr (1, [.ref h1, .ref h2, .ref h3, .int dn, .int en, .int pw, .int wr, .int cm])), (h1, .inl (c1, 96, .inl mem)), (h2, .inl (c2, 200, .inl dsk)), (h3, .inl (c3, 12, .inl sto))] s.heap := hP
  have hl := lv_entry ([.ref h0]) (n := 1) (Nat.le_of_ble_eq_true rfl)
  rw [lg_entry_eq]
  generalize (lg_sl ([.ref h0]) ++ List.replicate (1 - (lg_sl ([.ref h0])).length) Slot.unset).toArray = ls at hl ⊢
  have hl : lv_has ls 1 [(0, .ref h0)] := hl
  refine lv_aload_n hx hb dX1_isUp_0 rfl (lv_at hl 0 rfl) ?_
  refine va_get (D := (dC, dI)) (ci := 1) (v := .int dn) (C := RX1) (T := TX1) (N := 8) hx hb hts hin hown hK hP 0 rfl rfl 3 (by decide) (hts (.fieldLink RX1 28 "CapStoreModel" "down" "Z") (by decide +kernel)) (fun _ h9 => h9) rfl dX1_isUp_1 ?_
  refine lv_if_ne (tgt := 11) hx hb dX1_isUp_4 (by decide) (fun c_4 => ?_) (fun c_4 => ?_)
  · skip
    refine lv_iconst (v := 0) hx hb dX1_isUp_11 (by decide) ?_
    exact retP hx hb hr hlocks rfl (by unfold f1_isUp; rw [if_neg c_4]) rfl dX1_isUp_12
  · skip
    refine lv_iconst (v := 1) hx hb dX1_isUp_7 (by decide) ?_
    refine lv_goto (tgt := 12) hx hb dX1_isUp_8 (by decide) ?_
    exact retP hx hb hr hlocks rfl (by unfold f1_isUp; rw [if_pos c_4]) rfl dX1_isUp_12
set_option maxHeartbeats 4000000 in
set_option maxRecDepth 100000 in
theorem m1_writes (l : Launch) (dC : Nat → ClassId) (dI : Nat → Nat → Nat) (h0 h1 h2 h3 : Nat) (c1 c2 c3 : ClassId) (mem dsk sto : Nat → Int32) (dn en pw wr cm : Int32) : Met l yX1_writes wsX1_writes ({ frames := 0, cells := 0, slots := 0, locals := 0 }) (pcR (dC, dI) (k1 c1 c2 c3) (w1 h0 h1 h2 h3 c1 c2 c3 (mem, dsk, sto, dn, en, pw, wr, cm)) [.ref h0]) (QcRead (f1_writes mem dsk sto dn en pw wr cm)) 0 0 (fun _ => False) := by
  refine Met.ofW (cc := cX1_writes) (maxL := 1) (ret := (some .int)) (by decide) rfl ?_
  intro p e s m args below meth c s₁ B hml hv
  obtain ⟨rfl, hP, hK⟩ := hv
  have hx := B.exec
  have hb := B.bytes
  have hr := B.returns
  have hts := atoms_spec (ws := wsX1_writes) B.pre
  have hown : s.vm.findClass RX1 = some m.cls := findClass_of_methodNamed B.named
  have hlocks := B.notSynchronized
  have hin : ∀ w ∈ wsX10, w ∈ wsX1_writes := fun _ h => List.mem_cons_of_mem _ (List.mem_append_right _ h)
  have hP : va_P (dC, dI) vwCl [(h0, .inr (1, [.ref h1, .ref h2, .ref h3, .int dn, .int en, .int pw, .int wr, .int cm])), (h1, .inl (c1, 96, .inl mem)), (h2, .inl (c2, 200, .inl dsk)), (h3, .inl (c3, 12, .inl sto))] s.heap := hP
  have hl := lv_entry ([.ref h0]) (n := 1) (Nat.le_of_ble_eq_true rfl)
  rw [lg_entry_eq]
  generalize (lg_sl ([.ref h0]) ++ List.replicate (1 - (lg_sl ([.ref h0])).length) Slot.unset).toArray = ls at hl ⊢
  have hl : lv_has ls 1 [(0, .ref h0)] := hl
  refine lv_aload_n hx hb dX1_writes_0 rfl (lv_at hl 0 rfl) ?_
  refine va_get (D := (dC, dI)) (ci := 1) (v := .int wr) (C := RX1) (T := TX1) (N := 8) hx hb hts hin hown hK hP 0 rfl rfl 6 (by decide) (hts (.fieldLink RX1 59 "CapStoreModel" "writes" "I") (by decide +kernel)) (fun _ h9 => h9) rfl dX1_writes_1 ?_
  exact retP hx hb hr hlocks rfl (rfl) rfl dX1_writes_4
set_option maxHeartbeats 4000000 in
set_option maxRecDepth 100000 in
theorem m1_commits (l : Launch) (dC : Nat → ClassId) (dI : Nat → Nat → Nat) (h0 h1 h2 h3 : Nat) (c1 c2 c3 : ClassId) (mem dsk sto : Nat → Int32) (dn en pw wr cm : Int32) : Met l yX1_commits wsX1_commits ({ frames := 0, cells := 0, slots := 0, locals := 0 }) (pcR (dC, dI) (k1 c1 c2 c3) (w1 h0 h1 h2 h3 c1 c2 c3 (mem, dsk, sto, dn, en, pw, wr, cm)) [.ref h0]) (QcRead (f1_commits mem dsk sto dn en pw wr cm)) 0 0 (fun _ => False) := by
  refine Met.ofW (cc := cX1_commits) (maxL := 1) (ret := (some .int)) (by decide) rfl ?_
  intro p e s m args below meth c s₁ B hml hv
  obtain ⟨rfl, hP, hK⟩ := hv
  have hx := B.exec
  have hb := B.bytes
  have hr := B.returns
  have hts := atoms_spec (ws := wsX1_commits) B.pre
  have hown : s.vm.findClass RX1 = some m.cls := findClass_of_methodNamed B.named
  have hlocks := B.notSynchronized
  have hin : ∀ w ∈ wsX10, w ∈ wsX1_commits := fun _ h => List.mem_cons_of_mem _ (List.mem_append_right _ h)
  have hP : va_P (dC, dI) vwCl [(h0, .inr (1, [.ref h1, .ref h2, .ref h3, .int dn, .int en, .int pw, .int wr, .int cm])), (h1, .inl (c1, 96, .inl mem)), (h2, .inl (c2, 200, .inl dsk)), (h3, .inl (c3, 12, .inl sto))] s.heap := hP
  have hl := lv_entry ([.ref h0]) (n := 1) (Nat.le_of_ble_eq_true rfl)
  rw [lg_entry_eq]
  generalize (lg_sl ([.ref h0]) ++ List.replicate (1 - (lg_sl ([.ref h0])).length) Slot.unset).toArray = ls at hl ⊢
  have hl : lv_has ls 1 [(0, .ref h0)] := hl
  refine lv_aload_n hx hb dX1_commits_0 rfl (lv_at hl 0 rfl) ?_
  refine va_get (D := (dC, dI)) (ci := 1) (v := .int cm) (C := RX1) (T := TX1) (N := 8) hx hb hts hin hown hK hP 0 rfl rfl 7 (by decide) (hts (.fieldLink RX1 77 "CapStoreModel" "commits" "I") (by decide +kernel)) (fun _ h9 => h9) rfl dX1_commits_1 ?_
  exact retP hx hb hr hlocks rfl (rfl) rfl dX1_commits_4
set_option maxHeartbeats 4000000 in
set_option maxRecDepth 100000 in
theorem m1_key (l : Launch) (dC : Nat → ClassId) (dI : Nat → Nat → Nat) (h0 h1 h2 h3 : Nat) (c1 c2 c3 : ClassId) (mem dsk sto : Nat → Int32) (dn en pw wr cm : Int32) (x0 : Int32) (x1 : Int32) : Met l yX1_key wsX1_key ({ frames := 1, cells := 0, slots := 0, locals := 20 }) (pcR (dC, dI) (k1 c1 c2 c3) (w1 h0 h1 h2 h3 c1 c2 c3 (mem, dsk, sto, dn, en, pw, wr, cm)) [.ref h0, .int x0, .int x1]) (QcRead (f1_key mem dsk sto dn en pw wr cm x0 x1)) 0 0 (fun _ => False) := by
  refine Met.ofW (cc := cX1_key) (maxL := 3) (ret := (some .int)) (by decide) rfl ?_
  intro p e s m args below meth c s₁ B hml hv
  obtain ⟨rfl, hP, hK⟩ := hv
  have hx := B.exec
  have hb := B.bytes
  have hr := B.returns
  have hts := atoms_spec (ws := wsX1_key) B.pre
  have hown : s.vm.findClass RX1 = some m.cls := findClass_of_methodNamed B.named
  have hlocks := B.notSynchronized
  have hin : ∀ w ∈ wsX10, w ∈ wsX1_key := fun _ h => List.mem_cons_of_mem _ (List.mem_append_right _ h)
  have hP : va_P (dC, dI) vwCl [(h0, .inr (1, [.ref h1, .ref h2, .ref h3, .int dn, .int en, .int pw, .int wr, .int cm])), (h1, .inl (c1, 96, .inl mem)), (h2, .inl (c2, 200, .inl dsk)), (h3, .inl (c3, 12, .inl sto))] s.heap := hP
  have hl := lv_entry ([.ref h0, .int x0, .int x1]) (n := 3) (Nat.le_of_ble_eq_true rfl)
  rw [lg_entry_eq]
  generalize (lg_sl ([.ref h0, .int x0, .int x1]) ++ List.replicate (3 - (lg_sl ([.ref h0, .int x0, .int x1])).length) Slot.unset).toArray = ls at hl ⊢
  have hl : lv_has ls 3 [(0, .ref h0), (1, .int x0), (2, .int x1)] := hl
  refine lv_aload_n hx hb dX1_key_0 rfl (lv_at hl 0 rfl) ?_
  refine va_get (D := (dC, dI)) (ci := 1) (v := .int dn) (C := RX1) (T := TX1) (N := 8) hx hb hts hin hown hK hP 0 rfl rfl 3 (by decide) (hts (.fieldLink RX1 28 "CapStoreModel" "down" "Z") (by decide +kernel)) (fun _ h9 => h9) rfl dX1_key_1 ?_
  refine lv_if_eq (tgt := 9) hx hb dX1_key_4 (by decide) (fun c_4 => ?_) (fun c_4 => ?_)
  · skip
    refine lv_iload_n hx hb dX1_key_9 rfl (lv_at hl 1 rfl) ?_
    refine callSi (As := [.int x0]) (rest := []) (m1_eight l x0) ⟨hx, hb, hml, hown, hts⟩ (va_cwS 1 hts gX1_key_X1_eight rfl rfl rfl (by decide +kernel) ⟨Nat.le_of_ble_eq_true rfl, Nat.le_of_ble_eq_true rfl⟩) rfl hl.1 rfl (Nat.le_of_ble_eq_true rfl) dX1_key_10 ⟨Nat.zero_le _, Nat.zero_le _⟩ ?_
    refine lv_if_eq (tgt := 37) hx hb dX1_key_13 (by decide) (fun c_13 => ?_) (fun c_13 => ?_)
    · skip
      refine lv_bipush (v := (-2)) hx hb dX1_key_37 (by decide) ?_
      exact retP hx hb hr hlocks rfl (by unfold f1_key; rw [if_pos c_4, if_pos c_13]) rfl dX1_key_39
    · skip
      refine lv_iload_n hx hb dX1_key_16 rfl (lv_at hl 2 rfl) ?_
      refine callSi (As := [.int x1]) (rest := []) (m1_eight l x1) ⟨hx, hb, hml, hown, hts⟩ (va_cwS 1 hts gX1_key_X1_eight rfl rfl rfl (by decide +kernel) ⟨Nat.le_of_ble_eq_true rfl, Nat.le_of_ble_eq_true rfl⟩) rfl hl.1 rfl (Nat.le_of_ble_eq_true rfl) dX1_key_17 ⟨Nat.zero_le _, Nat.zero_le _⟩ ?_
      refine lv_if_eq (tgt := 37) hx hb dX1_key_20 (by decide) (fun c_20 => ?_) (fun c_20 => ?_)
      · skip
        refine lv_bipush (v := (-2)) hx hb dX1_key_37 (by decide) ?_
        exact retP hx hb hr hlocks rfl (by unfold f1_key; rw [if_pos c_4, if_neg c_13, if_pos c_20]) rfl dX1_key_39
      · skip
        refine lv_aload_n hx hb dX1_key_23 rfl (lv_at hl 0 rfl) ?_
        refine va_get (D := (dC, dI)) (ci := 1) (v := .ref h1) (C := RX1) (T := TX1) (N := 8) hx hb hts hin hown hK hP 0 rfl rfl 0 (by decide) (hts (.fieldLink RX1 7 "CapStoreModel" "memory" "[I") (by decide +kernel)) (fun _ h9 => h9) rfl dX1_key_24 ?_
        refine lv_bipush (v := 8) hx hb dX1_key_27 (by decide) ?_
        refine lv_iload_n hx hb dX1_key_29 rfl (lv_at hl 1 rfl) ?_
        refine lv_imul hx hb dX1_key_30 ?_
        refine lv_iload_n hx hb dX1_key_31 rfl (lv_at hl 2 rfl) ?_
        refine lv_iadd hx hb dX1_key_32 ?_
        refine va_iald hx hb hK hP 1 0 rfl rfl (sd1_key c_13 c_20) dX1_key_33 ?_
        refine lv_goto (tgt := 39) hx hb dX1_key_34 (by decide) ?_
        exact retP hx hb hr hlocks rfl (by unfold f1_key; rw [if_pos c_4, if_neg c_13, if_neg c_20]) rfl dX1_key_39
  · skip
    refine lv_iconst (v := (-1)) hx hb dX1_key_7 (by decide) ?_
    exact retP hx hb hr hlocks rfl (by unfold f1_key; rw [if_neg c_4]) rfl dX1_key_8
set_option maxHeartbeats 4000000 in
set_option maxRecDepth 100000 in
theorem m1_word (l : Launch) (dC : Nat → ClassId) (dI : Nat → Nat → Nat) (h0 h1 h2 h3 : Nat) (c1 c2 c3 : ClassId) (mem dsk sto : Nat → Int32) (dn en pw wr cm : Int32) (x0 : Int32) (x1 : Int32) : Met l yX1_word wsX1_word ({ frames := 1, cells := 0, slots := 0, locals := 20 }) (pcR (dC, dI) (k1 c1 c2 c3) (w1 h0 h1 h2 h3 c1 c2 c3 (mem, dsk, sto, dn, en, pw, wr, cm)) [.ref h0, .int x0, .int x1]) (k2_QcV (.long (f1_word mem dsk sto dn en pw wr cm x0 x1))) 0 0 (fun _ => False) := by
  refine Met.ofW (cc := cX1_word) (maxL := 3) (ret := (some .long)) (by decide) rfl ?_
  intro p e s m args below meth c s₁ B hml hv
  obtain ⟨rfl, hP, hK⟩ := hv
  have hx := B.exec
  have hb := B.bytes
  have hr := B.returns
  have hts := atoms_spec (ws := wsX1_word) B.pre
  have hown : s.vm.findClass RX1 = some m.cls := findClass_of_methodNamed B.named
  have hlocks := B.notSynchronized
  have hin : ∀ w ∈ wsX10, w ∈ wsX1_word := fun _ h => List.mem_cons_of_mem _ (List.mem_append_right _ h)
  have hP : va_P (dC, dI) vwCl [(h0, .inr (1, [.ref h1, .ref h2, .ref h3, .int dn, .int en, .int pw, .int wr, .int cm])), (h1, .inl (c1, 96, .inl mem)), (h2, .inl (c2, 200, .inl dsk)), (h3, .inl (c3, 12, .inl sto))] s.heap := hP
  have hl := lv_entry ([.ref h0, .int x0, .int x1]) (n := 3) (Nat.le_of_ble_eq_true rfl)
  rw [lg_entry_eq]
  generalize (lg_sl ([.ref h0, .int x0, .int x1]) ++ List.replicate (3 - (lg_sl ([.ref h0, .int x0, .int x1])).length) Slot.unset).toArray = ls at hl ⊢
  have hl : lv_has ls 3 [(0, .ref h0), (1, .int x0), (2, .int x1)] := hl
  refine lv_aload_n hx hb dX1_word_0 rfl (lv_at hl 0 rfl) ?_
  refine va_get (D := (dC, dI)) (ci := 1) (v := .int dn) (C := RX1) (T := TX1) (N := 8) hx hb hts hin hown hK hP 0 rfl rfl 3 (by decide) (hts (.fieldLink RX1 28 "CapStoreModel" "down" "Z") (by decide +kernel)) (fun _ h9 => h9) rfl dX1_word_1 ?_
  refine lv_if_eq (tgt := 11) hx hb dX1_word_4 (by decide) (fun c_4 => ?_) (fun c_4 => ?_)
  · skip
    refine lv_iload_n hx hb dX1_word_11 rfl (lv_at hl 1 rfl) ?_
    refine lv_bipush (v := 8) hx hb dX1_word_12 (by decide) ?_
    refine lv_icmp_lt (tgt := 45) hx hb dX1_word_14 (by decide) (fun c_14 => ?_) (fun c_14 => ?_)
    · skip
      refine lv_ldc2 (v := 4294967294) hx hb hown (hts (.constantLong RX1 85 4294967294) (by decide +kernel)) dX1_word_45 ?_
      exact retL hx hb hr hlocks (by unfold f1_word; rw [if_pos c_4, if_pos c_14]) rfl dX1_word_48
    · skip
      refine lv_iload_n hx hb dX1_word_17 rfl (lv_at hl 1 rfl) ?_
      refine lv_bipush (v := 11) hx hb dX1_word_18 (by decide) ?_
      refine lv_icmp_gt (tgt := 45) hx hb dX1_word_20 (by decide) (fun c_20 => ?_) (fun c_20 => ?_)
      · skip
        refine lv_ldc2 (v := 4294967294) hx hb hown (hts (.constantLong RX1 85 4294967294) (by decide +kernel)) dX1_word_45 ?_
        exact retL hx hb hr hlocks (by unfold f1_word; rw [if_pos c_4, if_neg c_14, if_pos c_20]) rfl dX1_word_48
      · skip
        refine lv_iload_n hx hb dX1_word_23 rfl (lv_at hl 2 rfl) ?_
        refine callSi (As := [.int x1]) (rest := []) (m1_eight l x1) ⟨hx, hb, hml, hown, hts⟩ (va_cwS 1 hts gX1_word_X1_eight rfl rfl rfl (by decide +kernel) ⟨Nat.le_of_ble_eq_true rfl, Nat.le_of_ble_eq_true rfl⟩) rfl hl.1 rfl (Nat.le_of_ble_eq_true rfl) dX1_word_24 ⟨Nat.zero_le _, Nat.zero_le _⟩ ?_
        refine lv_if_eq (tgt := 45) hx hb dX1_word_27 (by decide) (fun c_27 => ?_) (fun c_27 => ?_)
        · skip
          refine lv_ldc2 (v := 4294967294) hx hb hown (hts (.constantLong RX1 85 4294967294) (by decide +kernel)) dX1_word_45 ?_
          exact retL hx hb hr hlocks (by unfold f1_word; rw [if_pos c_4, if_neg c_14, if_neg c_20, if_pos c_27]) rfl dX1_word_48
        · skip
          refine lv_aload_n hx hb dX1_word_30 rfl (lv_at hl 0 rfl) ?_
          refine va_get (D := (dC, dI)) (ci := 1) (v := .ref h1) (C := RX1) (T := TX1) (N := 8) hx hb hts hin hown hK hP 0 rfl rfl 0 (by decide) (hts (.fieldLink RX1 7 "CapStoreModel" "memory" "[I") (by decide +kernel)) (fun _ h9 => h9) rfl dX1_word_31 ?_
          refine lv_bipush (v := 8) hx hb dX1_word_34 (by decide) ?_
          refine lv_iload_n hx hb dX1_word_36 rfl (lv_at hl 1 rfl) ?_
          refine lv_imul hx hb dX1_word_37 ?_
          refine lv_iload_n hx hb dX1_word_38 rfl (lv_at hl 2 rfl) ?_
          refine lv_iadd hx hb dX1_word_39 ?_
          refine va_iald hx hb hK hP 1 0 rfl rfl (sd1_word c_14 c_20 c_27) dX1_word_40 ?_
          refine lv_i2l (v := (mem ((8 * x0) + x1).toNatClampNeg).toInt64) hx hb dX1_word_41 rfl ?_
          refine lv_goto (tgt := 48) hx hb dX1_word_42 (by decide) ?_
          exact retL hx hb hr hlocks (by unfold f1_word; rw [if_pos c_4, if_neg c_14, if_neg c_20, if_neg c_27]) rfl dX1_word_48
  · skip
    refine lv_ldc2 (v := 4294967295) hx hb hown (hts (.constantLong RX1 83 4294967295) (by decide +kernel)) dX1_word_7 ?_
    exact retL hx hb hr hlocks (by unfold f1_word; rw [if_neg c_4]) rfl dX1_word_10
set_option maxHeartbeats 4000000 in
set_option maxRecDepth 100000 in
theorem m1_disk (l : Launch) (dC : Nat → ClassId) (dI : Nat → Nat → Nat) (h0 h1 h2 h3 : Nat) (c1 c2 c3 : ClassId) (mem dsk sto : Nat → Int32) (dn en pw wr cm : Int32) (x0 : Int32) (x1 : Int32) : Met l yX1_disk wsX1_disk ({ frames := 1, cells := 0, slots := 0, locals := 20 }) (pcR (dC, dI) (k1 c1 c2 c3) (w1 h0 h1 h2 h3 c1 c2 c3 (mem, dsk, sto, dn, en, pw, wr, cm)) [.ref h0, .int x0, .int x1]) (QcRead (f1_disk mem dsk sto dn en pw wr cm x0 x1)) 0 0 (fun _ => False) := by
  refine Met.ofW (cc := cX1_disk) (maxL := 3) (ret := (some .int)) (by decide) rfl ?_
  intro p e s m args below meth c s₁ B hml hv
  obtain ⟨rfl, hP, hK⟩ := hv
  have hx := B.exec
  have hb := B.bytes
  have hr := B.returns
  have hts := atoms_spec (ws := wsX1_disk) B.pre
  have hown : s.vm.findClass RX1 = some m.cls := findClass_of_methodNamed B.named
  have hlocks := B.notSynchronized
  have hin : ∀ w ∈ wsX10, w ∈ wsX1_disk := fun _ h => List.mem_cons_of_mem _ (List.mem_append_right _ h)
  have hP : va_P (dC, dI) vwCl [(h0, .inr (1, [.ref h1, .ref h2, .ref h3, .int dn, .int en, .int pw, .int wr, .int cm])), (h1, .inl (c1, 96, .inl mem)), (h2, .inl (c2, 200, .inl dsk)), (h3, .inl (c3, 12, .inl sto))] s.heap := hP
  have hl := lv_entry ([.ref h0, .int x0, .int x1]) (n := 3) (Nat.le_of_ble_eq_true rfl)
  rw [lg_entry_eq]
  generalize (lg_sl ([.ref h0, .int x0, .int x1]) ++ List.replicate (3 - (lg_sl ([.ref h0, .int x0, .int x1])).length) Slot.unset).toArray = ls at hl ⊢
  have hl : lv_has ls 3 [(0, .ref h0), (1, .int x0), (2, .int x1)] := hl
  refine lv_iload_n hx hb dX1_disk_0 rfl (lv_at hl 1 rfl) ?_
  refine lv_if_lt (tgt := 31) hx hb dX1_disk_1 (by decide) (fun c_1 => ?_) (fun c_1 => ?_)
  · skip
    refine lv_iconst (v := 0) hx hb dX1_disk_31 (by decide) ?_
    exact retP hx hb hr hlocks rfl (by unfold f1_disk; rw [if_pos c_1]) rfl dX1_disk_32
  · skip
    refine lv_iload_n hx hb dX1_disk_4 rfl (lv_at hl 1 rfl) ?_
    refine lv_bipush (v := 24) hx hb dX1_disk_5 (by decide) ?_
    refine lv_icmp_gt (tgt := 31) hx hb dX1_disk_7 (by decide) (fun c_7 => ?_) (fun c_7 => ?_)
    · skip
      refine lv_iconst (v := 0) hx hb dX1_disk_31 (by decide) ?_
      exact retP hx hb hr hlocks rfl (by unfold f1_disk; rw [if_neg c_1, if_pos c_7]) rfl dX1_disk_32
    · skip
      refine lv_iload_n hx hb dX1_disk_10 rfl (lv_at hl 2 rfl) ?_
      refine callSi (As := [.int x1]) (rest := []) (m1_eight l x1) ⟨hx, hb, hml, hown, hts⟩ (va_cwS 1 hts gX1_disk_X1_eight rfl rfl rfl (by decide +kernel) ⟨Nat.le_of_ble_eq_true rfl, Nat.le_of_ble_eq_true rfl⟩) rfl hl.1 rfl (Nat.le_of_ble_eq_true rfl) dX1_disk_11 ⟨Nat.zero_le _, Nat.zero_le _⟩ ?_
      refine lv_if_eq (tgt := 31) hx hb dX1_disk_14 (by decide) (fun c_14 => ?_) (fun c_14 => ?_)
      · skip
        refine lv_iconst (v := 0) hx hb dX1_disk_31 (by decide) ?_
        exact retP hx hb hr hlocks rfl (by unfold f1_disk; rw [if_neg c_1, if_neg c_7, if_pos c_14]) rfl dX1_disk_32
      · skip
        refine lv_aload_n hx hb dX1_disk_17 rfl (lv_at hl 0 rfl) ?_
        refine va_get (D := (dC, dI)) (ci := 1) (v := .ref h2) (C := RX1) (T := TX1) (N := 8) hx hb hts hin hown hK hP 0 rfl rfl 1 (by decide) (hts (.fieldLink RX1 13 "CapStoreModel" "disk" "[I") (by decide +kernel)) (fun _ h9 => h9) rfl dX1_disk_18 ?_
        refine lv_bipush (v := 8) hx hb dX1_disk_21 (by decide) ?_
        refine lv_iload_n hx hb dX1_disk_23 rfl (lv_at hl 1 rfl) ?_
        refine lv_imul hx hb dX1_disk_24 ?_
        refine lv_iload_n hx hb dX1_disk_25 rfl (lv_at hl 2 rfl) ?_
        refine lv_iadd hx hb dX1_disk_26 ?_
        refine va_iald hx hb hK hP 2 1 rfl rfl (sd1_disk c_1 c_7 c_14) dX1_disk_27 ?_
        refine lv_goto (tgt := 32) hx hb dX1_disk_28 (by decide) ?_
        exact retP hx hb hr hlocks rfl (by unfold f1_disk; rw [if_neg c_1, if_neg c_7, if_neg c_14]) rfl dX1_disk_32
set_option maxHeartbeats 4000000 in
set_option maxRecDepth 100000 in
theorem m1_put (l : Launch) (dC : Nat → ClassId) (dI : Nat → Nat → Nat) (h0 h1 h2 h3 : Nat) (c1 c2 c3 : ClassId) (sz : Nat) (mem dsk sto : Nat → Int32) (dn en pw wr cm : Int32) (x0 : Int32) (x1 : Int32) (x2 : Int32) (hi : vp_in (8 * x0 + x1) 96) (hj : vp_in x0 12) : Met l yX1_put wsX1_put ({ frames := 0, cells := 0, slots := 0, locals := 0 }) (pcW (dC, dI) (k1 c1 c2 c3) (w1 h0 h1 h2 h3 c1 c2 c3 (mem, dsk, sto, dn, en, pw, wr, cm)) sz [.ref h0, .int x0, .int x1, .int x2]) (qcWv (dC, dI) (k1 c1 c2 c3) (w1 h0 h1 h2 h3 c1 c2 c3 (mem, dsk, sto, dn, en, pw, wr, cm)) (w1 h0 h1 h2 h3 c1 c2 c3 (F1_put mem dsk sto dn en pw wr cm x0 x1 x2)) sz) 0 0 (va_A (w1 h0 h1 h2 h3 c1 c2 c3 (mem, dsk, sto, dn, en, pw, wr, cm)) sz) := by
  refine Met.ofW (cc := cX1_put) (maxL := 4) (ret := none) (by decide) rfl ?_
  intro p e s m args below meth c s₁ B hml hv
  obtain ⟨rfl, hsz, hP, hK, hD0⟩ := hv
  have hx := B.exec
  have hb := B.bytes
  have hr := B.returns
  have hts := atoms_spec (ws := wsX1_put) B.pre
  have hown : s.vm.findClass RX1 = some m.cls := findClass_of_methodNamed B.named
  have hlocks := B.notSynchronized
  have hin : ∀ w ∈ wsX10, w ∈ wsX1_put := fun _ h => List.mem_cons_of_mem _ (List.mem_append_right _ h)
  have hP : va_P (dC, dI) vwCl [(h0, .inr (1, [.ref h1, .ref h2, .ref h3, .int dn, .int en, .int pw, .int wr, .int cm])), (h1, .inl (c1, 96, .inl mem)), (h2, .inl (c2, 200, .inl dsk)), (h3, .inl (c3, 12, .inl sto))] s.heap := hP
  subst hsz
  have hD := hD0.self (sz := s.heap.size)
  have hA : ∀ q : Nat, s.heap.size ≤ q → (va_A (w1 h0 h1 h2 h3 c1 c2 c3 (mem, dsk, sto, dn, en, pw, wr, cm)) s.heap.size) q := fun q h => Or.inr h
  have hS : va_S (va_A (w1 h0 h1 h2 h3 c1 c2 c3 (mem, dsk, sto, dn, en, pw, wr, cm)) s.heap.size) s.heap s.heap [] := va_S.rf
  have hl := lv_entry ([.ref h0, .int x0, .int x1, .int x2]) (n := 4) (Nat.le_of_ble_eq_true rfl)
  rw [lg_entry_eq]
  generalize (lg_sl ([.ref h0, .int x0, .int x1, .int x2]) ++ List.replicate (4 - (lg_sl ([.ref h0, .int x0, .int x1, .int x2])).length) Slot.unset).toArray = ls at hl ⊢
  have hl : lv_has ls 4 [(0, .ref h0), (1, .int x0), (2, .int x1), (3, .int x2)] := hl
  refine lv_aload_n hx hb dX1_put_0 rfl (lv_at hl 0 rfl) ?_
  refine va_get (D := (dC, dI)) (ci := 1) (v := .ref h1) (C := RX1) (T := TX1) (N := 8) hx hb hts hin hown hK hP 0 rfl rfl 0 (by decide) (hts (.fieldLink RX1 7 "CapStoreModel" "memory" "[I") (by decide +kernel)) (fun _ h9 => h9) rfl dX1_put_1 ?_
  refine lv_bipush (v := 8) hx hb dX1_put_4 (by decide) ?_
  refine lv_iload_n hx hb dX1_put_6 rfl (lv_at hl 1 rfl) ?_
  refine lv_imul hx hb dX1_put_7 ?_
  refine lv_iload_n hx hb dX1_put_8 rfl (lv_at hl 2 rfl) ?_
  refine lv_iadd hx hb dX1_put_9 ?_
  refine lv_iload_n hx hb dX1_put_10 rfl (lv_at hl 3 rfl) ?_
  refine va_iast hx hb hK hP hD hS 1 0 rfl rfl hi dX1_put_11 (fun H locs hP hD hS => ?_)
  have hP : va_P (dC, dI) vwCl [(h0, .inr (1, [.ref h1, .ref h2, .ref h3, .int dn, .int en, .int pw, .int wr, .int cm])), (h1, .inl (c1, 96, .inl (upd mem ((8 * x0) + x1).toNatClampNeg x2))), (h2, .inl (c2, 200, .inl dsk)), (h3, .inl (c3, 12, .inl sto))] _ := hP
  have hD : va_D _ [(h0, .inr (1, [.ref h1, .ref h2, .ref h3, .int dn, .int en, .int pw, .int wr, .int cm])), (h1, .inl (c1, 96, .inl (upd mem ((8 * x0) + x1).toNatClampNeg x2))), (h2, .inl (c2, 200, .inl dsk)), (h3, .inl (c3, 12, .inl sto))] := hD
  refine lv_aload_n hx hb dX1_put_12 rfl (lv_at hl 0 rfl) ?_
  refine va_get (D := (dC, dI)) (ci := 1) (v := .ref h3) (C := RX1) (T := TX1) (N := 8) hx hb hts hin hown hK hP 0 rfl rfl 2 (by decide) (hts (.fieldLink RX1 16 "CapStoreModel" "stored" "[Z") (by decide +kernel)) (fun _ h9 => h9) rfl dX1_put_13 ?_
  refine lv_iload_n hx hb dX1_put_16 rfl (lv_at hl 1 rfl) ?_
  refine lv_iconst (v := 1) hx hb dX1_put_17 (by decide) ?_
  refine va_zast hx hb hK hP hD hS 3 2 rfl rfl hj dX1_put_18 (fun H locs hP hD hS => ?_)
  have hP : va_P (dC, dI) vwCl [(h0, .inr (1, [.ref h1, .ref h2, .ref h3, .int dn, .int en, .int pw, .int wr, .int cm])), (h1, .inl (c1, 96, .inl (upd mem ((8 * x0) + x1).toNatClampNeg x2))), (h2, .inl (c2, 200, .inl dsk)), (h3, .inl (c3, 12, .inl (upd sto x0.toNatClampNeg (vp_nar .boolean 1))))] _ := hP
  have hD : va_D _ [(h0, .inr (1, [.ref h1, .ref h2, .ref h3, .int dn, .int en, .int pw, .int wr, .int cm])), (h1, .inl (c1, 96, .inl (upd mem ((8 * x0) + x1).toNatClampNeg x2))), (h2, .inl (c2, 200, .inl dsk)), (h3, .inl (c3, 12, .inl (upd sto x0.toNatClampNeg (vp_nar .boolean 1))))] := hD
  have e9 : F1_put mem dsk sto dn en pw wr cm x0 x1 x2 = ((upd mem ((8 * x0) + x1).toNatClampNeg x2), dsk, (upd sto x0.toNatClampNeg (vp_nar .boolean 1)), dn, en, pw, wr, cm) := rfl
  rw [e9]
  exact retWv hx hb hr hlocks rfl hK hP hD hS dX1_put_19
set_option maxHeartbeats 4000000 in
set_option maxRecDepth 100000 in
theorem m1_place (l : Launch) (dC : Nat → ClassId) (dI : Nat → Nat → Nat) (h0 h1 h2 h3 : Nat) (c1 c2 c3 : ClassId) (sz : Nat) (mem dsk sto : Nat → Int32) (dn en pw wr cm : Int32) (x0 : Int32) (x1 : Int32) (x2 : Int32) : Met l yX1_place wsX1_place ({ frames := 1, cells := 0, slots := 0, locals := 23 }) (pcW (dC, dI) (k1 c1 c2 c3) (w1 h0 h1 h2 h3 c1 c2 c3 (mem, dsk, sto, dn, en, pw, wr, cm)) sz [.ref h0, .int x0, .int x1, .int x2]) (qcWi (dC, dI) (k1 c1 c2 c3) (w1 h0 h1 h2 h3 c1 c2 c3 (mem, dsk, sto, dn, en, pw, wr, cm)) (w1 h0 h1 h2 h3 c1 c2 c3 (F1_place mem dsk sto dn en pw wr cm x0 x1 x2).2) sz (F1_place mem dsk sto dn en pw wr cm x0 x1 x2).1) 0 0 (va_A (w1 h0 h1 h2 h3 c1 c2 c3 (mem, dsk, sto, dn, en, pw, wr, cm)) sz) := by
  refine Met.ofW (cc := cX1_place) (maxL := 4) (ret := (some .int)) (by decide) rfl ?_
  intro p e s m args below meth c s₁ B hml hv
  obtain ⟨rfl, hsz, hP, hK, hD0⟩ := hv
  have hx := B.exec
  have hb := B.bytes
  have hr := B.returns
  have hts := atoms_spec (ws := wsX1_place) B.pre
  have hown : s.vm.findClass RX1 = some m.cls := findClass_of_methodNamed B.named
  have hlocks := B.notSynchronized
  have hin : ∀ w ∈ wsX10, w ∈ wsX1_place := fun _ h => List.mem_cons_of_mem _ (List.mem_append_right _ h)
  have hP : va_P (dC, dI) vwCl [(h0, .inr (1, [.ref h1, .ref h2, .ref h3, .int dn, .int en, .int pw, .int wr, .int cm])), (h1, .inl (c1, 96, .inl mem)), (h2, .inl (c2, 200, .inl dsk)), (h3, .inl (c3, 12, .inl sto))] s.heap := hP
  subst hsz
  have hD := hD0.self (sz := s.heap.size)
  have hA : ∀ q : Nat, s.heap.size ≤ q → (va_A (w1 h0 h1 h2 h3 c1 c2 c3 (mem, dsk, sto, dn, en, pw, wr, cm)) s.heap.size) q := fun q h => Or.inr h
  have hS : va_S (va_A (w1 h0 h1 h2 h3 c1 c2 c3 (mem, dsk, sto, dn, en, pw, wr, cm)) s.heap.size) s.heap s.heap [] := va_S.rf
  have hl := lv_entry ([.ref h0, .int x0, .int x1, .int x2]) (n := 4) (Nat.le_of_ble_eq_true rfl)
  rw [lg_entry_eq]
  generalize (lg_sl ([.ref h0, .int x0, .int x1, .int x2]) ++ List.replicate (4 - (lg_sl ([.ref h0, .int x0, .int x1, .int x2])).length) Slot.unset).toArray = ls at hl ⊢
  have hl : lv_has ls 4 [(0, .ref h0), (1, .int x0), (2, .int x1), (3, .int x2)] := hl
  refine lv_aload_n hx hb dX1_place_0 rfl (lv_at hl 0 rfl) ?_
  refine va_get (D := (dC, dI)) (ci := 1) (v := .int dn) (C := RX1) (T := TX1) (N := 8) hx hb hts hin hown hK hP 0 rfl rfl 3 (by decide) (hts (.fieldLink RX1 28 "CapStoreModel" "down" "Z") (by decide +kernel)) (fun _ h9 => h9) rfl dX1_place_1 ?_
  refine lv_if_eq (tgt := 9) hx hb dX1_place_4 (by decide) (fun c_4 => ?_) (fun c_4 => ?_)
  · skip
    refine lv_iload_n hx hb dX1_place_9 rfl (lv_at hl 1 rfl) ?_
    refine callSi (As := [.int x0]) (rest := []) (m1_eight l x0) ⟨hx, hb, hml, hown, hts⟩ (va_cwS 1 hts gX1_place_X1_eight rfl rfl rfl (by decide +kernel) ⟨Nat.le_of_ble_eq_true rfl, Nat.le_of_ble_eq_true rfl⟩) rfl hl.1 rfl (Nat.le_of_ble_eq_true rfl) dX1_place_10 ⟨Nat.zero_le _, Nat.zero_le _⟩ ?_
    refine lv_if_eq (tgt := 33) hx hb dX1_place_13 (by decide) (fun c_13 => ?_) (fun c_13 => ?_)
    · skip
      refine lv_bipush (v := (-2)) hx hb dX1_place_33 (by decide) ?_
      have e9 : F1_place mem dsk sto dn en pw wr cm x0 x1 x2 = ((-2), mem, dsk, sto, dn, en, pw, wr, cm) := by unfold F1_place; rw [if_pos c_4, if_pos c_13]
      rw [e9]
      exact retWi hx hb hr hlocks rfl rfl rfl hK hP hD hS dX1_place_35
    · skip
      refine lv_iload_n hx hb dX1_place_16 rfl (lv_at hl 2 rfl) ?_
      refine callSi (As := [.int x1]) (rest := []) (m1_eight l x1) ⟨hx, hb, hml, hown, hts⟩ (va_cwS 1 hts gX1_place_X1_eight rfl rfl rfl (by decide +kernel) ⟨Nat.le_of_ble_eq_true rfl, Nat.le_of_ble_eq_true rfl⟩) rfl hl.1 rfl (Nat.le_of_ble_eq_true rfl) dX1_place_17 ⟨Nat.zero_le _, Nat.zero_le _⟩ ?_
      refine lv_if_eq (tgt := 33) hx hb dX1_place_20 (by decide) (fun c_20 => ?_) (fun c_20 => ?_)
      · skip
        refine lv_bipush (v := (-2)) hx hb dX1_place_33 (by decide) ?_
        have e9 : F1_place mem dsk sto dn en pw wr cm x0 x1 x2 = ((-2), mem, dsk, sto, dn, en, pw, wr, cm) := by unfold F1_place; rw [if_pos c_4, if_neg c_13, if_pos c_20]
        rw [e9]
        exact retWi hx hb hr hlocks rfl rfl rfl hK hP hD hS dX1_place_35
      · skip
        refine lv_iload_n hx hb dX1_place_23 rfl (lv_at hl 3 rfl) ?_
        refine lv_if_lt (tgt := 33) hx hb dX1_place_24 (by decide) (fun c_24 => ?_) (fun c_24 => ?_)
        · skip
          refine lv_bipush (v := (-2)) hx hb dX1_place_33 (by decide) ?_
          have e9 : F1_place mem dsk sto dn en pw wr cm x0 x1 x2 = ((-2), mem, dsk, sto, dn, en, pw, wr, cm) := by unfold F1_place; rw [if_pos c_4, if_neg c_13, if_neg c_20, if_pos c_24]
          rw [e9]
          exact retWi hx hb hr hlocks rfl rfl rfl hK hP hD hS dX1_place_35
        · skip
          refine lv_iload_n hx hb dX1_place_27 rfl (lv_at hl 3 rfl) ?_
          refine lv_bipush (v := 48) hx hb dX1_place_28 (by decide) ?_
          refine lv_icmp_le (tgt := 36) hx hb dX1_place_30 (by decide) (fun c_30 => ?_) (fun c_30 => ?_)
          · skip
            refine lv_aload_n hx hb dX1_place_36 rfl (lv_at hl 0 rfl) ?_
            refine lv_iload_n hx hb dX1_place_37 rfl (lv_at hl 1 rfl) ?_
            refine lv_iload_n hx hb dX1_place_38 rfl (lv_at hl 2 rfl) ?_
            refine lv_iload_n hx hb dX1_place_39 rfl (lv_at hl 3 rfl) ?_
            refine callWv (q := (RX1, TX1, 8)) (ci := 1) (q0 := 0) (As := [.int x0, .int x1, .int x2]) (rest := []) (wr := []) (m1_put l dC dI h0 h1 h2 h3 c1 c2 c3 _ mem dsk sto dn en pw wr cm x0 x1 x2 (sd1_key c_13 c_20) (sd1_k12 c_13)) ⟨hx, hb, hml, hown, hts⟩ (cwV 3 hts gX1_place_X1_put rfl rfl rfl (by decide +kernel) ⟨Nat.le_of_ble_eq_true rfl, Nat.le_of_ble_eq_true rfl⟩) hK hP hD hS hA rfl rfl [0, 1, 2, 3] [] rfl rfl rfl (by decide) (by decide) (by decide) rfl hl.1 rfl (Nat.le_of_ble_eq_true rfl) dX1_place_40 ⟨Nat.zero_le _, Nat.zero_le _⟩ (fun H locs hP hD hS => ?_)
            have hP : va_P (dC, dI) vwCl [(h0, .inr (1, [.ref h1, .ref h2, .ref h3, .int dn, .int en, .int pw, .int wr, .int cm])), (h1, .inl (c1, 96, .inl (upd mem ((8 * x0) + x1).toNatClampNeg x2))), (h2, .inl (c2, 200, .inl dsk)), (h3, .inl (c3, 12, .inl (upd sto x0.toNatClampNeg (vp_nar .boolean 1))))] _ := hP
            have hD : va_D _ [(h0, .inr (1, [.ref h1, .ref h2, .ref h3, .int dn, .int en, .int pw, .int wr, .int cm])), (h1, .inl (c1, 96, .inl (upd mem ((8 * x0) + x1).toNatClampNeg x2))), (h2, .inl (c2, 200, .inl dsk)), (h3, .inl (c3, 12, .inl (upd sto x0.toNatClampNeg (vp_nar .boolean 1))))] := hD
            refine lv_iconst (v := 0) hx hb dX1_place_43 (by decide) ?_
            have e9 : F1_place mem dsk sto dn en pw wr cm x0 x1 x2 = (0, (upd mem ((8 * x0) + x1).toNatClampNeg x2), dsk, (upd sto x0.toNatClampNeg (vp_nar .boolean 1)), dn, en, pw, wr, cm) := by unfold F1_place; rw [if_pos c_4, if_neg c_13, if_neg c_20, if_neg c_24, if_pos c_30]
            rw [e9]
            exact retWi hx hb hr hlocks rfl rfl rfl hK hP hD hS dX1_place_44
          · skip
            refine lv_bipush (v := (-2)) hx hb dX1_place_33 (by decide) ?_
            have e9 : F1_place mem dsk sto dn en pw wr cm x0 x1 x2 = ((-2), mem, dsk, sto, dn, en, pw, wr, cm) := by unfold F1_place; rw [if_pos c_4, if_neg c_13, if_neg c_20, if_neg c_24, if_neg c_30]
            rw [e9]
            exact retWi hx hb hr hlocks rfl rfl rfl hK hP hD hS dX1_place_35
  · skip
    refine lv_iconst (v := (-1)) hx hb dX1_place_7 (by decide) ?_
    have e9 : F1_place mem dsk sto dn en pw wr cm x0 x1 x2 = ((-1), mem, dsk, sto, dn, en, pw, wr, cm) := by unfold F1_place; rw [if_neg c_4]
    rw [e9]
    exact retWi hx hb hr hlocks rfl rfl rfl hK hP hD hS dX1_place_8
set_option maxHeartbeats 4000000 in
set_option maxRecDepth 100000 in
theorem m1_fetch (l : Launch) (dC : Nat → ClassId) (dI : Nat → Nat → Nat) (h0 h1 h2 h3 : Nat) (c1 c2 c3 : ClassId) (sz : Nat) (mem dsk sto : Nat → Int32) (dn en pw wr cm : Int32) (x0 : Int32) (x1 : Int32) (x2 : Int32) (x3 : Int32) (hk : KI mem) : Met l yX1_fetch wsX1_fetch ({ frames := 2, cells := 0, slots := 0, locals := 47 }) (pcW (dC, dI) (k1 c1 c2 c3) (w1 h0 h1 h2 h3 c1 c2 c3 (mem, dsk, sto, dn, en, pw, wr, cm)) sz [.ref h0, .int x0, .int x1, .int x2, .int x3]) (qcWi (dC, dI) (k1 c1 c2 c3) (w1 h0 h1 h2 h3 c1 c2 c3 (mem, dsk, sto, dn, en, pw, wr, cm)) (w1 h0 h1 h2 h3 c1 c2 c3 (F1_fetch mem dsk sto dn en pw wr cm x0 x1 x2 x3).2) sz (F1_fetch mem dsk sto dn en pw wr cm x0 x1 x2 x3).1) 0 0 (va_A (w1 h0 h1 h2 h3 c1 c2 c3 (mem, dsk, sto, dn, en, pw, wr, cm)) sz) := by
  refine Met.ofW (cc := cX1_fetch) (maxL := 8) (ret := (some .int)) (by decide) rfl ?_
  intro p e s m args below meth c s₁ B hml hv
  obtain ⟨rfl, hsz, hP, hK, hD0⟩ := hv
  have hx := B.exec
  have hb := B.bytes
  have hr := B.returns
  have hts := atoms_spec (ws := wsX1_fetch) B.pre
  have hown : s.vm.findClass RX1 = some m.cls := findClass_of_methodNamed B.named
  have hlocks := B.notSynchronized
  have hin : ∀ w ∈ wsX10, w ∈ wsX1_fetch := fun _ h => List.mem_cons_of_mem _ (List.mem_append_right _ h)
  have hP : va_P (dC, dI) vwCl [(h0, .inr (1, [.ref h1, .ref h2, .ref h3, .int dn, .int en, .int pw, .int wr, .int cm])), (h1, .inl (c1, 96, .inl mem)), (h2, .inl (c2, 200, .inl dsk)), (h3, .inl (c3, 12, .inl sto))] s.heap := hP
  subst hsz
  have hD := hD0.self (sz := s.heap.size)
  have hA : ∀ q : Nat, s.heap.size ≤ q → (va_A (w1 h0 h1 h2 h3 c1 c2 c3 (mem, dsk, sto, dn, en, pw, wr, cm)) s.heap.size) q := fun q h => Or.inr h
  have hS : va_S (va_A (w1 h0 h1 h2 h3 c1 c2 c3 (mem, dsk, sto, dn, en, pw, wr, cm)) s.heap.size) s.heap s.heap [] := va_S.rf
  have hl := lv_entry ([.ref h0, .int x0, .int x1, .int x2, .int x3]) (n := 8) (Nat.le_of_ble_eq_true rfl)
  rw [lg_entry_eq]
  generalize (lg_sl ([.ref h0, .int x0, .int x1, .int x2, .int x3]) ++ List.replicate (8 - (lg_sl ([.ref h0, .int x0, .int x1, .int x2, .int x3])).length) Slot.unset).toArray = ls at hl ⊢
  have hl : lv_has ls 8 [(0, .ref h0), (1, .int x0), (2, .int x1), (3, .int x2), (4, .int x3)] := hl
  refine lv_aload_n hx hb dX1_fetch_0 rfl (lv_at hl 0 rfl) ?_
  refine lv_iload_n hx hb dX1_fetch_1 rfl (lv_at hl 1 rfl) ?_
  refine lv_iload_n hx hb dX1_fetch_2 rfl (lv_at hl 2 rfl) ?_
  refine lv_iload_n hx hb dX1_fetch_3 rfl (lv_at hl 3 rfl) ?_
  refine lv_iconst (v := 0) hx hb dX1_fetch_4 (by decide) ?_
  refine lv_iconst (v := 0) hx hb dX1_fetch_5 (by decide) ?_
  refine callRi (q := (RX1, TX1, 8)) (ci := 1) (q0 := 0) (As := [.int x0, .int x1, .int x2, .int 0, .int 0]) (rest := []) (m1_refusal l dC dI h0 h1 h2 h3 c1 c2 c3 mem dsk sto dn en pw wr cm x0 x1 x2 0 0 ) ⟨hx, hb, hml, hown, hts⟩ (cwV 5 hts gX1_fetch_X1_refusal rfl rfl rfl (by decide +kernel) ⟨Nat.le_of_ble_eq_true rfl, Nat.le_of_ble_eq_true rfl⟩) hK hP rfl rfl rfl hl.1 rfl (Nat.le_of_ble_eq_true rfl) dX1_fetch_6 ⟨Nat.zero_le _, Nat.zero_le _⟩ ?_
  refine lv_istore (lv' := [(5, .int (f1_refusal mem dsk sto dn en pw wr cm x0 x1 x2 0 0)), (0, .ref h0), (1, .int x0), (2, .int x1), (3, .int x2), (4, .int x3)]) hx hb dX1_fetch_9 hl (by decide) rfl (fun ls hl => ?_)
  refine lv_iload hx hb dX1_fetch_11 (lv_at hl 0 rfl) ?_
  refine lv_iconst (v := (-1)) hx hb dX1_fetch_13 (by decide) ?_
  refine lv_icmp_eq (tgt := 29) hx hb dX1_fetch_14 (by decide) (fun c_14 => ?_) (fun c_14 => ?_)
  · skip
    refine lv_iload hx hb dX1_fetch_29 (lv_at hl 0 rfl) ?_
    refine lv_if_eq (tgt := 37) hx hb dX1_fetch_31 (by decide) (fun c_31 => ?_) (fun c_31 => ?_)
    · skip
      exact absurd c_31 (by rw [c_14]; decide)
    · skip
      refine lv_iload hx hb dX1_fetch_34 (lv_at hl 0 rfl) ?_
      have e9 : F1_fetch mem dsk sto dn en pw wr cm x0 x1 x2 x3 = ((f1_refusal mem dsk sto dn en pw wr cm x0 x1 x2 0 0), mem, dsk, sto, dn, en, pw, wr, cm) := by unfold F1_fetch; rw [if_pos c_14]
      rw [e9]
      exact retWi hx hb hr hlocks rfl rfl rfl hK hP hD hS dX1_fetch_36
  · skip
    refine lv_iload hx hb dX1_fetch_17 (lv_at hl 5 rfl) ?_
    refine callSi (As := [.int x3]) (rest := []) (m1_eight l x3) ⟨hx, hb, hml, hown, hts⟩ (va_cwS 1 hts gX1_fetch_X1_eight rfl rfl rfl (by decide +kernel) ⟨Nat.le_of_ble_eq_true rfl, Nat.le_of_ble_eq_true rfl⟩) rfl hl.1 rfl (Nat.le_of_ble_eq_true rfl) dX1_fetch_19 ⟨Nat.zero_le _, Nat.zero_le _⟩ ?_
    refine lv_if_ne (tgt := 29) hx hb dX1_fetch_22 (by decide) (fun c_22 => ?_) (fun c_22 => ?_)
    · skip
      refine lv_iload hx hb dX1_fetch_29 (lv_at hl 0 rfl) ?_
      refine lv_if_eq (tgt := 37) hx hb dX1_fetch_31 (by decide) (fun c_31 => ?_) (fun c_31 => ?_)
      · skip
        refine lv_aload_n hx hb dX1_fetch_37 rfl (lv_at hl 1 rfl) ?_
        refine va_get (D := (dC, dI)) (ci := 1) (v := .ref h1) (C := RX1) (T := TX1) (N := 8) hx hb hts hin hown hK hP 0 rfl rfl 0 (by decide) (hts (.fieldLink RX1 7 "CapStoreModel" "memory" "[I") (by decide +kernel)) (fun _ h9 => h9) rfl dX1_fetch_38 ?_
        refine lv_bipush (v := 8) hx hb dX1_fetch_41 (by decide) ?_
        refine lv_iload_n hx hb dX1_fetch_43 rfl (lv_at hl 2 rfl) ?_
        refine lv_imul hx hb dX1_fetch_44 ?_
        refine lv_iload_n hx hb dX1_fetch_45 rfl (lv_at hl 3 rfl) ?_
        refine lv_iadd hx hb dX1_fetch_46 ?_
        refine va_iald hx hb hK hP 1 0 rfl rfl (sd1_r1 c_31) dX1_fetch_47 ?_
        refine lv_istore (lv' := [(6, .int (mem ((8 * x0) + x1).toNatClampNeg)), (5, .int (f1_refusal mem dsk sto dn en pw wr cm x0 x1 x2 0 0)), (0, .ref h0), (1, .int x0), (2, .int x1), (3, .int x2), (4, .int x3)]) hx hb dX1_fetch_48 hl (by decide) rfl (fun ls hl => ?_)
        refine lv_aload_n hx hb dX1_fetch_50 rfl (lv_at hl 2 rfl) ?_
        refine va_get (D := (dC, dI)) (ci := 1) (v := .ref h1) (C := RX1) (T := TX1) (N := 8) hx hb hts hin hown hK hP 0 rfl rfl 0 (by decide) (hts (.fieldLink RX1 7 "CapStoreModel" "memory" "[I") (by decide +kernel)) (fun _ h9 => h9) rfl dX1_fetch_51 ?_
        refine lv_bipush (v := 8) hx hb dX1_fetch_54 (by decide) ?_
        refine lv_iload hx hb dX1_fetch_56 (lv_at hl 0 rfl) ?_
        refine callSi (As := [.int (mem ((8 * x0) + x1).toNatClampNeg)]) (rest := [.int 8, .ref h1]) (m1_object l (mem ((8 * x0) + x1).toNatClampNeg)) ⟨hx, hb, hml, hown, hts⟩ (va_cwS 1 hts gX1_fetch_X1_object rfl rfl rfl (by decide +kernel) ⟨Nat.le_of_ble_eq_true rfl, Nat.le_of_ble_eq_true rfl⟩) rfl hl.1 rfl (Nat.le_of_ble_eq_true rfl) dX1_fetch_58 ⟨Nat.zero_le _, Nat.zero_le _⟩ ?_
        refine lv_imul hx hb dX1_fetch_61 ?_
        refine lv_iload_n hx hb dX1_fetch_62 rfl (lv_at hl 5 rfl) ?_
        refine lv_iadd hx hb dX1_fetch_63 ?_
        refine va_iald hx hb hK hP 1 0 rfl rfl (sd1_n hk c_31) dX1_fetch_64 ?_
        refine lv_istore (lv' := [(7, .int (mem ((8 * (f1_object (mem ((8 * x0) + x1).toNatClampNeg))) + x2).toNatClampNeg)), (6, .int (mem ((8 * x0) + x1).toNatClampNeg)), (5, .int (f1_refusal mem dsk sto dn en pw wr cm x0 x1 x2 0 0)), (0, .ref h0), (1, .int x0), (2, .int x1), (3, .int x2), (4, .int x3)]) hx hb dX1_fetch_65 hl (by decide) rfl (fun ls hl => ?_)
        refine w_cut 91 [.int x3, .int x0, .ref h0] (z1_fetch_91 mem x0 x1 x2) (fun z ez => ?_) (fun K => ?_)
        · subst ez
          refine callWv (q := (RX1, TX1, 8)) (ci := 1) (q0 := 0) (As := [.int x0, .int x3, .int (z1_fetch_91 mem x0 x1 x2)]) (rest := []) (wr := []) (m1_put l dC dI h0 h1 h2 h3 c1 c2 c3 _ mem dsk sto dn en pw wr cm x0 x3 (z1_fetch_91 mem x0 x1 x2) (sd1_f3 c_31 c_22) (sd1_f4 c_31)) ⟨hx, hb, hml, hown, hts⟩ (cwV 3 hts gX1_fetch_X1_put rfl rfl rfl (by decide +kernel) ⟨Nat.le_of_ble_eq_true rfl, Nat.le_of_ble_eq_true rfl⟩) hK hP hD hS hA rfl rfl [0, 1, 2, 3] [] rfl rfl rfl (by decide) (by decide) (by decide) rfl hl.1 rfl (Nat.le_of_ble_eq_true rfl) dX1_fetch_91 ⟨Nat.zero_le _, Nat.zero_le _⟩ (fun H locs hP hD hS => ?_)
          have hP : va_P (dC, dI) vwCl [(h0, .inr (1, [.ref h1, .ref h2, .ref h3, .int dn, .int en, .int pw, .int wr, .int cm])), (h1, .inl (c1, 96, .inl (upd mem ((8 * x0) + x3).toNatClampNeg (z1_fetch_91 mem x0 x1 x2)))), (h2, .inl (c2, 200, .inl dsk)), (h3, .inl (c3, 12, .inl (upd sto x0.toNatClampNeg (vp_nar .boolean 1))))] _ := hP
          have hD : va_D _ [(h0, .inr (1, [.ref h1, .ref h2, .ref h3, .int dn, .int en, .int pw, .int wr, .int cm])), (h1, .inl (c1, 96, .inl (upd mem ((8 * x0) + x3).toNatClampNeg (z1_fetch_91 mem x0 x1 x2)))), (h2, .inl (c2, 200, .inl dsk)), (h3, .inl (c3, 12, .inl (upd sto x0.toNatClampNeg (vp_nar .boolean 1))))] := hD
          refine lv_iconst (v := 0) hx hb dX1_fetch_94 (by decide) ?_
          have e9 : F1_fetch mem dsk sto dn en pw wr cm x0 x1 x2 x3 = (0, (upd mem ((8 * x0) + x3).toNatClampNeg (z1_fetch_91 mem x0 x1 x2)), dsk, (upd sto x0.toNatClampNeg (vp_nar .boolean 1)), dn, en, pw, wr, cm) := by unfold F1_fetch; rw [if_neg c_14, if_neg c_22, if_pos c_31]
          rw [e9]
          exact retWi hx hb hr hlocks rfl rfl rfl hK hP hD hS dX1_fetch_95
        · skip
          refine lv_aload_n hx hb dX1_fetch_67 rfl (lv_at hl 3 rfl) ?_
          refine lv_iload_n hx hb dX1_fetch_68 rfl (lv_at hl 4 rfl) ?_
          refine lv_iload hx hb dX1_fetch_69 (lv_at hl 7 rfl) ?_
          refine lv_iload hx hb dX1_fetch_71 (lv_at hl 1 rfl) ?_
          refine callSi (As := [.int (mem ((8 * x0) + x1).toNatClampNeg)]) (rest := [.int x3, .int x0, .ref h0]) (m1_limits l (mem ((8 * x0) + x1).toNatClampNeg)) ⟨hx, hb, hml, hown, hts⟩ (va_cwS 1 hts gX1_fetch_X1_limits rfl rfl rfl (by decide +kernel) ⟨Nat.le_of_ble_eq_true rfl, Nat.le_of_ble_eq_true rfl⟩) rfl hl.1 rfl (Nat.le_of_ble_eq_true rfl) dX1_fetch_73 ⟨Nat.zero_le _, Nat.zero_le _⟩ ?_
          refine lv_iconst (v := 2) hx hb dX1_fetch_76 (by decide) ?_
          refine lv_icmp_lt (tgt := 89) hx hb dX1_fetch_77 (by decide) (fun c_77 => ?_) (fun c_77 => ?_)
          · skip
            refine lv_iload hx hb dX1_fetch_89 (lv_at hl 0 rfl) ?_
            exact K (mem ((8 * (f1_object (mem ((8 * x0) + x1).toNatClampNeg))) + x2).toNatClampNeg) (by unfold z1_fetch_91; rw [if_pos c_77])
          · skip
            refine lv_iload hx hb dX1_fetch_80 (lv_at hl 0 rfl) ?_
            refine lv_iconst (v := 3) hx hb dX1_fetch_82 (by decide) ?_
            refine callSi (As := [.int (mem ((8 * (f1_object (mem ((8 * x0) + x1).toNatClampNeg))) + x2).toNatClampNeg), .int 3]) (rest := [.int x3, .int x0, .ref h0]) (m1_limited l (mem ((8 * (f1_object (mem ((8 * x0) + x1).toNatClampNeg))) + x2).toNatClampNeg) 3) ⟨hx, hb, hml, hown, hts⟩ (va_cwS 2 hts gX1_fetch_X1_limited rfl rfl rfl (by decide +kernel) ⟨Nat.le_of_ble_eq_true rfl, Nat.le_of_ble_eq_true rfl⟩) rfl hl.1 rfl (Nat.le_of_ble_eq_true rfl) dX1_fetch_83 ⟨Nat.zero_le _, Nat.zero_le _⟩ ?_
            refine lv_goto (tgt := 91) hx hb dX1_fetch_86 (by decide) ?_
            exact K (f1_limited (mem ((8 * (f1_object (mem ((8 * x0) + x1).toNatClampNeg))) + x2).toNatClampNeg) 3) (by unfold z1_fetch_91; rw [if_neg c_77])
      · skip
        refine lv_iload hx hb dX1_fetch_34 (lv_at hl 0 rfl) ?_
        have e9 : F1_fetch mem dsk sto dn en pw wr cm x0 x1 x2 x3 = ((f1_refusal mem dsk sto dn en pw wr cm x0 x1 x2 0 0), mem, dsk, sto, dn, en, pw, wr, cm) := by unfold F1_fetch; rw [if_neg c_14, if_neg c_22, if_neg c_31]
        rw [e9]
        exact retWi hx hb hr hlocks rfl rfl rfl hK hP hD hS dX1_fetch_36
    · skip
      refine lv_bipush (v := (-2)) hx hb dX1_fetch_25 (by decide) ?_
      refine lv_istore (lv' := [(5, .int (-2)), (0, .ref h0), (1, .int x0), (2, .int x1), (3, .int x2), (4, .int x3)]) hx hb dX1_fetch_27 hl (by decide) rfl (fun ls hl => ?_)
      refine lv_iload hx hb dX1_fetch_29 (lv_at hl 0 rfl) ?_
      refine lv_if_eq (tgt := 37) hx hb dX1_fetch_31 (by decide) (fun c_31 => ?_) (fun c_31 => ?_)
      · skip
        exact absurd c_31 (by decide)
      · skip
        refine lv_iload hx hb dX1_fetch_34 (lv_at hl 0 rfl) ?_
        have e9 : F1_fetch mem dsk sto dn en pw wr cm x0 x1 x2 x3 = ((-2), mem, dsk, sto, dn, en, pw, wr, cm) := by unfold F1_fetch; rw [if_neg c_14, if_pos c_22]
        rw [e9]
        exact retWi hx hb hr hlocks rfl rfl rfl hK hP hD hS dX1_fetch_36
set_option maxHeartbeats 4000000 in
set_option maxRecDepth 100000 in
theorem m1_store (l : Launch) (dC : Nat → ClassId) (dI : Nat → Nat → Nat) (h0 h1 h2 h3 : Nat) (c1 c2 c3 : ClassId) (sz : Nat) (mem dsk sto : Nat → Int32) (dn en pw wr cm : Int32) (x0 : Int32) (x1 : Int32) (x2 : Int32) (x3 : Int32) (hk : KI mem) : Met l yX1_store wsX1_store ({ frames := 2, cells := 0, slots := 0, locals := 47 }) (pcW (dC, dI) (k1 c1 c2 c3) (w1 h0 h1 h2 h3 c1 c2 c3 (mem, dsk, sto, dn, en, pw, wr, cm)) sz [.ref h0, .int x0, .int x1, .int x2, .int x3]) (qcWi (dC, dI) (k1 c1 c2 c3) (w1 h0 h1 h2 h3 c1 c2 c3 (mem, dsk, sto, dn, en, pw, wr, cm)) (w1 h0 h1 h2 h3 c1 c2 c3 (F1_store mem dsk sto dn en pw wr cm x0 x1 x2 x3).2) sz (F1_store mem dsk sto dn en pw wr cm x0 x1 x2 x3).1) 0 0 (va_A (w1 h0 h1 h2 h3 c1 c2 c3 (mem, dsk, sto, dn, en, pw, wr, cm)) sz) := by
  refine Met.ofW (cc := cX1_store) (maxL := 6) (ret := (some .int)) (by decide) rfl ?_
  intro p e s m args below meth c s₁ B hml hv
  obtain ⟨rfl, hsz, hP, hK, hD0⟩ := hv
  have hx := B.exec
  have hb := B.bytes
  have hr := B.returns
  have hts := atoms_spec (ws := wsX1_store) B.pre
  have hown : s.vm.findClass RX1 = some m.cls := findClass_of_methodNamed B.named
  have hlocks := B.notSynchronized
  have hin : ∀ w ∈ wsX10, w ∈ wsX1_store := fun _ h => List.mem_cons_of_mem _ (List.mem_append_right _ h)
  have hP : va_P (dC, dI) vwCl [(h0, .inr (1, [.ref h1, .ref h2, .ref h3, .int dn, .int en, .int pw, .int wr, .int cm])), (h1, .inl (c1, 96, .inl mem)), (h2, .inl (c2, 200, .inl dsk)), (h3, .inl (c3, 12, .inl sto))] s.heap := hP
  subst hsz
  have hD := hD0.self (sz := s.heap.size)
  have hA : ∀ q : Nat, s.heap.size ≤ q → (va_A (w1 h0 h1 h2 h3 c1 c2 c3 (mem, dsk, sto, dn, en, pw, wr, cm)) s.heap.size) q := fun q h => Or.inr h
  have hS : va_S (va_A (w1 h0 h1 h2 h3 c1 c2 c3 (mem, dsk, sto, dn, en, pw, wr, cm)) s.heap.size) s.heap s.heap [] := va_S.rf
  have hl := lv_entry ([.ref h0, .int x0, .int x1, .int x2, .int x3]) (n := 6) (Nat.le_of_ble_eq_true rfl)
  rw [lg_entry_eq]
  generalize (lg_sl ([.ref h0, .int x0, .int x1, .int x2, .int x3]) ++ List.replicate (6 - (lg_sl ([.ref h0, .int x0, .int x1, .int x2, .int x3])).length) Slot.unset).toArray = ls at hl ⊢
  have hl : lv_has ls 6 [(0, .ref h0), (1, .int x0), (2, .int x1), (3, .int x2), (4, .int x3)] := hl
  refine lv_aload_n hx hb dX1_store_0 rfl (lv_at hl 0 rfl) ?_
  refine lv_iload_n hx hb dX1_store_1 rfl (lv_at hl 1 rfl) ?_
  refine lv_iload_n hx hb dX1_store_2 rfl (lv_at hl 2 rfl) ?_
  refine lv_iload_n hx hb dX1_store_3 rfl (lv_at hl 3 rfl) ?_
  refine lv_iconst (v := 0) hx hb dX1_store_4 (by decide) ?_
  refine lv_iconst (v := 1) hx hb dX1_store_5 (by decide) ?_
  refine callRi (q := (RX1, TX1, 8)) (ci := 1) (q0 := 0) (As := [.int x0, .int x1, .int x2, .int 0, .int 1]) (rest := []) (m1_refusal l dC dI h0 h1 h2 h3 c1 c2 c3 mem dsk sto dn en pw wr cm x0 x1 x2 0 1 ) ⟨hx, hb, hml, hown, hts⟩ (cwV 5 hts gX1_store_X1_refusal rfl rfl rfl (by decide +kernel) ⟨Nat.le_of_ble_eq_true rfl, Nat.le_of_ble_eq_true rfl⟩) hK hP rfl rfl rfl hl.1 rfl (Nat.le_of_ble_eq_true rfl) dX1_store_6 ⟨Nat.zero_le _, Nat.zero_le _⟩ ?_
  refine lv_istore (lv' := [(5, .int (f1_refusal mem dsk sto dn en pw wr cm x0 x1 x2 0 1)), (0, .ref h0), (1, .int x0), (2, .int x1), (3, .int x2), (4, .int x3)]) hx hb dX1_store_9 hl (by decide) rfl (fun ls hl => ?_)
  refine lv_iload hx hb dX1_store_11 (lv_at hl 0 rfl) ?_
  refine lv_iconst (v := (-1)) hx hb dX1_store_13 (by decide) ?_
  refine lv_icmp_eq (tgt := 29) hx hb dX1_store_14 (by decide) (fun c_14 => ?_) (fun c_14 => ?_)
  · skip
    refine lv_iload hx hb dX1_store_29 (lv_at hl 0 rfl) ?_
    refine lv_if_eq (tgt := 37) hx hb dX1_store_31 (by decide) (fun c_31 => ?_) (fun c_31 => ?_)
    · skip
      exact absurd c_31 (by rw [c_14]; decide)
    · skip
      refine lv_iload hx hb dX1_store_34 (lv_at hl 0 rfl) ?_
      have e9 : F1_store mem dsk sto dn en pw wr cm x0 x1 x2 x3 = ((f1_refusal mem dsk sto dn en pw wr cm x0 x1 x2 0 1), mem, dsk, sto, dn, en, pw, wr, cm) := by unfold F1_store; rw [if_pos c_14]
      rw [e9]
      exact retWi hx hb hr hlocks rfl rfl rfl hK hP hD hS dX1_store_36
  · skip
    refine lv_iload hx hb dX1_store_17 (lv_at hl 5 rfl) ?_
    refine callSi (As := [.int x3]) (rest := []) (m1_eight l x3) ⟨hx, hb, hml, hown, hts⟩ (va_cwS 1 hts gX1_store_X1_eight rfl rfl rfl (by decide +kernel) ⟨Nat.le_of_ble_eq_true rfl, Nat.le_of_ble_eq_true rfl⟩) rfl hl.1 rfl (Nat.le_of_ble_eq_true rfl) dX1_store_19 ⟨Nat.zero_le _, Nat.zero_le _⟩ ?_
    refine lv_if_ne (tgt := 29) hx hb dX1_store_22 (by decide) (fun c_22 => ?_) (fun c_22 => ?_)
    · skip
      refine lv_iload hx hb dX1_store_29 (lv_at hl 0 rfl) ?_
      refine lv_if_eq (tgt := 37) hx hb dX1_store_31 (by decide) (fun c_31 => ?_) (fun c_31 => ?_)
      · skip
        refine lv_aload_n hx hb dX1_store_37 rfl (lv_at hl 1 rfl) ?_
        refine lv_aload_n hx hb dX1_store_38 rfl (lv_at hl 1 rfl) ?_
        refine va_get (D := (dC, dI)) (ci := 1) (v := .ref h1) (C := RX1) (T := TX1) (N := 8) hx hb hts hin hown hK hP 0 rfl rfl 0 (by decide) (hts (.fieldLink RX1 7 "CapStoreModel" "memory" "[I") (by decide +kernel)) (fun _ h9 => h9) rfl dX1_store_39 ?_
        refine lv_bipush (v := 8) hx hb dX1_store_42 (by decide) ?_
        refine lv_iload_n hx hb dX1_store_44 rfl (lv_at hl 2 rfl) ?_
        refine lv_imul hx hb dX1_store_45 ?_
        refine lv_iload_n hx hb dX1_store_46 rfl (lv_at hl 3 rfl) ?_
        refine lv_iadd hx hb dX1_store_47 ?_
        refine va_iald hx hb hK hP 1 0 rfl rfl (sd1_r1 c_31) dX1_store_48 ?_
        refine callSi (As := [.int (mem ((8 * x0) + x1).toNatClampNeg)]) (rest := [.ref h0]) (m1_object l (mem ((8 * x0) + x1).toNatClampNeg)) ⟨hx, hb, hml, hown, hts⟩ (va_cwS 1 hts gX1_store_X1_object rfl rfl rfl (by decide +kernel) ⟨Nat.le_of_ble_eq_true rfl, Nat.le_of_ble_eq_true rfl⟩) rfl hl.1 rfl (Nat.le_of_ble_eq_true rfl) dX1_store_49 ⟨Nat.zero_le _, Nat.zero_le _⟩ ?_
        refine lv_iload_n hx hb dX1_store_52 rfl (lv_at hl 4 rfl) ?_
        refine lv_aload_n hx hb dX1_store_53 rfl (lv_at hl 1 rfl) ?_
        refine va_get (D := (dC, dI)) (ci := 1) (v := .ref h1) (C := RX1) (T := TX1) (N := 8) hx hb hts hin hown hK hP 0 rfl rfl 0 (by decide) (hts (.fieldLink RX1 7 "CapStoreModel" "memory" "[I") (by decide +kernel)) (fun _ h9 => h9) rfl dX1_store_54 ?_
        refine lv_bipush (v := 8) hx hb dX1_store_57 (by decide) ?_
        refine lv_iload_n hx hb dX1_store_59 rfl (lv_at hl 2 rfl) ?_
        refine lv_imul hx hb dX1_store_60 ?_
        refine lv_iload hx hb dX1_store_61 (lv_at hl 5 rfl) ?_
        refine lv_iadd hx hb dX1_store_63 ?_
        refine va_iald hx hb hK hP 1 0 rfl rfl (sd1_f3 c_31 c_22) dX1_store_64 ?_
        refine callWv (q := (RX1, TX1, 8)) (ci := 1) (q0 := 0) (As := [.int (f1_object (mem ((8 * x0) + x1).toNatClampNeg)), .int x2, .int (mem ((8 * x0) + x3).toNatClampNeg)]) (rest := []) (wr := []) (m1_put l dC dI h0 h1 h2 h3 c1 c2 c3 _ mem dsk sto dn en pw wr cm (f1_object (mem ((8 * x0) + x1).toNatClampNeg)) x2 (mem ((8 * x0) + x3).toNatClampNeg) (sd1_n hk c_31) (sd1_nj hk c_31)) ⟨hx, hb, hml, hown, hts⟩ (cwV 3 hts gX1_store_X1_put rfl rfl rfl (by decide +kernel) ⟨Nat.le_of_ble_eq_true rfl, Nat.le_of_ble_eq_true rfl⟩) hK hP hD hS hA rfl rfl [0, 1, 2, 3] [] rfl rfl rfl (by decide) (by decide) (by decide) rfl hl.1 rfl (Nat.le_of_ble_eq_true rfl) dX1_store_65 ⟨Nat.zero_le _, Nat.zero_le _⟩ (fun H locs hP hD hS => ?_)
        have hP : va_P (dC, dI) vwCl [(h0, .inr (1, [.ref h1, .ref h2, .ref h3, .int dn, .int en, .int pw, .int wr, .int cm])), (h1, .inl (c1, 96, .inl (upd mem ((8 * (f1_object (mem ((8 * x0) + x1).toNatClampNeg))) + x2).toNatClampNeg (mem ((8 * x0) + x3).toNatClampNeg)))), (h2, .inl (c2, 200, .inl dsk)), (h3, .inl (c3, 12, .inl (upd sto (f1_object (mem ((8 * x0) + x1).toNatClampNeg)).toNatClampNeg (vp_nar .boolean 1))))] _ := hP
        have hD : va_D _ [(h0, .inr (1, [.ref h1, .ref h2, .ref h3, .int dn, .int en, .int pw, .int wr, .int cm])), (h1, .inl (c1, 96, .inl (upd mem ((8 * (f1_object (mem ((8 * x0) + x1).toNatClampNeg))) + x2).toNatClampNeg (mem ((8 * x0) + x3).toNatClampNeg)))), (h2, .inl (c2, 200, .inl dsk)), (h3, .inl (c3, 12, .inl (upd sto (f1_object (mem ((8 * x0) + x1).toNatClampNeg)).toNatClampNeg (vp_nar .boolean 1))))] := hD
        refine lv_iconst (v := 0) hx hb dX1_store_68 (by decide) ?_
        have e9 : F1_store mem dsk sto dn en pw wr cm x0 x1 x2 x3 = (0, (upd mem ((8 * (f1_object (mem ((8 * x0) + x1).toNatClampNeg))) + x2).toNatClampNeg (mem ((8 * x0) + x3).toNatClampNeg)), dsk, (upd sto (f1_object (mem ((8 * x0) + x1).toNatClampNeg)).toNatClampNeg (vp_nar .boolean 1)), dn, en, pw, wr, cm) := by unfold F1_store; rw [if_neg c_14, if_neg c_22, if_pos c_31]
        rw [e9]
        exact retWi hx hb hr hlocks rfl rfl rfl hK hP hD hS dX1_store_69
      · skip
        refine lv_iload hx hb dX1_store_34 (lv_at hl 0 rfl) ?_
        have e9 : F1_store mem dsk sto dn en pw wr cm x0 x1 x2 x3 = ((f1_refusal mem dsk sto dn en pw wr cm x0 x1 x2 0 1), mem, dsk, sto, dn, en, pw, wr, cm) := by unfold F1_store; rw [if_neg c_14, if_neg c_22, if_neg c_31]
        rw [e9]
        exact retWi hx hb hr hlocks rfl rfl rfl hK hP hD hS dX1_store_36
    · skip
      refine lv_bipush (v := (-2)) hx hb dX1_store_25 (by decide) ?_
      refine lv_istore (lv' := [(5, .int (-2)), (0, .ref h0), (1, .int x0), (2, .int x1), (3, .int x2), (4, .int x3)]) hx hb dX1_store_27 hl (by decide) rfl (fun ls hl => ?_)
      refine lv_iload hx hb dX1_store_29 (lv_at hl 0 rfl) ?_
      refine lv_if_eq (tgt := 37) hx hb dX1_store_31 (by decide) (fun c_31 => ?_) (fun c_31 => ?_)
      · skip
        exact absurd c_31 (by decide)
      · skip
        refine lv_iload hx hb dX1_store_34 (lv_at hl 0 rfl) ?_
        have e9 : F1_store mem dsk sto dn en pw wr cm x0 x1 x2 x3 = ((-2), mem, dsk, sto, dn, en, pw, wr, cm) := by unfold F1_store; rw [if_neg c_14, if_pos c_22]
        rw [e9]
        exact retWi hx hb hr hlocks rfl rfl rfl hK hP hD hS dX1_store_36
set_option maxHeartbeats 4000000 in
set_option maxRecDepth 100000 in
theorem m1_write (l : Launch) (dC : Nat → ClassId) (dI : Nat → Nat → Nat) (h0 h1 h2 h3 : Nat) (c1 c2 c3 : ClassId) (sz : Nat) (mem dsk sto : Nat → Int32) (dn en pw wr cm : Int32) (x0 : Int32) (x1 : Int32) (x2 : Int32) (x3 : Int32) (hk : KI mem) : Met l yX1_write wsX1_write ({ frames := 2, cells := 0, slots := 0, locals := 47 }) (pcW (dC, dI) (k1 c1 c2 c3) (w1 h0 h1 h2 h3 c1 c2 c3 (mem, dsk, sto, dn, en, pw, wr, cm)) sz [.ref h0, .int x0, .int x1, .int x2, .int x3]) (qcWi (dC, dI) (k1 c1 c2 c3) (w1 h0 h1 h2 h3 c1 c2 c3 (mem, dsk, sto, dn, en, pw, wr, cm)) (w1 h0 h1 h2 h3 c1 c2 c3 (F1_write mem dsk sto dn en pw wr cm x0 x1 x2 x3).2) sz (F1_write mem dsk sto dn en pw wr cm x0 x1 x2 x3).1) 0 0 (va_A (w1 h0 h1 h2 h3 c1 c2 c3 (mem, dsk, sto, dn, en, pw, wr, cm)) sz) := by
  refine Met.ofW (cc := cX1_write) (maxL := 6) (ret := (some .int)) (by decide) rfl ?_
  intro p e s m args below meth c s₁ B hml hv
  obtain ⟨rfl, hsz, hP, hK, hD0⟩ := hv
  have hx := B.exec
  have hb := B.bytes
  have hr := B.returns
  have hts := atoms_spec (ws := wsX1_write) B.pre
  have hown : s.vm.findClass RX1 = some m.cls := findClass_of_methodNamed B.named
  have hlocks := B.notSynchronized
  have hin : ∀ w ∈ wsX10, w ∈ wsX1_write := fun _ h => List.mem_cons_of_mem _ (List.mem_append_right _ h)
  have hP : va_P (dC, dI) vwCl [(h0, .inr (1, [.ref h1, .ref h2, .ref h3, .int dn, .int en, .int pw, .int wr, .int cm])), (h1, .inl (c1, 96, .inl mem)), (h2, .inl (c2, 200, .inl dsk)), (h3, .inl (c3, 12, .inl sto))] s.heap := hP
  subst hsz
  have hD := hD0.self (sz := s.heap.size)
  have hA : ∀ q : Nat, s.heap.size ≤ q → (va_A (w1 h0 h1 h2 h3 c1 c2 c3 (mem, dsk, sto, dn, en, pw, wr, cm)) s.heap.size) q := fun q h => Or.inr h
  have hS : va_S (va_A (w1 h0 h1 h2 h3 c1 c2 c3 (mem, dsk, sto, dn, en, pw, wr, cm)) s.heap.size) s.heap s.heap [] := va_S.rf
  have hl := lv_entry ([.ref h0, .int x0, .int x1, .int x2, .int x3]) (n := 6) (Nat.le_of_ble_eq_true rfl)
  rw [lg_entry_eq]
  generalize (lg_sl ([.ref h0, .int x0, .int x1, .int x2, .int x3]) ++ List.replicate (6 - (lg_sl ([.ref h0, .int x0, .int x1, .int x2, .int x3])).length) Slot.unset).toArray = ls at hl ⊢
  have hl : lv_has ls 6 [(0, .ref h0), (1, .int x0), (2, .int x1), (3, .int x2), (4, .int x3)] := hl
  refine lv_aload_n hx hb dX1_write_0 rfl (lv_at hl 0 rfl) ?_
  refine lv_iload_n hx hb dX1_write_1 rfl (lv_at hl 1 rfl) ?_
  refine lv_iload_n hx hb dX1_write_2 rfl (lv_at hl 2 rfl) ?_
  refine lv_iload_n hx hb dX1_write_3 rfl (lv_at hl 3 rfl) ?_
  refine lv_iconst (v := 1) hx hb dX1_write_4 (by decide) ?_
  refine lv_iconst (v := 1) hx hb dX1_write_5 (by decide) ?_
  refine callRi (q := (RX1, TX1, 8)) (ci := 1) (q0 := 0) (As := [.int x0, .int x1, .int x2, .int 1, .int 1]) (rest := []) (m1_refusal l dC dI h0 h1 h2 h3 c1 c2 c3 mem dsk sto dn en pw wr cm x0 x1 x2 1 1 ) ⟨hx, hb, hml, hown, hts⟩ (cwV 5 hts gX1_write_X1_refusal rfl rfl rfl (by decide +kernel) ⟨Nat.le_of_ble_eq_true rfl, Nat.le_of_ble_eq_true rfl⟩) hK hP rfl rfl rfl hl.1 rfl (Nat.le_of_ble_eq_true rfl) dX1_write_6 ⟨Nat.zero_le _, Nat.zero_le _⟩ ?_
  refine lv_istore (lv' := [(5, .int (f1_refusal mem dsk sto dn en pw wr cm x0 x1 x2 1 1)), (0, .ref h0), (1, .int x0), (2, .int x1), (3, .int x2), (4, .int x3)]) hx hb dX1_write_9 hl (by decide) rfl (fun ls hl => ?_)
  refine lv_iload hx hb dX1_write_11 (lv_at hl 0 rfl) ?_
  refine lv_if_ne (tgt := 37) hx hb dX1_write_13 (by decide) (fun c_13 => ?_) (fun c_13 => ?_)
  · skip
    refine lv_iload hx hb dX1_write_37 (lv_at hl 0 rfl) ?_
    have e9 : F1_write mem dsk sto dn en pw wr cm x0 x1 x2 x3 = ((f1_refusal mem dsk sto dn en pw wr cm x0 x1 x2 1 1), mem, dsk, sto, dn, en, pw, wr, cm) := by unfold F1_write; rw [if_neg c_13]
    rw [e9]
    exact retWi hx hb hr hlocks rfl rfl rfl hK hP hD hS dX1_write_39
  · skip
    refine lv_aload_n hx hb dX1_write_16 rfl (lv_at hl 1 rfl) ?_
    refine lv_aload_n hx hb dX1_write_17 rfl (lv_at hl 1 rfl) ?_
    refine va_get (D := (dC, dI)) (ci := 1) (v := .ref h1) (C := RX1) (T := TX1) (N := 8) hx hb hts hin hown hK hP 0 rfl rfl 0 (by decide) (hts (.fieldLink RX1 7 "CapStoreModel" "memory" "[I") (by decide +kernel)) (fun _ h9 => h9) rfl dX1_write_18 ?_
    refine lv_bipush (v := 8) hx hb dX1_write_21 (by decide) ?_
    refine lv_iload_n hx hb dX1_write_23 rfl (lv_at hl 2 rfl) ?_
    refine lv_imul hx hb dX1_write_24 ?_
    refine lv_iload_n hx hb dX1_write_25 rfl (lv_at hl 3 rfl) ?_
    refine lv_iadd hx hb dX1_write_26 ?_
    refine va_iald hx hb hK hP 1 0 rfl rfl (sd1_r1 c_13) dX1_write_27 ?_
    refine callSi (As := [.int (mem ((8 * x0) + x1).toNatClampNeg)]) (rest := [.ref h0]) (m1_object l (mem ((8 * x0) + x1).toNatClampNeg)) ⟨hx, hb, hml, hown, hts⟩ (va_cwS 1 hts gX1_write_X1_object rfl rfl rfl (by decide +kernel) ⟨Nat.le_of_ble_eq_true rfl, Nat.le_of_ble_eq_true rfl⟩) rfl hl.1 rfl (Nat.le_of_ble_eq_true rfl) dX1_write_28 ⟨Nat.zero_le _, Nat.zero_le _⟩ ?_
    refine lv_iload_n hx hb dX1_write_31 rfl (lv_at hl 4 rfl) ?_
    refine lv_iload hx hb dX1_write_32 (lv_at hl 5 rfl) ?_
    refine callWv (q := (RX1, TX1, 8)) (ci := 1) (q0 := 0) (As := [.int (f1_object (mem ((8 * x0) + x1).toNatClampNeg)), .int x2, .int x3]) (rest := []) (wr := []) (m1_put l dC dI h0 h1 h2 h3 c1 c2 c3 _ mem dsk sto dn en pw wr cm (f1_object (mem ((8 * x0) + x1).toNatClampNeg)) x2 x3 (sd1_p hk c_13) (sd1_pj hk c_13)) ⟨hx, hb, hml, hown, hts⟩ (cwV 3 hts gX1_write_X1_put rfl rfl rfl (by decide +kernel) ⟨Nat.le_of_ble_eq_true rfl, Nat.le_of_ble_eq_true rfl⟩) hK hP hD hS hA rfl rfl [0, 1, 2, 3] [] rfl rfl rfl (by decide) (by decide) (by decide) rfl hl.1 rfl (Nat.le_of_ble_eq_true rfl) dX1_write_34 ⟨Nat.zero_le _, Nat.zero_le _⟩ (fun H locs hP hD hS => ?_)
    have hP : va_P (dC, dI) vwCl [(h0, .inr (1, [.ref h1, .ref h2, .ref h3, .int dn, .int en, .int pw, .int wr, .int cm])), (h1, .inl (c1, 96, .inl (upd mem ((8 * (f1_object (mem ((8 * x0) + x1).toNatClampNeg))) + x2).toNatClampNeg x3))), (h2, .inl (c2, 200, .inl dsk)), (h3, .inl (c3, 12, .inl (upd sto (f1_object (mem ((8 * x0) + x1).toNatClampNeg)).toNatClampNeg (vp_nar .boolean 1))))] _ := hP
    have hD : va_D _ [(h0, .inr (1, [.ref h1, .ref h2, .ref h3, .int dn, .int en, .int pw, .int wr, .int cm])), (h1, .inl (c1, 96, .inl (upd mem ((8 * (f1_object (mem ((8 * x0) + x1).toNatClampNeg))) + x2).toNatClampNeg x3))), (h2, .inl (c2, 200, .inl dsk)), (h3, .inl (c3, 12, .inl (upd sto (f1_object (mem ((8 * x0) + x1).toNatClampNeg)).toNatClampNeg (vp_nar .boolean 1))))] := hD
    refine lv_iload hx hb dX1_write_37 (lv_at hl 0 rfl) ?_
    have e9 : F1_write mem dsk sto dn en pw wr cm x0 x1 x2 x3 = ((f1_refusal mem dsk sto dn en pw wr cm x0 x1 x2 1 1), (upd mem ((8 * (f1_object (mem ((8 * x0) + x1).toNatClampNeg))) + x2).toNatClampNeg x3), dsk, (upd sto (f1_object (mem ((8 * x0) + x1).toNatClampNeg)).toNatClampNeg (vp_nar .boolean 1)), dn, en, pw, wr, cm) := by unfold F1_write; rw [if_pos c_13]
    rw [e9]
    exact retWi hx hb hr hlocks rfl rfl rfl hK hP hD hS dX1_write_39
set_option maxHeartbeats 4000000 in
set_option maxRecDepth 100000 in
theorem m1_restrict (l : Launch) (dC : Nat → ClassId) (dI : Nat → Nat → Nat) (h0 h1 h2 h3 : Nat) (c1 c2 c3 : ClassId) (sz : Nat) (mem dsk sto : Nat → Int32) (dn en pw wr cm : Int32) (x0 : Int32) (x1 : Int32) (x2 : Int32) (x3 : Int32) : Met l yX1_restrict wsX1_restrict ({ frames := 2, cells := 0, slots := 0, locals := 41 }) (pcW (dC, dI) (k1 c1 c2 c3) (w1 h0 h1 h2 h3 c1 c2 c3 (mem, dsk, sto, dn, en, pw, wr, cm)) sz [.ref h0, .int x0, .int x1, .int x2, .int x3]) (qcWi (dC, dI) (k1 c1 c2 c3) (w1 h0 h1 h2 h3 c1 c2 c3 (mem, dsk, sto, dn, en, pw, wr, cm)) (w1 h0 h1 h2 h3 c1 c2 c3 (F1_restrict mem dsk sto dn en pw wr cm x0 x1 x2 x3).2) sz (F1_restrict mem dsk sto dn en pw wr cm x0 x1 x2 x3).1) 0 0 (va_A (w1 h0 h1 h2 h3 c1 c2 c3 (mem, dsk, sto, dn, en, pw, wr, cm)) sz) := by
  refine Met.ofW (cc := cX1_restrict) (maxL := 5) (ret := (some .int)) (by decide) rfl ?_
  intro p e s m args below meth c s₁ B hml hv
  obtain ⟨rfl, hsz, hP, hK, hD0⟩ := hv
  have hx := B.exec
  have hb := B.bytes
  have hr := B.returns
  have hts := atoms_spec (ws := wsX1_restrict) B.pre
  have hown : s.vm.findClass RX1 = some m.cls := findClass_of_methodNamed B.named
  have hlocks := B.notSynchronized
  have hin : ∀ w ∈ wsX10, w ∈ wsX1_restrict := fun _ h => List.mem_cons_of_mem _ (List.mem_append_right _ h)
  have hP : va_P (dC, dI) vwCl [(h0, .inr (1, [.ref h1, .ref h2, .ref h3, .int dn, .int en, .int pw, .int wr, .int cm])), (h1, .inl (c1, 96, .inl mem)), (h2, .inl (c2, 200, .inl dsk)), (h3, .inl (c3, 12, .inl sto))] s.heap := hP
  subst hsz
  have hD := hD0.self (sz := s.heap.size)
  have hA : ∀ q : Nat, s.heap.size ≤ q → (va_A (w1 h0 h1 h2 h3 c1 c2 c3 (mem, dsk, sto, dn, en, pw, wr, cm)) s.heap.size) q := fun q h => Or.inr h
  have hS : va_S (va_A (w1 h0 h1 h2 h3 c1 c2 c3 (mem, dsk, sto, dn, en, pw, wr, cm)) s.heap.size) s.heap s.heap [] := va_S.rf
  have hl := lv_entry ([.ref h0, .int x0, .int x1, .int x2, .int x3]) (n := 5) (Nat.le_of_ble_eq_true rfl)
  rw [lg_entry_eq]
  generalize (lg_sl ([.ref h0, .int x0, .int x1, .int x2, .int x3]) ++ List.replicate (5 - (lg_sl ([.ref h0, .int x0, .int x1, .int x2, .int x3])).length) Slot.unset).toArray = ls at hl ⊢
  have hl : lv_has ls 5 [(0, .ref h0), (1, .int x0), (2, .int x1), (3, .int x2), (4, .int x3)] := hl
  refine lv_aload_n hx hb dX1_restrict_0 rfl (lv_at hl 0 rfl) ?_
  refine va_get (D := (dC, dI)) (ci := 1) (v := .int dn) (C := RX1) (T := TX1) (N := 8) hx hb hts hin hown hK hP 0 rfl rfl 3 (by decide) (hts (.fieldLink RX1 28 "CapStoreModel" "down" "Z") (by decide +kernel)) (fun _ h9 => h9) rfl dX1_restrict_1 ?_
  refine lv_if_eq (tgt := 9) hx hb dX1_restrict_4 (by decide) (fun c_4 => ?_) (fun c_4 => ?_)
  · skip
    refine lv_iload_n hx hb dX1_restrict_9 rfl (lv_at hl 1 rfl) ?_
    refine callSi (As := [.int x0]) (rest := []) (m1_third l x0) ⟨hx, hb, hml, hown, hts⟩ (va_cwS 1 hts gX1_restrict_X1_third rfl rfl rfl (by decide +kernel) ⟨Nat.le_of_ble_eq_true rfl, Nat.le_of_ble_eq_true rfl⟩) rfl hl.1 rfl (Nat.le_of_ble_eq_true rfl) dX1_restrict_10 ⟨Nat.zero_le _, Nat.zero_le _⟩ ?_
    refine lv_if_eq (tgt := 40) hx hb dX1_restrict_13 (by decide) (fun c_13 => ?_) (fun c_13 => ?_)
    · skip
      refine lv_bipush (v := (-2)) hx hb dX1_restrict_40 (by decide) ?_
      have e9 : F1_restrict mem dsk sto dn en pw wr cm x0 x1 x2 x3 = ((-2), mem, dsk, sto, dn, en, pw, wr, cm) := by unfold F1_restrict; rw [if_pos c_4, if_pos c_13]
      rw [e9]
      exact retWi hx hb hr hlocks rfl rfl rfl hK hP hD hS dX1_restrict_42
    · skip
      refine lv_iload_n hx hb dX1_restrict_16 rfl (lv_at hl 2 rfl) ?_
      refine callSi (As := [.int x1]) (rest := []) (m1_eight l x1) ⟨hx, hb, hml, hown, hts⟩ (va_cwS 1 hts gX1_restrict_X1_eight rfl rfl rfl (by decide +kernel) ⟨Nat.le_of_ble_eq_true rfl, Nat.le_of_ble_eq_true rfl⟩) rfl hl.1 rfl (Nat.le_of_ble_eq_true rfl) dX1_restrict_17 ⟨Nat.zero_le _, Nat.zero_le _⟩ ?_
      refine lv_if_eq (tgt := 40) hx hb dX1_restrict_20 (by decide) (fun c_20 => ?_) (fun c_20 => ?_)
      · skip
        refine lv_bipush (v := (-2)) hx hb dX1_restrict_40 (by decide) ?_
        have e9 : F1_restrict mem dsk sto dn en pw wr cm x0 x1 x2 x3 = ((-2), mem, dsk, sto, dn, en, pw, wr, cm) := by unfold F1_restrict; rw [if_pos c_4, if_neg c_13, if_pos c_20]
        rw [e9]
        exact retWi hx hb hr hlocks rfl rfl rfl hK hP hD hS dX1_restrict_42
      · skip
        refine lv_iload hx hb dX1_restrict_23 (lv_at hl 4 rfl) ?_
        refine callSi (As := [.int x3]) (rest := []) (m1_eight l x3) ⟨hx, hb, hml, hown, hts⟩ (va_cwS 1 hts gX1_restrict_X1_eight rfl rfl rfl (by decide +kernel) ⟨Nat.le_of_ble_eq_true rfl, Nat.le_of_ble_eq_true rfl⟩) rfl hl.1 rfl (Nat.le_of_ble_eq_true rfl) dX1_restrict_25 ⟨Nat.zero_le _, Nat.zero_le _⟩ ?_
        refine lv_if_eq (tgt := 40) hx hb dX1_restrict_28 (by decide) (fun c_28 => ?_) (fun c_28 => ?_)
        · skip
          refine lv_bipush (v := (-2)) hx hb dX1_restrict_40 (by decide) ?_
          have e9 : F1_restrict mem dsk sto dn en pw wr cm x0 x1 x2 x3 = ((-2), mem, dsk, sto, dn, en, pw, wr, cm) := by unfold F1_restrict; rw [if_pos c_4, if_neg c_13, if_neg c_20, if_pos c_28]
          rw [e9]
          exact retWi hx hb hr hlocks rfl rfl rfl hK hP hD hS dX1_restrict_42
        · skip
          refine lv_iload_n hx hb dX1_restrict_31 rfl (lv_at hl 3 rfl) ?_
          refine lv_if_lt (tgt := 40) hx hb dX1_restrict_32 (by decide) (fun c_32 => ?_) (fun c_32 => ?_)
          · skip
            refine lv_bipush (v := (-2)) hx hb dX1_restrict_40 (by decide) ?_
            have e9 : F1_restrict mem dsk sto dn en pw wr cm x0 x1 x2 x3 = ((-2), mem, dsk, sto, dn, en, pw, wr, cm) := by unfold F1_restrict; rw [if_pos c_4, if_neg c_13, if_neg c_20, if_neg c_28, if_pos c_32]
            rw [e9]
            exact retWi hx hb hr hlocks rfl rfl rfl hK hP hD hS dX1_restrict_42
          · skip
            refine lv_iload_n hx hb dX1_restrict_35 rfl (lv_at hl 3 rfl) ?_
            refine lv_iconst (v := 3) hx hb dX1_restrict_36 (by decide) ?_
            refine lv_icmp_le (tgt := 43) hx hb dX1_restrict_37 (by decide) (fun c_37 => ?_) (fun c_37 => ?_)
            · skip
              refine lv_aload_n hx hb dX1_restrict_43 rfl (lv_at hl 0 rfl) ?_
              refine lv_iload_n hx hb dX1_restrict_44 rfl (lv_at hl 1 rfl) ?_
              refine lv_iload hx hb dX1_restrict_45 (lv_at hl 4 rfl) ?_
              refine lv_aload_n hx hb dX1_restrict_47 rfl (lv_at hl 0 rfl) ?_
              refine va_get (D := (dC, dI)) (ci := 1) (v := .ref h1) (C := RX1) (T := TX1) (N := 8) hx hb hts hin hown hK hP 0 rfl rfl 0 (by decide) (hts (.fieldLink RX1 7 "CapStoreModel" "memory" "[I") (by decide +kernel)) (fun _ h9 => h9) rfl dX1_restrict_48 ?_
              refine lv_bipush (v := 8) hx hb dX1_restrict_51 (by decide) ?_
              refine lv_iload_n hx hb dX1_restrict_53 rfl (lv_at hl 1 rfl) ?_
              refine lv_imul hx hb dX1_restrict_54 ?_
              refine lv_iload_n hx hb dX1_restrict_55 rfl (lv_at hl 2 rfl) ?_
              refine lv_iadd hx hb dX1_restrict_56 ?_
              refine va_iald hx hb hK hP 1 0 rfl rfl (sd1_ix c_13 c_20) dX1_restrict_57 ?_
              refine lv_iload_n hx hb dX1_restrict_58 rfl (lv_at hl 3 rfl) ?_
              refine callSi (As := [.int (mem ((8 * x0) + x1).toNatClampNeg), .int x2]) (rest := [.int x3, .int x0, .ref h0]) (m1_limited l (mem ((8 * x0) + x1).toNatClampNeg) x2) ⟨hx, hb, hml, hown, hts⟩ (va_cwS 2 hts gX1_restrict_X1_limited rfl rfl rfl (by decide +kernel) ⟨Nat.le_of_ble_eq_true rfl, Nat.le_of_ble_eq_true rfl⟩) rfl hl.1 rfl (Nat.le_of_ble_eq_true rfl) dX1_restrict_59 ⟨Nat.zero_le _, Nat.zero_le _⟩ ?_
              refine callWv (q := (RX1, TX1, 8)) (ci := 1) (q0 := 0) (As := [.int x0, .int x3, .int (f1_limited (mem ((8 * x0) + x1).toNatClampNeg) x2)]) (rest := []) (wr := []) (m1_put l dC dI h0 h1 h2 h3 c1 c2 c3 _ mem dsk sto dn en pw wr cm x0 x3 (f1_limited (mem ((8 * x0) + x1).toNatClampNeg) x2) (sd1_ix c_13 c_28) (sd1_t12 c_13)) ⟨hx, hb, hml, hown, hts⟩ (cwV 3 hts gX1_restrict_X1_put rfl rfl rfl (by decide +kernel) ⟨Nat.le_of_ble_eq_true rfl, Nat.le_of_ble_eq_true rfl⟩) hK hP hD hS hA rfl rfl [0, 1, 2, 3] [] rfl rfl rfl (by decide) (by decide) (by decide) rfl hl.1 rfl (Nat.le_of_ble_eq_true rfl) dX1_restrict_62 ⟨Nat.zero_le _, Nat.zero_le _⟩ (fun H locs hP hD hS => ?_)
              have hP : va_P (dC, dI) vwCl [(h0, .inr (1, [.ref h1, .ref h2, .ref h3, .int dn, .int en, .int pw, .int wr, .int cm])), (h1, .inl (c1, 96, .inl (upd mem ((8 * x0) + x3).toNatClampNeg (f1_limited (mem ((8 * x0) + x1).toNatClampNeg) x2)))), (h2, .inl (c2, 200, .inl dsk)), (h3, .inl (c3, 12, .inl (upd sto x0.toNatClampNeg (vp_nar .boolean 1))))] _ := hP
              have hD : va_D _ [(h0, .inr (1, [.ref h1, .ref h2, .ref h3, .int dn, .int en, .int pw, .int wr, .int cm])), (h1, .inl (c1, 96, .inl (upd mem ((8 * x0) + x3).toNatClampNeg (f1_limited (mem ((8 * x0) + x1).toNatClampNeg) x2)))), (h2, .inl (c2, 200, .inl dsk)), (h3, .inl (c3, 12, .inl (upd sto x0.toNatClampNeg (vp_nar .boolean 1))))] := hD
              refine lv_iconst (v := 0) hx hb dX1_restrict_65 (by decide) ?_
              have e9 : F1_restrict mem dsk sto dn en pw wr cm x0 x1 x2 x3 = (0, (upd mem ((8 * x0) + x3).toNatClampNeg (f1_limited (mem ((8 * x0) + x1).toNatClampNeg) x2)), dsk, (upd sto x0.toNatClampNeg (vp_nar .boolean 1)), dn, en, pw, wr, cm) := by unfold F1_restrict; rw [if_pos c_4, if_neg c_13, if_neg c_20, if_neg c_28, if_neg c_32, if_pos c_37]
              rw [e9]
              exact retWi hx hb hr hlocks rfl rfl rfl hK hP hD hS dX1_restrict_66
            · skip
              refine lv_bipush (v := (-2)) hx hb dX1_restrict_40 (by decide) ?_
              have e9 : F1_restrict mem dsk sto dn en pw wr cm x0 x1 x2 x3 = ((-2), mem, dsk, sto, dn, en, pw, wr, cm) := by unfold F1_restrict; rw [if_pos c_4, if_neg c_13, if_neg c_20, if_neg c_28, if_neg c_32, if_neg c_37]
              rw [e9]
              exact retWi hx hb hr hlocks rfl rfl rfl hK hP hD hS dX1_restrict_42
  · skip
    refine lv_iconst (v := (-1)) hx hb dX1_restrict_7 (by decide) ?_
    have e9 : F1_restrict mem dsk sto dn en pw wr cm x0 x1 x2 x3 = ((-1), mem, dsk, sto, dn, en, pw, wr, cm) := by unfold F1_restrict; rw [if_neg c_4]
    rw [e9]
    exact retWi hx hb hr hlocks rfl rfl rfl hK hP hD hS dX1_restrict_8
set_option maxHeartbeats 4000000 in
set_option maxRecDepth 100000 in
theorem m1_clear (l : Launch) (dC : Nat → ClassId) (dI : Nat → Nat → Nat) (h0 h1 h2 h3 : Nat) (c1 c2 c3 : ClassId) (sz : Nat) (mem dsk sto : Nat → Int32) (dn en pw wr cm : Int32) (x0 : Int32) (x1 : Int32) : Met l yX1_clear wsX1_clear ({ frames := 1, cells := 0, slots := 0, locals := 23 }) (pcW (dC, dI) (k1 c1 c2 c3) (w1 h0 h1 h2 h3 c1 c2 c3 (mem, dsk, sto, dn, en, pw, wr, cm)) sz [.ref h0, .int x0, .int x1]) (qcWi (dC, dI) (k1 c1 c2 c3) (w1 h0 h1 h2 h3 c1 c2 c3 (mem, dsk, sto, dn, en, pw, wr, cm)) (w1 h0 h1 h2 h3 c1 c2 c3 (F1_clear mem dsk sto dn en pw wr cm x0 x1).2) sz (F1_clear mem dsk sto dn en pw wr cm x0 x1).1) 0 0 (va_A (w1 h0 h1 h2 h3 c1 c2 c3 (mem, dsk, sto, dn, en, pw, wr, cm)) sz) := by
  refine Met.ofW (cc := cX1_clear) (maxL := 3) (ret := (some .int)) (by decide) rfl ?_
  intro p e s m args below meth c s₁ B hml hv
  obtain ⟨rfl, hsz, hP, hK, hD0⟩ := hv
  have hx := B.exec
  have hb := B.bytes
  have hr := B.returns
  have hts := atoms_spec (ws := wsX1_clear) B.pre
  have hown : s.vm.findClass RX1 = some m.cls := findClass_of_methodNamed B.named
  have hlocks := B.notSynchronized
  have hin : ∀ w ∈ wsX10, w ∈ wsX1_clear := fun _ h => List.mem_cons_of_mem _ (List.mem_append_right _ h)
  have hP : va_P (dC, dI) vwCl [(h0, .inr (1, [.ref h1, .ref h2, .ref h3, .int dn, .int en, .int pw, .int wr, .int cm])), (h1, .inl (c1, 96, .inl mem)), (h2, .inl (c2, 200, .inl dsk)), (h3, .inl (c3, 12, .inl sto))] s.heap := hP
  subst hsz
  have hD := hD0.self (sz := s.heap.size)
  have hA : ∀ q : Nat, s.heap.size ≤ q → (va_A (w1 h0 h1 h2 h3 c1 c2 c3 (mem, dsk, sto, dn, en, pw, wr, cm)) s.heap.size) q := fun q h => Or.inr h
  have hS : va_S (va_A (w1 h0 h1 h2 h3 c1 c2 c3 (mem, dsk, sto, dn, en, pw, wr, cm)) s.heap.size) s.heap s.heap [] := va_S.rf
  have hl := lv_entry ([.ref h0, .int x0, .int x1]) (n := 3) (Nat.le_of_ble_eq_true rfl)
  rw [lg_entry_eq]
  generalize (lg_sl ([.ref h0, .int x0, .int x1]) ++ List.replicate (3 - (lg_sl ([.ref h0, .int x0, .int x1])).length) Slot.unset).toArray = ls at hl ⊢
  have hl : lv_has ls 3 [(0, .ref h0), (1, .int x0), (2, .int x1)] := hl
  refine lv_aload_n hx hb dX1_clear_0 rfl (lv_at hl 0 rfl) ?_
  refine va_get (D := (dC, dI)) (ci := 1) (v := .int dn) (C := RX1) (T := TX1) (N := 8) hx hb hts hin hown hK hP 0 rfl rfl 3 (by decide) (hts (.fieldLink RX1 28 "CapStoreModel" "down" "Z") (by decide +kernel)) (fun _ h9 => h9) rfl dX1_clear_1 ?_
  refine lv_if_eq (tgt := 9) hx hb dX1_clear_4 (by decide) (fun c_4 => ?_) (fun c_4 => ?_)
  · skip
    refine lv_iload_n hx hb dX1_clear_9 rfl (lv_at hl 1 rfl) ?_
    refine callSi (As := [.int x0]) (rest := []) (m1_third l x0) ⟨hx, hb, hml, hown, hts⟩ (va_cwS 1 hts gX1_clear_X1_third rfl rfl rfl (by decide +kernel) ⟨Nat.le_of_ble_eq_true rfl, Nat.le_of_ble_eq_true rfl⟩) rfl hl.1 rfl (Nat.le_of_ble_eq_true rfl) dX1_clear_10 ⟨Nat.zero_le _, Nat.zero_le _⟩ ?_
    refine lv_if_eq (tgt := 23) hx hb dX1_clear_13 (by decide) (fun c_13 => ?_) (fun c_13 => ?_)
    · skip
      refine lv_bipush (v := (-2)) hx hb dX1_clear_23 (by decide) ?_
      have e9 : F1_clear mem dsk sto dn en pw wr cm x0 x1 = ((-2), mem, dsk, sto, dn, en, pw, wr, cm) := by unfold F1_clear; rw [if_pos c_4, if_pos c_13]
      rw [e9]
      exact retWi hx hb hr hlocks rfl rfl rfl hK hP hD hS dX1_clear_25
    · skip
      refine lv_iload_n hx hb dX1_clear_16 rfl (lv_at hl 2 rfl) ?_
      refine callSi (As := [.int x1]) (rest := []) (m1_eight l x1) ⟨hx, hb, hml, hown, hts⟩ (va_cwS 1 hts gX1_clear_X1_eight rfl rfl rfl (by decide +kernel) ⟨Nat.le_of_ble_eq_true rfl, Nat.le_of_ble_eq_true rfl⟩) rfl hl.1 rfl (Nat.le_of_ble_eq_true rfl) dX1_clear_17 ⟨Nat.zero_le _, Nat.zero_le _⟩ ?_
      refine lv_if_ne (tgt := 26) hx hb dX1_clear_20 (by decide) (fun c_20 => ?_) (fun c_20 => ?_)
      · skip
        refine lv_aload_n hx hb dX1_clear_26 rfl (lv_at hl 0 rfl) ?_
        refine lv_iload_n hx hb dX1_clear_27 rfl (lv_at hl 1 rfl) ?_
        refine lv_iload_n hx hb dX1_clear_28 rfl (lv_at hl 2 rfl) ?_
        refine lv_iconst (v := 0) hx hb dX1_clear_29 (by decide) ?_
        refine callWv (q := (RX1, TX1, 8)) (ci := 1) (q0 := 0) (As := [.int x0, .int x1, .int 0]) (rest := []) (wr := []) (m1_put l dC dI h0 h1 h2 h3 c1 c2 c3 _ mem dsk sto dn en pw wr cm x0 x1 0 (sd1_ix c_13 c_20) (sd1_t12 c_13)) ⟨hx, hb, hml, hown, hts⟩ (cwV 3 hts gX1_clear_X1_put rfl rfl rfl (by decide +kernel) ⟨Nat.le_of_ble_eq_true rfl, Nat.le_of_ble_eq_true rfl⟩) hK hP hD hS hA rfl rfl [0, 1, 2, 3] [] rfl rfl rfl (by decide) (by decide) (by decide) rfl hl.1 rfl (Nat.le_of_ble_eq_true rfl) dX1_clear_30 ⟨Nat.zero_le _, Nat.zero_le _⟩ (fun H locs hP hD hS => ?_)
        have hP : va_P (dC, dI) vwCl [(h0, .inr (1, [.ref h1, .ref h2, .ref h3, .int dn, .int en, .int pw, .int wr, .int cm])), (h1, .inl (c1, 96, .inl (upd mem ((8 * x0) + x1).toNatClampNeg 0))), (h2, .inl (c2, 200, .inl dsk)), (h3, .inl (c3, 12, .inl (upd sto x0.toNatClampNeg (vp_nar .boolean 1))))] _ := hP
        have hD : va_D _ [(h0, .inr (1, [.ref h1, .ref h2, .ref h3, .int dn, .int en, .int pw, .int wr, .int cm])), (h1, .inl (c1, 96, .inl (upd mem ((8 * x0) + x1).toNatClampNeg 0))), (h2, .inl (c2, 200, .inl dsk)), (h3, .inl (c3, 12, .inl (upd sto x0.toNatClampNeg (vp_nar .boolean 1))))] := hD
        refine lv_iconst (v := 0) hx hb dX1_clear_33 (by decide) ?_
        have e9 : F1_clear mem dsk sto dn en pw wr cm x0 x1 = (0, (upd mem ((8 * x0) + x1).toNatClampNeg 0), dsk, (upd sto x0.toNatClampNeg (vp_nar .boolean 1)), dn, en, pw, wr, cm) := by unfold F1_clear; rw [if_pos c_4, if_neg c_13, if_neg c_20]
        rw [e9]
        exact retWi hx hb hr hlocks rfl rfl rfl hK hP hD hS dX1_clear_34
      · skip
        refine lv_bipush (v := (-2)) hx hb dX1_clear_23 (by decide) ?_
        have e9 : F1_clear mem dsk sto dn en pw wr cm x0 x1 = ((-2), mem, dsk, sto, dn, en, pw, wr, cm) := by unfold F1_clear; rw [if_pos c_4, if_neg c_13, if_pos c_20]
        rw [e9]
        exact retWi hx hb hr hlocks rfl rfl rfl hK hP hD hS dX1_clear_25
  · skip
    refine lv_iconst (v := (-1)) hx hb dX1_clear_7 (by decide) ?_
    have e9 : F1_clear mem dsk sto dn en pw wr cm x0 x1 = ((-1), mem, dsk, sto, dn, en, pw, wr, cm) := by unfold F1_clear; rw [if_neg c_4]
    rw [e9]
    exact retWi hx hb hr hlocks rfl rfl rfl hK hP hD hS dX1_clear_8
set_option maxHeartbeats 4000000 in
set_option maxRecDepth 100000 in
theorem m1_power (l : Launch) (dC : Nat → ClassId) (dI : Nat → Nat → Nat) (h0 h1 h2 h3 : Nat) (c1 c2 c3 : ClassId) (sz : Nat) (mem dsk sto : Nat → Int32) (dn en pw wr cm : Int32) (x0 : Int32) : Met l yX1_power wsX1_power ({ frames := 0, cells := 0, slots := 0, locals := 0 }) (pcW (dC, dI) (k1 c1 c2 c3) (w1 h0 h1 h2 h3 c1 c2 c3 (mem, dsk, sto, dn, en, pw, wr, cm)) sz [.ref h0, .int x0]) (qcWi (dC, dI) (k1 c1 c2 c3) (w1 h0 h1 h2 h3 c1 c2 c3 (mem, dsk, sto, dn, en, pw, wr, cm)) (w1 h0 h1 h2 h3 c1 c2 c3 (F1_power mem dsk sto dn en pw wr cm x0).2) sz (F1_power mem dsk sto dn en pw wr cm x0).1) 0 0 (va_A (w1 h0 h1 h2 h3 c1 c2 c3 (mem, dsk, sto, dn, en, pw, wr, cm)) sz) := by
  refine Met.ofW (cc := cX1_power) (maxL := 2) (ret := (some .int)) (by decide) rfl ?_
  intro p e s m args below meth c s₁ B hml hv
  obtain ⟨rfl, hsz, hP, hK, hD0⟩ := hv
  have hx := B.exec
  have hb := B.bytes
  have hr := B.returns
  have hts := atoms_spec (ws := wsX1_power) B.pre
  have hown : s.vm.findClass RX1 = some m.cls := findClass_of_methodNamed B.named
  have hlocks := B.notSynchronized
  have hin : ∀ w ∈ wsX10, w ∈ wsX1_power := fun _ h => List.mem_cons_of_mem _ (List.mem_append_right _ h)
  have hP : va_P (dC, dI) vwCl [(h0, .inr (1, [.ref h1, .ref h2, .ref h3, .int dn, .int en, .int pw, .int wr, .int cm])), (h1, .inl (c1, 96, .inl mem)), (h2, .inl (c2, 200, .inl dsk)), (h3, .inl (c3, 12, .inl sto))] s.heap := hP
  subst hsz
  have hD := hD0.self (sz := s.heap.size)
  have hA : ∀ q : Nat, s.heap.size ≤ q → (va_A (w1 h0 h1 h2 h3 c1 c2 c3 (mem, dsk, sto, dn, en, pw, wr, cm)) s.heap.size) q := fun q h => Or.inr h
  have hS : va_S (va_A (w1 h0 h1 h2 h3 c1 c2 c3 (mem, dsk, sto, dn, en, pw, wr, cm)) s.heap.size) s.heap s.heap [] := va_S.rf
  have hl := lv_entry ([.ref h0, .int x0]) (n := 2) (Nat.le_of_ble_eq_true rfl)
  rw [lg_entry_eq]
  generalize (lg_sl ([.ref h0, .int x0]) ++ List.replicate (2 - (lg_sl ([.ref h0, .int x0])).length) Slot.unset).toArray = ls at hl ⊢
  have hl : lv_has ls 2 [(0, .ref h0), (1, .int x0)] := hl
  refine lv_aload_n hx hb dX1_power_0 rfl (lv_at hl 0 rfl) ?_
  refine va_get (D := (dC, dI)) (ci := 1) (v := .int dn) (C := RX1) (T := TX1) (N := 8) hx hb hts hin hown hK hP 0 rfl rfl 3 (by decide) (hts (.fieldLink RX1 28 "CapStoreModel" "down" "Z") (by decide +kernel)) (fun _ h9 => h9) rfl dX1_power_1 ?_
  refine lv_if_eq (tgt := 9) hx hb dX1_power_4 (by decide) (fun c_4 => ?_) (fun c_4 => ?_)
  · skip
    refine lv_iload_n hx hb dX1_power_9 rfl (lv_at hl 1 rfl) ?_
    refine lv_iconst (v := (-1)) hx hb dX1_power_10 (by decide) ?_
    refine lv_icmp_lt (tgt := 20) hx hb dX1_power_11 (by decide) (fun c_11 => ?_) (fun c_11 => ?_)
    · skip
      refine lv_bipush (v := (-2)) hx hb dX1_power_20 (by decide) ?_
      have e9 : F1_power mem dsk sto dn en pw wr cm x0 = ((-2), mem, dsk, sto, dn, en, pw, wr, cm) := by unfold F1_power; rw [if_pos c_4, if_pos c_11]
      rw [e9]
      exact retWi hx hb hr hlocks rfl rfl rfl hK hP hD hS dX1_power_22
    · skip
      refine lv_iload_n hx hb dX1_power_14 rfl (lv_at hl 1 rfl) ?_
      refine lv_bipush (v := 63) hx hb dX1_power_15 (by decide) ?_
      refine lv_icmp_le (tgt := 23) hx hb dX1_power_17 (by decide) (fun c_17 => ?_) (fun c_17 => ?_)
      · skip
        refine lv_aload_n hx hb dX1_power_23 rfl (lv_at hl 0 rfl) ?_
        refine lv_iload_n hx hb dX1_power_24 rfl (lv_at hl 1 rfl) ?_
        refine lv_iconst (v := (-1)) hx hb dX1_power_25 (by decide) ?_
        refine lv_icmp_ne (tgt := 33) hx hb dX1_power_26 (by decide) (fun c_26 => ?_) (fun c_26 => ?_)
        · skip
          refine lv_iconst (v := 0) hx hb dX1_power_33 (by decide) ?_
          refine va_put (D := (dC, dI)) (ci := 1) (v := .int 0) (ty := .boolean) (C := RX1) (T := TX1) (N := 8) hx hb hts hin tyX1 tyX1_ok nmX1 hown hK hP hD hS 0 rfl rfl 4 (by decide) (hts (.fieldLink RX1 20 "CapStoreModel" "endless" "Z") (by decide +kernel)) (fun _ h9 => h9) rfl (by decide +kernel) rfl rfl (Nat.le_of_ble_eq_true rfl) dX1_power_34 (fun H locs hP hD hS => ?_)
          have hP : va_P (dC, dI) vwCl [(h0, .inr (1, [.ref h1, .ref h2, .ref h3, .int dn, .int 0, .int pw, .int wr, .int cm])), (h1, .inl (c1, 96, .inl mem)), (h2, .inl (c2, 200, .inl dsk)), (h3, .inl (c3, 12, .inl sto))] _ := hP
          have hD : va_D _ [(h0, .inr (1, [.ref h1, .ref h2, .ref h3, .int dn, .int 0, .int pw, .int wr, .int cm])), (h1, .inl (c1, 96, .inl mem)), (h2, .inl (c2, 200, .inl dsk)), (h3, .inl (c3, 12, .inl sto))] := hD
          refine lv_aload_n hx hb dX1_power_37 rfl (lv_at hl 0 rfl) ?_
          refine lv_iload_n hx hb dX1_power_38 rfl (lv_at hl 1 rfl) ?_
          refine va_put (D := (dC, dI)) (ci := 1) (v := .int x0) (ty := .int) (C := RX1) (T := TX1) (N := 8) hx hb hts hin tyX1 tyX1_ok nmX1 hown hK hP hD hS 0 rfl rfl 5 (by decide) (hts (.fieldLink RX1 55 "CapStoreModel" "power" "I") (by decide +kernel)) (fun _ h9 => h9) rfl (by decide +kernel) rfl rfl (Nat.le_of_ble_eq_true rfl) dX1_power_39 (fun H locs hP hD hS => ?_)
          have hP : va_P (dC, dI) vwCl [(h0, .inr (1, [.ref h1, .ref h2, .ref h3, .int dn, .int 0, .int x0, .int wr, .int cm])), (h1, .inl (c1, 96, .inl mem)), (h2, .inl (c2, 200, .inl dsk)), (h3, .inl (c3, 12, .inl sto))] _ := hP
          have hD : va_D _ [(h0, .inr (1, [.ref h1, .ref h2, .ref h3, .int dn, .int 0, .int x0, .int wr, .int cm])), (h1, .inl (c1, 96, .inl mem)), (h2, .inl (c2, 200, .inl dsk)), (h3, .inl (c3, 12, .inl sto))] := hD
          refine lv_iconst (v := 0) hx hb dX1_power_42 (by decide) ?_
          have e9 : F1_power mem dsk sto dn en pw wr cm x0 = (0, mem, dsk, sto, dn, 0, x0, wr, cm) := by unfold F1_power; rw [if_pos c_4, if_neg c_11, if_pos c_17, if_neg c_26]
          rw [e9]
          exact retWi hx hb hr hlocks rfl rfl rfl hK hP hD hS dX1_power_43
        · skip
          refine lv_iconst (v := 1) hx hb dX1_power_29 (by decide) ?_
          refine lv_goto (tgt := 34) hx hb dX1_power_30 (by decide) ?_
          refine va_put (D := (dC, dI)) (ci := 1) (v := .int 1) (ty := .boolean) (C := RX1) (T := TX1) (N := 8) hx hb hts hin tyX1 tyX1_ok nmX1 hown hK hP hD hS 0 rfl rfl 4 (by decide) (hts (.fieldLink RX1 20 "CapStoreModel" "endless" "Z") (by decide +kernel)) (fun _ h9 => h9) rfl (by decide +kernel) rfl rfl (Nat.le_of_ble_eq_true rfl) dX1_power_34 (fun H locs hP hD hS => ?_)
          have hP : va_P (dC, dI) vwCl [(h0, .inr (1, [.ref h1, .ref h2, .ref h3, .int dn, .int 1, .int pw, .int wr, .int cm])), (h1, .inl (c1, 96, .inl mem)), (h2, .inl (c2, 200, .inl dsk)), (h3, .inl (c3, 12, .inl sto))] _ := hP
          have hD : va_D _ [(h0, .inr (1, [.ref h1, .ref h2, .ref h3, .int dn, .int 1, .int pw, .int wr, .int cm])), (h1, .inl (c1, 96, .inl mem)), (h2, .inl (c2, 200, .inl dsk)), (h3, .inl (c3, 12, .inl sto))] := hD
          refine lv_aload_n hx hb dX1_power_37 rfl (lv_at hl 0 rfl) ?_
          refine lv_iload_n hx hb dX1_power_38 rfl (lv_at hl 1 rfl) ?_
          refine va_put (D := (dC, dI)) (ci := 1) (v := .int x0) (ty := .int) (C := RX1) (T := TX1) (N := 8) hx hb hts hin tyX1 tyX1_ok nmX1 hown hK hP hD hS 0 rfl rfl 5 (by decide) (hts (.fieldLink RX1 55 "CapStoreModel" "power" "I") (by decide +kernel)) (fun _ h9 => h9) rfl (by decide +kernel) rfl rfl (Nat.le_of_ble_eq_true rfl) dX1_power_39 (fun H locs hP hD hS => ?_)
          have hP : va_P (dC, dI) vwCl [(h0, .inr (1, [.ref h1, .ref h2, .ref h3, .int dn, .int 1, .int x0, .int wr, .int cm])), (h1, .inl (c1, 96, .inl mem)), (h2, .inl (c2, 200, .inl dsk)), (h3, .inl (c3, 12, .inl sto))] _ := hP
          have hD : va_D _ [(h0, .inr (1, [.ref h1, .ref h2, .ref h3, .int dn, .int 1, .int x0, .int wr, .int cm])), (h1, .inl (c1, 96, .inl mem)), (h2, .inl (c2, 200, .inl dsk)), (h3, .inl (c3, 12, .inl sto))] := hD
          refine lv_iconst (v := 0) hx hb dX1_power_42 (by decide) ?_
          have e9 : F1_power mem dsk sto dn en pw wr cm x0 = (0, mem, dsk, sto, dn, 1, x0, wr, cm) := by unfold F1_power; rw [if_pos c_4, if_neg c_11, if_pos c_17, if_pos c_26]
          rw [e9]
          exact retWi hx hb hr hlocks rfl rfl rfl hK hP hD hS dX1_power_43
      · skip
        refine lv_bipush (v := (-2)) hx hb dX1_power_20 (by decide) ?_
        have e9 : F1_power mem dsk sto dn en pw wr cm x0 = ((-2), mem, dsk, sto, dn, en, pw, wr, cm) := by unfold F1_power; rw [if_pos c_4, if_neg c_11, if_neg c_17]
        rw [e9]
        exact retWi hx hb hr hlocks rfl rfl rfl hK hP hD hS dX1_power_22
  · skip
    refine lv_iconst (v := (-1)) hx hb dX1_power_7 (by decide) ?_
    have e9 : F1_power mem dsk sto dn en pw wr cm x0 = ((-1), mem, dsk, sto, dn, en, pw, wr, cm) := by unfold F1_power; rw [if_neg c_4]
    rw [e9]
    exact retWi hx hb hr hlocks rfl rfl rfl hK hP hD hS dX1_power_8
set_option maxHeartbeats 4000000 in
set_option maxRecDepth 100000 in
theorem m1_crash (l : Launch) (dC : Nat → ClassId) (dI : Nat → Nat → Nat) (h0 h1 h2 h3 : Nat) (c1 c2 c3 : ClassId) (sz : Nat) (mem dsk sto : Nat → Int32) (dn en pw wr cm : Int32) : Met l yX1_crash wsX1_crash ({ frames := 0, cells := 0, slots := 0, locals := 0 }) (pcW (dC, dI) (k1 c1 c2 c3) (w1 h0 h1 h2 h3 c1 c2 c3 (mem, dsk, sto, dn, en, pw, wr, cm)) sz [.ref h0]) (qcWi (dC, dI) (k1 c1 c2 c3) (w1 h0 h1 h2 h3 c1 c2 c3 (mem, dsk, sto, dn, en, pw, wr, cm)) (w1 h0 h1 h2 h3 c1 c2 c3 (F1_crash mem dsk sto dn en pw wr cm).2) sz (F1_crash mem dsk sto dn en pw wr cm).1) 0 0 (va_A (w1 h0 h1 h2 h3 c1 c2 c3 (mem, dsk, sto, dn, en, pw, wr, cm)) sz) := by
  refine Met.ofW (cc := cX1_crash) (maxL := 2) (ret := (some .boolean)) (by decide) rfl ?_
  intro p e s m args below meth c s₁ B hml hv
  obtain ⟨rfl, hsz, hP, hK, hD0⟩ := hv
  have hx := B.exec
  have hb := B.bytes
  have hr := B.returns
  have hts := atoms_spec (ws := wsX1_crash) B.pre
  have hown : s.vm.findClass RX1 = some m.cls := findClass_of_methodNamed B.named
  have hlocks := B.notSynchronized
  have hin : ∀ w ∈ wsX10, w ∈ wsX1_crash := fun _ h => List.mem_cons_of_mem _ (List.mem_append_right _ h)
  have hP : va_P (dC, dI) vwCl [(h0, .inr (1, [.ref h1, .ref h2, .ref h3, .int dn, .int en, .int pw, .int wr, .int cm])), (h1, .inl (c1, 96, .inl mem)), (h2, .inl (c2, 200, .inl dsk)), (h3, .inl (c3, 12, .inl sto))] s.heap := hP
  subst hsz
  have hD := hD0.self (sz := s.heap.size)
  have hA : ∀ q : Nat, s.heap.size ≤ q → (va_A (w1 h0 h1 h2 h3 c1 c2 c3 (mem, dsk, sto, dn, en, pw, wr, cm)) s.heap.size) q := fun q h => Or.inr h
  have hS : va_S (va_A (w1 h0 h1 h2 h3 c1 c2 c3 (mem, dsk, sto, dn, en, pw, wr, cm)) s.heap.size) s.heap s.heap [] := va_S.rf
  have hl := lv_entry ([.ref h0]) (n := 2) (Nat.le_of_ble_eq_true rfl)
  rw [lg_entry_eq]
  generalize (lg_sl ([.ref h0]) ++ List.replicate (2 - (lg_sl ([.ref h0])).length) Slot.unset).toArray = ls at hl ⊢
  have hl : lv_has ls 2 [(0, .ref h0)] := hl
  refine lv_aload_n hx hb dX1_crash_0 rfl (lv_at hl 0 rfl) ?_
  refine va_get (D := (dC, dI)) (ci := 1) (v := .int dn) (C := RX1) (T := TX1) (N := 8) hx hb hts hin hown hK hP 0 rfl rfl 3 (by decide) (hts (.fieldLink RX1 28 "CapStoreModel" "down" "Z") (by decide +kernel)) (fun _ h9 => h9) rfl dX1_crash_1 ?_
  refine lv_istore_n (lv' := [(1, .int dn), (0, .ref h0)]) hx hb dX1_crash_4 rfl hl (by decide) rfl (fun ls hl => ?_)
  refine lv_aload_n hx hb dX1_crash_5 rfl (lv_at hl 1 rfl) ?_
  refine lv_iconst (v := 1) hx hb dX1_crash_6 (by decide) ?_
  refine va_put (D := (dC, dI)) (ci := 1) (v := .int 1) (ty := .boolean) (C := RX1) (T := TX1) (N := 8) hx hb hts hin tyX1 tyX1_ok nmX1 hown hK hP hD hS 0 rfl rfl 3 (by decide) (hts (.fieldLink RX1 28 "CapStoreModel" "down" "Z") (by decide +kernel)) (fun _ h9 => h9) rfl (by decide +kernel) rfl rfl (Nat.le_of_ble_eq_true rfl) dX1_crash_7 (fun H locs hP hD hS => ?_)
  have hP : va_P (dC, dI) vwCl [(h0, .inr (1, [.ref h1, .ref h2, .ref h3, .int 1, .int en, .int pw, .int wr, .int cm])), (h1, .inl (c1, 96, .inl mem)), (h2, .inl (c2, 200, .inl dsk)), (h3, .inl (c3, 12, .inl sto))] _ := hP
  have hD : va_D _ [(h0, .inr (1, [.ref h1, .ref h2, .ref h3, .int 1, .int en, .int pw, .int wr, .int cm])), (h1, .inl (c1, 96, .inl mem)), (h2, .inl (c2, 200, .inl dsk)), (h3, .inl (c3, 12, .inl sto))] := hD
  refine lv_iload_n hx hb dX1_crash_10 rfl (lv_at hl 0 rfl) ?_
  refine lv_if_ne (tgt := 18) hx hb dX1_crash_11 (by decide) (fun c_11 => ?_) (fun c_11 => ?_)
  · skip
    refine lv_iconst (v := 0) hx hb dX1_crash_18 (by decide) ?_
    have e9 : F1_crash mem dsk sto dn en pw wr cm = (0, mem, dsk, sto, 1, en, pw, wr, cm) := by unfold F1_crash; rw [if_neg c_11]
    rw [e9]
    exact retWi hx hb hr hlocks rfl rfl rfl hK hP hD hS dX1_crash_19
  · skip
    refine lv_iconst (v := 1) hx hb dX1_crash_14 (by decide) ?_
    refine lv_goto (tgt := 19) hx hb dX1_crash_15 (by decide) ?_
    have e9 : F1_crash mem dsk sto dn en pw wr cm = (1, mem, dsk, sto, 1, en, pw, wr, cm) := by unfold F1_crash; rw [if_pos c_11]
    rw [e9]
    exact retWi hx hb hr hlocks rfl rfl rfl hK hP hD hS dX1_crash_19
set_option maxHeartbeats 4000000 in
set_option maxRecDepth 100000 in
theorem m1_may (l : Launch) (dC : Nat → ClassId) (dI : Nat → Nat → Nat) (h0 h1 h2 h3 : Nat) (c1 c2 c3 : ClassId) (sz : Nat) (mem dsk sto : Nat → Int32) (dn en pw wr cm : Int32) : Met l yX1_may wsX1_may ({ frames := 0, cells := 0, slots := 0, locals := 0 }) (pcW (dC, dI) (k1 c1 c2 c3) (w1 h0 h1 h2 h3 c1 c2 c3 (mem, dsk, sto, dn, en, pw, wr, cm)) sz [.ref h0]) (qcWi (dC, dI) (k1 c1 c2 c3) (w1 h0 h1 h2 h3 c1 c2 c3 (mem, dsk, sto, dn, en, pw, wr, cm)) (w1 h0 h1 h2 h3 c1 c2 c3 (F1_may mem dsk sto dn en pw wr cm).2) sz (F1_may mem dsk sto dn en pw wr cm).1) 0 0 (va_A (w1 h0 h1 h2 h3 c1 c2 c3 (mem, dsk, sto, dn, en, pw, wr, cm)) sz) := by
  refine Met.ofW (cc := cX1_may) (maxL := 1) (ret := (some .boolean)) (by decide) rfl ?_
  intro p e s m args below meth c s₁ B hml hv
  obtain ⟨rfl, hsz, hP, hK, hD0⟩ := hv
  have hx := B.exec
  have hb := B.bytes
  have hr := B.returns
  have hts := atoms_spec (ws := wsX1_may) B.pre
  have hown : s.vm.findClass RX1 = some m.cls := findClass_of_methodNamed B.named
  have hlocks := B.notSynchronized
  have hin : ∀ w ∈ wsX10, w ∈ wsX1_may := fun _ h => List.mem_cons_of_mem _ (List.mem_append_right _ h)
  have hP : va_P (dC, dI) vwCl [(h0, .inr (1, [.ref h1, .ref h2, .ref h3, .int dn, .int en, .int pw, .int wr, .int cm])), (h1, .inl (c1, 96, .inl mem)), (h2, .inl (c2, 200, .inl dsk)), (h3, .inl (c3, 12, .inl sto))] s.heap := hP
  subst hsz
  have hD := hD0.self (sz := s.heap.size)
  have hA : ∀ q : Nat, s.heap.size ≤ q → (va_A (w1 h0 h1 h2 h3 c1 c2 c3 (mem, dsk, sto, dn, en, pw, wr, cm)) s.heap.size) q := fun q h => Or.inr h
  have hS : va_S (va_A (w1 h0 h1 h2 h3 c1 c2 c3 (mem, dsk, sto, dn, en, pw, wr, cm)) s.heap.size) s.heap s.heap [] := va_S.rf
  have hl := lv_entry ([.ref h0]) (n := 1) (Nat.le_of_ble_eq_true rfl)
  rw [lg_entry_eq]
  generalize (lg_sl ([.ref h0]) ++ List.replicate (1 - (lg_sl ([.ref h0])).length) Slot.unset).toArray = ls at hl ⊢
  have hl : lv_has ls 1 [(0, .ref h0)] := hl
  refine lv_aload_n hx hb dX1_may_0 rfl (lv_at hl 0 rfl) ?_
  refine va_get (D := (dC, dI)) (ci := 1) (v := .int en) (C := RX1) (T := TX1) (N := 8) hx hb hts hin hown hK hP 0 rfl rfl 4 (by decide) (hts (.fieldLink RX1 20 "CapStoreModel" "endless" "Z") (by decide +kernel)) (fun _ h9 => h9) rfl dX1_may_1 ?_
  refine lv_if_ne (tgt := 21) hx hb dX1_may_4 (by decide) (fun c_4 => ?_) (fun c_4 => ?_)
  · skip
    refine lv_aload_n hx hb dX1_may_21 rfl (lv_at hl 0 rfl) ?_
    refine va_get (D := (dC, dI)) (ci := 1) (v := .int en) (C := RX1) (T := TX1) (N := 8) hx hb hts hin hown hK hP 0 rfl rfl 4 (by decide) (hts (.fieldLink RX1 20 "CapStoreModel" "endless" "Z") (by decide +kernel)) (fun _ h9 => h9) rfl dX1_may_22 ?_
    refine lv_if_ne (tgt := 38) hx hb dX1_may_25 (by decide) (fun c_25 => ?_) (fun c_25 => ?_)
    · skip
      refine lv_aload_n hx hb dX1_may_38 rfl (lv_at hl 0 rfl) ?_
      refine lv_dup hx hb dX1_may_39 rfl ?_
      refine va_get (D := (dC, dI)) (ci := 1) (v := .int wr) (C := RX1) (T := TX1) (N := 8) hx hb hts hin hown hK hP 0 rfl rfl 6 (by decide) (hts (.fieldLink RX1 59 "CapStoreModel" "writes" "I") (by decide +kernel)) (fun _ h9 => h9) rfl dX1_may_40 ?_
      refine lv_iconst (v := 1) hx hb dX1_may_43 (by decide) ?_
      refine lv_iadd hx hb dX1_may_44 ?_
      refine va_put (D := (dC, dI)) (ci := 1) (v := .int (wr + 1)) (ty := .int) (C := RX1) (T := TX1) (N := 8) hx hb hts hin tyX1 tyX1_ok nmX1 hown hK hP hD hS 0 rfl rfl 6 (by decide) (hts (.fieldLink RX1 59 "CapStoreModel" "writes" "I") (by decide +kernel)) (fun _ h9 => h9) rfl (by decide +kernel) rfl rfl (Nat.le_of_ble_eq_true rfl) dX1_may_45 (fun H locs hP hD hS => ?_)
      have hP : va_P (dC, dI) vwCl [(h0, .inr (1, [.ref h1, .ref h2, .ref h3, .int dn, .int en, .int pw, .int (wr + 1), .int cm])), (h1, .inl (c1, 96, .inl mem)), (h2, .inl (c2, 200, .inl dsk)), (h3, .inl (c3, 12, .inl sto))] _ := hP
      have hD : va_D _ [(h0, .inr (1, [.ref h1, .ref h2, .ref h3, .int dn, .int en, .int pw, .int (wr + 1), .int cm])), (h1, .inl (c1, 96, .inl mem)), (h2, .inl (c2, 200, .inl dsk)), (h3, .inl (c3, 12, .inl sto))] := hD
      refine lv_iconst (v := 1) hx hb dX1_may_48 (by decide) ?_
      have e9 : F1_may mem dsk sto dn en pw wr cm = (1, mem, dsk, sto, dn, en, pw, (wr + 1), cm) := by unfold F1_may; rw [if_neg c_4]
      rw [e9]
      exact retWi hx hb hr hlocks rfl rfl rfl hK hP hD hS dX1_may_49
    · skip
      exact absurd c_25 (c_4)
  · skip
    refine lv_aload_n hx hb dX1_may_7 rfl (lv_at hl 0 rfl) ?_
    refine va_get (D := (dC, dI)) (ci := 1) (v := .int pw) (C := RX1) (T := TX1) (N := 8) hx hb hts hin hown hK hP 0 rfl rfl 5 (by decide) (hts (.fieldLink RX1 55 "CapStoreModel" "power" "I") (by decide +kernel)) (fun _ h9 => h9) rfl dX1_may_8 ?_
    refine lv_if_ne (tgt := 21) hx hb dX1_may_11 (by decide) (fun c_11 => ?_) (fun c_11 => ?_)
    · skip
      refine lv_aload_n hx hb dX1_may_21 rfl (lv_at hl 0 rfl) ?_
      refine va_get (D := (dC, dI)) (ci := 1) (v := .int en) (C := RX1) (T := TX1) (N := 8) hx hb hts hin hown hK hP 0 rfl rfl 4 (by decide) (hts (.fieldLink RX1 20 "CapStoreModel" "endless" "Z") (by decide +kernel)) (fun _ h9 => h9) rfl dX1_may_22 ?_
      refine lv_if_ne (tgt := 38) hx hb dX1_may_25 (by decide) (fun c_25 => ?_) (fun c_25 => ?_)
      · skip
        exact absurd (c_4) c_25
      · skip
        refine lv_aload_n hx hb dX1_may_28 rfl (lv_at hl 0 rfl) ?_
        refine lv_dup hx hb dX1_may_29 rfl ?_
        refine va_get (D := (dC, dI)) (ci := 1) (v := .int pw) (C := RX1) (T := TX1) (N := 8) hx hb hts hin hown hK hP 0 rfl rfl 5 (by decide) (hts (.fieldLink RX1 55 "CapStoreModel" "power" "I") (by decide +kernel)) (fun _ h9 => h9) rfl dX1_may_30 ?_
        refine lv_iconst (v := 1) hx hb dX1_may_33 (by decide) ?_
        refine lv_isub hx hb dX1_may_34 ?_
        refine va_put (D := (dC, dI)) (ci := 1) (v := .int (pw - 1)) (ty := .int) (C := RX1) (T := TX1) (N := 8) hx hb hts hin tyX1 tyX1_ok nmX1 hown hK hP hD hS 0 rfl rfl 5 (by decide) (hts (.fieldLink RX1 55 "CapStoreModel" "power" "I") (by decide +kernel)) (fun _ h9 => h9) rfl (by decide +kernel) rfl rfl (Nat.le_of_ble_eq_true rfl) dX1_may_35 (fun H locs hP hD hS => ?_)
        have hP : va_P (dC, dI) vwCl [(h0, .inr (1, [.ref h1, .ref h2, .ref h3, .int dn, .int en, .int (pw - 1), .int wr, .int cm])), (h1, .inl (c1, 96, .inl mem)), (h2, .inl (c2, 200, .inl dsk)), (h3, .inl (c3, 12, .inl sto))] _ := hP
        have hD : va_D _ [(h0, .inr (1, [.ref h1, .ref h2, .ref h3, .int dn, .int en, .int (pw - 1), .int wr, .int cm])), (h1, .inl (c1, 96, .inl mem)), (h2, .inl (c2, 200, .inl dsk)), (h3, .inl (c3, 12, .inl sto))] := hD
        refine lv_aload_n hx hb dX1_may_38 rfl (lv_at hl 0 rfl) ?_
        refine lv_dup hx hb dX1_may_39 rfl ?_
        refine va_get (D := (dC, dI)) (ci := 1) (v := .int wr) (C := RX1) (T := TX1) (N := 8) hx hb hts hin hown hK hP 0 rfl rfl 6 (by decide) (hts (.fieldLink RX1 59 "CapStoreModel" "writes" "I") (by decide +kernel)) (fun _ h9 => h9) rfl dX1_may_40 ?_
        refine lv_iconst (v := 1) hx hb dX1_may_43 (by decide) ?_
        refine lv_iadd hx hb dX1_may_44 ?_
        refine va_put (D := (dC, dI)) (ci := 1) (v := .int (wr + 1)) (ty := .int) (C := RX1) (T := TX1) (N := 8) hx hb hts hin tyX1 tyX1_ok nmX1 hown hK hP hD hS 0 rfl rfl 6 (by decide) (hts (.fieldLink RX1 59 "CapStoreModel" "writes" "I") (by decide +kernel)) (fun _ h9 => h9) rfl (by decide +kernel) rfl rfl (Nat.le_of_ble_eq_true rfl) dX1_may_45 (fun H locs hP hD hS => ?_)
        have hP : va_P (dC, dI) vwCl [(h0, .inr (1, [.ref h1, .ref h2, .ref h3, .int dn, .int en, .int (pw - 1), .int (wr + 1), .int cm])), (h1, .inl (c1, 96, .inl mem)), (h2, .inl (c2, 200, .inl dsk)), (h3, .inl (c3, 12, .inl sto))] _ := hP
        have hD : va_D _ [(h0, .inr (1, [.ref h1, .ref h2, .ref h3, .int dn, .int en, .int (pw - 1), .int (wr + 1), .int cm])), (h1, .inl (c1, 96, .inl mem)), (h2, .inl (c2, 200, .inl dsk)), (h3, .inl (c3, 12, .inl sto))] := hD
        refine lv_iconst (v := 1) hx hb dX1_may_48 (by decide) ?_
        have e9 : F1_may mem dsk sto dn en pw wr cm = (1, mem, dsk, sto, dn, en, (pw - 1), (wr + 1), cm) := by unfold F1_may; rw [if_pos c_4, if_neg c_11]
        rw [e9]
        exact retWi hx hb hr hlocks rfl rfl rfl hK hP hD hS dX1_may_49
    · skip
      refine lv_aload_n hx hb dX1_may_14 rfl (lv_at hl 0 rfl) ?_
      refine lv_iconst (v := 1) hx hb dX1_may_15 (by decide) ?_
      refine va_put (D := (dC, dI)) (ci := 1) (v := .int 1) (ty := .boolean) (C := RX1) (T := TX1) (N := 8) hx hb hts hin tyX1 tyX1_ok nmX1 hown hK hP hD hS 0 rfl rfl 3 (by decide) (hts (.fieldLink RX1 28 "CapStoreModel" "down" "Z") (by decide +kernel)) (fun _ h9 => h9) rfl (by decide +kernel) rfl rfl (Nat.le_of_ble_eq_true rfl) dX1_may_16 (fun H locs hP hD hS => ?_)
      have hP : va_P (dC, dI) vwCl [(h0, .inr (1, [.ref h1, .ref h2, .ref h3, .int 1, .int en, .int pw, .int wr, .int cm])), (h1, .inl (c1, 96, .inl mem)), (h2, .inl (c2, 200, .inl dsk)), (h3, .inl (c3, 12, .inl sto))] _ := hP
      have hD : va_D _ [(h0, .inr (1, [.ref h1, .ref h2, .ref h3, .int 1, .int en, .int pw, .int wr, .int cm])), (h1, .inl (c1, 96, .inl mem)), (h2, .inl (c2, 200, .inl dsk)), (h3, .inl (c3, 12, .inl sto))] := hD
      refine lv_iconst (v := 0) hx hb dX1_may_19 (by decide) ?_
      have e9 : F1_may mem dsk sto dn en pw wr cm = (0, mem, dsk, sto, 1, en, pw, wr, cm) := by unfold F1_may; rw [if_pos c_4, if_pos c_11]
      rw [e9]
      exact retWi hx hb hr hlocks rfl rfl rfl hK hP hD hS dX1_may_20
set_option maxHeartbeats 4000000 in
set_option maxRecDepth 100000 in
theorem m1_header (l : Launch) (dC : Nat → ClassId) (dI : Nat → Nat → Nat) (h0 h1 h2 h3 : Nat) (c1 c2 c3 : ClassId) (sz : Nat) (mem dsk sto : Nat → Int32) (dn en pw wr cm : Int32) (x0 : Int32) : Met l yX1_header wsX1_header ({ frames := 0, cells := 0, slots := 0, locals := 0 }) (pcW (dC, dI) (k1 c1 c2 c3) (w1 h0 h1 h2 h3 c1 c2 c3 (mem, dsk, sto, dn, en, pw, wr, cm)) sz [.ref h0, .int x0]) (qcWv (dC, dI) (k1 c1 c2 c3) (w1 h0 h1 h2 h3 c1 c2 c3 (mem, dsk, sto, dn, en, pw, wr, cm)) (w1 h0 h1 h2 h3 c1 c2 c3 (F1_header mem dsk sto dn en pw wr cm x0)) sz) 0 0 (va_A (w1 h0 h1 h2 h3 c1 c2 c3 (mem, dsk, sto, dn, en, pw, wr, cm)) sz) := by
  refine Met.ofW (cc := cX1_header) (maxL := 2) (ret := none) (by decide) rfl ?_
  intro p e s m args below meth c s₁ B hml hv
  obtain ⟨rfl, hsz, hP, hK, hD0⟩ := hv
  have hx := B.exec
  have hb := B.bytes
  have hr := B.returns
  have hts := atoms_spec (ws := wsX1_header) B.pre
  have hown : s.vm.findClass RX1 = some m.cls := findClass_of_methodNamed B.named
  have hlocks := B.notSynchronized
  have hin : ∀ w ∈ wsX10, w ∈ wsX1_header := fun _ h => List.mem_cons_of_mem _ (List.mem_append_right _ h)
  have hP : va_P (dC, dI) vwCl [(h0, .inr (1, [.ref h1, .ref h2, .ref h3, .int dn, .int en, .int pw, .int wr, .int cm])), (h1, .inl (c1, 96, .inl mem)), (h2, .inl (c2, 200, .inl dsk)), (h3, .inl (c3, 12, .inl sto))] s.heap := hP
  subst hsz
  have hD := hD0.self (sz := s.heap.size)
  have hA : ∀ q : Nat, s.heap.size ≤ q → (va_A (w1 h0 h1 h2 h3 c1 c2 c3 (mem, dsk, sto, dn, en, pw, wr, cm)) s.heap.size) q := fun q h => Or.inr h
  have hS : va_S (va_A (w1 h0 h1 h2 h3 c1 c2 c3 (mem, dsk, sto, dn, en, pw, wr, cm)) s.heap.size) s.heap s.heap [] := va_S.rf
  have hl := lv_entry ([.ref h0, .int x0]) (n := 2) (Nat.le_of_ble_eq_true rfl)
  rw [lg_entry_eq]
  generalize (lg_sl ([.ref h0, .int x0]) ++ List.replicate (2 - (lg_sl ([.ref h0, .int x0])).length) Slot.unset).toArray = ls at hl ⊢
  have hl : lv_has ls 2 [(0, .ref h0), (1, .int x0)] := hl
  refine lv_aload_n hx hb dX1_header_0 rfl (lv_at hl 0 rfl) ?_
  refine va_get (D := (dC, dI)) (ci := 1) (v := .ref h2) (C := RX1) (T := TX1) (N := 8) hx hb hts hin hown hK hP 0 rfl rfl 1 (by decide) (hts (.fieldLink RX1 13 "CapStoreModel" "disk" "[I") (by decide +kernel)) (fun _ h9 => h9) rfl dX1_header_1 ?_
  refine lv_sipush (v := 192) hx hb dX1_header_4 (by decide) ?_
  refine lv_iload_n hx hb dX1_header_7 rfl (lv_at hl 1 rfl) ?_
  refine va_iast hx hb hK hP hD hS 2 1 rfl rfl (vp_in_nI (n := 192) (by decide) (by decide)) dX1_header_8 (fun H locs hP hD hS => ?_)
  have hP : va_P (dC, dI) vwCl [(h0, .inr (1, [.ref h1, .ref h2, .ref h3, .int dn, .int en, .int pw, .int wr, .int cm])), (h1, .inl (c1, 96, .inl mem)), (h2, .inl (c2, 200, .inl (upd dsk (192 : Int32).toNatClampNeg x0))), (h3, .inl (c3, 12, .inl sto))] _ := hP
  have hD : va_D _ [(h0, .inr (1, [.ref h1, .ref h2, .ref h3, .int dn, .int en, .int pw, .int wr, .int cm])), (h1, .inl (c1, 96, .inl mem)), (h2, .inl (c2, 200, .inl (upd dsk (192 : Int32).toNatClampNeg x0))), (h3, .inl (c3, 12, .inl sto))] := hD
  have e9 : F1_header mem dsk sto dn en pw wr cm x0 = (mem, (upd dsk (192 : Int32).toNatClampNeg x0), sto, dn, en, pw, wr, cm) := rfl
  rw [e9]
  exact retWv hx hb hr hlocks rfl hK hP hD hS dX1_header_9
