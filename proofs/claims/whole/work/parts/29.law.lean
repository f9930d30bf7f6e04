set_option maxHeartbeats 4000000 in
set_option maxRecDepth 100000 in
/-- THE LAW'S LOOP: at its head both hold related states -/
theorem law_loop {p : Program} {l : Launch} {e : Env} {s : State} {m : MethodId} {below : List Frame} {meth : Method} {c : Code} {dC : Nat → ClassId} {dI : Nat → Nat → Nat} {b L : Nat} {xs : Nat → Int32} {q0 q1 q2 q3 r0 r1 r2 r3 : Nat} {d1 d2 d3 e1 e2 e3 : ClassId} (hL : L ≤ 2560) (C0 : lw_At p s m meth c b L xs) (hK : va_K (dC, dI) vwCl (Kk d1 d2 d3 e1 e2 e3) s) :
    ∀ (n i : Nat), i ≤ L + 5 → L + 6 ≤ i + n → ∀ (mem blk hdr sto : Nat → Int32) (pw en pw' rn dn wr cm : Int32), Inv mem blk hdr → PwR pw en pw' → UpR rn dn → ∀ (H : Heap) (locs : List Loc) (ls : Array Slot), va_P (dC, dI) vwCl (Ww q0 q1 q2 q3 d1 d2 d3 r0 r1 r2 r3 e1 e2 e3 (mem, blk, hdr, nI (sb sto), pw, rn, wr, cm) (mem, blk, sto, dn, en, pw', wr, cm)) H → va_D (fun q : Nat => s.heap.size ≤ q) (Ww q0 q1 q2 q3 d1 d2 d3 r0 r1 r2 r3 e1 e2 e3 (mem, blk, hdr, nI (sb sto), pw, rn, wr, cm) (mem, blk, sto, dn, en, pw', wr, cm)) → va_S (fun q : Nat => s.heap.size ≤ q) s.heap H locs → lv_has ls 4 [(0, .ref b), (1, .ref q0), (2, .ref r0), (3, .int (nI i))] → W p l e room_1 s m #[Value.ref b] below meth c H locs 8 628 (lw_Z below #[Value.ref b] s) (F0 m 18 ls []) := by
  obtain ⟨hx, hb, hr, hml, hown, hts, hX, hbl, hlocks, hgv⟩ := id C0
  have hbA : ¬ (fun q : Nat => s.heap.size ≤ q) b := Nat.not_le.mpr hbl
  intro n
  induction n with
  | zero =>
    intro i h1 h2
    exact absurd h2 (by omega)
  | succ n ih =>
    intro i hi hin mem blk hdr sto pw en pw' rn dn wr cm hI hp hu H locs ls hP hD hS hl
    refine lv_iload_n hx hb dL_law_18 rfl (lv_at hl 3 rfl) ?_
    refine lv_aload_n hx hb dL_law_19 rfl (lv_at hl 0 rfl) ?_
    refine va_slen hx hb hX hbl hbA hS dL_law_20 ?_
    refine lv_iconst (v := 5) hx hb dL_law_21 (by decide) ?_
    refine lv_isub hx hb dL_law_22 ?_
    refine lv_icmp_gt (tgt := 682) hx hb dL_law_23 (by decide) (fun c_23 => ?_) (fun c_23 => ?_)
    · refine lv_iconst (v := 1) hx hb dL_law_682 (by decide) ?_
      refine va_forget (fun q hq => hS.2.2 q hq) ?_
      refine W.widen (k := 8) (n := 628) (Nat.le_refl 8) (Nat.le_refl 628) ?_
      exact lw_ret hx hb hr hlocks dL_law_683
    · have hi5 : i + 5 ≤ L := by
        have h := c_23
        rw [Int32.lt_iff_toInt_lt, nI_toInt (by omega)] at h
        have h2 : (Int32.ofNat L - 5).toInt = (L : Int) - (5 : Nat) := pk_sub_toInt (a := L) (b := 5) (by omega) (by decide)
        rw [h2] at h
        omega
      refine lv_aload_n hx hb dL_law_26 rfl (lv_at hl 0 rfl) ?_
      refine lv_iload_n hx hb dL_law_27 rfl (lv_at hl 3 rfl) ?_
      refine va_sld hx hb hX hbl hbA hS (vp_in_nI (by omega) (by omega)) dL_law_28 ?_
      refine lv_bipush (v := 31) hx hb dL_law_29 (by decide) ?_
      refine lv_iand hx hb dL_law_31 ?_
      refine lv_topi (fun z ez => ?_)
      obtain ⟨k, hk, ek⟩ := pk_andE (xs (nI i).toNatClampNeg) (m := 31) 5 (by decide)
      obtain rfl : z = nI k := ez.trans ek
      have again : ∀ (u v : S0) (H : Heap) (locs : List Loc), Rel u v → va_P (dC, dI) vwCl (Ww q0 q1 q2 q3 d1 d2 d3 r0 r1 r2 r3 e1 e2 e3 u v) H → va_D (fun q : Nat => s.heap.size ≤ q) (Ww q0 q1 q2 q3 d1 d2 d3 r0 r1 r2 r3 e1 e2 e3 u v) → va_S (fun q : Nat => s.heap.size ≤ q) s.heap H locs → W p l e room_1 s m #[Value.ref b] below meth c H locs 8 628 (lw_Z below #[Value.ref b] s) (F0 m 676 ls []) := by
        intro u v H locs hr hP hD hS
        obtain ⟨mem, blk, hdr, sto, pw, en, pw', rn, dn, wr, cm, rfl, rfl, hI, hp, hu⟩ := hr
        refine lv_iinc (v := nI (i + 5)) (lv' := [(3, .int (nI (i + 5))), (0, .ref b), (1, .ref q0), (2, .ref r0)]) hx hb dL_law_676 hl (k := 3) rfl (by rw [show Int32.ofInt 5 = nI 5 from by decide]; exact nI_add i 5) (by decide) rfl (fun ls hl => ?_)
        refine lv_goto (tgt := 18) hx hb dL_law_679 (by decide) ?_
        exact ih (i + 5) (by omega) (by omega) mem blk hdr sto pw en pw' rn dn wr cm hI hp hu _ _ ls hP hD hS (lv_sub hl [1, 2, 3, 0] rfl)
      rcases Nat.lt_or_ge k 18 with hk18 | hk18
      · rcases (show k = 0 ∨ k = 1 ∨ k = 2 ∨ k = 3 ∨ k = 4 ∨ k = 5 ∨ k = 6 ∨ k = 7 ∨ k = 8 ∨ k = 9 ∨ k = 10 ∨ k = 11 ∨ k = 12 ∨ k = 13 ∨ k = 14 ∨ k = 15 ∨ k = 16 ∨ k = 17 by omega) with rfl | rfl | rfl | rfl | rfl | rfl | rfl | rfl | rfl | rfl | rfl | rfl | rfl | rfl | rfl | rfl | rfl | rfl
        · refine lv_tableIn (off := 88) (tgt := 120) hx hb dL_law_32 (by decide) (by decide) (by decide) (by decide) ?_
          exact lc_place hL C0 hi5 hI hp hu hK hP hD hS hl again
        · refine lv_tableIn (off := 131) (tgt := 163) hx hb dL_law_32 (by decide) (by decide) (by decide) (by decide) ?_
          exact lc_fetch hL C0 hi5 hI hp hu hK hP hD hS hl again
        · refine lv_tableIn (off := 184) (tgt := 216) hx hb dL_law_32 (by decide) (by decide) (by decide) (by decide) ?_
          exact lc_store hL C0 hi5 hI hp hu hK hP hD hS hl again
        · refine lv_tableIn (off := 237) (tgt := 269) hx hb dL_law_32 (by decide) (by decide) (by decide) (by decide) ?_
          exact lc_read hL C0 hi5 hI hp hu hK hP hD hS hl again
        · refine lv_tableIn (off := 281) (tgt := 313) hx hb dL_law_32 (by decide) (by decide) (by decide) (by decide) ?_
          exact lc_write hL C0 hi5 hI hp hu hK hP hD hS hl again
        · refine lv_tableIn (off := 334) (tgt := 366) hx hb dL_law_32 (by decide) (by decide) (by decide) (by decide) ?_
          exact lc_restrict hL C0 hi5 hI hp hu hK hP hD hS hl again
        · refine lv_tableIn (off := 387) (tgt := 419) hx hb dL_law_32 (by decide) (by decide) (by decide) (by decide) ?_
          exact lc_clear hL C0 hi5 hI hp hu hK hP hD hS hl again
        · refine lv_tableIn (off := 420) (tgt := 452) hx hb dL_law_32 (by decide) (by decide) (by decide) (by decide) ?_
          exact lc_checkpoint hL C0 hi5 hI hp hu hK hP hD hS hl again
        · refine lv_tableIn (off := 433) (tgt := 465) hx hb dL_law_32 (by decide) (by decide) (by decide) (by decide) ?_
          exact lc_power hL C0 hi5 hI hp hu hK hP hD hS hl again
        · refine lv_tableIn (off := 456) (tgt := 488) hx hb dL_law_32 (by decide) (by decide) (by decide) (by decide) ?_
          exact lc_crash hL C0 hi5 hI hp hu hK hP hD hS hl again
        · refine lv_tableIn (off := 469) (tgt := 501) hx hb dL_law_32 (by decide) (by decide) (by decide) (by decide) ?_
          exact lc_start hL C0 hi5 hI hp hu hK hP hD hS hl again
        · refine lv_tableIn (off := 492) (tgt := 524) hx hb dL_law_32 (by decide) (by decide) (by decide) (by decide) ?_
          exact lc_isUp hL C0 hi5 hI hp hu hK hP hD hS hl again
        · refine lv_tableIn (off := 505) (tgt := 537) hx hb dL_law_32 (by decide) (by decide) (by decide) (by decide) ?_
          exact lc_key hL C0 hi5 hI hp hu hK hP hD hS hl again
        · refine lv_tableIn (off := 538) (tgt := 570) hx hb dL_law_32 (by decide) (by decide) (by decide) (by decide) ?_
          exact lc_word hL C0 hi5 hI hp hu hK hP hD hS hl again
        · refine lv_tableIn (off := 572) (tgt := 604) hx hb dL_law_32 (by decide) (by decide) (by decide) (by decide) ?_
          exact lc_dirty hL C0 hi5 hI hp hu hK hP hD hS hl again
        · refine lv_tableIn (off := 585) (tgt := 617) hx hb dL_law_32 (by decide) (by decide) (by decide) (by decide) ?_
          exact lc_disk hL C0 hi5 hI hp hu hK hP hD hS hl again
        · refine lv_tableIn (off := 618) (tgt := 650) hx hb dL_law_32 (by decide) (by decide) (by decide) (by decide) ?_
          exact lc_writes hL C0 hi5 hI hp hu hK hP hD hS hl again
        · refine lv_tableIn (off := 631) (tgt := 663) hx hb dL_law_32 (by decide) (by decide) (by decide) (by decide) ?_
          exact lc_commits hL C0 hi5 hI hp hu hK hP hD hS hl again
      · refine lv_tableOut (tgt := 676) hx hb dL_law_32 (Or.inr (by rw [nI_toInt (by omega)]; omega)) (by decide) ?_
        exact again _ _ _ _ (rel_mk hI hp hu) hP hD hS
set_option maxHeartbeats 8000000 in
set_option maxRecDepth 100000 in
/-- THE LAW, from its entry -/
theorem whole_start {p : Program} {e : Env} {s : State} {m : MethodId} {below : List Frame} {meth : Method} {c : Code} (l : Launch) {b L : Nat} {xs : Nat → Int32} (hL : L ≤ 2560) (C0 : lw_At p s m meth c b L xs) : W p l e room_1 s m #[Value.ref b] below meth c s.heap [] 0 0 (lw_Z below #[Value.ref b] s) (entryFrame m ([Value.ref b] : List Value).toArray 4) := by
  obtain ⟨hx, hb, hr, hml, hown, hts0, hX, hbl, hlocks, hgv⟩ := id C0
  have hts : ∀ w ∈ wsL_law, w.before #[Value.ref b] s = true := fun w h => hts0 w (wsL_law_in w h)
  have hown : s.vm.findClass RL = some m.cls := hown
  have hA : ∀ q : Nat, s.heap.size ≤ q → (fun q : Nat => s.heap.size ≤ q) q := fun _ h => h
  obtain ⟨cc0, iS0, hKn0⟩ := u_known (C := RX0) (T := TX0) (N := 8) (n := 8) hts inlX0 (hts (.instantiable RX0 8) (by decide +kernel))
  obtain ⟨cc1, iS1, hKn1⟩ := u_known (C := RX1) (T := TX1) (N := 8) (n := 8) hts inlX1 (hts (.instantiable RX1 8) (by decide +kernel))
  obtain ⟨dC, dI, hKc⟩ : ∃ (dC : Nat → ClassId) (dI : Nat → Nat → Nat), ∀ (k : Nat) (q : vw_C), vwCl[k]? = some q → u_Kn s q.1 q.2.1 q.2.2 (dC k) (dI k) := by
    refine ⟨fun k => if k = 0 then cc0 else cc1, fun k => if k = 0 then iS0 else iS1, ?_⟩
    intro k q hq
    match k, hq with
    | 0, hq => cases hq; exact hKn0
    | 1, hq => cases hq; exact hKn1
    | k + 2, hq => simp [vwCl] at hq
  have hS : va_S (fun q : Nat => s.heap.size ≤ q) s.heap s.heap [] := va_S.rf
  have hK : va_K (dC, dI) vwCl [] s := ⟨hKc, fun k q h => by simp at h⟩
  have hP : va_P (dC, dI) vwCl [] s.heap := fun k q h => by simp at h
  have hD : va_D (fun q : Nat => s.heap.size ≤ q) [] := ⟨fun i j p q h => by simp at h, fun k q h => by simp at h⟩
  have hl := lv_entry ([.ref b]) (n := 4) (Nat.le_of_ble_eq_true rfl)
  rw [lg_entry_eq]
  generalize (lg_sl ([.ref b]) ++ List.replicate (4 - (lg_sl ([.ref b])).length) Slot.unset).toArray = ls at hl ⊢
  have hl : lv_has ls 4 [(0, .ref b)] := hl
  refine va_new (ci := 0) (fs := [.null, .null, .null, .int 0, .int 0, .int 0, .int 0, .int 0]) (C := RX0) (T := TX0) (N := 8) hx hb hts inlX0 tyX0 tyX0_ok hown (hts (.classLink RL 7 RX0) (by decide +kernel)) (hts (.instantiable RX0 8) (by decide +kernel)) (hts (.initialized RX0) (by decide +kernel)) hK hP hD hS hA rfl (fun j hj => by rcases (show j = 0 ∨ j = 1 ∨ j = 2 ∨ j = 3 ∨ j = 4 ∨ j = 5 ∨ j = 6 ∨ j = 7 by omega) with rfl | rfl | rfl | rfl | rfl | rfl | rfl | rfl <;> rfl) (Nat.le_of_ble_eq_true rfl) (Nat.le_of_ble_eq_true rfl) dL_law_0 (fun q0 H hP hD hS => ?_)
  have hP : va_P (dC, dI) vwCl [(q0, .inr (0, [.null, .null, .null, .int 0, .int 0, .int 0, .int 0, .int 0]))] H := hP
  have hD : va_D (fun q : Nat => s.heap.size ≤ q) [(q0, .inr (0, [.null, .null, .null, .int 0, .int 0, .int 0, .int 0, .int 0]))] := hD
  refine W.widen (k := 1) (n := 8) (by decide) (by decide) ?_
  refine lv_dup hx hb dL_law_3 rfl ?_
  have hPc := hP.sub (ws' := [(q0, .inr (0, [.null, .null, .null, .int 0, .int 0, .int 0, .int 0, .int 0]))]) [0] rfl
  have hDc := hD.sub (ws' := [(q0, .inr (0, [.null, .null, .null, .int 0, .int 0, .int 0, .int 0, .int 0]))]) [0] (by decide) rfl
  have hKc := hK.sub (tys' := []) [] rfl
  have hFc := va_free (wc := [(q0, .inr (0, [.null, .null, .null, .int 0, .int 0, .int 0, .int 0, .int 0]))]) hD hS hA [0] rfl
  refine va_callv (va_runI (As := []) (rest := [.ref q0]) ⟨hx, hb, hml, hown, hts⟩ (m0_init l dC dI q0 H.size) (cwI 0 hts gL_law_X0_init rfl rfl rfl (hts (.initialized RX0) (by decide +kernel)) (hts (.methodLink RL 9 yX0_init) (by decide +kernel)) (hts (.instanceMethod yX0_init) (by decide +kernel)) rfl (by decide +kernel) ⟨Nat.le_of_ble_eq_true rfl, Nat.le_of_ble_eq_true rfl⟩) ⟨fun a U g mk q => by obtain ⟨q0, q1, qP, qK, qD⟩ := q; exact ⟨q0, q1, qP, va_K.moved (u := U) (U := U.calling g mk a) (Vm.Alike.refl U.vm) qK, qD⟩, fun U hU hW => ⟨rfl, by rw [hU], by rw [hU]; exact hPc, va_K.moved hW.alike hKc, hDc.weaken (fun _ _ _ _ => trivial)⟩⟩ rfl rfl hl.1 rfl (lv_room (Nat.le_of_ble_eq_true rfl)) dL_law_4 ⟨Nat.le_of_ble_eq_true rfl, Nat.le_of_ble_eq_true rfl⟩) hS (fun q _ h => hFc q h) hFc (fun u t H1 locs ht hvm hw hB hz1 hk1 hS => ?_)
  obtain ⟨q1, q2, q3, d1, d2, d3⟩ := u
  obtain ⟨hP1, hK1, hD1⟩ := hB
  rw [ht] at hP1
  have hK1 := va_K.moved hvm.symm hK1
  obtain ⟨hP, hD⟩ := va_join (wr := []) (w1 := (w0 q0 q1 q2 q3 d1 d2 d3 Z0)) hP hD [0] [] rfl rfl (by decide) (by decide) hk1 hFc hP1 hD1
  have hK := (hK.sub (tys' := []) [] rfl).app hK1
  generalize H1 = H at hP hS ⊢
  have hP : va_P (dC, dI) vwCl (w0 q0 q1 q2 q3 d1 d2 d3 Z0) H := hP
  have hD : va_D (fun q : Nat => s.heap.size ≤ q) (w0 q0 q1 q2 q3 d1 d2 d3 Z0) := hD
  have hK : va_K (dC, dI) vwCl (k0 d1 d2 d3) s := hK
  refine W.widen (k := 4) (n := 312) (by decide) (by decide) ?_
  refine lv_astore_n (lv' := [(1, .ref q0), (0, .ref b)]) hx hb dL_law_7 rfl hl (by decide) rfl (fun ls hl => ?_)
  refine va_new (ci := 1) (fs := [.null, .null, .null, .int 0, .int 0, .int 0, .int 0, .int 0]) (C := RX1) (T := TX1) (N := 8) hx hb hts inlX1 tyX1 tyX1_ok hown (hts (.classLink RL 10 RX1) (by decide +kernel)) (hts (.instantiable RX1 8) (by decide +kernel)) (hts (.initialized RX1) (by decide +kernel)) hK hP hD hS hA rfl (fun j hj => by rcases (show j = 0 ∨ j = 1 ∨ j = 2 ∨ j = 3 ∨ j = 4 ∨ j = 5 ∨ j = 6 ∨ j = 7 by omega) with rfl | rfl | rfl | rfl | rfl | rfl | rfl | rfl <;> rfl) (Nat.le_of_ble_eq_true rfl) (Nat.le_of_ble_eq_true rfl) dL_law_8 (fun r0 H hP hD hS => ?_)
  have hP : va_P (dC, dI) vwCl ((w0 q0 q1 q2 q3 d1 d2 d3 Z0) ++ [(r0, .inr (1, [.null, .null, .null, .int 0, .int 0, .int 0, .int 0, .int 0]))]) H := hP
  have hD : va_D (fun q : Nat => s.heap.size ≤ q) ((w0 q0 q1 q2 q3 d1 d2 d3 Z0) ++ [(r0, .inr (1, [.null, .null, .null, .int 0, .int 0, .int 0, .int 0, .int 0]))]) := hD
  refine W.widen (k := 5) (n := 320) (by decide) (by decide) ?_
  refine lv_dup hx hb dL_law_11 rfl ?_
  have hPc := hP.sub (ws' := [(r0, .inr (1, [.null, .null, .null, .int 0, .int 0, .int 0, .int 0, .int 0]))]) [4] rfl
  have hDc := hD.sub (ws' := [(r0, .inr (1, [.null, .null, .null, .int 0, .int 0, .int 0, .int 0, .int 0]))]) [4] (by decide) rfl
  have hKc := hK.sub (tys' := []) [] rfl
  have hFc := va_free (wc := [(r0, .inr (1, [.null, .null, .null, .int 0, .int 0, .int 0, .int 0, .int 0]))]) hD hS hA [4] rfl
  refine va_callv (va_runI (As := []) (rest := [.ref r0]) ⟨hx, hb, hml, hown, hts⟩ (m1_init l dC dI r0 H.size) (cwI 0 hts gL_law_X1_init rfl rfl rfl (hts (.initialized RX1) (by decide +kernel)) (hts (.methodLink RL 12 yX1_init) (by decide +kernel)) (hts (.instanceMethod yX1_init) (by decide +kernel)) rfl (by decide +kernel) ⟨Nat.le_of_ble_eq_true rfl, Nat.le_of_ble_eq_true rfl⟩) ⟨fun a U g mk q => by obtain ⟨q0, q1, qP, qK, qD⟩ := q; exact ⟨q0, q1, qP, va_K.moved (u := U) (U := U.calling g mk a) (Vm.Alike.refl U.vm) qK, qD⟩, fun U hU hW => ⟨rfl, by rw [hU], by rw [hU]; exact hPc, va_K.moved hW.alike hKc, hDc.weaken (fun _ _ _ _ => trivial)⟩⟩ rfl rfl hl.1 rfl (lv_room (Nat.le_of_ble_eq_true rfl)) dL_law_12 ⟨Nat.le_of_ble_eq_true rfl, Nat.le_of_ble_eq_true rfl⟩) hS (fun q _ h => hFc q h) hFc (fun u t H1 locs ht hvm hw hB hz1 hk1 hS => ?_)
  obtain ⟨r1, r2, r3, e1, e2, e3⟩ := u
  obtain ⟨hP1, hK1, hD1⟩ := hB
  rw [ht] at hP1
  have hK1 := va_K.moved hvm.symm hK1
  obtain ⟨hP, hD⟩ := va_join (wr := (w0 q0 q1 q2 q3 d1 d2 d3 Z0)) (w1 := (w1 r0 r1 r2 r3 e1 e2 e3 Z1)) hP hD [4] [0, 1, 2, 3] rfl rfl (by decide) (by decide) hk1 hFc hP1 hD1
  have hK := (hK.sub (tys' := (k0 d1 d2 d3)) [0, 1, 2] rfl).app hK1
  generalize H1 = H at hP hS ⊢
  have hP : va_P (dC, dI) vwCl ((w0 q0 q1 q2 q3 d1 d2 d3 Z0) ++ (w1 r0 r1 r2 r3 e1 e2 e3 Z1)) H := hP
  have hD : va_D (fun q : Nat => s.heap.size ≤ q) ((w0 q0 q1 q2 q3 d1 d2 d3 Z0) ++ (w1 r0 r1 r2 r3 e1 e2 e3 Z1)) := hD
  have hK : va_K (dC, dI) vwCl (Kk d1 d2 d3 e1 e2 e3) s := hK
  refine W.widen (k := 8) (n := 628) (by decide) (by decide) ?_
  refine lv_astore_n (lv' := [(2, .ref r0), (1, .ref q0), (0, .ref b)]) hx hb dL_law_15 rfl hl (by decide) rfl (fun ls hl => ?_)
  refine lv_iconst (v := 0) hx hb dL_law_16 (by decide) ?_
  refine lv_istore_n (lv' := [(3, .int 0), (2, .ref r0), (1, .ref q0), (0, .ref b)]) hx hb dL_law_17 rfl hl (by decide) rfl (fun ls hl => ?_)
  have hki : ∀ f : Nat → Int32, (∀ j, f j = 0) → KI f := fun f h j _ => ⟨0, by omega, h j⟩
  have hI0 : Inv (fun _ => 0) (fun _ => 0) (fun _ => 0) := ⟨fun _ _ _ => rfl, fun _ _ _ => rfl, hki _ (fun _ => rfl), hki _ (fun _ => rfl), hki _ (fun _ => rfl), 0, by decide, rfl⟩
  exact law_loop hL C0 hK (L + 6) 0 (by omega) (by omega) (fun _ => 0) (fun _ => 0) (fun _ => 0) (fun _ => 0) (-1) 1 0 1 0 0 0 hI0 (Or.inl ⟨rfl, rfl⟩) (Or.inl ⟨rfl, rfl⟩) _ _ ls (by rw [sb_0]; exact hP) (by rw [sb_0]; exact hD) hS (lv_sub hl [3, 2, 1, 0] rfl)
