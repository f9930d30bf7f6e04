/-! checkpoint and start, side by side -/
theorem pick1 {α : Type} {a b : α} : (if (1 : Int32) = 0 then a else b) = b := if_neg (by decide)
theorem pick0 {α : Type} {a b : α} : (if (0 : Int32) = 0 then a else b) = a := if_pos rfl
theorem wr_sub (w k : Int32) : w + k - w = k := by rw [Int32.add_comm]; exact Int32.add_sub_cancel _ _
section CK
variable {mem blk hdr sto : Nat → Int32} {pw en pw' rn dn wr cm : Int32}
theorem set_eq : f1_dirty mem blk sto 0 en pw' wr cm = nI (sb sto) := by
  unfold f1_dirty; rw [if_pos rfl, dt_all]
theorem num_eq {m : Nat} (hm : m < 4096) : f1_inSet mem blk sto dn en pw' wr cm (nI m) = nI (mbs m 12).length := by
  unfold f1_inSet
  have h := is_len (m := m) (by omega) 12 (Nat.le_refl _) 0
  rw [Nat.zero_add] at h
  exact h
theorem cp_hs1 {m : Nat} (hm : m < 4096) : ∀ (k o f : Nat) (v : S0), (mbs m 12)[k]? = some o → F1_cp (nI m) (nI (mbs m 12).length) (f + 1) (nI (0 + k)) v = (match mw (gl o) v with | (r, v1) => if r = 0 then (-2, v1) else F1_cp (nI m) (nI (mbs m 12).length) f (nI (0 + k + 1)) v1) := by
  intro k o f v h
  rw [Nat.zero_add]
  exact cp_log v (mbs_len m 12) (List.getElem?_eq_some_iff.mp h).1 (mb_get (by omega) 12 (Nat.le_refl _) k o h)
theorem cp_hs2 {m : Nat} (hm : m < 4096) : ∀ (k o f : Nat) (v : S0), (mbs m 12)[k]? = some o → F1_cp (nI m) (nI (mbs m 12).length) (f + 1) (nI ((mbs m 12).length + 1 + k)) v = (match mw (gh o) v with | (r, v1) => if r = 0 then (-2, v1) else F1_cp (nI m) (nI (mbs m 12).length) f (nI ((mbs m 12).length + 1 + k + 1)) v1) := by
  intro k o f v h
  exact cp_home v (mbs_len m 12) (List.getElem?_eq_some_iff.mp h).1 (mb_get (by omega) 12 (Nat.le_refl _) k o h)
theorem st_hs {m : Nat} (hm : m < 4096) : ∀ (k o f : Nat) (v : S0), (mbs m 12)[k]? = some o → F1_st (nI m) (nI ((mbs m 12).length + 1)) (f + 1) (nI (0 + k)) v = (match mw (gr o) v with | (r, v1) => if r = 0 then (-3, v1) else F1_st (nI m) (nI ((mbs m 12).length + 1)) f (nI (0 + k + 1)) v1) := by
  intro k o f v h
  rw [Nat.zero_add]
  exact st_rec v (mbs_len m 12) (List.getElem?_eq_some_iff.mp h).1 (mb_get (by omega) 12 (Nat.le_refl _) k o h)
theorem run_m {m : Nat} (hm : m < 4096) (ds x2 x3 : Int32) : F0_copyRows_m mem blk hdr ds pw rn wr cm (nI m) x2 x3 = runL (wm x2 x3) (mbs m 12) (mem, blk, hdr, ds, pw, rn, wr, cm) := cl_run_m (by omega) x2 x3 12 (Nat.le_refl _) _
theorem run_b {m : Nat} (hm : m < 4096) (ds x2 x3 : Int32) : F0_copyRows_b mem blk hdr ds pw rn wr cm (nI m) x2 x3 = runL (wb x2 x3) (mbs m 12) (mem, blk, hdr, ds, pw, rn, wr, cm) := cl_run_b (by omega) x2 x3 12 (Nat.le_refl _) _
theorem wh_eq (ds x : Int32) : F0_writeHeader mem blk hdr ds pw rn wr cm x = wh x (mem, blk, hdr, ds, pw, rn, wr, cm) := rfl
/-- a checkpoint that is cut off -/
theorem ck_cut {u' v' : S0} (hne : ¬ nI (sb sto) = 0) (h0 : F0_saveDirty mem blk hdr (nI (sb sto)) pw 1 wr cm = (0, u')) (h1 : F1_cp (nI (sb sto)) (nI (mbs (sb sto) 12).length) (2 * (mbs (sb sto) 12).length + 2) 0 (mem, blk, sto, 0, en, pw', wr, cm) = (-2, v')) (hr : Rel u' v') : Sim (F0_checkpoint mem blk hdr (nI (sb sto)) pw 1 wr cm) (F1_checkpoint mem blk sto 0 en pw' wr cm) := by
  have hl : ¬ nI (mbs (sb sto) 12).length = 0 := by
    refine nI_ne0 ?_ (by have := mbs_len (sb sto) 12; omega)
    rcases Nat.eq_zero_or_pos (mbs (sb sto) 12).length with q | q
    · exact absurd (by rw [mbs_nil (sb_lt sto) (List.length_eq_zero_iff.mp q)]; rfl) hne
    · exact q
  obtain ⟨mem', blk', hdr', sto', pw1, en', pw2, rn', dn', wr', cm', rfl, rfl, hI, hp, hu⟩ := id hr
  refine Sim.of (r := -2) ?_ ?_ hr
  · unfold F0_checkpoint
    rw [if_neg (by decide), h0]; rfl
  · unfold F1_checkpoint
    rw [if_pos rfl, set_eq, num_eq (sb_lt sto), if_neg hl, nI_clamp (by have := mbs_len (sb sto) 12; omega)]
    exact h1
set_option maxHeartbeats 4000000 in
theorem sim_checkpoint (hI : Inv mem blk hdr) (hp : PwR pw en pw') (hu : UpR rn dn) : Sim (F0_checkpoint mem blk hdr (nI (sb sto)) pw rn wr cm) (F1_checkpoint mem blk sto dn en pw' wr cm) := by
  rcases hu with ⟨rfl, rfl⟩ | ⟨rfl, rfl⟩
  · by_cases hz : sb sto = 0
    · have e0 : F0_checkpoint mem blk hdr (nI (sb sto)) pw 1 wr cm = (0, mem, blk, hdr, 0, pw, 1, wr, cm) := by
        unfold F0_checkpoint F0_saveDirty
        rw [if_neg (by decide), hz, if_pos nI_0]
        dsimp only
        rw [pick1, Int32.sub_self]
      have e1 : F1_checkpoint mem blk sto 0 en pw' wr cm = (0, mem, blk, sto, 0, en, pw', wr, cm) := by
        unfold F1_checkpoint
        rw [if_pos rfl, set_eq, num_eq (sb_lt sto), hz, mbs_0, List.length_nil, if_pos nI_0]
      refine Sim.of e0 e1 ?_
      have h := rel_mk (sto := sto) (wr := wr) (cm := cm) hI hp (rn := 1) (dn := 0) (Or.inl ⟨rfl, rfl⟩)
      rw [hz] at h
      exact h
    · have hlt := sb_lt sto
      have hne : ¬ nI (sb sto) = 0 := nI_ne0 (by omega) (by omega)
      have hll := mbs_len (sb sto) 12
      have hpos : 0 < (mbs (sb sto) 12).length := by
        rcases Nat.eq_zero_or_pos (mbs (sb sto) 12).length with q | q
        · exact absurd (mbs_nil hlt (List.length_eq_zero_iff.mp q)) hz
        · exact q
      have hL : ∀ o, o ∈ mbs (sb sto) 12 → o < 12 := mbs_lt (sb sto) 12 (Nat.le_refl _)
      generalize hM : sb sto = M at hne hlt hz hpos hll hL
      have hM2 : nI (sb sto) = nI M := by rw [hM]
      generalize hLL : (mbs M 12).length = nn at hpos hll
      have R0 : RelQ 1 0 (mem, blk, hdr, nI (sb sto), pw, 1, wr, cm) (mem, blk, sto, 0, en, pw', wr, cm) := ⟨mem, blk, hdr, sto, pw, en, pw', wr, cm, rfl, rfl, hI, hp⟩
      have P1 := ph_gen (F1_cp (nI M) (nI (mbs M 12).length)) (-2) (fun o => mw (gl o)) (mbs M 12) 0 (cp_hs1 hlt) (mbs M 12) [] (mem, blk, sto, 0, en, pw', wr, cm) (nn + 2) rfl
      rw [hLL, List.length_nil, show nn + (nn + 2) = 2 * nn + 2 by omega, Nat.zero_add, Nat.zero_add, nI_0] at P1
      have C1 : F0_copyRows_m mem blk hdr (nI M) pw 1 wr cm (nI M) 0 12 = runL (wm 0 12) (mbs M 12) (mem, blk, hdr, nI (sb sto), pw, 1, wr, cm) := by rw [run_m hlt, hM2]
      have cut : ∀ u' v' : S0, F0_saveDirty mem blk hdr (nI M) pw 1 wr cm = (0, u') → F1_cp (nI M) (nI nn) (2 * nn + 2) 0 (mem, blk, sto, 0, en, pw', wr, cm) = (-2, v') → Rel u' v' → Sim (F0_checkpoint mem blk hdr (nI M) pw 1 wr cm) (F1_checkpoint mem blk sto 0 en pw' wr cm) := by
        intro u' v' h0 h1 hr
        have h := ck_cut (mem := mem) (blk := blk) (hdr := hdr) (sto := sto) (pw := pw) (en := en) (pw' := pw') (wr := wr) (cm := cm) (u' := u') (v' := v')
        rw [hM, hLL] at h
        exact h hne h0 h1 hr
      rcases run_sim (rn := 1) (dn := 0) (w := wm 0 12) (g := gl) (fun u v o h ho => log_sim h ho) (mbs M 12) _ _ hL R0 with ⟨u', v', e0, e1, hr⟩ | ⟨u', v', e0, e1, hr, e2, e3⟩
      · rw [e1] at P1
        rw [e0] at C1
        obtain ⟨mem', blk', hdr', sto', pw1, en', pw2, rn', dn', wr', cm', rfl, rfl, -⟩ := id hr
        refine cut _ _ ?_ P1 hr
        unfold F0_saveDirty
        rw [if_neg hne, C1]; rfl
      rw [e1] at P1
      rw [e0] at C1
      obtain ⟨mem1, blk1, hdr1, sto1, pw1, en1, pw1', wr1, cm1, rfl, rfl, hI1, hp1⟩ := id hr
      dsimp only at P1 C1 e2 e3
      rw [pick1] at P1
      have e3 : nI (sb sto1) = nI M := e3.trans hM2
      have P2 := cp_hdr (m := M) (nn := nn) (f := nn + 1) (mem1, blk1, sto1, 0, en1, pw1', wr1, cm1) hll
      rcases hdr_sim hr (m := M) hlt with ⟨u', v', e0, e1, hr2⟩ | ⟨u', v', e0, e1, hr2, e4, e5⟩
      · rw [e1] at P2
        obtain ⟨mem', blk', hdr', sto', pw1, en', pw2, rn', dn', wr', cm', rfl, rfl, -⟩ := id hr2
        refine cut _ _ ?_ (P1.trans P2) hr2
        unfold F0_saveDirty
        rw [if_neg hne, C1]; dsimp only; rw [pick1, e3, wh_eq, ← e3]
        rw [e3] at e0 ⊢
        rw [e0]; rfl
      rw [e1] at P2
      obtain ⟨mem2, blk2, hdr2, sto2, pw2, en2, pw2', wr2, cm2, rfl, rfl, hI2, hp2⟩ := id hr2
      dsimp only at P2 e4 e5
      rw [pick1] at P2
      have e5 : nI (sb sto2) = nI M := e5.trans e3
      have R2 : RelQ 1 0 (mem2, blk2, hdr2, nI (sb sto2), pw2, 1, wr2, cm2 + 1) (mem2, blk2, sto2, 0, en2, pw2', wr2, cm2 + 1) := ⟨mem2, blk2, hdr2, sto2, pw2, en2, pw2', wr2, cm2 + 1, rfl, rfl, hI2, hp2⟩
      have C2 : F0_writeHeader mem1 blk1 hdr1 (nI M) pw1 1 wr1 cm1 (nI M) = (1, mem2, blk2, hdr2, nI M, pw2, 1, wr2, cm2) := by
        rw [e3, e5] at e0; exact e0
      have P3 := ph_gen (F1_cp (nI M) (nI (mbs M 12).length)) (-2) (fun o => mw (gh o)) (mbs M 12) (nn + 1) (by rw [← hLL]; exact cp_hs2 hlt) (mbs M 12) [] (mem2, blk2, sto2, 0, en2, pw2', wr2, cm2 + 1) 1 rfl
      rw [hLL, List.length_nil, Nat.add_zero, show nn + 1 + nn = 2 * nn + 1 by omega] at P3
      have C3 : F0_copyRows_m mem2 blk2 hdr2 (nI M) pw2 1 wr2 (cm2 + 1) (nI M) 0 0 = runL (wm 0 0) (mbs M 12) (mem2, blk2, hdr2, nI (sb sto2), pw2, 1, wr2, cm2 + 1) := by rw [run_m hlt, e5]
      rcases run_sim (rn := 1) (dn := 0) (w := wm 0 0) (g := gh) (fun u v o h ho => home_sim h ho) (mbs M 12) _ _ hL R2 with ⟨u', v', e0, e1, hr3⟩ | ⟨u', v', e0, e1, hr3, e6, e7⟩
      · rw [e1] at P3
        rw [e0] at C3
        obtain ⟨mem', blk', hdr', sto', pw1, en', pw2, rn', dn', wr', cm', rfl, rfl, -⟩ := id hr3
        refine cut _ _ ?_ (P1.trans (P2.trans P3)) hr3
        unfold F0_saveDirty
        rw [if_neg hne, C1]; dsimp only; rw [pick1, e3, C2]; dsimp only; rw [pick1, C3]; rfl
      rw [e1] at P3
      rw [e0] at C3
      obtain ⟨mem3, blk3, hdr3, sto3, pw3, en3, pw3', wr3, cm3, rfl, rfl, hI3, hp3⟩ := id hr3
      dsimp only at P3 C3 e6 e7
      rw [pick1] at P3
      have e7 : nI (sb sto3) = nI M := e7.trans e5
      have P4 := cp_end (m := M) (nn := nn) (f := 0) (mem3, blk3, sto3, 0, en3, pw3', wr3, cm3) hll
      rcases hdr_sim hr3 (m := 0) (by decide) with ⟨u', v', e0, e1, hr4⟩ | ⟨u', v', e0, e1, hr4, e8, e9⟩
      · rw [nI_0] at e1 e0
        rw [e1] at P4
        obtain ⟨mem', blk', hdr', sto', pw1, en', pw2, rn', dn', wr', cm', rfl, rfl, -⟩ := id hr4
        refine cut _ _ ?_ (P1.trans (P2.trans (P3.trans P4))) hr4
        have C4 : F0_writeHeader mem3 blk3 hdr3 (nI (sb sto3)) pw3 1 wr3 cm3 0 = _ := e0
        unfold F0_saveDirty
        rw [if_neg hne, C1]; dsimp only; rw [pick1, e3, C2]; dsimp only; rw [pick1, C3]; dsimp only; rw [pick1, C4]; rfl
      rw [nI_0] at e1 e0
      rw [e1] at P4
      obtain ⟨mem4, blk4, hdr4, sto4, pw4, en4, pw4', wr4, cm4, rfl, rfl, hI4, hp4⟩ := id hr4
      dsimp only at P4 e8 e9
      rw [pick1, F1_cp] at P4
      have C4 : F0_writeHeader mem3 blk3 hdr3 (nI (sb sto3)) pw3 1 wr3 cm3 0 = _ := e0
      have hl : ¬ nI nn = 0 := nI_ne0 hpos (by omega)
      have ew : wr4 - wr = 2 * nI nn + 2 := by
        rw [e8, e6, e4, e2, hLL, ck_t, Int32.add_assoc, Int32.add_assoc, Int32.add_assoc, nI_add, nI_add, nI_add, wr_sub]; congr 1; omega
      have a0 : F0_checkpoint mem blk hdr (nI M) pw 1 wr cm = (2 * nI nn + 2, mem4, blk4, hdr4, 0, pw4, 1, wr4, cm4) := by
        unfold F0_checkpoint F0_saveDirty
        rw [if_neg (by decide), if_neg hne, C1]; dsimp only; rw [pick1, e3, C2]; dsimp only; rw [pick1, C3]; dsimp only; rw [pick1, C4]; dsimp only; rw [pick1]; dsimp only; rw [pick1, ew]
      have a1 : F1_checkpoint mem blk sto 0 en pw' wr cm = (2 * nI nn + 2, mem4, blk4, rst 12 sto4, 0, en4, pw4', wr4, cm4) := by
        unfold F1_checkpoint
        rw [if_pos rfl, set_eq, num_eq (sb_lt sto), hM, hLL, if_neg hl, nI_clamp (by omega)]
        exact P1.trans (P2.trans (P3.trans P4))
      refine Sim.of a0 a1 ?_
      have h := rel_mk (sto := rst 12 sto4) (wr := wr4) (cm := cm4) hI4 hp4 (rn := 1) (dn := 0) (Or.inl ⟨rfl, rfl⟩)
      rw [sb_rst] at h
      exact h
  · exact Sim.of (r := -1) rfl rfl (rel_mk hI hp (Or.inr ⟨rfl, rfl⟩))
end CK
