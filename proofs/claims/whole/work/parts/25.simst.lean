section ST
variable {mem blk hdr sto : Nat → Int32} {pw en pw' rn dn wr cm : Int32}
theorem z192 : (192 : Int32).toNatClampNeg = 192 := by decide
theorem z96 : (96 : Int32).toNatClampNeg = 96 := by decide
theorem z00 : (0 : Int32).toNatClampNeg = 0 := by decide
/-- what both do behind the recovery -/
theorem ld_rel (hI : Inv mem blk hdr) (hp : PwR pw en pw') : Rel (va_cpy blk mem 0 0 96, blk, hdr, 0, pw, 1, wr, cm) (ldm blk 96 mem, blk, rst 12 sto, 0, en, pw', wr, cm) := by
  rw [ldm_eq]
  obtain ⟨h1, h2, h3, h4, h5⟩ := hI
  have hk : KI (va_cpy blk mem 0 0 96) := fun j hj => by
    rw [pk_cpy_in (by omega) (by omega), show 0 + (j - 0) = j by omega]; exact h4 j hj
  have h := rel_mk (mem := va_cpy blk mem 0 0 96) (sto := rst 12 sto) (wr := wr) (cm := cm) ⟨h1, h2, hk, h4, h5⟩ hp (rn := 1) (dn := 0) (Or.inl ⟨rfl, rfl⟩)
  rw [sb_rst] at h
  exact h
theorem st_rec_sim (hI : Inv mem blk hdr) {x0 : Int32} (e1 : f0_isPower x0 = 1) (hx : PwR x0 (z1_start_34 x0) x0) (h1 : ¬ x0 < -1) (h2 : x0 ≤ 63) : Sim (F0_start mem blk hdr (nI (sb sto)) pw 0 wr cm x0) (F1_start mem blk sto 1 en pw' wr cm x0) := by
  obtain ⟨M, hM, eM⟩ : ∃ m : Nat, m < 4096 ∧ blk 192 = nI m := hI.2.2.2.2.2
  have np : ¬ f0_isPower x0 = 0 := by rw [e1]; decide
  by_cases hz : M = 0
  · subst hz
    have a0 : F0_start mem blk hdr (nI (sb sto)) pw 0 wr cm x0 = (0, va_cpy blk mem 0 0 96, blk, hdr, 0, x0, 1, wr, cm) := by
      unfold F0_start F0_finishCommitted
      rw [if_pos rfl, if_neg np, z192, z00, z96, eM, if_pos nI_0]; dsimp only; rw [pick1, Int32.sub_self]
    have a1 : F1_start mem blk sto 1 en pw' wr cm x0 = (0, ldm blk 96 mem, blk, rst 12 sto, 0, z1_start_34 x0, x0, wr, cm) := by
      unfold F1_start z1_start_66
      rw [if_neg (by decide), if_neg h1, if_pos h2, z192, eM, if_pos nI_0, z00, F1_st]
    exact Sim.of a0 a1 (ld_rel hI hx)
  · have hne : ¬ nI M = 0 := nI_ne0 (by omega) (by omega)
    have hll := mbs_len M 12
    have hL : ∀ o, o ∈ mbs M 12 → o < 12 := mbs_lt M 12 (Nat.le_refl _)
    have R0 : RelQ 0 1 (mem, blk, hdr, nI (sb sto), x0, 0, wr, cm) (mem, blk, sto, 1, z1_start_34 x0, x0, wr, cm) := ⟨mem, blk, hdr, sto, x0, z1_start_34 x0, x0, wr, cm, rfl, rfl, hI, hx⟩
    generalize hLL : (mbs M 12).length = nn at hll
    have a1 : F1_start mem blk sto 1 en pw' wr cm x0 = F1_st (nI M) (nI (nn + 1)) (nn + 1) 0 (mem, blk, sto, 1, z1_start_34 x0, x0, wr, cm) := by
      unfold F1_start z1_start_66
      rw [if_neg (by decide), if_neg h1, if_pos h2, z192, eM, if_neg hne, num_eq hM, nI_1, hLL, nI_clamp (by omega)]
    have P1 := ph_gen (F1_st (nI M) (nI ((mbs M 12).length + 1))) (-3) (fun o => mw (gr o)) (mbs M 12) 0 (st_hs hM) (mbs M 12) [] (mem, blk, sto, 1, z1_start_34 x0, x0, wr, cm) 1 rfl
    rw [hLL, List.length_nil, Nat.zero_add, Nat.zero_add, nI_0] at P1
    have C1 : F0_copyRows_b mem blk hdr (nI (sb sto)) x0 0 wr cm (nI M) 12 0 = runL (wb 12 0) (mbs M 12) (mem, blk, hdr, nI (sb sto), x0, 0, wr, cm) := run_b hM _ _ _
    rcases run_sim (rn := 0) (dn := 1) (w := wb 12 0) (g := gr) (fun u v o h ho => rec_sim h ho) (mbs M 12) _ _ hL R0 with ⟨u', v', e0, e1, hr⟩ | ⟨u', v', e0, e1, hr, e2, e3⟩
    · rw [e1] at P1
      rw [e0] at C1
      obtain ⟨mem', blk', hdr', sto', pwx, en', pwy, rn', dn', wr', cm', rfl, rfl, -⟩ := id hr
      refine Sim.of (r := -3) ?_ (a1.trans P1) hr
      unfold F0_start F0_finishCommitted
      rw [if_pos rfl, if_neg np, z192, eM, if_neg hne, C1]; rfl
    rw [e1] at P1
    rw [e0] at C1
    obtain ⟨mem1, blk1, hdr1, sto1, pw1, en1, pw1', wr1, cm1, rfl, rfl, hI1, hp1⟩ := id hr
    dsimp only at P1 C1 e2 e3
    rw [pick1] at P1
    have P2 := st_end (m := M) (nn := nn) (f := 0) (mem1, blk1, sto1, 1, en1, pw1', wr1, cm1) hll
    rcases hdr_sim hr (m := 0) (by decide) with ⟨u', v', e0, e1, hr4⟩ | ⟨u', v', e0, e1, hr4, e8, e9⟩
    · rw [nI_0] at e1 e0
      rw [e1] at P2
      obtain ⟨mem', blk', hdr', sto', pwx, en', pwy, rn', dn', wr', cm', rfl, rfl, -⟩ := id hr4
      refine Sim.of (r := -3) ?_ (a1.trans (P1.trans P2)) hr4
      have C4 : F0_writeHeader mem1 blk1 hdr1 (nI (sb sto1)) pw1 0 wr1 cm1 0 = _ := e0
      unfold F0_start F0_finishCommitted
      rw [if_pos rfl, if_neg np, z192, eM, if_neg hne, C1]; dsimp only; rw [pick1, C4]; rfl
    rw [nI_0] at e1 e0
    rw [e1] at P2
    obtain ⟨mem4, blk4, hdr4, sto4, pw4, en4, pw4', wr4, cm4, rfl, rfl, hI4, hp4⟩ := id hr4
    dsimp only at P2 e8 e9
    rw [pick1, F1_st] at P2
    have C4 : F0_writeHeader mem1 blk1 hdr1 (nI (sb sto1)) pw1 0 wr1 cm1 0 = _ := e0
    have ew : wr4 - wr = nI (nn + 1) := by
      rw [e8, e2, hLL, Int32.add_assoc, nI_add, wr_sub]
    have a0 : F0_start mem blk hdr (nI (sb sto)) pw 0 wr cm x0 = (nI (nn + 1), va_cpy blk4 mem4 0 0 96, blk4, hdr4, 0, pw4, 1, wr4, cm4) := by
      unfold F0_start F0_finishCommitted
      rw [if_pos rfl, if_neg np, z192, z00, z96, eM, if_neg hne, C1]; dsimp only; rw [pick1, C4]; dsimp only; rw [pick1]; dsimp only; rw [pick1, ew]
    exact Sim.of a0 (a1.trans (P1.trans P2)) (ld_rel hI4 hp4)
theorem sim_start (hI : Inv mem blk hdr) (hp : PwR pw en pw') (hu : UpR rn dn) (x0 : Int32) : Sim (F0_start mem blk hdr (nI (sb sto)) pw rn wr cm x0) (F1_start mem blk sto dn en pw' wr cm x0) := by
  rcases hu with ⟨rfl, rfl⟩ | ⟨rfl, rfl⟩
  · exact Sim.of (r := -1) rfl rfl (rel_mk hI hp (Or.inl ⟨rfl, rfl⟩))
  · rcases z_pow x0 with ⟨e, c1, c2, c3⟩ | ⟨e, c⟩
    · refine st_rec_sim hI e ?_ c1 c2
      unfold z1_start_34
      rcases c3 with rfl | ⟨n, hn, c4, rfl⟩
      · exact Or.inl ⟨if_pos rfl, rfl⟩
      · exact Or.inr ⟨if_neg c4, n, hn, rfl, rfl⟩
    · refine Sim.of (r := -2) (by unfold F0_start; rw [if_pos rfl, if_pos e]) (v := (mem, blk, sto, 1, en, pw', wr, cm)) ?_ (rel_mk hI hp (Or.inr ⟨rfl, rfl⟩))
      unfold F1_start
      rw [if_neg (by decide)]
      by_cases c1 : x0 < -1
      · rw [if_pos c1]
      · rcases c with c | c
        · exact absurd c c1
        · rw [if_neg c1, if_neg c]
end ST
