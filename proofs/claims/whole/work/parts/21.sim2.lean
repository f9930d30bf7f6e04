/-! keys: 49 of them, so their tables are looked up -/
theorem kt_obj : ∀ n, n < 49 → (f0_isNodeKey (nI n) = 0 ∧ (f1_object (nI n) = 12 ∨ ¬ f1_object (nI n) ≤ 7)) ∨ (¬ f0_isNodeKey (nI n) = 0 ∧ ¬ f1_object (nI n) = 12 ∧ f1_object (nI n) ≤ 7 ∧ 0 < n ∧ n < 33) := by decide +kernel
theorem kt_pg : ∀ n, n < 49 → (f0_isPageKey (nI n) = 0 ∧ (f1_object (nI n) = 12 ∨ f1_object (nI n) ≤ 7)) ∨ (¬ f0_isPageKey (nI n) = 0 ∧ ¬ f1_object (nI n) = 12 ∧ ¬ f1_object (nI n) ≤ 7 ∧ 32 < n) := by decide +kernel
theorem kt_wr : ∀ n, n < 49 → 0 < n → (f0_isWriting (nI n) = 0 ↔ ¬ f1_limits (nI n) = 0) := by decide +kernel
theorem kt_weak : ∀ n, n < 49 → 0 < n → (f0_isWeak (nI n) = 0 ↔ f1_limits (nI n) < 2) := by decide +kernel
theorem kt_lim : ∀ n, n < 49 → ∀ l, l < 4 → f0_limited (nI n) (nI l) = f1_limited (nI n) (nI l) ∧ (f0_limited (nI n) (nI l)).toNatClampNeg ≤ 48 ∧ f0_limited (nI n) (nI l) = nI (f0_limited (nI n) (nI l)).toNatClampNeg := by decide +kernel
theorem kt_ob : ∀ n, n < 49 → 0 < n → f0_objectOf (nI n) = nI ((n - 1) / 4) ∧ f1_object (nI n) = nI ((n - 1) / 4) := by decide +kernel
section SIM2
variable {mem blk hdr sto : Nat → Int32} {ds pw en pw' rn dn wr cm : Int32} {x0 x1 x2 x3 x4 z : Int32}
theorem nr_bad (h : f1_third x0 = 0 ∨ f1_eight x1 = 0 ∨ z = 0) : f0_nodeRefusal mem blk hdr ds pw 1 wr cm x0 x1 z = -2 := by
  have e : z0_nodeRefusal_18 x0 x1 z = 0 := by
    unfold z0_nodeRefusal_18
    by_cases c : f0_isRegister x0 x1 = 0
    · rw [if_pos c]
    · rw [if_neg c]
      have : z = 0 := by
        rcases h with h | h | h
        · exact absurd (e_reg0.mpr (Or.inl h)) c
        · exact absurd (e_reg0.mpr (Or.inr h)) c
        · exact h
      rw [if_pos this]
  unfold f0_nodeRefusal
  rw [e, ref_0]; rfl
theorem nr_ok (c1 : ¬ f1_third x0 = 0) (c2 : ¬ f1_eight x1 = 0) (c3 : ¬ z = 0) : f0_nodeRefusal mem blk hdr ds pw 1 wr cm x0 x1 z = if f0_isNodeKey (f0_get mem blk hdr ds pw 1 wr cm x0 x1) = 0 then -3 else 0 := by
  have e : z0_nodeRefusal_18 x0 x1 z = 1 := by
    unfold z0_nodeRefusal_18
    rw [e_reg, if_neg c1, if_neg c2, if_neg (by decide), if_neg c3]
  unfold f0_nodeRefusal
  rw [e, ref_1, if_pos rfl]
theorem pr_bad (h : f1_third x0 = 0 ∨ f1_eight x1 = 0 ∨ z = 0) : f0_pageRefusal mem blk hdr ds pw 1 wr cm x0 x1 z = -2 := by
  have e : z0_pageRefusal_18 x0 x1 z = 0 := by
    unfold z0_pageRefusal_18
    by_cases c : f0_isRegister x0 x1 = 0
    · rw [if_pos c]
    · rw [if_neg c]
      have : z = 0 := by
        rcases h with h | h | h
        · exact absurd (e_reg0.mpr (Or.inl h)) c
        · exact absurd (e_reg0.mpr (Or.inr h)) c
        · exact h
      rw [if_pos this]
  unfold f0_pageRefusal
  rw [e, ref_0]; rfl
theorem pr_ok (c1 : ¬ f1_third x0 = 0) (c2 : ¬ f1_eight x1 = 0) (c3 : ¬ z = 0) : f0_pageRefusal mem blk hdr ds pw 1 wr cm x0 x1 z = if f0_isPageKey (f0_get mem blk hdr ds pw 1 wr cm x0 x1) = 0 then -3 else 0 := by
  have e : z0_pageRefusal_18 x0 x1 z = 1 := by
    unfold z0_pageRefusal_18
    rw [e_reg, if_neg c1, if_neg c2, if_neg (by decide), if_neg c3]
  unfold f0_pageRefusal
  rw [e, ref_1, if_pos rfl]
theorem rr_bad (h : f1_third x0 = 0 ∨ f1_eight x1 = 0 ∨ f1_eight x2 = 0) : f1_refusal mem blk sto 0 en pw' wr cm x0 x1 x2 x3 x4 = -2 := by
  unfold f1_refusal
  rw [if_pos rfl]
  by_cases c1 : f1_third x0 = 0
  · rw [if_pos c1]
  by_cases c2 : f1_eight x1 = 0
  · rw [if_neg c1, if_pos c2]
  by_cases c3 : f1_eight x2 = 0
  · rw [if_neg c1, if_neg c2, if_pos c3]
  rcases h with h | h | h
  · exact absurd h c1
  · exact absurd h c2
  · exact absurd h c3
theorem rr_n3 (c1 : ¬ f1_third x0 = 0) (c2 : ¬ f1_eight x1 = 0) (c3 : ¬ f1_eight x2 = 0) (c4 : f1_object (mem (8 * x0 + x1).toNatClampNeg) = 12 ∨ ¬ f1_object (mem (8 * x0 + x1).toNatClampNeg) ≤ 7) : f1_refusal mem blk sto 0 en pw' wr cm x0 x1 x2 0 x4 = -3 := by
  unfold f1_refusal
  rw [if_pos rfl, if_neg c1, if_neg c2, if_neg c3]
  by_cases c : f1_object (mem (8 * x0 + x1).toNatClampNeg) = 12
  · rw [if_pos c]
  · rcases c4 with c4 | c4
    · exact absurd c4 c
    · rw [if_neg c, if_neg c4, if_neg (by decide)]
theorem rr_n0 (c1 : ¬ f1_third x0 = 0) (c2 : ¬ f1_eight x1 = 0) (c3 : ¬ f1_eight x2 = 0) (c4 : ¬ f1_object (mem (8 * x0 + x1).toNatClampNeg) = 12) (c5 : f1_object (mem (8 * x0 + x1).toNatClampNeg) ≤ 7) : f1_refusal mem blk sto 0 en pw' wr cm x0 x1 x2 0 x4 = if x4 = 0 then 0 else if f1_limits (mem (8 * x0 + x1).toNatClampNeg) = 0 then 0 else -4 := by
  unfold f1_refusal
  rw [if_pos rfl, if_neg c1, if_neg c2, if_neg c3, if_neg c4, if_pos c5, if_pos rfl]
theorem rr_p3 (c1 : ¬ f1_third x0 = 0) (c2 : ¬ f1_eight x1 = 0) (c3 : ¬ f1_eight x2 = 0) (c4 : f1_object (mem (8 * x0 + x1).toNatClampNeg) = 12 ∨ f1_object (mem (8 * x0 + x1).toNatClampNeg) ≤ 7) : f1_refusal mem blk sto 0 en pw' wr cm x0 x1 x2 1 x4 = -3 := by
  unfold f1_refusal
  rw [if_pos rfl, if_neg c1, if_neg c2, if_neg c3]
  by_cases c : f1_object (mem (8 * x0 + x1).toNatClampNeg) = 12
  · rw [if_pos c]
  · rcases c4 with c4 | c4
    · exact absurd c4 c
    · rw [if_neg c, if_pos c4, if_neg (by decide)]
theorem rr_p0 (c1 : ¬ f1_third x0 = 0) (c2 : ¬ f1_eight x1 = 0) (c3 : ¬ f1_eight x2 = 0) (c4 : ¬ f1_object (mem (8 * x0 + x1).toNatClampNeg) = 12) (c5 : ¬ f1_object (mem (8 * x0 + x1).toNatClampNeg) ≤ 7) : f1_refusal mem blk sto 0 en pw' wr cm x0 x1 x2 1 x4 = if x4 = 0 then 0 else if f1_limits (mem (8 * x0 + x1).toNatClampNeg) = 0 then 0 else -4 := by
  unfold f1_refusal
  rw [if_pos rfl, if_neg c1, if_neg c2, if_neg c3, if_neg c4, if_neg c5, if_pos rfl]
theorem rr_dn : f1_refusal mem blk sto 1 en pw' wr cm x0 x1 x2 x3 x4 = -1 := rfl
theorem nr_dn : f0_nodeRefusal mem blk hdr ds pw 0 wr cm x0 x1 z = -1 := rfl
theorem pr_dn : f0_pageRefusal mem blk hdr ds pw 0 wr cm x0 x1 z = -1 := rfl
theorem rr_ne1 (hk : KI mem) : ¬ f1_refusal mem blk sto 0 en pw' wr cm x0 x1 x2 0 x4 = -1 := by
  by_cases c1 : f1_third x0 = 0
  · rw [rr_bad (Or.inl c1)]; decide
  by_cases c2 : f1_eight x1 = 0
  · rw [rr_bad (Or.inr (Or.inl c2))]; decide
  by_cases c3 : f1_eight x2 = 0
  · rw [rr_bad (Or.inr (Or.inr c3))]; decide
  by_cases c4 : f1_object (mem (8 * x0 + x1).toNatClampNeg) = 12
  · rw [rr_n3 c1 c2 c3 (Or.inl c4)]; decide
  by_cases c5 : f1_object (mem (8 * x0 + x1).toNatClampNeg) ≤ 7
  · rw [rr_n0 c1 c2 c3 c4 c5]
    by_cases c6 : x4 = 0
    · rw [if_pos c6]; decide
    by_cases c7 : f1_limits (mem (8 * x0 + x1).toNatClampNeg) = 0
    · rw [if_neg c6, if_pos c7]; decide
    · rw [if_neg c6, if_neg c7]; decide
  · rw [rr_n3 c1 c2 c3 (Or.inr c5)]; decide
theorem z_f0 (h : f1_eight x2 = 0 ∨ f1_eight x3 = 0) : z0_fetch_23 x2 x3 = 0 := by
  unfold z0_fetch_23
  rw [e_row, e_row]
  by_cases c1 : f1_eight x2 = 0
  · rw [if_pos c1]
  · rcases h with h | h
    · exact absurd h c1
    · rw [if_neg c1, if_pos h]
theorem z_f1 (c1 : ¬ f1_eight x2 = 0) (c2 : ¬ f1_eight x3 = 0) : z0_fetch_23 x2 x3 = 1 := by
  unfold z0_fetch_23
  rw [e_row, e_row, if_neg c1, if_neg c2]
/-- fetch -/
theorem sim_fetch (hI : Inv mem blk hdr) (hp : PwR pw en pw') (hu : UpR rn dn) (x0 x1 x2 x3 : Int32) : Sim (F0_fetch mem blk hdr (nI (sb sto)) pw rn wr cm x0 x1 x2 x3) (F1_fetch mem blk sto dn en pw' wr cm x0 x1 x2 x3) := by
  have hk : KI mem := hI.2.2.1
  rcases hu with ⟨rfl, rfl⟩ | ⟨rfl, rfl⟩
  · have hu : UpR 1 0 := Or.inl ⟨rfl, rfl⟩
    by_cases c4 : f1_eight x3 = 0
    · exact Sim.of (r := -2) (by unfold F0_fetch; rw [z_f0 (Or.inr c4), nr_bad (Or.inr (Or.inr rfl))]; rfl) (by unfold F1_fetch; rw [if_neg (rr_ne1 hk), if_pos c4]) (rel_mk hI hp hu)
    by_cases cb : f1_third x0 = 0 ∨ f1_eight x1 = 0 ∨ f1_eight x2 = 0
    · refine Sim.of (r := -2) (u := (mem, blk, hdr, nI (sb sto), pw, 1, wr, cm)) ?_ (by unfold F1_fetch; rw [rr_bad cb, if_neg (by decide), if_neg c4, if_neg (by decide)]) (rel_mk hI hp hu)
      unfold F0_fetch
      have e : f0_nodeRefusal mem blk hdr (nI (sb sto)) pw 1 wr cm x0 x1 (z0_fetch_23 x2 x3) = -2 := by
        rcases cb with c | c | c
        · exact nr_bad (Or.inl c)
        · exact nr_bad (Or.inr (Or.inl c))
        · exact nr_bad (Or.inr (Or.inr (z_f0 (Or.inl c))))
      rw [e]; rfl
    have c1 : ¬ f1_third x0 = 0 := fun q => cb (Or.inl q)
    have c2 : ¬ f1_eight x1 = 0 := fun q => cb (Or.inr (Or.inl q))
    have c3 : ¬ f1_eight x2 = 0 := fun q => cb (Or.inr (Or.inr q))
    have en0 := nr_ok (mem := mem) (blk := blk) (hdr := hdr) (ds := nI (sb sto)) (pw := pw) (wr := wr) (cm := cm) c1 c2 (show ¬ z0_fetch_23 x2 x3 = 0 by rw [z_f1 c3 c4]; decide)
    have n3 := rr_n3 (mem := mem) (blk := blk) (sto := sto) (en := en) (pw' := pw') (wr := wr) (cm := cm) (x4 := 0) c1 c2 c3
    have n0 := rr_n0 (mem := mem) (blk := blk) (sto := sto) (en := en) (pw' := pw') (wr := wr) (cm := cm) (x4 := 0) c1 c2 c3
    unfold F0_fetch F1_fetch z0_fetch_79 z1_fetch_91
    rw [en0]
    unfold f0_get
    obtain ⟨i, hi, rfl⟩ := r1_third c1
    obtain ⟨j, hj, rfl⟩ := r1_eight c2
    obtain ⟨b, hb, rfl⟩ := r1_eight c3
    obtain ⟨d, hd, rfl⟩ := r1_eight c4
    rw [ix1_at (by omega)] at n3 n0
    rw [ix_at (a := i) (b := j) (by omega), ix1_at (a := i) (b := j) (by omega)]
    obtain ⟨n, hn, ek⟩ := hk (i * 8 + j) (by omega)
    rw [ek] at n3 n0 ⊢
    rcases kt_obj n (by omega) with ⟨k1, k2⟩ | ⟨k1, k2, k3, k4, k5⟩
    · exact Sim.of (r := -3) (by rw [if_pos k1]; rfl) (by rw [n3 k2, if_neg (by decide), if_neg c4, if_neg (by decide)]) (rel_mk hI hp hu)
    · obtain ⟨o1, o2⟩ := kt_ob n (by omega) k4
      rw [if_neg k1, n0 k2 k3, if_pos rfl, if_pos rfl, if_neg (by decide : ¬ (0 : Int32) = -1), if_neg c4, if_pos rfl, o1, o2, ix_at (a := (n - 1) / 4) (b := b) (by omega), ix1_at (a := (n - 1) / 4) (b := b) (by omega)]
      obtain ⟨n2, hn2, ek2⟩ := hk ((n - 1) / 4 * 8 + b) (by omega)
      rw [ek2]
      by_cases cw : f1_limits (nI n) < 2
      · rw [if_pos ((kt_weak n (by omega) k4).mpr cw), if_pos cw]
        exact ⟨rfl, rel_put (by omega) hd (fun _ => ⟨n2, hn2, rfl⟩) hI hp hu⟩
      · rw [if_neg (fun q => cw ((kt_weak n (by omega) k4).mp q)), if_neg cw]
        obtain ⟨l1, l2, l3⟩ := kt_lim n2 (by omega) 3 (by decide)
        have l1 : f0_limited (nI n2) 3 = f1_limited (nI n2) 3 := l1
        rw [← l1]
        exact ⟨rfl, rel_put (by omega) hd (fun _ => ⟨_, l2, l3⟩) hI hp hu⟩
  · exact Sim.of (r := -1) rfl rfl (rel_mk hI hp (Or.inr ⟨rfl, rfl⟩))
/-- store -/
theorem sim_store (hI : Inv mem blk hdr) (hp : PwR pw en pw') (hu : UpR rn dn) (x0 x1 x2 x3 : Int32) : Sim (F0_store mem blk hdr (nI (sb sto)) pw rn wr cm x0 x1 x2 x3) (F1_store mem blk sto dn en pw' wr cm x0 x1 x2 x3) := by
  have hk : KI mem := hI.2.2.1
  rcases hu with ⟨rfl, rfl⟩ | ⟨rfl, rfl⟩
  · have hu : UpR 1 0 := Or.inl ⟨rfl, rfl⟩
    by_cases c4 : f1_eight x3 = 0
    · exact Sim.of (r := -2) (by unfold F0_store; rw [show z0_store_23 x2 x3 = 0 from z_f0 (Or.inr c4), nr_bad (Or.inr (Or.inr rfl))]; rfl) (by unfold F1_store; rw [if_neg (rr_ne1 hk), if_pos c4]) (rel_mk hI hp hu)
    by_cases cb : f1_third x0 = 0 ∨ f1_eight x1 = 0 ∨ f1_eight x2 = 0
    · refine Sim.of (r := -2) (u := (mem, blk, hdr, nI (sb sto), pw, 1, wr, cm)) ?_ (by unfold F1_store; rw [rr_bad cb, if_neg (by decide), if_neg c4, if_neg (by decide)]) (rel_mk hI hp hu)
      unfold F0_store
      have e : f0_nodeRefusal mem blk hdr (nI (sb sto)) pw 1 wr cm x0 x1 (z0_store_23 x2 x3) = -2 := by
        rcases cb with c | c | c
        · exact nr_bad (Or.inl c)
        · exact nr_bad (Or.inr (Or.inl c))
        · exact nr_bad (Or.inr (Or.inr (z_f0 (Or.inl c))))
      rw [e]; rfl
    have c1 : ¬ f1_third x0 = 0 := fun q => cb (Or.inl q)
    have c2 : ¬ f1_eight x1 = 0 := fun q => cb (Or.inr (Or.inl q))
    have c3 : ¬ f1_eight x2 = 0 := fun q => cb (Or.inr (Or.inr q))
    have en0 := nr_ok (mem := mem) (blk := blk) (hdr := hdr) (ds := nI (sb sto)) (pw := pw) (wr := wr) (cm := cm) c1 c2 (show ¬ z0_store_23 x2 x3 = 0 by rw [show z0_store_23 x2 x3 = 1 from z_f1 c3 c4]; decide)
    have n3 := rr_n3 (mem := mem) (blk := blk) (sto := sto) (en := en) (pw' := pw') (wr := wr) (cm := cm) (x4 := 1) c1 c2 c3
    have n0 := rr_n0 (mem := mem) (blk := blk) (sto := sto) (en := en) (pw' := pw') (wr := wr) (cm := cm) (x4 := 1) c1 c2 c3
    unfold F0_store F1_store
    rw [en0]
    unfold f0_get
    obtain ⟨i, hi, rfl⟩ := r1_third c1
    obtain ⟨j, hj, rfl⟩ := r1_eight c2
    obtain ⟨b, hb, rfl⟩ := r1_eight c3
    obtain ⟨d, hd, rfl⟩ := r1_eight c4
    rw [ix1_at (by omega)] at n3 n0
    rw [ix_at (a := i) (b := j) (by omega), ix1_at (a := i) (b := j) (by omega), ix_at (a := i) (b := d) (by omega), ix1_at (a := i) (b := d) (by omega)]
    obtain ⟨n, hn, ek⟩ := hk (i * 8 + j) (by omega)
    rw [ek] at n3 n0 ⊢
    rcases kt_obj n (by omega) with ⟨k1, k2⟩ | ⟨k1, k2, k3, k4, k5⟩
    · exact Sim.of (r := -3) (by rw [if_pos k1]; rfl) (by rw [n3 k2, if_neg (by decide), if_neg c4, if_neg (by decide)]) (rel_mk hI hp hu)
    · obtain ⟨o1, o2⟩ := kt_ob n (by omega) k4
      rw [if_neg k1, n0 k2 k3, if_pos rfl, if_neg (by decide : ¬ (1 : Int32) = 0), o1, o2]
      by_cases cw : f1_limits (nI n) = 0
      · rw [if_neg (fun q => (kt_wr n (by omega) k4).mp q cw), if_pos cw, if_neg (by decide), if_neg c4, if_pos rfl]
        obtain ⟨n2, hn2, ek2⟩ := hk (i * 8 + d) (by omega)
        exact ⟨rfl, rel_put (by omega) hb (fun _ => ⟨n2, hn2, ek2⟩) hI hp hu⟩
      · rw [if_pos ((kt_wr n (by omega) k4).mpr cw), if_neg cw, if_neg (by decide), if_neg c4, if_neg (by decide)]
        exact ⟨rfl, rel_mk hI hp hu⟩
  · exact Sim.of (r := -1) rfl rfl (rel_mk hI hp (Or.inr ⟨rfl, rfl⟩))
/-- write -/
theorem sim_write (hI : Inv mem blk hdr) (hp : PwR pw en pw') (hu : UpR rn dn) (x0 x1 x2 x3 : Int32) : Sim (F0_write mem blk hdr (nI (sb sto)) pw rn wr cm x0 x1 x2 x3) (F1_write mem blk sto dn en pw' wr cm x0 x1 x2 x3) := by
  have hk : KI mem := hI.2.2.1
  rcases hu with ⟨rfl, rfl⟩ | ⟨rfl, rfl⟩
  · have hu : UpR 1 0 := Or.inl ⟨rfl, rfl⟩
    by_cases cb : f1_third x0 = 0 ∨ f1_eight x1 = 0 ∨ f1_eight x2 = 0
    · refine Sim.of (r := -2) (u := (mem, blk, hdr, nI (sb sto), pw, 1, wr, cm)) ?_ (by unfold F1_write; rw [rr_bad cb, if_neg (by decide)]) (rel_mk hI hp hu)
      unfold F0_write
      have e : f0_pageRefusal mem blk hdr (nI (sb sto)) pw 1 wr cm x0 x1 (f0_isInRow x2) = -2 := by
        rw [e_row]; exact pr_bad cb
      rw [e]; rfl
    have c1 : ¬ f1_third x0 = 0 := fun q => cb (Or.inl q)
    have c2 : ¬ f1_eight x1 = 0 := fun q => cb (Or.inr (Or.inl q))
    have c3 : ¬ f1_eight x2 = 0 := fun q => cb (Or.inr (Or.inr q))
    have en0 := pr_ok (mem := mem) (blk := blk) (hdr := hdr) (ds := nI (sb sto)) (pw := pw) (wr := wr) (cm := cm) c1 c2 (show ¬ f0_isInRow x2 = 0 by rw [e_row]; exact c3)
    have n3 := rr_p3 (mem := mem) (blk := blk) (sto := sto) (en := en) (pw' := pw') (wr := wr) (cm := cm) (x4 := 1) c1 c2 c3
    have n0 := rr_p0 (mem := mem) (blk := blk) (sto := sto) (en := en) (pw' := pw') (wr := wr) (cm := cm) (x4 := 1) c1 c2 c3
    unfold F0_write F1_write
    rw [en0]
    unfold f0_get
    obtain ⟨i, hi, rfl⟩ := r1_third c1
    obtain ⟨j, hj, rfl⟩ := r1_eight c2
    obtain ⟨b, hb, rfl⟩ := r1_eight c3
    rw [ix1_at (by omega)] at n3 n0
    rw [ix_at (a := i) (b := j) (by omega), ix1_at (a := i) (b := j) (by omega)]
    obtain ⟨n, hn, ek⟩ := hk (i * 8 + j) (by omega)
    rw [ek] at n3 n0 ⊢
    rcases kt_pg n (by omega) with ⟨k1, k2⟩ | ⟨k1, k2, k3, k4⟩
    · exact Sim.of (r := -3) (by rw [if_pos k1]; rfl) (by rw [n3 k2, if_neg (by decide)]) (rel_mk hI hp hu)
    · obtain ⟨o1, o2⟩ := kt_ob n (by omega) (by omega)
      rw [if_neg k1, n0 k2 k3, if_pos rfl, if_neg (by decide : ¬ (1 : Int32) = 0), o1, o2]
      by_cases cw : f1_limits (nI n) = 0
      · rw [if_neg (fun q => (kt_wr n (by omega) (by omega)).mp q cw), if_pos cw, if_pos rfl]
        exact ⟨rfl, rel_put (by omega) hb (fun q => by omega) hI hp hu⟩
      · rw [if_pos ((kt_wr n (by omega) (by omega)).mpr cw), if_neg cw, if_neg (by decide)]
        exact ⟨rfl, rel_mk hI hp hu⟩
  · exact Sim.of (r := -1) rfl rfl (rel_mk hI hp (Or.inr ⟨rfl, rfl⟩))
/-- read -/
theorem sim_read (hI : Inv mem blk hdr) (hu : UpR rn dn) (x0 x1 x2 : Int32) : f0_read mem blk hdr (nI (sb sto)) pw rn wr cm x0 x1 x2 = f1_read mem blk sto dn en pw' wr cm x0 x1 x2 := by
  have hk : KI mem := hI.2.2.1
  rcases hu with ⟨rfl, rfl⟩ | ⟨rfl, rfl⟩
  · by_cases cb : f1_third x0 = 0 ∨ f1_eight x1 = 0 ∨ f1_eight x2 = 0
    · unfold f0_read f1_read
      rw [e_row, pr_bad cb, rr_bad cb, if_neg (by decide), if_neg (by decide)]
    have c1 : ¬ f1_third x0 = 0 := fun q => cb (Or.inl q)
    have c2 : ¬ f1_eight x1 = 0 := fun q => cb (Or.inr (Or.inl q))
    have c3 : ¬ f1_eight x2 = 0 := fun q => cb (Or.inr (Or.inr q))
    have en0 := pr_ok (mem := mem) (blk := blk) (hdr := hdr) (ds := nI (sb sto)) (pw := pw) (wr := wr) (cm := cm) c1 c2 (show ¬ f0_isInRow x2 = 0 by rw [e_row]; exact c3)
    have n3 := rr_p3 (mem := mem) (blk := blk) (sto := sto) (en := en) (pw' := pw') (wr := wr) (cm := cm) (x4 := 0) c1 c2 c3
    have n0 := rr_p0 (mem := mem) (blk := blk) (sto := sto) (en := en) (pw' := pw') (wr := wr) (cm := cm) (x4 := 0) c1 c2 c3
    unfold f0_read f1_read
    rw [en0]
    unfold f0_get
    obtain ⟨i, hi, rfl⟩ := r1_third c1
    obtain ⟨j, hj, rfl⟩ := r1_eight c2
    obtain ⟨b, hb, rfl⟩ := r1_eight c3
    rw [ix1_at (by omega)] at n3 n0
    rw [ix_at (a := i) (b := j) (by omega), ix1_at (a := i) (b := j) (by omega)]
    obtain ⟨n, hn, ek⟩ := hk (i * 8 + j) (by omega)
    rw [ek] at n3 n0 ⊢
    rcases kt_pg n (by omega) with ⟨k1, k2⟩ | ⟨k1, k2, k3, k4⟩
    · rw [if_pos k1, n3 k2, if_neg (by decide), if_neg (by decide)]
    · obtain ⟨o1, o2⟩ := kt_ob n (by omega) (by omega)
      rw [if_neg k1, n0 k2 k3, if_pos rfl, if_pos (rfl : (0 : Int32) = 0), if_pos rfl, o1, o2, ix_at (by omega), ix1_at (by omega)]
  · unfold f0_read f1_read; rw [pr_dn, rr_dn, if_neg (by decide), if_neg (by decide)]
/-- restrict -/
theorem sim_restrict (hI : Inv mem blk hdr) (hp : PwR pw en pw') (hu : UpR rn dn) (x0 x1 x2 x3 : Int32) : Sim (F0_restrict mem blk hdr (nI (sb sto)) pw rn wr cm x0 x1 x2 x3) (F1_restrict mem blk sto dn en pw' wr cm x0 x1 x2 x3) := by
  have hk : KI mem := hI.2.2.1
  rcases hu with ⟨rfl, rfl⟩ | ⟨rfl, rfl⟩
  · have hu : UpR 1 0 := Or.inl ⟨rfl, rfl⟩
    by_cases c : ¬ f1_third x0 = 0 ∧ ¬ f1_eight x1 = 0 ∧ ¬ f1_eight x3 = 0 ∧ ¬ x2 < 0 ∧ x2 ≤ 3
    · obtain ⟨c1, c2, c3, c4, c5⟩ := c
      have ez : z0_restrict_29 x0 x1 x2 x3 = 1 := by
        unfold z0_restrict_29 f0_isLimits
        rw [e_reg, e_row, if_neg c1, if_neg c2, if_neg (by decide), if_neg c4, if_neg (Int32.not_lt.mpr c5), if_neg (by decide), if_neg c3]
      unfold F0_restrict F1_restrict
      rw [ez, ref_1, if_pos rfl, if_pos rfl, if_neg c1, if_neg c2, if_neg c3, if_neg c4, if_pos c5]
      unfold f0_get
      obtain ⟨i, hi, rfl⟩ := r1_third c1
      obtain ⟨j, hj, rfl⟩ := r1_eight c2
      obtain ⟨d, hd, rfl⟩ := r1_eight c3
      obtain ⟨k, hk4, rfl⟩ := rg_le 3 rfl (by decide) c4 (Int32.not_lt.mpr c5)
      rw [ix_at (a := i) (b := j) (by omega), ix1_at (a := i) (b := j) (by omega)]
      obtain ⟨n, hn, ek⟩ := hk (i * 8 + j) (by omega)
      rw [ek]
      obtain ⟨l1, l2, l3⟩ := kt_lim n (by omega) k (by omega)
      rw [← l1]
      exact ⟨rfl, rel_put (by omega) hd (fun _ => ⟨_, l2, l3⟩) hI hp hu⟩
    · have ez : z0_restrict_29 x0 x1 x2 x3 = 0 := by
        unfold z0_restrict_29 f0_isLimits
        rw [e_row]
        by_cases c1 : f0_isRegister x0 x1 = 0
        · rw [if_pos c1]
        by_cases c4 : x2 < 0
        · rw [if_neg c1, if_pos c4]; rfl
        by_cases c5 : 3 < x2
        · rw [if_neg c1, if_neg c4, if_pos c5]; rfl
        by_cases c3 : f1_eight x3 = 0
        · rw [if_neg c1, if_neg c4, if_neg c5, if_neg (by decide), if_pos c3]
        · exact absurd ⟨fun q => c1 (e_reg0.mpr (Or.inl q)), fun q => c1 (e_reg0.mpr (Or.inr q)), c3, c4, Int32.not_lt.mp c5⟩ c
      refine Sim.of (r := -2) (by unfold F0_restrict; rw [ez, ref_0]; rfl) (v := (mem, blk, sto, 0, en, pw', wr, cm)) ?_ (rel_mk hI hp hu)
      unfold F1_restrict
      rw [if_pos rfl]
      by_cases c1 : f1_third x0 = 0
      · rw [if_pos c1]
      by_cases c2 : f1_eight x1 = 0
      · rw [if_neg c1, if_pos c2]
      by_cases c3 : f1_eight x3 = 0
      · rw [if_neg c1, if_neg c2, if_pos c3]
      by_cases c4 : x2 < 0
      · rw [if_neg c1, if_neg c2, if_neg c3, if_pos c4]
      by_cases c5 : x2 ≤ 3
      · exact absurd ⟨c1, c2, c3, c4, c5⟩ c
      rw [if_neg c1, if_neg c2, if_neg c3, if_neg c4, if_neg c5]
  · exact Sim.of (r := -1) rfl rfl (rel_mk hI hp (Or.inr ⟨rfl, rfl⟩))
end SIM2
