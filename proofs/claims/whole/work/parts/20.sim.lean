/-! the two states side by side -/
def Inv (mem blk hdr : Nat → Int32) : Prop := (∀ j, 1 ≤ j → j < 8 → hdr j = 0) ∧ (∀ j, 193 ≤ j → j < 200 → blk j = 0) ∧ KI mem ∧ KI blk ∧ KI (fun j => blk (96 + j)) ∧ ∃ m : Nat, m < 4096 ∧ blk 192 = nI m
def PwR (pw en pw' : Int32) : Prop := (en = 1 ∧ pw = -1) ∨ (en = 0 ∧ ∃ n : Nat, n ≤ 63 ∧ pw = nI n ∧ pw' = nI n)
def UpR (rn dn : Int32) : Prop := (rn = 1 ∧ dn = 0) ∨ (rn = 0 ∧ dn = 1)
def Rel (u v : S0) : Prop := ∃ (mem blk hdr sto : Nat → Int32) (pw en pw' rn dn wr cm : Int32), u = (mem, blk, hdr, nI (sb sto), pw, rn, wr, cm) ∧ v = (mem, blk, sto, dn, en, pw', wr, cm) ∧ Inv mem blk hdr ∧ PwR pw en pw' ∧ UpR rn dn
def Sim (a b : Int32 × S0) : Prop := a.1 = b.1 ∧ Rel a.2 b.2
theorem Sim.of {a b : Int32 × S0} {r : Int32} {u v : S0} (e0 : a = (r, u)) (e1 : b = (r, v)) (h : Rel u v) : Sim a b := by
  rw [e0, e1]; exact ⟨rfl, h⟩
theorem e_row (x : Int32) : f0_isInRow x = f1_eight x := by
  unfold f0_isInRow f1_eight
  have h : (8 ≤ x) ↔ (7 < x) := by
    rw [Int32.le_iff_toInt_le, Int32.lt_iff_toInt_lt, show (8 : Int32).toInt = 8 from by decide, show (7 : Int32).toInt = 7 from by decide]; omega
  simp only [h]
theorem e_node (x : Int32) : f0_isNode x = f1_eight x := e_row x
theorem e_reg (x y : Int32) : f0_isRegister x y = if f1_third x = 0 then 0 else if f1_eight y = 0 then 0 else 1 := by
  unfold f0_isRegister f1_third
  have h : (3 ≤ x) ↔ (2 < x) := by
    rw [Int32.le_iff_toInt_le, Int32.lt_iff_toInt_lt, show (3 : Int32).toInt = 3 from by decide, show (2 : Int32).toInt = 2 from by decide]; omega
  rw [e_row]
  simp only [h]
  by_cases c1 : x < 0
  · rw [if_pos c1, if_pos c1]; rfl
  · rw [if_neg c1, if_neg c1]
    by_cases c2 : 2 < x
    · rw [if_pos c2, if_pos c2]; rfl
    · rw [if_neg c2, if_neg c2]; rfl
theorem e_reg0 {x y : Int32} : f0_isRegister x y = 0 ↔ (f1_third x = 0 ∨ f1_eight y = 0) := by
  rw [e_reg]
  by_cases c1 : f1_third x = 0
  · rw [if_pos c1]; exact ⟨fun _ => Or.inl c1, fun _ => rfl⟩
  · rw [if_neg c1]
    by_cases c2 : f1_eight y = 0
    · rw [if_pos c2]; exact ⟨fun _ => Or.inr c2, fun _ => rfl⟩
    · rw [if_neg c2]; exact ⟨fun h => absurd h (by decide), fun h => by rcases h with h | h; exact absurd h c1; exact absurd h c2⟩
section SIM
variable {mem blk hdr sto : Nat → Int32} {pw en pw' rn dn wr cm : Int32}
theorem rel_mk (hI : Inv mem blk hdr) (hp : PwR pw en pw') (hu : UpR rn dn) : Rel (mem, blk, hdr, nI (sb sto), pw, rn, wr, cm) (mem, blk, sto, dn, en, pw', wr, cm) := ⟨mem, blk, hdr, sto, pw, en, pw', rn, dn, wr, cm, rfl, rfl, hI, hp, hu⟩
theorem ki_upd {j n : Nat} (h : KI mem) (hn : n ≤ 48) : KI (upd mem j (nI n)) := by
  intro k hk
  by_cases c : k = j
  · subst c; exact ⟨n, hn, pk_us⟩
  · rw [pk_un c]; exact h k hk
theorem ki_far {j : Nat} {v : Int32} (h : KI mem) (hj : 64 ≤ j) : KI (upd mem j v) := by
  intro k hk
  rw [pk_un (by omega)]; exact h k hk
theorem rel_put {i j : Nat} {v : Int32} (hi : i < 12) (hj : j < 8) (hv : i < 8 → ∃ n : Nat, n ≤ 48 ∧ v = nI n) (hI : Inv mem blk hdr) (hp : PwR pw en pw') (hu : UpR rn dn) :
    Rel (upd mem (nI i * 8 + nI j).toNatClampNeg v, blk, hdr, nI (sb sto) ||| ((1 : Int32) <<< (nI i &&& 31)), pw, rn, wr, cm) (upd mem (8 * nI i + nI j).toNatClampNeg v, blk, upd sto (nI i).toNatClampNeg (vp_nar .boolean 1), dn, en, pw', wr, cm) := by
  rw [ix_at (by omega), ix1_at (by omega), nI_clamp (by omega), nar1, sh_1 i hi, sb_put sto i hi]
  obtain ⟨h1, h2, h3, h4⟩ := hI
  refine rel_mk ⟨h1, h2, ?_, h4⟩ hp hu
  by_cases c : i < 8
  · obtain ⟨n, hn, rfl⟩ := hv c
    exact ki_upd h3 hn
  · exact ki_far h3 (by omega)
theorem ref_dn (ds : Int32) (z : Int32) : f0_refusal mem blk hdr ds pw 0 wr cm z = -1 := rfl
theorem ref_0 (ds : Int32) : f0_refusal mem blk hdr ds pw 1 wr cm 0 = -2 := rfl
theorem ref_1 (ds : Int32) : f0_refusal mem blk hdr ds pw 1 wr cm 1 = 0 := rfl
/-- place -/
theorem z_place {x0 x1 x2 : Int32} (c : ¬ f1_eight x0 = 0 ∧ ¬ f1_eight x1 = 0 ∧ ¬ x2 < 0 ∧ x2 ≤ 48) : z0_place_27 x0 x1 x2 = 1 := by
  unfold z0_place_27 f0_isKey
  rw [e_node, e_row, if_neg c.1, if_neg c.2.1, if_neg c.2.2.1, if_neg (Int32.not_lt.mpr c.2.2.2)]; rfl
theorem z_place0 {x0 x1 x2 : Int32} (c : ¬ (¬ f1_eight x0 = 0 ∧ ¬ f1_eight x1 = 0 ∧ ¬ x2 < 0 ∧ x2 ≤ 48)) : z0_place_27 x0 x1 x2 = 0 := by
  unfold z0_place_27 f0_isKey
  rw [e_node, e_row]
  by_cases c1 : f1_eight x0 = 0
  · rw [if_pos c1]
  by_cases c2 : f1_eight x1 = 0
  · rw [if_neg c1, if_pos c2]
  by_cases c3 : x2 < 0
  · rw [if_neg c1, if_neg c2, if_pos c3]; rfl
  by_cases c4 : 48 < x2
  · rw [if_neg c1, if_neg c2, if_neg c3, if_pos c4]; rfl
  exact absurd ⟨c1, c2, c3, Int32.not_lt.mp c4⟩ c
theorem sim_place (hI : Inv mem blk hdr) (hp : PwR pw en pw') (hu : UpR rn dn) (x0 x1 x2 : Int32) : Sim (F0_place mem blk hdr (nI (sb sto)) pw rn wr cm x0 x1 x2) (F1_place mem blk sto dn en pw' wr cm x0 x1 x2) := by
  rcases hu with ⟨rfl, rfl⟩ | ⟨rfl, rfl⟩
  · by_cases c : ¬ f1_eight x0 = 0 ∧ ¬ f1_eight x1 = 0 ∧ ¬ x2 < 0 ∧ x2 ≤ 48
    · refine Sim.of (by unfold F0_place; rw [z_place c, ref_1, if_pos rfl]) (by unfold F1_place; rw [if_pos rfl, if_neg c.1, if_neg c.2.1, if_neg c.2.2.1, if_pos c.2.2.2]) ?_
      obtain ⟨i, hi, rfl⟩ := r1_eight c.1
      obtain ⟨j, hj, rfl⟩ := r1_eight c.2.1
      obtain ⟨n, hn, rfl⟩ := rg_le 48 rfl (by decide) c.2.2.1 (Int32.not_lt.mpr c.2.2.2)
      exact rel_put (by omega) hj (fun _ => ⟨n, by omega, rfl⟩) hI hp (Or.inl ⟨rfl, rfl⟩)
    · refine Sim.of (r := -2) (by unfold F0_place; rw [z_place0 c, ref_0]; rfl) (v := (mem, blk, sto, 0, en, pw', wr, cm)) ?_ (rel_mk hI hp (Or.inl ⟨rfl, rfl⟩))
      unfold F1_place
      rw [if_pos rfl]
      by_cases c1 : f1_eight x0 = 0
      · rw [if_pos c1]
      by_cases c2 : f1_eight x1 = 0
      · rw [if_neg c1, if_pos c2]
      by_cases c3 : x2 < 0
      · rw [if_neg c1, if_neg c2, if_pos c3]
      by_cases c4 : x2 ≤ 48
      · exact absurd ⟨c1, c2, c3, c4⟩ c
      rw [if_neg c1, if_neg c2, if_neg c3, if_neg c4]
  · exact Sim.of (r := -1) rfl rfl (rel_mk hI hp (Or.inr ⟨rfl, rfl⟩))
/-- clear -/
theorem sim_clear (hI : Inv mem blk hdr) (hp : PwR pw en pw') (hu : UpR rn dn) (x0 x1 : Int32) : Sim (F0_clear mem blk hdr (nI (sb sto)) pw rn wr cm x0 x1) (F1_clear mem blk sto dn en pw' wr cm x0 x1) := by
  rcases hu with ⟨rfl, rfl⟩ | ⟨rfl, rfl⟩
  · by_cases c1 : f1_third x0 = 0
    · exact Sim.of (r := -2) (by unfold F0_clear; rw [e_reg, if_pos c1, ref_0]; rfl) (by unfold F1_clear; rw [if_pos rfl, if_pos c1]) (rel_mk hI hp (Or.inl ⟨rfl, rfl⟩))
    by_cases c2 : f1_eight x1 = 0
    · exact Sim.of (r := -2) (by unfold F0_clear; rw [e_reg, if_neg c1, if_pos c2, ref_0]; rfl) (by unfold F1_clear; rw [if_pos rfl, if_neg c1, if_pos c2]) (rel_mk hI hp (Or.inl ⟨rfl, rfl⟩))
    refine Sim.of (by unfold F0_clear; rw [e_reg, if_neg c1, if_neg c2, ref_1, if_pos rfl]) (by unfold F1_clear; rw [if_pos rfl, if_neg c1, if_neg c2]) ?_
    obtain ⟨i, hi, rfl⟩ := r1_third c1
    obtain ⟨j, hj, rfl⟩ := r1_eight c2
    exact rel_put (by omega) hj (fun _ => ⟨0, by omega, rfl⟩) hI hp (Or.inl ⟨rfl, rfl⟩)
  · exact Sim.of (r := -1) rfl rfl (rel_mk hI hp (Or.inr ⟨rfl, rfl⟩))
/-- power -/
theorem z_pow (x : Int32) : (f0_isPower x = 1 ∧ ¬ x < -1 ∧ x ≤ 63 ∧ (x = -1 ∨ ∃ n : Nat, n ≤ 63 ∧ ¬ x = -1 ∧ x = nI n)) ∨ (f0_isPower x = 0 ∧ (x < -1 ∨ ¬ x ≤ 63)) := by
  unfold f0_isPower
  by_cases c0 : x = -1
  · subst c0; exact Or.inl ⟨rfl, by decide, by decide, Or.inl rfl⟩
  rw [if_neg c0]
  by_cases c1 : x < 0
  · rw [if_pos c1]
    refine Or.inr ⟨rfl, Or.inl ?_⟩
    have h0 : ¬ x.toInt = (-1 : Int32).toInt := fun q => c0 (Int32.toInt_inj.mp q)
    rw [Int32.lt_iff_toInt_lt] at c1 ⊢
    rw [show (-1 : Int32).toInt = -1 from by decide] at h0 ⊢
    rw [show (0 : Int32).toInt = 0 from by decide] at c1
    omega
  rw [if_neg c1]
  by_cases c2 : 63 < x
  · rw [if_pos c2]; exact Or.inr ⟨rfl, Or.inr (Int32.not_le.mpr c2)⟩
  rw [if_neg c2]
  obtain ⟨n, hn, rfl⟩ := rg_le 63 rfl (by decide) c1 c2
  refine Or.inl ⟨rfl, ?_, Int32.not_lt.mp c2, Or.inr ⟨n, by omega, c0, rfl⟩⟩
  intro q
  apply c1
  rw [Int32.lt_iff_toInt_lt] at q ⊢
  rw [show (-1 : Int32).toInt = -1 from by decide] at q
  rw [show (0 : Int32).toInt = 0 from by decide]
  omega
theorem sim_power (hI : Inv mem blk hdr) (hp : PwR pw en pw') (hu : UpR rn dn) (x0 : Int32) : Sim (F0_power mem blk hdr (nI (sb sto)) pw rn wr cm x0) (F1_power mem blk sto dn en pw' wr cm x0) := by
  rcases hu with ⟨rfl, rfl⟩ | ⟨rfl, rfl⟩
  · rcases z_pow x0 with ⟨e, c1, c2, c3⟩ | ⟨e, c⟩
    · rcases c3 with rfl | ⟨n, hn, c4, rfl⟩
      · exact Sim.of (r := 0) (by unfold F0_power; rw [e, ref_1, if_pos rfl]) (by unfold F1_power; rw [if_pos rfl, if_neg c1, if_pos c2, if_pos rfl]) (rel_mk hI (Or.inl ⟨rfl, rfl⟩) (Or.inl ⟨rfl, rfl⟩))
      · exact Sim.of (r := 0) (by unfold F0_power; rw [e, ref_1, if_pos rfl]) (by unfold F1_power; rw [if_pos rfl, if_neg c1, if_pos c2, if_neg c4]) (rel_mk hI (Or.inr ⟨rfl, n, hn, rfl, rfl⟩) (Or.inl ⟨rfl, rfl⟩))
    · refine Sim.of (r := -2) (by unfold F0_power; rw [e, ref_0]; rfl) (v := (mem, blk, sto, 0, en, pw', wr, cm)) ?_ (rel_mk hI hp (Or.inl ⟨rfl, rfl⟩))
      unfold F1_power
      rw [if_pos rfl]
      by_cases c1 : x0 < -1
      · rw [if_pos c1]
      · rcases c with c | c
        · exact absurd c c1
        · rw [if_neg c1, if_neg c]
  · exact Sim.of (r := -1) rfl rfl (rel_mk hI hp (Or.inr ⟨rfl, rfl⟩))
/-- crash, isUp, writes, commits, dirty -/
theorem sim_crash (hI : Inv mem blk hdr) (hp : PwR pw en pw') (hu : UpR rn dn) : Sim (F0_crash mem blk hdr (nI (sb sto)) pw rn wr cm) (F1_crash mem blk sto dn en pw' wr cm) := by
  rcases hu with ⟨rfl, rfl⟩ | ⟨rfl, rfl⟩
  · exact Sim.of (r := 1) rfl rfl (rel_mk hI hp (Or.inr ⟨rfl, rfl⟩))
  · exact Sim.of (r := 0) rfl rfl (rel_mk hI hp (Or.inr ⟨rfl, rfl⟩))
theorem sim_isUp (hu : UpR rn dn) : f0_isUp mem blk hdr (nI (sb sto)) pw rn wr cm = f1_isUp mem blk sto dn en pw' wr cm := by
  rcases hu with ⟨rfl, rfl⟩ | ⟨rfl, rfl⟩ <;> rfl
theorem sim_dirty (hu : UpR rn dn) : f0_dirty mem blk hdr (nI (sb sto)) pw rn wr cm = f1_dirty mem blk sto dn en pw' wr cm := by
  rcases hu with ⟨rfl, rfl⟩ | ⟨rfl, rfl⟩
  · unfold f0_dirty f1_dirty; rw [if_neg (by decide), if_pos rfl, dt_all]
  · rfl
theorem sim_key (hu : UpR rn dn) (x0 x1 : Int32) : f0_key mem blk hdr (nI (sb sto)) pw rn wr cm x0 x1 = f1_key mem blk sto dn en pw' wr cm x0 x1 := by
  rcases hu with ⟨rfl, rfl⟩ | ⟨rfl, rfl⟩
  · unfold f0_key f1_key z0_key_20
    rw [e_node, e_row, if_pos (rfl : (0 : Int32) = 0)]
    by_cases c1 : f1_eight x0 = 0
    · rw [if_pos c1, if_pos c1, ref_0]; rfl
    by_cases c2 : f1_eight x1 = 0
    · rw [if_neg c1, if_pos c2, if_neg c1, if_pos c2, ref_0]; rfl
    rw [if_neg c1, if_neg c2, if_neg c1, if_neg c2, ref_1, if_pos rfl]
    obtain ⟨i, hi, rfl⟩ := r1_eight c1
    obtain ⟨j, hj, rfl⟩ := r1_eight c2
    unfold f0_get
    rw [ix_at (by omega), ix1_at (by omega)]
  · rfl
theorem sim_disk (x0 x1 : Int32) : f0_disk mem blk hdr (nI (sb sto)) pw rn wr cm x0 x1 = f1_disk mem blk sto dn en pw' wr cm x0 x1 := by
  unfold f0_disk f1_disk f0_isBlock
  have h : (25 ≤ x0) ↔ (24 < x0) := by
    rw [Int32.le_iff_toInt_le, Int32.lt_iff_toInt_lt, show (25 : Int32).toInt = 25 from by decide, show (24 : Int32).toInt = 24 from by decide]; omega
  rw [e_row]
  simp only [h]
  by_cases c1 : x0 < 0
  · rw [if_pos c1, if_pos c1]; rfl
  rw [if_neg c1, if_neg c1]
  by_cases c2 : 24 < x0
  · rw [if_pos c2, if_pos c2]; rfl
  rw [if_neg c2, if_neg c2, if_neg (by decide : ¬ (1 : Int32) = 0)]
  by_cases c3 : f1_eight x1 = 0
  · rw [if_pos c3, if_pos c3]
  rw [if_neg c3, if_neg c3]
  obtain ⟨i, hi, rfl⟩ := rg_le 24 rfl (by decide) c1 c2
  obtain ⟨j, hj, rfl⟩ := r1_eight c3
  rw [ix_at (by omega), ix1_at (by omega)]
theorem sim_word (hu : UpR rn dn) (x0 x1 : Int32) : f0_word mem blk hdr (nI (sb sto)) pw rn wr cm x0 x1 = f1_word mem blk sto dn en pw' wr cm x0 x1 := by
  rcases hu with ⟨rfl, rfl⟩ | ⟨rfl, rfl⟩
  · unfold f0_word f1_word z0_word_20 f0_isPage
    have h : (12 ≤ x0) ↔ (11 < x0) := by
      rw [Int32.le_iff_toInt_le, Int32.lt_iff_toInt_lt, show (12 : Int32).toInt = 12 from by decide, show (11 : Int32).toInt = 11 from by decide]; omega
    rw [e_row, if_pos (rfl : (0 : Int32) = 0)]
    simp only [h]
    by_cases c1 : x0 < 8
    · rw [if_pos c1, if_pos c1, if_pos rfl, ref_0]; rfl
    by_cases c2 : 11 < x0
    · rw [if_neg c1, if_pos c2, if_neg c1, if_pos c2, if_pos rfl, ref_0]; rfl
    rw [if_neg c1, if_neg c2, if_neg c1, if_neg c2, if_neg (by decide : ¬ (1 : Int32) = 0)]
    by_cases c3 : f1_eight x1 = 0
    · rw [if_pos c3, if_pos c3, ref_0]; rfl
    rw [if_neg c3, if_neg c3, ref_1, if_pos rfl]
    obtain ⟨i, hi, rfl⟩ := rg_le 11 rfl (by decide) (rg_nn (k := 8) rfl (by decide) c1) c2
    obtain ⟨j, hj, rfl⟩ := r1_eight c3
    unfold f0_get
    rw [ix_at (by omega), ix1_at (by omega)]
  · unfold f0_word f1_word; rw [ref_dn, if_neg (by decide), if_neg (by decide)]; decide
end SIM
