/-! block writes of both, side by side -/
def RelQ (rn dn : Int32) (u v : S0) : Prop := ∃ (mem blk hdr sto : Nat → Int32) (pw en pw' wr cm : Int32), u = (mem, blk, hdr, nI (sb sto), pw, rn, wr, cm) ∧ v = (mem, blk, sto, dn, en, pw', wr, cm) ∧ Inv mem blk hdr ∧ PwR pw en pw'
/-- both cut off, or both through, with k blocks more -/
def Out (rn dn : Int32) (k : Nat) (u : S0) (a b : Int32 × S0) : Prop := (∃ u' v' : S0, a = (0, u') ∧ b = (0, v') ∧ Rel u' v') ∨ (∃ u' v' : S0, a = (1, u') ∧ b = (1, v') ∧ RelQ rn dn u' v' ∧ u'.2.2.2.2.2.2.1 = u.2.2.2.2.2.2.1 + nI k ∧ u'.2.2.2.1 = u.2.2.2.1)
section SD
variable {mem blk hdr sto : Nat → Int32} {ds pw en pw' rn dn wr cm : Int32}
theorem may_cases (hp : PwR pw en pw') : (pw = 0 ∧ F1_may mem blk sto dn en pw' wr cm = (0, mem, blk, sto, 1, en, pw', wr, cm)) ∨ (¬ pw = 0 ∧ ∃ q q' : Int32, PwR q en q' ∧ q = (if pw = -1 then pw else pw - 1) ∧ F1_may mem blk sto dn en pw' wr cm = (1, mem, blk, sto, dn, en, q', wr + 1, cm)) := by
  rcases hp with ⟨rfl, rfl⟩ | ⟨rfl, n, hn, rfl, rfl⟩
  · exact Or.inr ⟨by decide, -1, pw', Or.inl ⟨rfl, rfl⟩, rfl, rfl⟩
  · cases n with
    | zero => exact Or.inl ⟨nI_0, by unfold F1_may; rw [if_pos rfl, if_pos nI_0]⟩
    | succ n =>
      have h0 : ¬ nI (n + 1) = 0 := nI_ne0 (by omega) (by omega)
      have h1 : ¬ nI (n + 1) = -1 := fun q => nI_pos (n := n + 1) (by omega) (by rw [q]; decide)
      exact Or.inr ⟨h0, nI n, nI n, Or.inr ⟨rfl, n, by omega, rfl, rfl⟩, by rw [if_neg h1, nI_pred], by unfold F1_may; rw [if_pos rfl, if_neg h0, nI_pred]⟩
theorem wbm_0 (h : pw = 0) (x0 x2 : Int32) : F0_writeBlock_m mem blk hdr ds pw rn wr cm x0 x2 = (0, mem, blk, hdr, ds, pw, 0, wr, cm) := by
  unfold F0_writeBlock_m; rw [if_pos h]
theorem wbm_1 (h : ¬ pw = 0) (x0 x2 : Int32) : F0_writeBlock_m mem blk hdr ds pw rn wr cm x0 x2 = (1, mem, va_cpy mem blk (x2 * 8).toNatClampNeg (x0 * 8).toNatClampNeg (8 : Int32).toNatClampNeg, hdr, ds, (if pw = -1 then pw else pw - 1), rn, wr + 1, cm) := by
  unfold F0_writeBlock_m; rw [if_neg h]
  by_cases c : pw = -1
  · rw [if_pos c, if_pos c]
  · rw [if_neg c, if_neg c]
theorem wbb_0 (h : pw = 0) (x0 x2 : Int32) : F0_writeBlock_b mem blk hdr ds pw rn wr cm x0 x2 = (0, mem, blk, hdr, ds, pw, 0, wr, cm) := by
  unfold F0_writeBlock_b; rw [if_pos h]
theorem wbb_1 (h : ¬ pw = 0) (x0 x2 : Int32) : F0_writeBlock_b mem blk hdr ds pw rn wr cm x0 x2 = (1, mem, va_cpy blk blk (x2 * 8).toNatClampNeg (x0 * 8).toNatClampNeg (8 : Int32).toNatClampNeg, hdr, ds, (if pw = -1 then pw else pw - 1), rn, wr + 1, cm) := by
  unfold F0_writeBlock_b; rw [if_neg h]
  by_cases c : pw = -1
  · rw [if_pos c, if_pos c]
  · rw [if_neg c, if_neg c]
theorem wbh_0 (h : pw = 0) (x0 x2 : Int32) : F0_writeBlock_h mem blk hdr ds pw rn wr cm x0 x2 = (0, mem, blk, hdr, ds, pw, 0, wr, cm) := by
  unfold F0_writeBlock_h; rw [if_pos h]
theorem wbh_1 (h : ¬ pw = 0) (x0 x2 : Int32) : F0_writeBlock_h mem blk hdr ds pw rn wr cm x0 x2 = (1, mem, va_cpy hdr blk (x2 * 8).toNatClampNeg (x0 * 8).toNatClampNeg (8 : Int32).toNatClampNeg, hdr, ds, (if pw = -1 then pw else pw - 1), rn, wr + 1, cm) := by
  unfold F0_writeBlock_h; rw [if_neg h]
  by_cases c : pw = -1
  · rw [if_pos c, if_pos c]
  · rw [if_neg c, if_neg c]
theorem a8 {a : Nat} (h : a < 25) : (nI a * 8).toNatClampNeg = a * 8 := by rw [m8, nI_clamp (by omega)]
theorem inv_log (hI : Inv mem blk hdr) {o : Nat} (ho : o < 12) : Inv mem (va_cpy mem blk (o * 8) ((12 + o) * 8) 8) hdr := by
  obtain ⟨h1, h2, h3, h4, h5, m, hm, h6⟩ := hI
  refine ⟨h1, fun j a b => ?_, h3, fun j hj => ?_, fun j hj => ?_, m, hm, ?_⟩
  · rw [pk_cpy_out (by omega)]; exact h2 j a b
  · rw [pk_cpy_out (by omega)]; exact h4 j hj
  · show ∃ n : Nat, n ≤ 48 ∧ va_cpy mem blk (o * 8) ((12 + o) * 8) 8 (96 + j) = nI n
    by_cases c : (12 + o) * 8 ≤ 96 + j ∧ 96 + j < (12 + o) * 8 + 8
    · rw [pk_cpy_in c.1 c.2]; exact h3 _ (by omega)
    · rw [pk_cpy_out (by omega)]; exact h5 j hj
  · rw [pk_cpy_out (by omega)]; exact h6
theorem inv_home (hI : Inv mem blk hdr) {o : Nat} (ho : o < 12) : Inv mem (va_cpy mem blk (o * 8) (o * 8) 8) hdr := by
  obtain ⟨h1, h2, h3, h4, h5, m, hm, h6⟩ := hI
  refine ⟨h1, fun j a b => ?_, h3, fun j hj => ?_, fun j hj => ?_, m, hm, ?_⟩
  · rw [pk_cpy_out (by omega)]; exact h2 j a b
  · by_cases c : o * 8 ≤ j ∧ j < o * 8 + 8
    · rw [pk_cpy_in c.1 c.2]; exact h3 _ (by omega)
    · rw [pk_cpy_out (by omega)]; exact h4 j hj
  · show ∃ n : Nat, n ≤ 48 ∧ va_cpy mem blk (o * 8) (o * 8) 8 (96 + j) = nI n
    rw [pk_cpy_out (by omega)]; exact h5 j hj
  · rw [pk_cpy_out (by omega)]; exact h6
theorem inv_rec (hI : Inv mem blk hdr) {o : Nat} (ho : o < 12) : Inv mem (va_cpy blk blk ((12 + o) * 8) (o * 8) 8) hdr := by
  obtain ⟨h1, h2, h3, h4, h5, m, hm, h6⟩ := hI
  refine ⟨h1, fun j a b => ?_, h3, fun j hj => ?_, fun j hj => ?_, m, hm, ?_⟩
  · rw [pk_cpy_out (by omega)]; exact h2 j a b
  · by_cases c : o * 8 ≤ j ∧ j < o * 8 + 8
    · rw [pk_cpy_in c.1 c.2, show (12 + o) * 8 + (j - o * 8) = 96 + j by omega]; exact h5 j hj
    · rw [pk_cpy_out (by omega)]; exact h4 j hj
  · show ∃ n : Nat, n ≤ 48 ∧ va_cpy blk blk ((12 + o) * 8) (o * 8) 8 (96 + j) = nI n
    rw [pk_cpy_out (by omega)]; exact h5 j hj
  · rw [pk_cpy_out (by omega)]; exact h6
theorem inv_hdr (hI : Inv mem blk hdr) {m : Nat} (hm : m < 4096) (x : Int32) : Inv mem (upd blk 192 (nI m)) (upd hdr 0 x) := by
  obtain ⟨h1, h2, h3, h4, h5, -⟩ := hI
  refine ⟨fun j a b => ?_, fun j a b => ?_, h3, fun j hj => ?_, fun j hj => ?_, m, hm, pk_us⟩
  · rw [pk_un (by omega)]; exact h1 j a b
  · rw [pk_un (by omega)]; exact h2 j a b
  · rw [pk_un (by omega)]; exact h4 j hj
  · show ∃ n : Nat, n ≤ 48 ∧ upd blk 192 (nI m) (96 + j) = nI n
    rw [pk_un (by omega)]; exact h5 j hj
theorem inv_h (hI : Inv mem blk hdr) (x : Int32) : Inv mem blk (upd hdr 0 x) := by
  obtain ⟨h1, h2⟩ := hI
  exact ⟨fun j a b => by rw [pk_un (by omega)]; exact h1 j a b, h2⟩
/-- one block, cut off -/
theorem mw_0 {g : (Nat → Int32) → (Nat → Int32) → Nat → Int32} (h : F1_may mem blk sto dn en pw' wr cm = (0, mem, blk, sto, 1, en, pw', wr, cm)) : mw g (mem, blk, sto, dn, en, pw', wr, cm) = (0, mem, blk, sto, 1, en, pw', wr, cm) := by
  unfold mw; dsimp only; rw [h]; rfl
theorem mw_1 {g : (Nat → Int32) → (Nat → Int32) → Nat → Int32} {q' : Int32} (h : F1_may mem blk sto dn en pw' wr cm = (1, mem, blk, sto, dn, en, q', wr + 1, cm)) : mw g (mem, blk, sto, dn, en, pw', wr, cm) = (1, mem, g mem blk, sto, dn, en, q', wr + 1, cm) := by
  unfold mw; dsimp only; rw [h]; rfl
theorem dn_rel (hI : Inv mem blk hdr) (hp : PwR pw en pw') : Rel (mem, blk, hdr, nI (sb sto), pw, 0, wr, cm) (mem, blk, sto, 1, en, pw', wr, cm) := rel_mk hI hp (Or.inr ⟨rfl, rfl⟩)
theorem log_sim {u v : S0} (h : RelQ rn dn u v) {o : Nat} (ho : o < 12) : Out rn dn 1 u (wm 0 12 o u) (mw (gl o) v) := by
  obtain ⟨mem, blk, hdr, sto, pw, en, pw', wr, cm, rfl, rfl, hI, hp⟩ := h
  have e12 : (12 : Int32) + nI o = nI (12 + o) := by rw [show (12 : Int32) = nI 12 from rfl, nI_add]
  have e0 : (0 : Int32) + nI o = nI o := Int32.zero_add _
  rcases may_cases (mem := mem) (blk := blk) (sto := sto) (dn := dn) (wr := wr) (cm := cm) hp with ⟨h0, h1⟩ | ⟨h0, q, q', hq, eq, h1⟩
  · exact Or.inl ⟨_, _, wbm_0 h0 _ _, mw_0 h1, dn_rel hI hp⟩
  · have ew : wm 0 12 o (mem, blk, hdr, nI (sb sto), pw, rn, wr, cm) = (1, mem, va_cpy mem blk (o * 8) ((12 + o) * 8) 8, hdr, nI (sb sto), q, rn, wr + 1, cm) := by
      unfold wm; dsimp only; rw [wbm_1 h0, e12, e0, a8 (by omega), a8 (by omega), c8, eq]
    have eg : gl o mem blk = va_cpy mem blk (o * 8) ((12 + o) * 8) 8 := by
      unfold gl; rw [e12]; exact cpm_eq mem blk (12 + o) o (by omega) ho
    refine Or.inr ⟨_, _, ew, (mw_1 h1).trans (by rw [eg]), ⟨mem, _, hdr, sto, q, en, q', wr + 1, cm, rfl, rfl, inv_log hI ho, hq⟩, rfl, rfl⟩
theorem home_sim {u v : S0} (h : RelQ rn dn u v) {o : Nat} (ho : o < 12) : Out rn dn 1 u (wm 0 0 o u) (mw (gh o) v) := by
  obtain ⟨mem, blk, hdr, sto, pw, en, pw', wr, cm, rfl, rfl, hI, hp⟩ := h
  have e0 : (0 : Int32) + nI o = nI o := Int32.zero_add _
  rcases may_cases (mem := mem) (blk := blk) (sto := sto) (dn := dn) (wr := wr) (cm := cm) hp with ⟨h0, h1⟩ | ⟨h0, q, q', hq, eq, h1⟩
  · exact Or.inl ⟨_, _, wbm_0 h0 _ _, mw_0 h1, dn_rel hI hp⟩
  · have ew : wm 0 0 o (mem, blk, hdr, nI (sb sto), pw, rn, wr, cm) = (1, mem, va_cpy mem blk (o * 8) (o * 8) 8, hdr, nI (sb sto), q, rn, wr + 1, cm) := by
      unfold wm; dsimp only; rw [wbm_1 h0, e0, a8 (by omega), c8, eq]
    have eg : gh o mem blk = va_cpy mem blk (o * 8) (o * 8) 8 := cpm_eq mem blk o o (by omega) ho
    refine Or.inr ⟨_, _, ew, (mw_1 h1).trans (by rw [eg]), ⟨mem, _, hdr, sto, q, en, q', wr + 1, cm, rfl, rfl, inv_home hI ho, hq⟩, rfl, rfl⟩
theorem rec_sim {u v : S0} (h : RelQ rn dn u v) {o : Nat} (ho : o < 12) : Out rn dn 1 u (wb 12 0 o u) (mw (gr o) v) := by
  obtain ⟨mem, blk, hdr, sto, pw, en, pw', wr, cm, rfl, rfl, hI, hp⟩ := h
  have e12 : (12 : Int32) + nI o = nI (12 + o) := by rw [show (12 : Int32) = nI 12 from rfl, nI_add]
  have e0 : (0 : Int32) + nI o = nI o := Int32.zero_add _
  rcases may_cases (mem := mem) (blk := blk) (sto := sto) (dn := dn) (wr := wr) (cm := cm) hp with ⟨h0, h1⟩ | ⟨h0, q, q', hq, eq, h1⟩
  · exact Or.inl ⟨_, _, wbb_0 h0 _ _, mw_0 h1, dn_rel hI hp⟩
  · have ew : wb 12 0 o (mem, blk, hdr, nI (sb sto), pw, rn, wr, cm) = (1, mem, va_cpy blk blk ((12 + o) * 8) (o * 8) 8, hdr, nI (sb sto), q, rn, wr + 1, cm) := by
      unfold wb; dsimp only; rw [wbb_1 h0, e12, e0, a8 (by omega), a8 (by omega), c8, eq]
    have eg : gr o mem blk = va_cpy blk blk ((12 + o) * 8) (o * 8) 8 := cpd_eq blk o ho
    refine Or.inr ⟨_, _, ew, (mw_1 h1).trans (by rw [eg]), ⟨mem, _, hdr, sto, q, en, q', wr + 1, cm, rfl, rfl, inv_rec hI ho, hq⟩, rfl, rfl⟩
def wh (x : Int32) (u : S0) : Int32 × S0 := F0_writeHeader u.1 u.2.1 u.2.2.1 u.2.2.2.1 u.2.2.2.2.1 u.2.2.2.2.2.1 u.2.2.2.2.2.2.1 u.2.2.2.2.2.2.2 x
theorem hdr_sim {u v : S0} (h : RelQ rn dn u v) {m : Nat} (hm : m < 4096) : Out rn dn 1 u (wh (nI m) u) (mw (gx (nI m)) v) := by
  obtain ⟨mem, blk, hdr, sto, pw, en, pw', wr, cm, rfl, rfl, hI, hp⟩ := h
  have z0 : (0 : Int32).toNatClampNeg = 0 := by decide
  have z192 : (192 : Int32).toNatClampNeg = 192 := by decide
  rcases may_cases (mem := mem) (blk := blk) (sto := sto) (dn := dn) (wr := wr) (cm := cm) hp with ⟨h0, h1⟩ | ⟨h0, q, q', hq, eq, h1⟩
  · refine Or.inl ⟨(mem, blk, upd hdr 0 (nI m), nI (sb sto), pw, 0, wr, cm), _, ?_, mw_0 h1, dn_rel (inv_h hI _) hp⟩
    unfold wh F0_writeHeader; dsimp only; rw [wbh_0 h0, z0]
  · have ew : wh (nI m) (mem, blk, hdr, nI (sb sto), pw, rn, wr, cm) = (1, mem, upd blk 192 (nI m), upd hdr 0 (nI m), nI (sb sto), q, rn, wr + 1, cm) := by
      unfold wh F0_writeHeader; dsimp only
      rw [wbh_1 h0, z0, show ((0 : Int32) * 8).toNatClampNeg = 0 from by decide, show ((24 : Int32) * 8).toNatClampNeg = 192 from by decide, c8, hdr_eq hdr blk (nI m) hI.1 hI.2.1, eq]
    have eg : gx (nI m) mem blk = upd blk 192 (nI m) := by unfold gx; rw [z192]
    refine Or.inr ⟨_, _, ew, (mw_1 h1).trans (by rw [eg]), ⟨mem, _, upd hdr 0 (nI m), sto, q, en, q', wr + 1, cm, rfl, rfl, inv_hdr hI hm _, hq⟩, rfl, rfl⟩
/-- runs -/
theorem run_sim {w : Nat → S0 → Int32 × S0} {g : Nat → (Nat → Int32) → (Nat → Int32) → Nat → Int32} (hs : ∀ (u v : S0) (o : Nat), RelQ rn dn u v → o < 12 → Out rn dn 1 u (w o u) (mw (g o) v)) :
    ∀ (t : List Nat) (u v : S0), (∀ o, o ∈ t → o < 12) → RelQ rn dn u v → Out rn dn t.length u (runL w t u) (runL (fun o => mw (g o)) t v) := by
  intro t
  induction t with
  | nil => intro u v _ h; exact Or.inr ⟨u, v, rfl, rfl, h, (Int32.add_zero _).symm, rfl⟩
  | cons o t ih =>
    intro u v ht h
    rcases hs u v o h (ht o List.mem_cons_self) with ⟨u', v', e0, e1, hr⟩ | ⟨u', v', e0, e1, hr, e2, e3⟩
    · exact Or.inl ⟨u', v', by rw [runL, e0]; rfl, by rw [runL, e1]; rfl, hr⟩
    · have f0 : runL w (o :: t) u = runL w t u' := by rw [runL, e0]; rfl
      have f1 : runL (fun o => mw (g o)) (o :: t) v = runL (fun o => mw (g o)) t v' := by rw [runL, e1]; rfl
      rw [f0, f1]
      rcases ih u' v' (fun o h => ht o (List.mem_cons_of_mem _ h)) hr with ⟨a, b, g0, g1, g2⟩ | ⟨a, b, g0, g1, g2, g3, g4⟩
      · exact Or.inl ⟨a, b, g0, g1, g2⟩
      · refine Or.inr ⟨a, b, g0, g1, g2, ?_, g4.trans e3⟩
        rw [g3, e2, Int32.add_assoc, nI_add, List.length_cons, Nat.add_comm]
end SD
