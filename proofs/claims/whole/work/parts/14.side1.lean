/-! what the reference's refusals say -/
/-- the slots of the nodes hold keys -/
def KI (mem : Nat → Int32) : Prop := ∀ j : Nat, j < 64 → ∃ n : Nat, n ≤ 48 ∧ mem j = nI n
theorem ix1_e (a b : Nat) : 8 * nI a + nI b = nI (a * 8 + b) := by
  rw [show (8 : Int32) = nI 8 from rfl, pk_mul, nI_add, Nat.mul_comm]
theorem ix1_in {N : Nat} (hN : N < 2 ^ 31) {a b : Nat} (h : a * 8 + b < N) : vp_in (8 * nI a + nI b) N := by
  rw [ix1_e]; exact vp_in_nI h hN
theorem ix1_at {a b : Nat} (h : a * 8 + b < 2 ^ 31) : (8 * nI a + nI b).toNatClampNeg = a * 8 + b := by
  rw [ix1_e]; exact nI_clamp h
theorem r1_eight {x : Int32} (h : ¬ f1_eight x = 0) : ∃ j : Nat, j < 8 ∧ x = nI j := by
  obtain ⟨c1, c2⟩ := ite2 h
  exact rg_le 7 rfl (by decide) c1 c2
theorem r1_third {x : Int32} (h : ¬ f1_third x = 0) : ∃ j : Nat, j < 3 ∧ x = nI j := by
  obtain ⟨c1, c2⟩ := ite2 h
  exact rg_le 2 rfl (by decide) c1 c2
theorem ob_1 {j : Nat} (h : j < 2 ^ 30) : f1_object (nI (j + 1)) = nI (j / 4) := by
  unfold f1_object
  rw [if_neg (nI_ne0 (by omega) (by omega)), nI_pred, show (4 : Int32) = nI 4 from rfl, pk_div (by omega) (by decide) (by decide)]
theorem ob_10 : f1_object (nI 0) = 12 := rfl
theorem li_1 {j : Nat} (h : j < 2 ^ 30) : f1_limits (nI (j + 1)) = nI (j % 4) := li_0 h
section SD1
variable {mem dsk sto : Nat → Int32} {dn en pw wr cm : Int32} {x0 x1 x2 x3 x4 : Int32}
theorem sd1_ix (h1 : ¬ f1_third x0 = 0) (h2 : ¬ f1_eight x1 = 0) : vp_in (8 * x0 + x1) 96 := by
  obtain ⟨i, hi, rfl⟩ := r1_third h1
  obtain ⟨j, hj, rfl⟩ := r1_eight h2
  exact ix1_in (by decide) (by omega)
theorem sd1_key (h1 : ¬ f1_eight x0 = 0) (h2 : ¬ f1_eight x1 = 0) : vp_in (8 * x0 + x1) 96 := by
  obtain ⟨i, hi, rfl⟩ := r1_eight h1
  obtain ⟨j, hj, rfl⟩ := r1_eight h2
  exact ix1_in (by decide) (by omega)
theorem sd1_k12 (h1 : ¬ f1_eight x0 = 0) : vp_in x0 12 := by
  obtain ⟨i, hi, rfl⟩ := r1_eight h1
  exact vp_in_nI (by omega) (by decide)
theorem sd1_t12 (h1 : ¬ f1_third x0 = 0) : vp_in x0 12 := by
  obtain ⟨i, hi, rfl⟩ := r1_third h1
  exact vp_in_nI (by omega) (by decide)
theorem sd1_word (c1 : ¬ x0 < 8) (c2 : ¬ 11 < x0) (h2 : ¬ f1_eight x1 = 0) : vp_in (8 * x0 + x1) 96 := by
  obtain ⟨i, hi, rfl⟩ := rg_le 11 rfl (by decide) (rg_nn (k := 8) rfl (by decide) c1) c2
  obtain ⟨j, hj, rfl⟩ := r1_eight h2
  exact ix1_in (by decide) (by omega)
theorem sd1_disk (c1 : ¬ x0 < 0) (c2 : ¬ 24 < x0) (h2 : ¬ f1_eight x1 = 0) : vp_in (8 * x0 + x1) 200 := by
  obtain ⟨i, hi, rfl⟩ := rg_le 24 rfl (by decide) c1 c2
  obtain ⟨j, hj, rfl⟩ := r1_eight h2
  exact ix1_in (by decide) (by omega)
theorem rr_0 (h : f1_refusal mem dsk sto dn en pw wr cm x0 x1 x2 x3 x4 = 0) : dn = 0 ∧ ∃ i j b : Nat, i < 3 ∧ j < 8 ∧ b < 8 ∧ x0 = nI i ∧ x1 = nI j ∧ x2 = nI b ∧ ¬ f1_object (mem (i * 8 + j)) = 12 ∧ (f1_object (mem (i * 8 + j)) ≤ 7 → x3 = 0) ∧ (¬ f1_object (mem (i * 8 + j)) ≤ 7 → x3 = 1) ∧ (¬ x4 = 0 → f1_limits (mem (i * 8 + j)) = 0) := by
  unfold f1_refusal at h
  by_cases c0 : dn = 0
  · rw [if_pos c0] at h
    by_cases c1 : f1_third x0 = 0
    · rw [if_pos c1] at h; exact absurd h (by decide)
    by_cases c2 : f1_eight x1 = 0
    · rw [if_neg c1, if_pos c2] at h; exact absurd h (by decide)
    by_cases c3 : f1_eight x2 = 0
    · rw [if_neg c1, if_neg c2, if_pos c3] at h; exact absurd h (by decide)
    rw [if_neg c1, if_neg c2, if_neg c3] at h
    obtain ⟨i, hi, rfl⟩ := r1_third c1
    obtain ⟨j, hj, rfl⟩ := r1_eight c2
    obtain ⟨b, hb, rfl⟩ := r1_eight c3
    rw [ix1_at (by omega)] at h
    refine ⟨c0, i, j, b, hi, hj, hb, rfl, rfl, rfl, ?_⟩
    generalize mem (i * 8 + j) = k at h ⊢
    by_cases c4 : f1_object k = 12
    · rw [if_pos c4] at h; exact absurd h (by decide)
    rw [if_neg c4] at h
    by_cases c5 : f1_object k ≤ 7
    · rw [if_pos c5] at h
      by_cases c6 : x3 = 0
      · rw [if_pos c6] at h
        refine ⟨c4, fun _ => c6, fun q => absurd c5 q, fun q => ?_⟩
        rw [if_neg q] at h
        by_cases c7 : f1_limits k = 0
        · exact c7
        · rw [if_neg c7] at h; exact absurd h (by decide)
      · rw [if_neg c6] at h; exact absurd h (by decide)
    · rw [if_neg c5] at h
      by_cases c6 : x3 = 1
      · rw [if_pos c6] at h
        refine ⟨c4, fun q => absurd q c5, fun _ => c6, fun q => ?_⟩
        rw [if_neg q] at h
        by_cases c7 : f1_limits k = 0
        · exact c7
        · rw [if_neg c7] at h; exact absurd h (by decide)
      · rw [if_neg c6] at h; exact absurd h (by decide)
  · rw [if_neg c0] at h; exact absurd h (by decide)
theorem rr_n (hk : KI mem) (h : f1_refusal mem dsk sto dn en pw wr cm x0 x1 x2 0 x4 = 0) : ∃ i j b n : Nat, i < 3 ∧ j < 8 ∧ b < 8 ∧ x0 = nI i ∧ x1 = nI j ∧ x2 = nI b ∧ n < 32 ∧ mem (i * 8 + j) = nI (n + 1) := by
  obtain ⟨-, i, j, b, hi, hj, hb, e0, e1, e2, h1, h2, h3, -⟩ := rr_0 h
  obtain ⟨n, hn, e⟩ := hk (i * 8 + j) (by omega)
  cases n with
  | zero => rw [e] at h1; exact absurd ob_10 h1
  | succ n =>
    refine ⟨i, j, b, n, hi, hj, hb, e0, e1, e2, ?_, e⟩
    rw [e, ob_1 (by omega)] at h3
    rcases Nat.lt_or_ge n 32 with q | q
    · exact q
    · exact absurd (h3 (nI_ge (a := 7) (b := n / 4) (by omega) (by omega))) (by decide)
theorem rr_p (hk : KI mem) (h : f1_refusal mem dsk sto dn en pw wr cm x0 x1 x2 1 x4 = 0) : ∃ i j b n : Nat, i < 3 ∧ j < 8 ∧ b < 8 ∧ x0 = nI i ∧ x1 = nI j ∧ x2 = nI b ∧ 32 ≤ n ∧ n < 48 ∧ mem (i * 8 + j) = nI (n + 1) := by
  obtain ⟨-, i, j, b, hi, hj, hb, e0, e1, e2, h1, h2, h3, -⟩ := rr_0 h
  obtain ⟨n, hn, e⟩ := hk (i * 8 + j) (by omega)
  cases n with
  | zero => rw [e] at h1; exact absurd ob_10 h1
  | succ n =>
    refine ⟨i, j, b, n, hi, hj, hb, e0, e1, e2, ?_, by omega, e⟩
    rw [e, ob_1 (by omega)] at h2
    rcases Nat.lt_or_ge n 32 with q | q
    · exact absurd (h2 (nI_le (a := n / 4) (b := 7) (by omega) (by decide))) (by decide)
    · exact q
theorem sd1_r1 (h : f1_refusal mem dsk sto dn en pw wr cm x0 x1 x2 x3 x4 = 0) : vp_in (8 * x0 + x1) 96 := by
  obtain ⟨-, i, j, b, hi, hj, hb, rfl, rfl, rfl, -⟩ := rr_0 h
  exact ix1_in (by decide) (by omega)
theorem sd1_n (hk : KI mem) (h : f1_refusal mem dsk sto dn en pw wr cm x0 x1 x2 0 x4 = 0) : vp_in (8 * f1_object (mem (8 * x0 + x1).toNatClampNeg) + x2) 96 := by
  obtain ⟨i, j, b, n, hi, hj, hb, rfl, rfl, rfl, hn, e⟩ := rr_n hk h
  rw [ix1_at (by omega), e, ob_1 (by omega)]
  exact ix1_in (by decide) (by omega)
theorem sd1_nj (hk : KI mem) (h : f1_refusal mem dsk sto dn en pw wr cm x0 x1 x2 0 x4 = 0) : vp_in (f1_object (mem (8 * x0 + x1).toNatClampNeg)) 12 := by
  obtain ⟨i, j, b, n, hi, hj, hb, rfl, rfl, rfl, hn, e⟩ := rr_n hk h
  rw [ix1_at (by omega), e, ob_1 (by omega)]
  exact vp_in_nI (by omega) (by decide)
theorem sd1_p (hk : KI mem) (h : f1_refusal mem dsk sto dn en pw wr cm x0 x1 x2 1 x4 = 0) : vp_in (8 * f1_object (mem (8 * x0 + x1).toNatClampNeg) + x2) 96 := by
  obtain ⟨i, j, b, n, hi, hj, hb, rfl, rfl, rfl, hn1, hn, e⟩ := rr_p hk h
  rw [ix1_at (by omega), e, ob_1 (by omega)]
  exact ix1_in (by decide) (by omega)
theorem sd1_pj (hk : KI mem) (h : f1_refusal mem dsk sto dn en pw wr cm x0 x1 x2 1 x4 = 0) : vp_in (f1_object (mem (8 * x0 + x1).toNatClampNeg)) 12 := by
  obtain ⟨i, j, b, n, hi, hj, hb, rfl, rfl, rfl, hn1, hn, e⟩ := rr_p hk h
  rw [ix1_at (by omega), e, ob_1 (by omega)]
  exact vp_in_nI (by omega) (by decide)
theorem sd1_f3 (h : f1_refusal mem dsk sto dn en pw wr cm x0 x1 x2 0 x4 = 0) (h2 : ¬ f1_eight x3 = 0) : vp_in (8 * x0 + x3) 96 := by
  obtain ⟨-, i, j, b, hi, hj, hb, rfl, rfl, rfl, -⟩ := rr_0 h
  obtain ⟨j, hj, rfl⟩ := r1_eight h2
  exact ix1_in (by decide) (by omega)
theorem sd1_f4 (h : f1_refusal mem dsk sto dn en pw wr cm x0 x1 x2 x3 x4 = 0) : vp_in x0 12 := by
  obtain ⟨-, i, j, b, hi, hj, hb, rfl, rfl, rfl, -⟩ := rr_0 h
  exact vp_in_nI (by omega) (by decide)
end SD1
