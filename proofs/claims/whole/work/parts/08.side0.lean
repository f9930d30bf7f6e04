/-! numbers in their ranges, and what the refusals of CapStore say -/
theorem rg_0 {x N : Int32} (n : Nat) (hN : N = nI n) (hn : n < 2 ^ 31) (c1 : ¬ x < 0) (c2 : ¬ N ≤ x) : ∃ j : Nat, j < n ∧ x = nI j := by
  rcases pk_ix x (n := n) hn with q | q | q
  · exact absurd q c1
  · exact absurd (by rw [hN]; exact q) c2
  · exact q
theorem rg_le {x N : Int32} (n : Nat) (hN : N = nI n) (hn : n < 2 ^ 31) (c1 : ¬ x < 0) (c2 : ¬ N < x) : ∃ j : Nat, j < n + 1 ∧ x = nI j := by
  obtain ⟨j, hj, rfl⟩ := nI_of c1
  refine ⟨j, ?_, rfl⟩
  rcases Nat.lt_or_ge j (n + 1) with q | q
  · exact q
  · exact absurd (by rw [hN]; exact nI_lt (by omega) hj) c2
theorem rg_lo {x K : Int32} {j k : Nat} (hK : K = nI k) (hj : j < 2 ^ 31) (hk : k < 2 ^ 31) (hx : x = nI j) (c : ¬ x < K) : k ≤ j := by
  rcases Nat.lt_or_ge j k with q | q
  · exact absurd (by rw [hx, hK]; exact nI_lt q hk) c
  · exact q
theorem rg_nn {x K : Int32} {k : Nat} (hK : K = nI k) (hk : k < 2 ^ 31) (c : ¬ x < K) : ¬ x < 0 := by
  intro q
  apply c
  rw [Int32.lt_iff_toInt_lt] at q ⊢
  rw [hK, nI_toInt hk]
  have : (0 : Int32).toInt = 0 := by decide
  omega
theorem ix_in {N : Nat} (hN : N < 2 ^ 31) {a b : Nat} (h : a * 8 + b < N) : vp_in (nI a * 8 + nI b) N := by
  rw [show (8 : Int32) = nI 8 from rfl, pk_mul, nI_add]
  exact vp_in_nI h hN
theorem ix_at {a b : Nat} (h : a * 8 + b < 2 ^ 31) : (nI a * 8 + nI b).toNatClampNeg = a * 8 + b := by
  rw [show (8 : Int32) = nI 8 from rfl, pk_mul, nI_add]
  exact nI_clamp h
theorem ro_row {x : Int32} (h : ¬ f0_isInRow x = 0) : ∃ j : Nat, j < 8 ∧ x = nI j := by
  unfold f0_isInRow at h
  by_cases c1 : x < 0
  · rw [if_pos c1] at h; exact absurd rfl h
  · by_cases c2 : 8 ≤ x
    · rw [if_neg c1, if_pos c2] at h; exact absurd rfl h
    · exact rg_0 8 rfl (by decide) c1 c2
theorem ro_node {x : Int32} (h : ¬ f0_isNode x = 0) : ∃ j : Nat, j < 8 ∧ x = nI j := ro_row h
theorem ro_block {x : Int32} (h : ¬ f0_isBlock x = 0) : ∃ j : Nat, j < 25 ∧ x = nI j := by
  unfold f0_isBlock at h
  by_cases c1 : x < 0
  · rw [if_pos c1] at h; exact absurd rfl h
  · by_cases c2 : 25 ≤ x
    · rw [if_neg c1, if_pos c2] at h; exact absurd rfl h
    · exact rg_0 25 rfl (by decide) c1 c2
theorem ro_page {x : Int32} (h : ¬ f0_isPage x = 0) : ∃ j : Nat, 8 ≤ j ∧ j < 12 ∧ x = nI j := by
  unfold f0_isPage at h
  by_cases c1 : x < 8
  · rw [if_pos c1] at h; exact absurd rfl h
  · by_cases c2 : 12 ≤ x
    · rw [if_neg c1, if_pos c2] at h; exact absurd rfl h
    · obtain ⟨j, hj, e⟩ := rg_0 12 rfl (by decide) (rg_nn (k := 8) rfl (by decide) c1) c2
      exact ⟨j, rg_lo (k := 8) rfl (by omega) (by decide) e c1, hj, e⟩
theorem ro_reg {x y : Int32} (h : ¬ f0_isRegister x y = 0) : ∃ i j : Nat, i < 3 ∧ j < 8 ∧ x = nI i ∧ y = nI j := by
  unfold f0_isRegister at h
  by_cases c1 : x < 0
  · rw [if_pos c1] at h; exact absurd rfl h
  · by_cases c2 : 3 ≤ x
    · rw [if_neg c1, if_pos c2] at h; exact absurd rfl h
    · by_cases c3 : f0_isInRow y = 0
      · rw [if_neg c1, if_neg c2, if_pos c3] at h; exact absurd rfl h
      · obtain ⟨i, hi, ei⟩ := rg_0 3 rfl (by decide) c1 c2
        obtain ⟨j, hj, ej⟩ := ro_row c3
        exact ⟨i, j, hi, hj, ei, ej⟩
theorem ro_nkey {x : Int32} (h : ¬ f0_isNodeKey x = 0) : ∃ j : Nat, j < 32 ∧ x = nI (j + 1) := by
  unfold f0_isNodeKey at h
  by_cases c1 : x < 1
  · rw [if_pos c1] at h; exact absurd rfl h
  · by_cases c2 : 33 ≤ x
    · rw [if_neg c1, if_pos c2] at h; exact absurd rfl h
    · obtain ⟨j, hj, e⟩ := rg_0 33 rfl (by decide) (rg_nn (k := 1) rfl (by decide) c1) c2
      have := rg_lo (k := 1) rfl (by omega) (by decide) e c1
      exact ⟨j - 1, by omega, by rw [e]; congr 1; omega⟩
theorem ro_pkey {x : Int32} (h : ¬ f0_isPageKey x = 0) : ∃ j : Nat, 32 ≤ j ∧ j < 48 ∧ x = nI (j + 1) := by
  unfold f0_isPageKey at h
  by_cases c1 : x < 33
  · rw [if_pos c1] at h; exact absurd rfl h
  · by_cases c2 : 48 < x
    · rw [if_neg c1, if_pos c2] at h; exact absurd rfl h
    · obtain ⟨j, hj, e⟩ := rg_le 48 rfl (by decide) (rg_nn (k := 33) rfl (by decide) c1) c2
      have := rg_lo (k := 33) rfl (by omega) (by decide) e c1
      exact ⟨j - 1, by omega, by omega, by rw [e]; congr 1; omega⟩
theorem ob_0 {j : Nat} (h : j < 2 ^ 30) : f0_objectOf (nI (j + 1)) = nI (j / 4) := by
  unfold f0_objectOf
  rw [nI_pred, show (4 : Int32) = nI 4 from rfl, pk_div (by omega) (by decide) (by decide)]
theorem li_0 {j : Nat} (h : j < 2 ^ 30) : f0_limitsOf (nI (j + 1)) = nI (j % 4) := by
  unfold f0_limitsOf
  rw [nI_pred, show (4 : Int32) = nI 4 from rfl, pk_rem (by omega) (by decide) (by decide)]
section SD
variable {mem blk hdr : Nat → Int32} {ds pw rn wr cm : Int32} {x0 x1 x2 x3 : Int32}
theorem rf_0 (h : f0_refusal mem blk hdr ds pw rn wr cm x0 = 0) : ¬ rn = 0 ∧ ¬ x0 = 0 := by
  unfold f0_refusal at h
  by_cases c1 : rn = 0
  · rw [if_pos c1] at h; exact absurd h (by decide)
  · by_cases c2 : x0 = 0
    · rw [if_neg c1, if_pos c2] at h; exact absurd h (by decide)
    · exact ⟨c1, c2⟩
theorem ite2 {P Q : Prop} [Decidable P] [Decidable Q] (h : ¬ (if P then (0 : Int32) else (if Q then 0 else 1)) = 0) : ¬ P ∧ ¬ Q := by
  by_cases c1 : P
  · rw [if_pos c1] at h; exact absurd rfl h
  · by_cases c2 : Q
    · rw [if_neg c1, if_pos c2] at h; exact absurd rfl h
    · exact ⟨c1, c2⟩
theorem ite3 {P Q T : Prop} [Decidable P] [Decidable Q] [Decidable T] (h : ¬ (if P then (0 : Int32) else (if Q then 0 else (if T then 0 else 1))) = 0) : ¬ P ∧ ¬ Q ∧ ¬ T := by
  by_cases c1 : P
  · rw [if_pos c1] at h; exact absurd rfl h
  · rw [if_neg c1] at h; exact ⟨c1, ite2 h⟩
theorem nr_0 (h : f0_nodeRefusal mem blk hdr ds pw rn wr cm x0 x1 x2 = 0) : ∃ i j n : Nat, i < 3 ∧ j < 8 ∧ x0 = nI i ∧ x1 = nI j ∧ ¬ x2 = 0 ∧ n < 32 ∧ mem (i * 8 + j) = nI (n + 1) ∧ ¬ rn = 0 := by
  unfold f0_nodeRefusal at h
  by_cases c1 : f0_refusal mem blk hdr ds pw rn wr cm (z0_nodeRefusal_18 x0 x1 x2) = 0
  · rw [if_pos c1] at h
    by_cases c2 : f0_isNodeKey (f0_get mem blk hdr ds pw rn wr cm x0 x1) = 0
    · rw [if_pos c2] at h; exact absurd h (by decide)
    · obtain ⟨h1, h2⟩ := rf_0 c1
      obtain ⟨h3, h4⟩ := ite2 h2
      obtain ⟨i, j, hi, hj, rfl, rfl⟩ := ro_reg h3
      obtain ⟨n, hn, e⟩ := ro_nkey c2
      unfold f0_get at e
      rw [ix_at (by omega)] at e
      exact ⟨i, j, n, hi, hj, rfl, rfl, h4, hn, e, h1⟩
  · rw [if_neg c1] at h; exact absurd h c1
theorem pr_0 (h : f0_pageRefusal mem blk hdr ds pw rn wr cm x0 x1 x2 = 0) : ∃ i j n : Nat, i < 3 ∧ j < 8 ∧ x0 = nI i ∧ x1 = nI j ∧ ¬ x2 = 0 ∧ 32 ≤ n ∧ n < 48 ∧ mem (i * 8 + j) = nI (n + 1) ∧ ¬ rn = 0 := by
  unfold f0_pageRefusal at h
  by_cases c1 : f0_refusal mem blk hdr ds pw rn wr cm (z0_pageRefusal_18 x0 x1 x2) = 0
  · rw [if_pos c1] at h
    by_cases c2 : f0_isPageKey (f0_get mem blk hdr ds pw rn wr cm x0 x1) = 0
    · rw [if_pos c2] at h; exact absurd h (by decide)
    · obtain ⟨h1, h2⟩ := rf_0 c1
      obtain ⟨h3, h4⟩ := ite2 h2
      obtain ⟨i, j, hi, hj, rfl, rfl⟩ := ro_reg h3
      obtain ⟨n, hn1, hn, e⟩ := ro_pkey c2
      unfold f0_get at e
      rw [ix_at (by omega)] at e
      exact ⟨i, j, n, hi, hj, rfl, rfl, h4, hn1, hn, e, h1⟩
  · rw [if_neg c1] at h; exact absurd h c1
theorem sd0_nodeRefusal (h : f0_refusal mem blk hdr ds pw rn wr cm (z0_nodeRefusal_18 x0 x1 x2) = 0) : vp_in (x0 * 8 + x1) 96 := by
  obtain ⟨i, j, hi, hj, rfl, rfl⟩ := ro_reg (ite2 (rf_0 h).2).1
  exact ix_in (by decide) (by omega)
theorem sd0_pageRefusal (h : f0_refusal mem blk hdr ds pw rn wr cm (z0_pageRefusal_18 x0 x1 x2) = 0) : vp_in (x0 * 8 + x1) 96 := by
  obtain ⟨i, j, hi, hj, rfl, rfl⟩ := ro_reg (ite2 (rf_0 h).2).1
  exact ix_in (by decide) (by omega)
theorem sd0_key (h : f0_refusal mem blk hdr ds pw rn wr cm (z0_key_20 x0 x1) = 0) : vp_in (x0 * 8 + x1) 96 := by
  obtain ⟨h1, h2⟩ := ite2 (rf_0 h).2
  obtain ⟨i, hi, rfl⟩ := ro_node h1
  obtain ⟨j, hj, rfl⟩ := ro_row h2
  exact ix_in (by decide) (by omega)
theorem sd0_word (h : f0_refusal mem blk hdr ds pw rn wr cm (z0_word_20 x0 x1) = 0) : vp_in (x0 * 8 + x1) 96 := by
  obtain ⟨h1, h2⟩ := ite2 (rf_0 h).2
  obtain ⟨i, hi0, hi, rfl⟩ := ro_page h1
  obtain ⟨j, hj, rfl⟩ := ro_row h2
  exact ix_in (by decide) (by omega)
theorem sd0_disk (h1 : ¬ f0_isBlock x0 = 0) (h2 : ¬ f0_isInRow x1 = 0) : vp_in (x0 * 8 + x1) 200 := by
  obtain ⟨i, hi, rfl⟩ := ro_block h1
  obtain ⟨j, hj, rfl⟩ := ro_row h2
  exact ix_in (by decide) (by omega)
theorem sd0_place (h : f0_refusal mem blk hdr ds pw rn wr cm (z0_place_27 x0 x1 x2) = 0) : vp_in (x0 * 8 + x1) 96 := by
  obtain ⟨h1, h2, h3⟩ := ite3 (rf_0 h).2
  obtain ⟨i, hi, rfl⟩ := ro_node h1
  obtain ⟨j, hj, rfl⟩ := ro_row h2
  exact ix_in (by decide) (by omega)
theorem sd0_restrict1 (h : f0_refusal mem blk hdr ds pw rn wr cm (z0_restrict_29 x0 x1 x2 x3) = 0) : vp_in (x0 * 8 + x1) 96 := by
  obtain ⟨h1, h2, h3⟩ := ite3 (rf_0 h).2
  obtain ⟨i, j, hi, hj, rfl, rfl⟩ := ro_reg h1
  exact ix_in (by decide) (by omega)
theorem sd0_restrict2 (h : f0_refusal mem blk hdr ds pw rn wr cm (z0_restrict_29 x0 x1 x2 x3) = 0) : vp_in (x0 * 8 + x3) 96 := by
  obtain ⟨h1, h2, h3⟩ := ite3 (rf_0 h).2
  obtain ⟨i, j, hi, hj, rfl, rfl⟩ := ro_reg h1
  obtain ⟨j, hj, rfl⟩ := ro_row h3
  exact ix_in (by decide) (by omega)
theorem sd0_clear (h : f0_refusal mem blk hdr ds pw rn wr cm (f0_isRegister x0 x1) = 0) : vp_in (x0 * 8 + x1) 96 := by
  obtain ⟨i, j, hi, hj, rfl, rfl⟩ := ro_reg (rf_0 h).2
  exact ix_in (by decide) (by omega)
theorem sd0_fetch1 (h : f0_nodeRefusal mem blk hdr ds pw rn wr cm x0 x1 x2 = 0) : vp_in (x0 * 8 + x1) 96 := by
  obtain ⟨i, j, n, hi, hj, rfl, rfl, -⟩ := nr_0 h
  exact ix_in (by decide) (by omega)
theorem sd0_fetch2 (h : f0_nodeRefusal mem blk hdr ds pw rn wr cm x0 x1 (z0_fetch_23 x2 x3) = 0) : vp_in (f0_objectOf (f0_get mem blk hdr ds pw rn wr cm x0 x1) * 8 + x2) 96 := by
  obtain ⟨i, j, n, hi, hj, rfl, rfl, hz, hn, e, -⟩ := nr_0 h
  obtain ⟨b, hb, rfl⟩ := ro_row (ite2 hz).1
  unfold f0_get
  rw [ix_at (by omega), e, ob_0 (by omega)]
  exact ix_in (by decide) (by omega)
theorem sd0_fetch3 (h : f0_nodeRefusal mem blk hdr ds pw rn wr cm x0 x1 (z0_fetch_23 x2 x3) = 0) : vp_in (x0 * 8 + x3) 96 := by
  obtain ⟨i, j, n, hi, hj, rfl, rfl, hz, hn, e, -⟩ := nr_0 h
  obtain ⟨b, hb, rfl⟩ := ro_row (ite2 hz).2
  exact ix_in (by decide) (by omega)
theorem sd0_store1 (h : f0_nodeRefusal mem blk hdr ds pw rn wr cm x0 x1 x2 = 0) : vp_in (x0 * 8 + x1) 96 := sd0_fetch1 h
theorem sd0_store2 (h : f0_nodeRefusal mem blk hdr ds pw rn wr cm x0 x1 (z0_store_23 x2 x3) = 0) : vp_in (f0_objectOf (f0_get mem blk hdr ds pw rn wr cm x0 x1) * 8 + x2) 96 := sd0_fetch2 h
theorem sd0_store3 (h : f0_nodeRefusal mem blk hdr ds pw rn wr cm x0 x1 (z0_store_23 x2 x3) = 0) : vp_in (x0 * 8 + x3) 96 := sd0_fetch3 h
theorem sd0_read1 (h : f0_pageRefusal mem blk hdr ds pw rn wr cm x0 x1 x2 = 0) : vp_in (x0 * 8 + x1) 96 := by
  obtain ⟨i, j, n, hi, hj, rfl, rfl, -⟩ := pr_0 h
  exact ix_in (by decide) (by omega)
theorem sd0_read2 (h : f0_pageRefusal mem blk hdr ds pw rn wr cm x0 x1 (f0_isInRow x2) = 0) : vp_in (f0_objectOf (f0_get mem blk hdr ds pw rn wr cm x0 x1) * 8 + x2) 96 := by
  obtain ⟨i, j, n, hi, hj, rfl, rfl, hz, hn1, hn, e, -⟩ := pr_0 h
  obtain ⟨b, hb, rfl⟩ := ro_row hz
  unfold f0_get
  rw [ix_at (by omega), e, ob_0 (by omega)]
  exact ix_in (by decide) (by omega)
end SD
