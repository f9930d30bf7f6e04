theorem bit_01 (x y : Int32) : ∃ j : Nat, j < 2 ∧ (x >>> y) &&& 1 = nI j := pk_andE (x >>> y) 1 (by decide)
theorem is_le (x : Int32) : ∀ (n a : Nat), ∃ b : Nat, b ≤ a + n ∧ f1_is x n (nI a) = nI b := by
  intro n
  induction n with
  | zero => intro a; exact ⟨a, by omega, rfl⟩
  | succ n ih =>
    intro a
    obtain ⟨j, hj, e⟩ := bit_01 x (nI (11 - n) &&& 31)
    rw [f1_is, e, nI_add]
    obtain ⟨b, hb, e2⟩ := ih (a + j)
    exact ⟨b, by omega, e2⟩
theorem is_ok (x : Int32) : ∃ nn : Nat, nn ≤ 12 ∧ f1_is x 12 0 = nI nn := by
  obtain ⟨b, hb, e⟩ := is_le x 12 0
  exact ⟨b, by omega, e⟩
theorem mb_le (x : Int32) : ∀ (n : Nat) (a : Int32), ∃ j : Nat, j < 12 ∧ f1_mb x n a = nI j := by
  intro n
  induction n with
  | zero => intro a; exact ⟨0, by omega, rfl⟩
  | succ n ih =>
    intro a
    rw [f1_mb]
    by_cases c1 : ((x >>> (nI (11 - n) &&& 31)) &&& 1) = 1
    · rw [if_pos c1]
      by_cases c2 : a = 0
      · rw [if_pos c2]; exact ⟨11 - n, by omega, rfl⟩
      · rw [if_neg c2]; exact ih _
    · rw [if_neg c1]; exact ih _
theorem mb_ok (x a : Int32) : ∃ j : Nat, j < 12 ∧ f1_mb x 12 a = nI j := mb_le x 12 a
theorem sdc_1 {O : Int32} (h : ∃ j : Nat, j < 12 ∧ O = nI j) {i : Nat} (hi : i < 8) : vp_in (8 * O + nI i) 96 := by
  obtain ⟨j, hj, rfl⟩ := h
  exact ix1_in (by decide) (by omega)
theorem sdc_2 {O : Int32} (h : ∃ j : Nat, j < 12 ∧ O = nI j) {i : Nat} (hi : i < 8) : vp_in (8 * O + nI i) 200 := by
  obtain ⟨j, hj, rfl⟩ := h
  exact ix1_in (by decide) (by omega)
theorem sdc_3 {O : Int32} (h : ∃ j : Nat, j < 12 ∧ O = nI j) {i : Nat} (hi : i < 8) : vp_in (8 * (12 + O) + nI i) 200 := by
  obtain ⟨j, hj, rfl⟩ := h
  rw [show (12 : Int32) = nI 12 from rfl, nI_add]
  exact ix1_in (by decide) (by omega)
theorem sdc_4 {O : Int32} (h : ∃ j : Nat, j < 12 ∧ O = nI j) {i : Nat} (hi : i < 8) : vp_in (96 + 8 * O + nI i) 200 := by
  obtain ⟨j, hj, rfl⟩ := h
  rw [show (96 : Int32) = nI 96 from rfl, show (8 : Int32) = nI 8 from rfl, pk_mul, nI_add, nI_add]
  exact vp_in_nI (by omega) (by decide)
theorem ck_t (nn : Nat) : 2 * nI nn + 2 = nI (2 * nn + 2) := by
  rw [show (2 : Int32) = nI 2 from rfl, pk_mul, nI_add]
theorem ck_out {nn : Nat} {mny k : Int32} (hnn : nn ≤ 12) (en : mny = nI nn) (ek : k = nI (2 * nn + 2 - 0)) : 2 * mny + 2 ≤ k := by
  rw [en, ek, ck_t]; exact nI_le (by omega) (by omega)
theorem ck_in {nn f : Nat} {mny k : Int32} (hnn : nn ≤ 12) (hf : f + 1 ≤ 2 * nn + 2) (en : mny = nI nn) (ek : k = nI (2 * nn + 2 - (f + 1))) : ¬ 2 * mny + 2 ≤ k := by
  rw [en, ek, ck_t]; exact nI_ge (by omega) (by omega)
theorem ck_nxt {nn f : Nat} {k : Int32} (hf : f + 1 ≤ 2 * nn + 2) (ek : k = nI (2 * nn + 2 - (f + 1))) : k + 1 = nI (2 * nn + 2 - f) := by
  rw [ek, nI_1]; congr 1; omega
theorem st_out {nn : Nat} {mny k : Int32} (hnn : nn ≤ 13) (en : mny = nI nn) (ek : k = nI (nn - 0)) : mny ≤ k := by
  rw [en, ek]; exact nI_le (by omega) (by omega)
theorem st_in {nn f : Nat} {mny k : Int32} (hnn : nn ≤ 13) (hf : f + 1 ≤ nn) (en : mny = nI nn) (ek : k = nI (nn - (f + 1))) : ¬ mny ≤ k := by
  rw [en, ek]; exact nI_ge (by omega) (by omega)
theorem st_nxt {nn f : Nat} {k : Int32} (hf : f + 1 ≤ nn) (ek : k = nI (nn - (f + 1))) : k + 1 = nI (nn - f) := by
  rw [ek, nI_1]; congr 1; omega
theorem st_ok (mem dsk sto : Nat → Int32) (dn wr cm x0 : Int32) : ∃ nn : Nat, nn ≤ 13 ∧ z1_start_66 mem dsk sto dn wr cm x0 = nI nn := by
  unfold z1_start_66
  by_cases c1 : dsk (192 : Int32).toNatClampNeg = 0
  · rw [if_pos c1]; exact ⟨0, by omega, rfl⟩
  · rw [if_neg c1]
    obtain ⟨b, hb, e⟩ := is_ok (dsk (192 : Int32).toNatClampNeg)
    refine ⟨b + 1, by omega, ?_⟩
    unfold f1_inSet
    rw [e, nI_1]
theorem z34_01 (x0 : Int32) : z1_start_34 x0 = 0 ∨ z1_start_34 x0 = 1 := by
  unfold z1_start_34
  by_cases c1 : x0 = -1
  · rw [if_pos c1]; exact Or.inr rfl
  · rw [if_neg c1]; exact Or.inl rfl
theorem nar_z34 (x0 : Int32) : narrow .boolean (.int (z1_start_34 x0)) = .int (z1_start_34 x0) := by
  rcases z34_01 x0 with e | e <;> rw [e] <;> rfl
theorem fit_z34 (x0 : Int32) : fits .boolean (.int (z1_start_34 x0)) = true := by
  rcases z34_01 x0 with e | e <;> rw [e] <;> rfl
