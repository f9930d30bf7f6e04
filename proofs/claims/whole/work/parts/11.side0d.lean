def wbOK (x0 x2 : Int32) (n : Nat) : Prop := ∃ a b : Nat, x0 = nI b ∧ x2 = nI a ∧ a * 8 + 8 ≤ n ∧ b * 8 + 8 ≤ 200 ∧ n ≤ 200
def crOK (x2 x3 : Int32) (n : Nat) : Prop := ∃ a b : Nat, x2 = nI a ∧ x3 = nI b ∧ (a + 12) * 8 ≤ n ∧ (b + 12) * 8 ≤ 200 ∧ n ≤ 200
theorem m8 (a : Nat) : nI a * 8 = nI (a * 8) := by rw [show (8 : Int32) = nI 8 from rfl, pk_mul]
theorem c8 : (8 : Int32).toNatClampNeg = 8 := by decide
theorem wb_1 {x0 x2 : Int32} {n : Nat} (h : wbOK x0 x2 n) : ¬ x2 * 8 < 0 := by
  obtain ⟨a, b, rfl, rfl, h1, h2, h3⟩ := h
  rw [m8]; exact nI_pos (by omega)
theorem wb_2 {x0 x2 : Int32} {n : Nat} (h : wbOK x0 x2 n) : ¬ x0 * 8 < 0 := by
  obtain ⟨a, b, rfl, rfl, h1, h2, h3⟩ := h
  rw [m8]; exact nI_pos (by omega)
theorem wb_4 {x0 x2 : Int32} {n : Nat} (h : wbOK x0 x2 n) : (x2 * 8).toNatClampNeg + (8 : Int32).toNatClampNeg ≤ n := by
  obtain ⟨a, b, rfl, rfl, h1, h2, h3⟩ := h
  rw [m8, nI_clamp (by omega), c8]; exact h1
theorem wb_5 {x0 x2 : Int32} {n : Nat} (h : wbOK x0 x2 n) : (x0 * 8).toNatClampNeg + (8 : Int32).toNatClampNeg ≤ 200 := by
  obtain ⟨a, b, rfl, rfl, h1, h2, h3⟩ := h
  rw [m8, nI_clamp (by omega), c8]; exact h2
theorem wb_hdr : wbOK 24 0 8 := ⟨0, 24, rfl, rfl, by decide, by decide, by decide⟩
theorem cr_log : crOK 0 12 96 := ⟨0, 12, rfl, rfl, by decide, by decide, by decide⟩
theorem cr_home : crOK 0 0 96 := ⟨0, 0, rfl, rfl, by decide, by decide, by decide⟩
theorem cr_rec : crOK 12 0 200 := ⟨12, 0, rfl, rfl, by decide, by decide, by decide⟩
theorem cr_wb {x2 x3 : Int32} {n k : Nat} (h : crOK x2 x3 n) (hk : k < 12) : wbOK (x3 + nI k) (x2 + nI k) n := by
  obtain ⟨a, b, rfl, rfl, h1, h2, h3⟩ := h
  exact ⟨a + k, b + k, nI_add b k, nI_add a k, by omega, by omega, h3⟩
theorem wbh_01 {mem blk hdr : Nat → Int32} {ds pw rn wr cm x0 x2 r : Int32} {u : S0} (h : F0_writeBlock_h mem blk hdr ds pw rn wr cm x0 x2 = (r, u)) : r = 0 ∨ r = 1 := by
  have e : r = (F0_writeBlock_h mem blk hdr ds pw rn wr cm x0 x2).1 := by rw [h]
  rw [e]
  unfold F0_writeBlock_h
  by_cases c1 : pw = 0
  · rw [if_pos c1]; exact Or.inl rfl
  · by_cases c2 : pw = -1
    · rw [if_neg c1, if_pos c2]; exact Or.inr rfl
    · rw [if_neg c1, if_neg c2]; exact Or.inr rfl
theorem nar_wbh {mem blk hdr : Nat → Int32} {ds pw rn wr cm x0 x2 r : Int32} {u : S0} (h : F0_writeBlock_h mem blk hdr ds pw rn wr cm x0 x2 = (r, u)) : narrow .boolean (.int r) = .int r := by
  rcases wbh_01 h with rfl | rfl <;> rfl
