/-! numbers of both states -/
theorem nar0 : vp_nar .boolean 0 = 0 := rfl
theorem nar1 : vp_nar .boolean 1 = 1 := rfl
theorem sh_c : ∀ o, o < 12 → ((nI o &&& 31).toBitVec.smod 32).toNat = o := by decide
theorem sh_1 : ∀ o, o < 12 → (1 : Int32) <<< (nI o &&& 31) = nI (2 ^ o) := by decide
theorem bitv {m o : Nat} (hm : m < 2 ^ 31) (ho : o < 12) : ((nI m >>> (nI o &&& 31)) &&& 1) = nI (m / 2 ^ o % 2) := by
  rw [pk_shrN hm _ o (sh_c o ho)]
  have h : m / 2 ^ o < 2 ^ 32 := Nat.lt_of_le_of_lt (Nat.div_le_self _ _) (by omega)
  exact pk_andN h 1 (by decide)
theorem bit_has {m o : Nat} (hm : m < 2 ^ 31) (ho : o < 12) : f0_has (nI m) (nI o) = 0 ↔ ¬ m / 2 ^ o % 2 = 1 := by
  unfold f0_has
  rw [bitv hm ho]
  have h2 : m / 2 ^ o % 2 < 2 := Nat.mod_lt _ (by decide)
  generalize m / 2 ^ o % 2 = b at h2
  rcases (show b = 0 ∨ b = 1 by omega) with rfl | rfl <;> decide
theorem or_tab0 : ∀ a, a < 64 → ∀ b, b < 64 → ∀ o, o < 12 → (64 * a + b) ||| 2 ^ o = if (64 * a + b) / 2 ^ o % 2 = 1 then (64 * a + b) else (64 * a + b) + 2 ^ o := by decide +kernel
theorem or_tab (m : Nat) (hm : m < 4096) (o : Nat) (ho : o < 12) : m ||| 2 ^ o = if m / 2 ^ o % 2 = 1 then m else m + 2 ^ o := by
  have h := or_tab0 (m / 64) (by omega) (m % 64) (by omega) o ho
  rw [Nat.div_add_mod] at h
  exact h
/-- the set of the objects stored to -/
def bq (sto : Nat → Int32) (o : Nat) : Nat := if sto o = 0 then 0 else 1
def sb (sto : Nat → Int32) : Nat := bq sto 0 + 2 * bq sto 1 + 4 * bq sto 2 + 8 * bq sto 3 + 16 * bq sto 4 + 32 * bq sto 5 + 64 * bq sto 6 + 128 * bq sto 7 + 256 * bq sto 8 + 512 * bq sto 9 + 1024 * bq sto 10 + 2048 * bq sto 11
theorem bq_le (sto : Nat → Int32) (o : Nat) : bq sto o ≤ 1 := by
  unfold bq; by_cases c : sto o = 0
  · rw [if_pos c]; omega
  · rw [if_neg c]; omega
theorem dt_step (sto : Nat → Int32) (n a : Nat) (hn : n < 12) : f1_dt sto (n + 1) (nI a) = f1_dt sto n (nI (a + 2 ^ (11 - n) * bq sto (11 - n))) := by
  rw [f1_dt, nI_clamp (by omega), sh_1 _ (by omega), nI_add]
  unfold bq
  by_cases c : sto (11 - n) = 0
  · rw [if_pos c, if_pos c]; rfl
  · rw [if_neg c, if_neg c, Nat.mul_one]
theorem dt_all (sto : Nat → Int32) : f1_dt sto 12 0 = nI (sb sto) := by
  rw [show (0 : Int32) = nI 0 from rfl, dt_step _ _ _ (by decide), dt_step _ _ _ (by decide), dt_step _ _ _ (by decide), dt_step _ _ _ (by decide), dt_step _ _ _ (by decide), dt_step _ _ _ (by decide), dt_step _ _ _ (by decide), dt_step _ _ _ (by decide), dt_step _ _ _ (by decide), dt_step _ _ _ (by decide), dt_step _ _ _ (by decide), dt_step _ _ _ (by decide), f1_dt]
  congr 1
  unfold sb
  simp only [Nat.sub_self, Nat.reduceSub, Nat.reducePow, Nat.zero_add, Nat.one_mul]
theorem sb_lt (sto : Nat → Int32) : sb sto < 4096 := by
  unfold sb
  have := bq_le sto 0; have := bq_le sto 1; have := bq_le sto 2; have := bq_le sto 3; have := bq_le sto 4; have := bq_le sto 5; have := bq_le sto 6; have := bq_le sto 7; have := bq_le sto 8; have := bq_le sto 9; have := bq_le sto 10; have := bq_le sto 11
  omega
theorem sb_bit (sto : Nat → Int32) : ∀ o, o < 12 → sb sto / 2 ^ o % 2 = bq sto o := by
  unfold sb
  have := bq_le sto 0; have := bq_le sto 1; have := bq_le sto 2; have := bq_le sto 3; have := bq_le sto 4; have := bq_le sto 5; have := bq_le sto 6; have := bq_le sto 7; have := bq_le sto 8; have := bq_le sto 9; have := bq_le sto 10; have := bq_le sto 11
  intro o ho
  rcases (show o = 0 ∨ o = 1 ∨ o = 2 ∨ o = 3 ∨ o = 4 ∨ o = 5 ∨ o = 6 ∨ o = 7 ∨ o = 8 ∨ o = 9 ∨ o = 10 ∨ o = 11 by omega) with rfl | rfl | rfl | rfl | rfl | rfl | rfl | rfl | rfl | rfl | rfl | rfl <;> simp only [Nat.reducePow] <;> omega
theorem bq_upd (sto : Nat → Int32) (o j : Nat) : bq (upd sto o 1) j = if j = o then 1 else bq sto j := by
  unfold bq
  by_cases c : j = o
  · subst c; rw [pk_us, if_pos rfl, if_neg (by decide)]
  · rw [pk_un c, if_neg c]
theorem sb_put (sto : Nat → Int32) (o : Nat) (ho : o < 12) : nI (sb sto) ||| nI (2 ^ o) = nI (sb (upd sto o 1)) := by
  have e : ∀ a b : Nat, nI a ||| nI b = nI (a ||| b) := fun a b => by
    apply Int32.toBitVec_inj.mp
    show BitVec.ofNat 32 a ||| BitVec.ofNat 32 b = BitVec.ofNat 32 (a ||| b)
    exact (BitVec.ofNat_or ..).symm
  rw [e, or_tab _ (sb_lt sto) o ho, sb_bit sto o ho]
  congr 1
  have := bq_le sto o
  have q : ∀ j, bq (upd sto o 1) j = if j = o then 1 else bq sto j := bq_upd sto o
  rcases (show o = 0 ∨ o = 1 ∨ o = 2 ∨ o = 3 ∨ o = 4 ∨ o = 5 ∨ o = 6 ∨ o = 7 ∨ o = 8 ∨ o = 9 ∨ o = 10 ∨ o = 11 by omega) with rfl | rfl | rfl | rfl | rfl | rfl | rfl | rfl | rfl | rfl | rfl | rfl <;> (unfold sb; rw [q 0, q 1, q 2, q 3, q 4, q 5, q 6, q 7, q 8, q 9, q 10, q 11]; simp only [Nat.reducePow, Nat.reduceEqDiff, if_true, if_false]; split <;> omega)
/-! copies -/
theorem cpm_at (mem : Nat → Int32) (t o : Nat) (ht : t < 25) (ho : o < 12) : ∀ (n : Nat), n ≤ 8 → ∀ (d : Nat → Int32) (j : Nat), cpm mem (nI t) (nI o) n d j = if t * 8 + (8 - n) ≤ j ∧ j < t * 8 + 8 then mem (o * 8 + (j - t * 8)) else d j := by
  intro n
  induction n with
  | zero => intro hn d j; rw [cpm, if_neg (by omega)]
  | succ n ih =>
    intro hn d j
    rw [cpm, ix1_at (by omega), ix1_at (by omega), ih (by omega)]
    by_cases c : t * 8 + (8 - n) ≤ j ∧ j < t * 8 + 8
    · rw [if_pos c, if_pos (by omega)]
    · rw [if_neg c]
      by_cases c2 : j = t * 8 + (7 - n)
      · subst c2
        rw [pk_us, if_pos (by omega)]; congr 1; omega
      · rw [pk_un c2, if_neg (by omega)]
theorem cpm_eq (mem d : Nat → Int32) (t o : Nat) (ht : t < 25) (ho : o < 12) : cpm mem (nI t) (nI o) 8 d = va_cpy mem d (o * 8) (t * 8) 8 := by
  funext j
  rw [cpm_at mem t o ht ho 8 (Nat.le_refl _)]
  by_cases c : t * 8 ≤ j ∧ j < t * 8 + 8
  · rw [if_pos (by omega), pk_cpy_in c.1 c.2]
  · rw [if_neg (by omega), pk_cpy_out (by omega)]
theorem cpd_at (o : Nat) (ho : o < 12) : ∀ (n : Nat), n ≤ 8 → ∀ (d : Nat → Int32) (j : Nat), cpd (nI o) n d j = if o * 8 + (8 - n) ≤ j ∧ j < o * 8 + 8 then d (96 + j) else d j := by
  intro n
  induction n with
  | zero => intro hn d j; rw [cpd, if_neg (by omega)]
  | succ n ih =>
    intro hn d j
    have e : (96 + 8 * nI o + nI (7 - n)).toNatClampNeg = 96 + (o * 8 + (7 - n)) := by
      rw [show (96 : Int32) = nI 96 from rfl, show (8 : Int32) = nI 8 from rfl, pk_mul, nI_add, nI_add, nI_clamp (by omega)]; omega
    rw [cpd, ix1_at (by omega), e, ih (by omega)]
    by_cases c : o * 8 + (8 - n) ≤ j ∧ j < o * 8 + 8
    · rw [if_pos c, if_pos (by omega), pk_un (by omega)]
    · rw [if_neg c]
      by_cases c2 : j = o * 8 + (7 - n)
      · subst c2
        rw [pk_us, if_pos (by omega)]
      · rw [pk_un c2, if_neg (by omega)]
theorem cpd_eq (d : Nat → Int32) (o : Nat) (ho : o < 12) : cpd (nI o) 8 d = va_cpy d d ((12 + o) * 8) (o * 8) 8 := by
  funext j
  rw [cpd_at o ho 8 (Nat.le_refl _)]
  by_cases c : o * 8 ≤ j ∧ j < o * 8 + 8
  · rw [if_pos (by omega), pk_cpy_in c.1 c.2]; congr 1; omega
  · rw [if_neg (by omega), pk_cpy_out (by omega)]
theorem ldm_at (dsk : Nat → Int32) : ∀ (n : Nat), n ≤ 96 → ∀ (f : Nat → Int32) (j : Nat), ldm dsk n f j = if 96 - n ≤ j ∧ j < 96 then dsk j else f j := by
  intro n
  induction n with
  | zero => intro hn f j; rw [ldm, if_neg (by omega)]
  | succ n ih =>
    intro hn f j
    rw [ldm, nI_clamp (by omega), ih (by omega)]
    by_cases c : 96 - n ≤ j ∧ j < 96
    · rw [if_pos c, if_pos (by omega)]
    · rw [if_neg c]
      by_cases c2 : j = 95 - n
      · subst c2; rw [pk_us, if_pos (by omega)]
      · rw [pk_un c2, if_neg (by omega)]
theorem ldm_eq (dsk f : Nat → Int32) : ldm dsk 96 f = va_cpy dsk f 0 0 96 := by
  funext j
  rw [ldm_at dsk 96 (Nat.le_refl _)]
  by_cases c : j < 96
  · rw [if_pos (by omega), pk_cpy_in (by omega) (by omega)]; congr 1; omega
  · rw [if_neg (by omega), pk_cpy_out (by omega)]
theorem rst_at : ∀ (n : Nat), n ≤ 12 → ∀ (f : Nat → Int32) (j : Nat), rst n f j = if 12 - n ≤ j ∧ j < 12 then 0 else f j := by
  intro n
  induction n with
  | zero => intro hn f j; rw [rst, if_neg (by omega)]
  | succ n ih =>
    intro hn f j
    rw [rst, nI_clamp (by omega), ih (by omega), nar0]
    by_cases c : 12 - n ≤ j ∧ j < 12
    · rw [if_pos c, if_pos (by omega)]
    · rw [if_neg c]
      by_cases c2 : j = 11 - n
      · subst c2; rw [pk_us, if_pos (by omega)]
      · rw [pk_un c2, if_neg (by omega)]
theorem sb_rst (sto : Nat → Int32) : sb (rst 12 sto) = 0 := by
  have q : ∀ j, j < 12 → bq (rst 12 sto) j = 0 := fun j hj => by
    have e := rst_at 12 (Nat.le_refl _) sto j
    rw [if_pos (by omega)] at e
    unfold bq; rw [e]; rfl
  unfold sb
  rw [q 0 (by decide), q 1 (by decide), q 2 (by decide), q 3 (by decide), q 4 (by decide), q 5 (by decide), q 6 (by decide), q 7 (by decide), q 8 (by decide), q 9 (by decide), q 10 (by decide), q 11 (by decide)]
theorem sb_0 : sb (fun _ => 0) = 0 := by decide
theorem hdr_eq (hdr blk : Nat → Int32) (x : Int32) (h1 : ∀ j, 1 ≤ j → j < 8 → hdr j = 0) (h2 : ∀ j, 193 ≤ j → j < 200 → blk j = 0) : va_cpy (upd hdr 0 x) blk 0 192 8 = upd blk 192 x := by
  funext j
  by_cases c : 192 ≤ j ∧ j < 192 + 8
  · rw [pk_cpy_in c.1 c.2]
    by_cases c2 : j = 192
    · subst c2; rw [pk_us]; exact pk_us.symm
    · rw [pk_un (by omega), pk_un c2, h1 _ (by omega) (by omega), h2 j (by omega) (by omega)]
  · rw [pk_cpy_out (by omega), pk_un (by omega)]
