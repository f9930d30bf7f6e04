/-! runs of block writes -/
def mbs (m : Nat) : Nat → List Nat
  | 0 => []
  | n + 1 => if m / 2 ^ (11 - n) % 2 = 1 then (11 - n) :: mbs m n else mbs m n
def runL (w : Nat → S0 → Int32 × S0) : List Nat → S0 → Int32 × S0
  | [], u => (1, u)
  | o :: t, u => (match w o u with
    | (r, u1) => if r = 0 then (0, u1) else runL w t u1)
def wm (x2 x3 : Int32) (o : Nat) (u : S0) : Int32 × S0 := F0_writeBlock_m u.1 u.2.1 u.2.2.1 u.2.2.2.1 u.2.2.2.2.1 u.2.2.2.2.2.1 u.2.2.2.2.2.2.1 u.2.2.2.2.2.2.2 (x3 + nI o) (x2 + nI o)
def wb (x2 x3 : Int32) (o : Nat) (u : S0) : Int32 × S0 := F0_writeBlock_b u.1 u.2.1 u.2.2.1 u.2.2.2.1 u.2.2.2.2.1 u.2.2.2.2.2.1 u.2.2.2.2.2.2.1 u.2.2.2.2.2.2.2 (x3 + nI o) (x2 + nI o)
def mw (g : (Nat → Int32) → (Nat → Int32) → Nat → Int32) (v : S0) : Int32 × S0 := match F1_may v.1 v.2.1 v.2.2.1 v.2.2.2.1 v.2.2.2.2.1 v.2.2.2.2.2.1 v.2.2.2.2.2.2.1 v.2.2.2.2.2.2.2 with
  | (r, mem, dsk, sto, dn, en, pw, wr, cm) => if r = 0 then (0, mem, dsk, sto, dn, en, pw, wr, cm) else (1, mem, g mem dsk, sto, dn, en, pw, wr, cm)
def gl (o : Nat) (mem d : Nat → Int32) : Nat → Int32 := cpm mem (12 + nI o) (nI o) 8 d
def gh (o : Nat) (mem d : Nat → Int32) : Nat → Int32 := cpm mem (nI o) (nI o) 8 d
def gr (o : Nat) (_mem d : Nat → Int32) : Nat → Int32 := cpd (nI o) 8 d
def gx (x : Int32) (_mem d : Nat → Int32) : Nat → Int32 := upd d (192 : Int32).toNatClampNeg x
theorem mbs_lt (m : Nat) : ∀ n, n ≤ 12 → ∀ o, o ∈ mbs m n → o < 12 := by
  intro n
  induction n with
  | zero => intro _ o h; simp [mbs] at h
  | succ n ih =>
    intro hn o h
    rw [mbs] at h
    by_cases c : m / 2 ^ (11 - n) % 2 = 1
    · rw [if_pos c] at h
      rcases List.mem_cons.mp h with h | h
      · omega
      · exact ih (by omega) o h
    · rw [if_neg c] at h; exact ih (by omega) o h
theorem mbs_in (m : Nat) : ∀ n, n ≤ 12 → ∀ o, 12 - n ≤ o → o < 12 → m / 2 ^ o % 2 = 1 → o ∈ mbs m n := by
  intro n
  induction n with
  | zero => intro _ o h1 h2; omega
  | succ n ih =>
    intro hn o h1 h2 h3
    rw [mbs]
    by_cases e : o = 11 - n
    · subst e; rw [if_pos h3]; exact List.mem_cons_self
    · have := ih (by omega) o (by omega) h2 h3
      by_cases c : m / 2 ^ (11 - n) % 2 = 1
      · rw [if_pos c]; exact List.mem_cons_of_mem _ this
      · rw [if_neg c]; exact this
theorem or_any : ∀ a, a < 64 → ∀ b, b < 64 → 64 * a + b = 0 ∨ (List.range 12).any (fun o => decide ((64 * a + b) / 2 ^ o % 2 = 1)) = true := by decide +kernel
theorem mbs_nil {m : Nat} (hm : m < 4096) (h : mbs m 12 = []) : m = 0 := by
  have q := or_any (m / 64) (by omega) (m % 64) (by omega)
  rw [Nat.div_add_mod] at q
  rcases q with q | q
  · exact q
  · obtain ⟨o, ho, c⟩ := List.any_eq_true.mp q
    have := mbs_in m 12 (Nat.le_refl _) o (by omega) (List.mem_range.mp ho) (of_decide_eq_true c)
    rw [h] at this; simp at this
theorem mbs_0 : mbs 0 12 = [] := by decide
theorem mbs_len (m : Nat) : ∀ n, (mbs m n).length ≤ n := by
  intro n
  induction n with
  | zero => exact Nat.le_refl _
  | succ n ih =>
    rw [mbs]
    by_cases c : m / 2 ^ (11 - n) % 2 = 1
    · rw [if_pos c, List.length_cons]; omega
    · rw [if_neg c]; omega
theorem is_len {m : Nat} (hm : m < 2 ^ 31) : ∀ n, n ≤ 12 → ∀ a, f1_is (nI m) n (nI a) = nI (a + (mbs m n).length) := by
  intro n
  induction n with
  | zero => intro _ a; rfl
  | succ n ih =>
    intro hn a
    rw [f1_is, bitv hm (by omega), nI_add, ih (by omega), mbs]
    by_cases c : m / 2 ^ (11 - n) % 2 = 1
    · rw [if_pos c, c, List.length_cons]; congr 1; omega
    · rw [if_neg c, show m / 2 ^ (11 - n) % 2 = 0 by omega]; rfl
theorem mb_get {m : Nat} (hm : m < 2 ^ 31) : ∀ n, n ≤ 12 → ∀ a o, (mbs m n)[a]? = some o → f1_mb (nI m) n (nI a) = nI o := by
  intro n
  induction n with
  | zero => intro _ a o h; simp [mbs] at h
  | succ n ih =>
    intro hn a o h
    rw [mbs] at h
    rw [f1_mb, bitv hm (by omega)]
    by_cases c : m / 2 ^ (11 - n) % 2 = 1
    · rw [if_pos c] at h
      rw [c, if_pos (by decide : nI 1 = 1)]
      cases a with
      | zero =>
        rw [if_pos nI_0]
        simp at h
        rw [h]
      | succ a =>
        have ha : a < n := by
          have h1 := (List.getElem?_eq_some_iff.mp h).1
          have h2 := mbs_len m n
          rw [List.length_cons] at h1
          omega
        rw [if_neg (nI_ne0 (by omega) (by omega)), pk_m1]
        exact ih (by omega) a o (by simpa using h)
    · rw [if_neg c] at h
      rw [show m / 2 ^ (11 - n) % 2 = 0 by omega, if_neg (by decide)]
      exact ih (by omega) a o h
theorem cl_run_m {m : Nat} (hm : m < 2 ^ 31) (x2 x3 : Int32) : ∀ n, n ≤ 12 → ∀ u, F0_cl_m (nI m) x2 x3 n u = runL (wm x2 x3) (mbs m n) u := by
  intro n
  induction n with
  | zero => intro _ u; rfl
  | succ n ih =>
    intro hn u
    rw [F0_cl_m, mbs]
    by_cases c : m / 2 ^ (11 - n) % 2 = 1
    · rw [if_neg (fun q => (bit_has hm (by omega)).mp q c), if_pos c, runL, wm]
      generalize F0_writeBlock_m u.1 u.2.1 u.2.2.1 u.2.2.2.1 u.2.2.2.2.1 u.2.2.2.2.2.1 u.2.2.2.2.2.2.1 u.2.2.2.2.2.2.2 (x3 + nI (11 - n)) (x2 + nI (11 - n)) = w
      obtain ⟨r, u1⟩ := w
      dsimp only
      rw [ih (by omega)]
    · rw [if_pos ((bit_has hm (by omega)).mpr c), if_neg c, ih (by omega)]
theorem cl_run_b {m : Nat} (hm : m < 2 ^ 31) (x2 x3 : Int32) : ∀ n, n ≤ 12 → ∀ u, F0_cl_b (nI m) x2 x3 n u = runL (wb x2 x3) (mbs m n) u := by
  intro n
  induction n with
  | zero => intro _ u; rfl
  | succ n ih =>
    intro hn u
    rw [F0_cl_b, mbs]
    by_cases c : m / 2 ^ (11 - n) % 2 = 1
    · rw [if_neg (fun q => (bit_has hm (by omega)).mp q c), if_pos c, runL, wb]
      generalize F0_writeBlock_b u.1 u.2.1 u.2.2.1 u.2.2.2.1 u.2.2.2.2.1 u.2.2.2.2.2.1 u.2.2.2.2.2.2.1 u.2.2.2.2.2.2.2 (x3 + nI (11 - n)) (x2 + nI (11 - n)) = w
      obtain ⟨r, u1⟩ := w
      dsimp only
      rw [ih (by omega)]
    · rw [if_pos ((bit_has hm (by omega)).mpr c), if_neg c, ih (by omega)]
/-! the reference's rounds -/
theorem two_n (nn : Nat) : 2 * nI nn = nI (2 * nn) := by rw [show (2 : Int32) = nI 2 from rfl, pk_mul]
theorem cp_log {m nn k o f : Nat} (v : S0) (hn : nn ≤ 12) (hk : k < nn) (hmb : f1_mb (nI m) 12 (nI k) = nI o) : F1_cp (nI m) (nI nn) (f + 1) (nI k) v = (match mw (gl o) v with | (r, v1) => if r = 0 then (-2, v1) else F1_cp (nI m) (nI nn) f (nI (k + 1)) v1) := by
  rw [F1_cp, mw]
  generalize F1_may v.1 v.2.1 v.2.2.1 v.2.2.2.1 v.2.2.2.2.1 v.2.2.2.2.2.1 v.2.2.2.2.2.2.1 v.2.2.2.2.2.2.2 = w
  obtain ⟨r, mem, dsk, sto, dn, en, pw, wr, cm⟩ := w
  dsimp only
  by_cases c : r = 0
  · rw [if_pos c, if_pos c]; rfl
  · have e1 : f1_member mem dsk sto dn en pw wr cm (nI m) (nI k) = nI o := hmb
    rw [if_neg c, if_neg c, if_neg (fun q => by have := (nI_eq (by omega) (by omega)).mp q; omega), two_n, if_pos (nI_le (by omega) (by omega)), if_neg (nI_ge hk (by omega)), e1, nI_1]
    rfl
theorem cp_home {m nn k o f : Nat} (v : S0) (hn : nn ≤ 12) (hk : k < nn) (hmb : f1_mb (nI m) 12 (nI k) = nI o) : F1_cp (nI m) (nI nn) (f + 1) (nI (nn + 1 + k)) v = (match mw (gh o) v with | (r, v1) => if r = 0 then (-2, v1) else F1_cp (nI m) (nI nn) f (nI (nn + 1 + k + 1)) v1) := by
  rw [F1_cp, mw]
  generalize F1_may v.1 v.2.1 v.2.2.1 v.2.2.2.1 v.2.2.2.2.1 v.2.2.2.2.2.1 v.2.2.2.2.2.2.1 v.2.2.2.2.2.2.2 = w
  obtain ⟨r, mem, dsk, sto, dn, en, pw, wr, cm⟩ := w
  dsimp only
  by_cases c : r = 0
  · rw [if_pos c, if_pos c]; rfl
  · have e0 : nI (nn + 1 + k) - nI nn - 1 = nI k := by
      rw [pk_sub (by omega), show (1 : Int32) = nI 1 from rfl, pk_sub (by omega)]; congr 1; omega
    have e1 : f1_member mem dsk sto dn en pw wr cm (nI m) (nI k) = nI o := hmb
    rw [if_neg c, if_neg c, if_neg (fun q => by have := (nI_eq (by omega) (by omega)).mp q; omega), two_n, if_pos (nI_le (by omega) (by omega)), if_pos (nI_le (by omega) (by omega)), e0, e1, nI_1]
    rfl
theorem cp_hdr {m nn f : Nat} (v : S0) (hn : nn ≤ 12) : F1_cp (nI m) (nI nn) (f + 1) (nI nn) v = (match mw (gx (nI m)) v with | (r, v1) => if r = 0 then (-2, v1) else F1_cp (nI m) (nI nn) f (nI (nn + 1)) (v1.1, v1.2.1, v1.2.2.1, v1.2.2.2.1, v1.2.2.2.2.1, v1.2.2.2.2.2.1, v1.2.2.2.2.2.2.1, v1.2.2.2.2.2.2.2 + 1)) := by
  rw [F1_cp, mw]
  generalize F1_may v.1 v.2.1 v.2.2.1 v.2.2.2.1 v.2.2.2.2.1 v.2.2.2.2.2.1 v.2.2.2.2.2.2.1 v.2.2.2.2.2.2.2 = w
  obtain ⟨r, mem, dsk, sto, dn, en, pw, wr, cm⟩ := w
  dsimp only
  by_cases c : r = 0
  · rw [if_pos c, if_pos c]; rfl
  · rw [if_neg c, if_neg c, if_pos rfl, nI_1]
    rfl
theorem cp_end {m nn f : Nat} (v : S0) (hn : nn ≤ 12) : F1_cp (nI m) (nI nn) (f + 1) (nI (2 * nn + 1)) v = (match mw (gx 0) v with | (r, v1) => if r = 0 then (-2, v1) else F1_cp (nI m) (nI nn) f (nI (2 * nn + 2)) v1) := by
  rw [F1_cp, mw]
  generalize F1_may v.1 v.2.1 v.2.2.1 v.2.2.2.1 v.2.2.2.2.1 v.2.2.2.2.2.1 v.2.2.2.2.2.2.1 v.2.2.2.2.2.2.2 = w
  obtain ⟨r, mem, dsk, sto, dn, en, pw, wr, cm⟩ := w
  dsimp only
  by_cases c : r = 0
  · rw [if_pos c, if_pos c]; rfl
  · rw [if_neg c, if_neg c, if_neg (fun q => by have := (nI_eq (by omega) (by omega)).mp q; omega), two_n, if_neg (nI_ge (by omega) (by omega)), nI_1]
    rfl
theorem st_rec {m nn k o f : Nat} (v : S0) (hn : nn ≤ 12) (hk : k < nn) (hmb : f1_mb (nI m) 12 (nI k) = nI o) : F1_st (nI m) (nI (nn + 1)) (f + 1) (nI k) v = (match mw (gr o) v with | (r, v1) => if r = 0 then (-3, v1) else F1_st (nI m) (nI (nn + 1)) f (nI (k + 1)) v1) := by
  rw [F1_st, mw]
  generalize F1_may v.1 v.2.1 v.2.2.1 v.2.2.2.1 v.2.2.2.2.1 v.2.2.2.2.2.1 v.2.2.2.2.2.2.1 v.2.2.2.2.2.2.2 = w
  obtain ⟨r, mem, dsk, sto, dn, en, pw, wr, cm⟩ := w
  dsimp only
  by_cases c : r = 0
  · rw [if_pos c, if_pos c]; rfl
  · have e1 : f1_member mem dsk sto dn en pw wr cm (nI m) (nI k) = nI o := hmb
    rw [if_neg c, if_neg c, nI_pred, if_neg (fun q => by have := (nI_eq (by omega) (by omega)).mp q; omega), e1, nI_1]
    rfl
theorem st_end {m nn f : Nat} (v : S0) (hn : nn ≤ 12) : F1_st (nI m) (nI (nn + 1)) (f + 1) (nI nn) v = (match mw (gx 0) v with | (r, v1) => if r = 0 then (-3, v1) else F1_st (nI m) (nI (nn + 1)) f (nI (nn + 1)) v1) := by
  rw [F1_st, mw]
  generalize F1_may v.1 v.2.1 v.2.2.1 v.2.2.2.1 v.2.2.2.2.1 v.2.2.2.2.2.1 v.2.2.2.2.2.2.1 v.2.2.2.2.2.2.2 = w
  obtain ⟨r, mem, dsk, sto, dn, en, pw, wr, cm⟩ := w
  dsimp only
  by_cases c : r = 0
  · rw [if_pos c, if_pos c]; rfl
  · rw [if_neg c, if_neg c, nI_pred, if_pos rfl, nI_1]
    rfl
/-- a run of rounds, over any of the three -/
theorem ph_gen (G : Nat → Int32 → S0 → Int32 × S0) (bad : Int32) (w : Nat → S0 → Int32 × S0) (L : List Nat) (c0 : Nat)
    (hs : ∀ (k o f : Nat) (v : S0), L[k]? = some o → G (f + 1) (nI (c0 + k)) v = (match w o v with | (r, v1) => if r = 0 then (bad, v1) else G f (nI (c0 + k + 1)) v1)) :
    ∀ (t pre : List Nat) (v : S0) (f : Nat), L = pre ++ t → G (t.length + f) (nI (c0 + pre.length)) v = (match runL w t v with | (r, v1) => if r = 0 then (bad, v1) else G f (nI (c0 + L.length)) v1) := by
  intro t
  induction t with
  | nil =>
    intro pre v f e
    rw [List.append_nil] at e
    rw [e, runL, List.length_nil, Nat.zero_add]
    exact (if_neg (by decide)).symm
  | cons o t ih =>
    intro pre v f e
    rw [show (o :: t).length + f = (t.length + f) + 1 by rw [List.length_cons]; omega]
    rw [hs pre.length o _ v (by rw [e]; simp), runL]
    generalize w o v = q
    obtain ⟨r, v1⟩ := q
    dsimp only
    by_cases c : r = 0
    · rw [if_pos c, if_pos c]
      exact (if_pos rfl).symm
    · rw [if_neg c, if_neg c]
      have := ih (pre ++ [o]) v1 f (by rw [e]; simp)
      rw [List.length_append, List.length_singleton, ← Nat.add_assoc] at this
      exact this
