abbrev Ww (q0 q1 q2 q3 : Nat) (d1 d2 d3 : ClassId) (r0 r1 r2 r3 : Nat) (e1 e2 e3 : ClassId) (u v : S0) : va_W := w0 q0 q1 q2 q3 d1 d2 d3 u ++ w1 r0 r1 r2 r3 e1 e2 e3 v
abbrev Kk (d1 d2 d3 e1 e2 e3 : ClassId) : List (ClassId × FieldType) := k0 d1 d2 d3 ++ k1 e1 e2 e3
theorem ls_in {i L : Nat} (hL : L ≤ 2560) (h : i + 5 ≤ L) {k : Nat} (hk : k < 5) {x : Int32} (hx : x = nI k) : vp_in (nI i + x) L := by
  rw [hx, nI_add]; exact vp_in_nI (by omega) (by omega)
theorem lgc (x : Int64) : lg_cmp x x = 0 := by simp [lg_cmp]
theorem hu01 {rn dn : Int32} (h : UpR rn dn) : rn = 0 ∨ rn = 1 := by
  rcases h with ⟨rfl, -⟩ | ⟨rfl, -⟩
  · exact Or.inr rfl
  · exact Or.inl rfl
set_option maxHeartbeats 4000000 in
set_option maxRecDepth 100000 in
theorem lc_place {p : Program} {l : Launch} {e : Env} {s : State} {m : MethodId} {below : List Frame} {meth : Method} {c : Code} {dC : Nat → ClassId} {dI : Nat → Nat → Nat} {b L : Nat} {xs : Nat → Int32} {Q : State → Prop} {q0 q1 q2 q3 r0 r1 r2 r3 : Nat} {d1 d2 d3 e1 e2 e3 : ClassId} (hL : L ≤ 2560) (C0 : lw_At p s m meth c b L xs) {i : Nat} (hi : i + 5 ≤ L) {mem blk hdr sto : Nat → Int32} {pw en pw' rn dn wr cm : Int32} (hI : Inv mem blk hdr) (hp : PwR pw en pw') (hu : UpR rn dn) {H : Heap} {locs : List Loc} {ls : Array Slot} (hK : va_K (dC, dI) vwCl (Kk d1 d2 d3 e1 e2 e3) s) (hP : va_P (dC, dI) vwCl (Ww q0 q1 q2 q3 d1 d2 d3 r0 r1 r2 r3 e1 e2 e3 (mem, blk, hdr, nI (sb sto), pw, rn, wr, cm) (mem, blk, sto, dn, en, pw', wr, cm)) H) (hD : va_D (fun q : Nat => s.heap.size ≤ q) (Ww q0 q1 q2 q3 d1 d2 d3 r0 r1 r2 r3 e1 e2 e3 (mem, blk, hdr, nI (sb sto), pw, rn, wr, cm) (mem, blk, sto, dn, en, pw', wr, cm))) (hS : va_S (fun q : Nat => s.heap.size ≤ q) s.heap H locs) (hl : lv_has ls 4 [(0, .ref b), (1, .ref q0), (2, .ref r0), (3, .int (nI i))]) (again : ∀ (u v : S0) (H : Heap) (locs : List Loc), Rel u v → va_P (dC, dI) vwCl (Ww q0 q1 q2 q3 d1 d2 d3 r0 r1 r2 r3 e1 e2 e3 u v) H → va_D (fun q : Nat => s.heap.size ≤ q) (Ww q0 q1 q2 q3 d1 d2 d3 r0 r1 r2 r3 e1 e2 e3 u v) → va_S (fun q : Nat => s.heap.size ≤ q) s.heap H locs → W p l e room_1 s m #[Value.ref b] below meth c H locs 8 628 Q (F0 m 676 ls [])) : W p l e room_1 s m #[Value.ref b] below meth c H locs 8 628 Q (F0 m 120 ls []) := by
  obtain ⟨hx, hb, hr, hml, hown, hts0, hX, hbl, hlocks, hgv⟩ := C0
  have hts : ∀ w ∈ wsL_law, w.before #[Value.ref b] s = true := fun w h => hts0 w (wsL_law_in w h)
  have hown : s.vm.findClass RL = some m.cls := hown
  have hA : ∀ q : Nat, s.heap.size ≤ q → (fun q : Nat => s.heap.size ≤ q) q := fun _ h => h
  have hbA : ¬ (fun q : Nat => s.heap.size ≤ q) b := Nat.not_le.mpr hbl
  have hK0 : va_K (dC, dI) vwCl (k0 d1 d2 d3) s := hK.sub [0, 1, 2] rfl
  have hK1 : va_K (dC, dI) vwCl (k1 e1 e2 e3) s := hK.sub [3, 4, 5] rfl
  refine lv_aload_n hx hb dL_law_120 rfl (lv_at hl 1 rfl) ?_
  refine lv_aload_n hx hb dL_law_121 rfl (lv_at hl 0 rfl) ?_
  refine lv_iload_n hx hb dL_law_122 rfl (lv_at hl 3 rfl) ?_
  refine lv_iconst (v := 1) hx hb dL_law_123 (by decide) ?_
  refine lv_iadd hx hb dL_law_124 ?_
  refine va_sld hx hb hX hbl hbA hS (ls_in hL hi (k := 1) (by decide) rfl) dL_law_125 ?_
  refine lv_aload_n hx hb dL_law_126 rfl (lv_at hl 0 rfl) ?_
  refine lv_iload_n hx hb dL_law_127 rfl (lv_at hl 3 rfl) ?_
  refine lv_iconst (v := 2) hx hb dL_law_128 (by decide) ?_
  refine lv_iadd hx hb dL_law_129 ?_
  refine va_sld hx hb hX hbl hbA hS (ls_in hL hi (k := 2) (by decide) rfl) dL_law_130 ?_
  refine lv_aload_n hx hb dL_law_131 rfl (lv_at hl 0 rfl) ?_
  refine lv_iload_n hx hb dL_law_132 rfl (lv_at hl 3 rfl) ?_
  refine lv_iconst (v := 3) hx hb dL_law_133 (by decide) ?_
  refine lv_iadd hx hb dL_law_134 ?_
  refine va_sld hx hb hX hbl hbA hS (ls_in hL hi (k := 3) (by decide) rfl) dL_law_135 ?_
  refine callWi (q := (RX0, TX0, 8)) (ci := 0) (q0 := 0) (As := [.int (xs (nI i + 1).toNatClampNeg), .int (xs (nI i + 2).toNatClampNeg), .int (xs (nI i + 3).toNatClampNeg)]) (rest := []) (wr := (w1 r0 r1 r2 r3 e1 e2 e3 (mem, blk, sto, dn, en, pw', wr, cm))) (m0_place l dC dI q0 q1 q2 q3 d1 d2 d3 _ mem blk hdr (nI (sb sto)) pw rn wr cm (xs (nI i + 1).toNatClampNeg) (xs (nI i + 2).toNatClampNeg) (xs (nI i + 3).toNatClampNeg) ) ⟨hx, hb, hml, hown, hts⟩ (cwV 3 hts gL_law_X0_place rfl rfl rfl (by decide +kernel) ⟨Nat.le_of_ble_eq_true rfl, Nat.le_of_ble_eq_true rfl⟩) hK0 hP hD hS hA rfl rfl [0, 1, 2, 3] [4, 5, 6, 7] rfl rfl rfl (by decide) (by decide) (by decide) rfl hl.1 rfl (Nat.le_of_ble_eq_true rfl) dL_law_136 ⟨Nat.le_refl _, Nat.le_refl _⟩ (fun H locs hP hD hS => ?_)
  generalize hF0 : F0_place mem blk hdr (nI (sb sto)) pw rn wr cm (xs (nI i + 1).toNatClampNeg) (xs (nI i + 2).toNatClampNeg) (xs (nI i + 3).toNatClampNeg) = A0 at hP hD ⊢
  have hP : va_P (dC, dI) vwCl (w1 r0 r1 r2 r3 e1 e2 e3 (mem, blk, sto, dn, en, pw', wr, cm) ++ w0 q0 q1 q2 q3 d1 d2 d3 A0.2) _ := hP
  have hD : va_D _ (w1 r0 r1 r2 r3 e1 e2 e3 (mem, blk, sto, dn, en, pw', wr, cm) ++ w0 q0 q1 q2 q3 d1 d2 d3 A0.2) := hD
  refine lv_aload_n hx hb dL_law_139 rfl (lv_at hl 2 rfl) ?_
  refine lv_aload_n hx hb dL_law_140 rfl (lv_at hl 0 rfl) ?_
  refine lv_iload_n hx hb dL_law_141 rfl (lv_at hl 3 rfl) ?_
  refine lv_iconst (v := 1) hx hb dL_law_142 (by decide) ?_
  refine lv_iadd hx hb dL_law_143 ?_
  refine va_sld hx hb hX hbl hbA hS (ls_in hL hi (k := 1) (by decide) rfl) dL_law_144 ?_
  refine lv_aload_n hx hb dL_law_145 rfl (lv_at hl 0 rfl) ?_
  refine lv_iload_n hx hb dL_law_146 rfl (lv_at hl 3 rfl) ?_
  refine lv_iconst (v := 2) hx hb dL_law_147 (by decide) ?_
  refine lv_iadd hx hb dL_law_148 ?_
  refine va_sld hx hb hX hbl hbA hS (ls_in hL hi (k := 2) (by decide) rfl) dL_law_149 ?_
  refine lv_aload_n hx hb dL_law_150 rfl (lv_at hl 0 rfl) ?_
  refine lv_iload_n hx hb dL_law_151 rfl (lv_at hl 3 rfl) ?_
  refine lv_iconst (v := 3) hx hb dL_law_152 (by decide) ?_
  refine lv_iadd hx hb dL_law_153 ?_
  refine va_sld hx hb hX hbl hbA hS (ls_in hL hi (k := 3) (by decide) rfl) dL_law_154 ?_
  refine callWi (q := (RX1, TX1, 8)) (ci := 1) (q0 := 0) (As := [.int (xs (nI i + 1).toNatClampNeg), .int (xs (nI i + 2).toNatClampNeg), .int (xs (nI i + 3).toNatClampNeg)]) (rest := [.int A0.1]) (wr := (w0 q0 q1 q2 q3 d1 d2 d3 A0.2)) (m1_place l dC dI r0 r1 r2 r3 e1 e2 e3 _ mem blk sto dn en pw' wr cm (xs (nI i + 1).toNatClampNeg) (xs (nI i + 2).toNatClampNeg) (xs (nI i + 3).toNatClampNeg) ) ⟨hx, hb, hml, hown, hts⟩ (cwV 3 hts gL_law_X1_place rfl rfl rfl (by decide +kernel) ⟨Nat.le_of_ble_eq_true rfl, Nat.le_of_ble_eq_true rfl⟩) hK1 hP hD hS hA rfl rfl [0, 1, 2, 3] [4, 5, 6, 7] rfl rfl rfl (by decide) (by decide) (by decide) rfl hl.1 rfl (Nat.le_of_ble_eq_true rfl) dL_law_155 ⟨Nat.le_refl _, Nat.le_refl _⟩ (fun H locs hP hD hS => ?_)
  generalize hF1 : F1_place mem blk sto dn en pw' wr cm (xs (nI i + 1).toNatClampNeg) (xs (nI i + 2).toNatClampNeg) (xs (nI i + 3).toNatClampNeg) = A1 at hP hD ⊢
  have hP : va_P (dC, dI) vwCl (Ww q0 q1 q2 q3 d1 d2 d3 r0 r1 r2 r3 e1 e2 e3 A0.2 A1.2) _ := hP
  have hD : va_D _ (Ww q0 q1 q2 q3 d1 d2 d3 r0 r1 r2 r3 e1 e2 e3 A0.2 A1.2) := hD
  refine lv_icmp_eq (tgt := 676) hx hb dL_law_158 (by decide) (fun cq => ?_) (fun cq => ?_)
  · have hs := sim_place (sto := sto) (wr := wr) (cm := cm) hI hp hu (xs (nI i + 1).toNatClampNeg) (xs (nI i + 2).toNatClampNeg) (xs (nI i + 3).toNatClampNeg)
    rw [hF0, hF1] at hs
    exact again A0.2 A1.2 _ _ hs.2 hP hD hS
  · have hs := sim_place (sto := sto) (wr := wr) (cm := cm) hI hp hu (xs (nI i + 1).toNatClampNeg) (xs (nI i + 2).toNatClampNeg) (xs (nI i + 3).toNatClampNeg)
    rw [hF0, hF1] at hs
    exact absurd hs.1 cq
set_option maxHeartbeats 4000000 in
set_option maxRecDepth 100000 in
theorem lc_fetch {p : Program} {l : Launch} {e : Env} {s : State} {m : MethodId} {below : List Frame} {meth : Method} {c : Code} {dC : Nat → ClassId} {dI : Nat → Nat → Nat} {b L : Nat} {xs : Nat → Int32} {Q : State → Prop} {q0 q1 q2 q3 r0 r1 r2 r3 : Nat} {d1 d2 d3 e1 e2 e3 : ClassId} (hL : L ≤ 2560) (C0 : lw_At p s m meth c b L xs) {i : Nat} (hi : i + 5 ≤ L) {mem blk hdr sto : Nat → Int32} {pw en pw' rn dn wr cm : Int32} (hI : Inv mem blk hdr) (hp : PwR pw en pw') (hu : UpR rn dn) {H : Heap} {locs : List Loc} {ls : Array Slot} (hK : va_K (dC, dI) vwCl (Kk d1 d2 d3 e1 e2 e3) s) (hP : va_P (dC, dI) vwCl (Ww q0 q1 q2 q3 d1 d2 d3 r0 r1 r2 r3 e1 e2 e3 (mem, blk, hdr, nI (sb sto), pw, rn, wr, cm) (mem, blk, sto, dn, en, pw', wr, cm)) H) (hD : va_D (fun q : Nat => s.heap.size ≤ q) (Ww q0 q1 q2 q3 d1 d2 d3 r0 r1 r2 r3 e1 e2 e3 (mem, blk, hdr, nI (sb sto), pw, rn, wr, cm) (mem, blk, sto, dn, en, pw', wr, cm))) (hS : va_S (fun q : Nat => s.heap.size ≤ q) s.heap H locs) (hl : lv_has ls 4 [(0, .ref b), (1, .ref q0), (2, .ref r0), (3, .int (nI i))]) (again : ∀ (u v : S0) (H : Heap) (locs : List Loc), Rel u v → va_P (dC, dI) vwCl (Ww q0 q1 q2 q3 d1 d2 d3 r0 r1 r2 r3 e1 e2 e3 u v) H → va_D (fun q : Nat => s.heap.size ≤ q) (Ww q0 q1 q2 q3 d1 d2 d3 r0 r1 r2 r3 e1 e2 e3 u v) → va_S (fun q : Nat => s.heap.size ≤ q) s.heap H locs → W p l e room_1 s m #[Value.ref b] below meth c H locs 8 628 Q (F0 m 676 ls [])) : W p l e room_1 s m #[Value.ref b] below meth c H locs 8 628 Q (F0 m 163 ls []) := by
  obtain ⟨hx, hb, hr, hml, hown, hts0, hX, hbl, hlocks, hgv⟩ := C0
  have hts : ∀ w ∈ wsL_law, w.before #[Value.ref b] s = true := fun w h => hts0 w (wsL_law_in w h)
  have hown : s.vm.findClass RL = some m.cls := hown
  have hA : ∀ q : Nat, s.heap.size ≤ q → (fun q : Nat => s.heap.size ≤ q) q := fun _ h => h
  have hbA : ¬ (fun q : Nat => s.heap.size ≤ q) b := Nat.not_le.mpr hbl
  have hK0 : va_K (dC, dI) vwCl (k0 d1 d2 d3) s := hK.sub [0, 1, 2] rfl
  have hK1 : va_K (dC, dI) vwCl (k1 e1 e2 e3) s := hK.sub [3, 4, 5] rfl
  refine lv_aload_n hx hb dL_law_163 rfl (lv_at hl 1 rfl) ?_
  refine lv_aload_n hx hb dL_law_164 rfl (lv_at hl 0 rfl) ?_
  refine lv_iload_n hx hb dL_law_165 rfl (lv_at hl 3 rfl) ?_
  refine lv_iconst (v := 1) hx hb dL_law_166 (by decide) ?_
  refine lv_iadd hx hb dL_law_167 ?_
  refine va_sld hx hb hX hbl hbA hS (ls_in hL hi (k := 1) (by decide) rfl) dL_law_168 ?_
  refine lv_aload_n hx hb dL_law_169 rfl (lv_at hl 0 rfl) ?_
  refine lv_iload_n hx hb dL_law_170 rfl (lv_at hl 3 rfl) ?_
  refine lv_iconst (v := 2) hx hb dL_law_171 (by decide) ?_
  refine lv_iadd hx hb dL_law_172 ?_
  refine va_sld hx hb hX hbl hbA hS (ls_in hL hi (k := 2) (by decide) rfl) dL_law_173 ?_
  refine lv_aload_n hx hb dL_law_174 rfl (lv_at hl 0 rfl) ?_
  refine lv_iload_n hx hb dL_law_175 rfl (lv_at hl 3 rfl) ?_
  refine lv_iconst (v := 3) hx hb dL_law_176 (by decide) ?_
  refine lv_iadd hx hb dL_law_177 ?_
  refine va_sld hx hb hX hbl hbA hS (ls_in hL hi (k := 3) (by decide) rfl) dL_law_178 ?_
  refine lv_aload_n hx hb dL_law_179 rfl (lv_at hl 0 rfl) ?_
  refine lv_iload_n hx hb dL_law_180 rfl (lv_at hl 3 rfl) ?_
  refine lv_iconst (v := 4) hx hb dL_law_181 (by decide) ?_
  refine lv_iadd hx hb dL_law_182 ?_
  refine va_sld hx hb hX hbl hbA hS (ls_in hL hi (k := 4) (by decide) rfl) dL_law_183 ?_
  refine callWi (q := (RX0, TX0, 8)) (ci := 0) (q0 := 0) (As := [.int (xs (nI i + 1).toNatClampNeg), .int (xs (nI i + 2).toNatClampNeg), .int (xs (nI i + 3).toNatClampNeg), .int (xs (nI i + 4).toNatClampNeg)]) (rest := []) (wr := (w1 r0 r1 r2 r3 e1 e2 e3 (mem, blk, sto, dn, en, pw', wr, cm))) (m0_fetch l dC dI q0 q1 q2 q3 d1 d2 d3 _ mem blk hdr (nI (sb sto)) pw rn wr cm (xs (nI i + 1).toNatClampNeg) (xs (nI i + 2).toNatClampNeg) (xs (nI i + 3).toNatClampNeg) (xs (nI i + 4).toNatClampNeg) ) ⟨hx, hb, hml, hown, hts⟩ (cwV 4 hts gL_law_X0_fetch rfl rfl rfl (by decide +kernel) ⟨Nat.le_of_ble_eq_true rfl, Nat.le_of_ble_eq_true rfl⟩) hK0 hP hD hS hA rfl rfl [0, 1, 2, 3] [4, 5, 6, 7] rfl rfl rfl (by decide) (by decide) (by decide) rfl hl.1 rfl (Nat.le_of_ble_eq_true rfl) dL_law_184 ⟨Nat.le_refl _, Nat.le_refl _⟩ (fun H locs hP hD hS => ?_)
  generalize hF0 : F0_fetch mem blk hdr (nI (sb sto)) pw rn wr cm (xs (nI i + 1).toNatClampNeg) (xs (nI i + 2).toNatClampNeg) (xs (nI i + 3).toNatClampNeg) (xs (nI i + 4).toNatClampNeg) = A0 at hP hD ⊢
  have hP : va_P (dC, dI) vwCl (w1 r0 r1 r2 r3 e1 e2 e3 (mem, blk, sto, dn, en, pw', wr, cm) ++ w0 q0 q1 q2 q3 d1 d2 d3 A0.2) _ := hP
  have hD : va_D _ (w1 r0 r1 r2 r3 e1 e2 e3 (mem, blk, sto, dn, en, pw', wr, cm) ++ w0 q0 q1 q2 q3 d1 d2 d3 A0.2) := hD
  refine lv_aload_n hx hb dL_law_187 rfl (lv_at hl 2 rfl) ?_
  refine lv_aload_n hx hb dL_law_188 rfl (lv_at hl 0 rfl) ?_
  refine lv_iload_n hx hb dL_law_189 rfl (lv_at hl 3 rfl) ?_
  refine lv_iconst (v := 1) hx hb dL_law_190 (by decide) ?_
  refine lv_iadd hx hb dL_law_191 ?_
  refine va_sld hx hb hX hbl hbA hS (ls_in hL hi (k := 1) (by decide) rfl) dL_law_192 ?_
  refine lv_aload_n hx hb dL_law_193 rfl (lv_at hl 0 rfl) ?_
  refine lv_iload_n hx hb dL_law_194 rfl (lv_at hl 3 rfl) ?_
  refine lv_iconst (v := 2) hx hb dL_law_195 (by decide) ?_
  refine lv_iadd hx hb dL_law_196 ?_
  refine va_sld hx hb hX hbl hbA hS (ls_in hL hi (k := 2) (by decide) rfl) dL_law_197 ?_
  refine lv_aload_n hx hb dL_law_198 rfl (lv_at hl 0 rfl) ?_
  refine lv_iload_n hx hb dL_law_199 rfl (lv_at hl 3 rfl) ?_
  refine lv_iconst (v := 3) hx hb dL_law_200 (by decide) ?_
  refine lv_iadd hx hb dL_law_201 ?_
  refine va_sld hx hb hX hbl hbA hS (ls_in hL hi (k := 3) (by decide) rfl) dL_law_202 ?_
  refine lv_aload_n hx hb dL_law_203 rfl (lv_at hl 0 rfl) ?_
  refine lv_iload_n hx hb dL_law_204 rfl (lv_at hl 3 rfl) ?_
  refine lv_iconst (v := 4) hx hb dL_law_205 (by decide) ?_
  refine lv_iadd hx hb dL_law_206 ?_
  refine va_sld hx hb hX hbl hbA hS (ls_in hL hi (k := 4) (by decide) rfl) dL_law_207 ?_
  refine callWi (q := (RX1, TX1, 8)) (ci := 1) (q0 := 0) (As := [.int (xs (nI i + 1).toNatClampNeg), .int (xs (nI i + 2).toNatClampNeg), .int (xs (nI i + 3).toNatClampNeg), .int (xs (nI i + 4).toNatClampNeg)]) (rest := [.int A0.1]) (wr := (w0 q0 q1 q2 q3 d1 d2 d3 A0.2)) (m1_fetch l dC dI r0 r1 r2 r3 e1 e2 e3 _ mem blk sto dn en pw' wr cm (xs (nI i + 1).toNatClampNeg) (xs (nI i + 2).toNatClampNeg) (xs (nI i + 3).toNatClampNeg) (xs (nI i + 4).toNatClampNeg) hI.2.2.1) ⟨hx, hb, hml, hown, hts⟩ (cwV 4 hts gL_law_X1_fetch rfl rfl rfl (by decide +kernel) ⟨Nat.le_of_ble_eq_true rfl, Nat.le_of_ble_eq_true rfl⟩) hK1 hP hD hS hA rfl rfl [0, 1, 2, 3] [4, 5, 6, 7] rfl rfl rfl (by decide) (by decide) (by decide) rfl hl.1 rfl (Nat.le_of_ble_eq_true rfl) dL_law_208 ⟨Nat.le_refl _, Nat.le_refl _⟩ (fun H locs hP hD hS => ?_)
  generalize hF1 : F1_fetch mem blk sto dn en pw' wr cm (xs (nI i + 1).toNatClampNeg) (xs (nI i + 2).toNatClampNeg) (xs (nI i + 3).toNatClampNeg) (xs (nI i + 4).toNatClampNeg) = A1 at hP hD ⊢
  have hP : va_P (dC, dI) vwCl (Ww q0 q1 q2 q3 d1 d2 d3 r0 r1 r2 r3 e1 e2 e3 A0.2 A1.2) _ := hP
  have hD : va_D _ (Ww q0 q1 q2 q3 d1 d2 d3 r0 r1 r2 r3 e1 e2 e3 A0.2 A1.2) := hD
  refine lv_icmp_eq (tgt := 676) hx hb dL_law_211 (by decide) (fun cq => ?_) (fun cq => ?_)
  · have hs := sim_fetch (sto := sto) (wr := wr) (cm := cm) hI hp hu (xs (nI i + 1).toNatClampNeg) (xs (nI i + 2).toNatClampNeg) (xs (nI i + 3).toNatClampNeg) (xs (nI i + 4).toNatClampNeg)
    rw [hF0, hF1] at hs
    exact again A0.2 A1.2 _ _ hs.2 hP hD hS
  · have hs := sim_fetch (sto := sto) (wr := wr) (cm := cm) hI hp hu (xs (nI i + 1).toNatClampNeg) (xs (nI i + 2).toNatClampNeg) (xs (nI i + 3).toNatClampNeg) (xs (nI i + 4).toNatClampNeg)
    rw [hF0, hF1] at hs
    exact absurd hs.1 cq
set_option maxHeartbeats 4000000 in
set_option maxRecDepth 100000 in
theorem lc_store {p : Program} {l : Launch} {e : Env} {s : State} {m : MethodId} {below : List Frame} {meth : Method} {c : Code} {dC : Nat → ClassId} {dI : Nat → Nat → Nat} {b L : Nat} {xs : Nat → Int32} {Q : State → Prop} {q0 q1 q2 q3 r0 r1 r2 r3 : Nat} {d1 d2 d3 e1 e2 e3 : ClassId} (hL : L ≤ 2560) (C0 : lw_At p s m meth c b L xs) {i : Nat} (hi : i + 5 ≤ L) {mem blk hdr sto : Nat → Int32} {pw en pw' rn dn wr cm : Int32} (hI : Inv mem blk hdr) (hp : PwR pw en pw') (hu : UpR rn dn) {H : Heap} {locs : List Loc} {ls : Array Slot} (hK : va_K (dC, dI) vwCl (Kk d1 d2 d3 e1 e2 e3) s) (hP : va_P (dC, dI) vwCl (Ww q0 q1 q2 q3 d1 d2 d3 r0 r1 r2 r3 e1 e2 e3 (mem, blk, hdr, nI (sb sto), pw, rn, wr, cm) (mem, blk, sto, dn, en, pw', wr, cm)) H) (hD : va_D (fun q : Nat => s.heap.size ≤ q) (Ww q0 q1 q2 q3 d1 d2 d3 r0 r1 r2 r3 e1 e2 e3 (mem, blk, hdr, nI (sb sto), pw, rn, wr, cm) (mem, blk, sto, dn, en, pw', wr, cm))) (hS : va_S (fun q : Nat => s.heap.size ≤ q) s.heap H locs) (hl : lv_has ls 4 [(0, .ref b), (1, .ref q0), (2, .ref r0), (3, .int (nI i))]) (again : ∀ (u v : S0) (H : Heap) (locs : List Loc), Rel u v → va_P (dC, dI) vwCl (Ww q0 q1 q2 q3 d1 d2 d3 r0 r1 r2 r3 e1 e2 e3 u v) H → va_D (fun q : Nat => s.heap.size ≤ q) (Ww q0 q1 q2 q3 d1 d2 d3 r0 r1 r2 r3 e1 e2 e3 u v) → va_S (fun q : Nat => s.heap.size ≤ q) s.heap H locs → W p l e room_1 s m #[Value.ref b] below meth c H locs 8 628 Q (F0 m 676 ls [])) : W p l e room_1 s m #[Value.ref b] below meth c H locs 8 628 Q (F0 m 216 ls []) := by
  obtain ⟨hx, hb, hr, hml, hown, hts0, hX, hbl, hlocks, hgv⟩ := C0
  have hts : ∀ w ∈ wsL_law, w.before #[Value.ref b] s = true := fun w h => hts0 w (wsL_law_in w h)
  have hown : s.vm.findClass RL = some m.cls := hown
  have hA : ∀ q : Nat, s.heap.size ≤ q → (fun q : Nat => s.heap.size ≤ q) q := fun _ h => h
  have hbA : ¬ (fun q : Nat => s.heap.size ≤ q) b := Nat.not_le.mpr hbl
  have hK0 : va_K (dC, dI) vwCl (k0 d1 d2 d3) s := hK.sub [0, 1, 2] rfl
  have hK1 : va_K (dC, dI) vwCl (k1 e1 e2 e3) s := hK.sub [3, 4, 5] rfl
  refine lv_aload_n hx hb dL_law_216 rfl (lv_at hl 1 rfl) ?_
  refine lv_aload_n hx hb dL_law_217 rfl (lv_at hl 0 rfl) ?_
  refine lv_iload_n hx hb dL_law_218 rfl (lv_at hl 3 rfl) ?_
  refine lv_iconst (v := 1) hx hb dL_law_219 (by decide) ?_
  refine lv_iadd hx hb dL_law_220 ?_
  refine va_sld hx hb hX hbl hbA hS (ls_in hL hi (k := 1) (by decide) rfl) dL_law_221 ?_
  refine lv_aload_n hx hb dL_law_222 rfl (lv_at hl 0 rfl) ?_
  refine lv_iload_n hx hb dL_law_223 rfl (lv_at hl 3 rfl) ?_
  refine lv_iconst (v := 2) hx hb dL_law_224 (by decide) ?_
  refine lv_iadd hx hb dL_law_225 ?_
  refine va_sld hx hb hX hbl hbA hS (ls_in hL hi (k := 2) (by decide) rfl) dL_law_226 ?_
  refine lv_aload_n hx hb dL_law_227 rfl (lv_at hl 0 rfl) ?_
  refine lv_iload_n hx hb dL_law_228 rfl (lv_at hl 3 rfl) ?_
  refine lv_iconst (v := 3) hx hb dL_law_229 (by decide) ?_
  refine lv_iadd hx hb dL_law_230 ?_
  refine va_sld hx hb hX hbl hbA hS (ls_in hL hi (k := 3) (by decide) rfl) dL_law_231 ?_
  refine lv_aload_n hx hb dL_law_232 rfl (lv_at hl 0 rfl) ?_
  refine lv_iload_n hx hb dL_law_233 rfl (lv_at hl 3 rfl) ?_
  refine lv_iconst (v := 4) hx hb dL_law_234 (by decide) ?_
  refine lv_iadd hx hb dL_law_235 ?_
  refine va_sld hx hb hX hbl hbA hS (ls_in hL hi (k := 4) (by decide) rfl) dL_law_236 ?_
  refine callWi (q := (RX0, TX0, 8)) (ci := 0) (q0 := 0) (As := [.int (xs (nI i + 1).toNatClampNeg), .int (xs (nI i + 2).toNatClampNeg), .int (xs (nI i + 3).toNatClampNeg), .int (xs (nI i + 4).toNatClampNeg)]) (rest := []) (wr := (w1 r0 r1 r2 r3 e1 e2 e3 (mem, blk, sto, dn, en, pw', wr, cm))) (m0_store l dC dI q0 q1 q2 q3 d1 d2 d3 _ mem blk hdr (nI (sb sto)) pw rn wr cm (xs (nI i + 1).toNatClampNeg) (xs (nI i + 2).toNatClampNeg) (xs (nI i + 3).toNatClampNeg) (xs (nI i + 4).toNatClampNeg) ) ⟨hx, hb, hml, hown, hts⟩ (cwV 4 hts gL_law_X0_store rfl rfl rfl (by decide +kernel) ⟨Nat.le_of_ble_eq_true rfl, Nat.le_of_ble_eq_true rfl⟩) hK0 hP hD hS hA rfl rfl [0, 1, 2, 3] [4, 5, 6, 7] rfl rfl rfl (by decide) (by decide) (by decide) rfl hl.1 rfl (Nat.le_of_ble_eq_true rfl) dL_law_237 ⟨Nat.le_refl _, Nat.le_refl _⟩ (fun H locs hP hD hS => ?_)
  generalize hF0 : F0_store mem blk hdr (nI (sb sto)) pw rn wr cm (xs (nI i + 1).toNatClampNeg) (xs (nI i + 2).toNatClampNeg) (xs (nI i + 3).toNatClampNeg) (xs (nI i + 4).toNatClampNeg) = A0 at hP hD ⊢
  have hP : va_P (dC, dI) vwCl (w1 r0 r1 r2 r3 e1 e2 e3 (mem, blk, sto, dn, en, pw', wr, cm) ++ w0 q0 q1 q2 q3 d1 d2 d3 A0.2) _ := hP
  have hD : va_D _ (w1 r0 r1 r2 r3 e1 e2 e3 (mem, blk, sto, dn, en, pw', wr, cm) ++ w0 q0 q1 q2 q3 d1 d2 d3 A0.2) := hD
  refine lv_aload_n hx hb dL_law_240 rfl (lv_at hl 2 rfl) ?_
  refine lv_aload_n hx hb dL_law_241 rfl (lv_at hl 0 rfl) ?_
  refine lv_iload_n hx hb dL_law_242 rfl (lv_at hl 3 rfl) ?_
  refine lv_iconst (v := 1) hx hb dL_law_243 (by decide) ?_
  refine lv_iadd hx hb dL_law_244 ?_
  refine va_sld hx hb hX hbl hbA hS (ls_in hL hi (k := 1) (by decide) rfl) dL_law_245 ?_
  refine lv_aload_n hx hb dL_law_246 rfl (lv_at hl 0 rfl) ?_
  refine lv_iload_n hx hb dL_law_247 rfl (lv_at hl 3 rfl) ?_
  refine lv_iconst (v := 2) hx hb dL_law_248 (by decide) ?_
  refine lv_iadd hx hb dL_law_249 ?_
  refine va_sld hx hb hX hbl hbA hS (ls_in hL hi (k := 2) (by decide) rfl) dL_law_250 ?_
  refine lv_aload_n hx hb dL_law_251 rfl (lv_at hl 0 rfl) ?_
  refine lv_iload_n hx hb dL_law_252 rfl (lv_at hl 3 rfl) ?_
  refine lv_iconst (v := 3) hx hb dL_law_253 (by decide) ?_
  refine lv_iadd hx hb dL_law_254 ?_
  refine va_sld hx hb hX hbl hbA hS (ls_in hL hi (k := 3) (by decide) rfl) dL_law_255 ?_
  refine lv_aload_n hx hb dL_law_256 rfl (lv_at hl 0 rfl) ?_
  refine lv_iload_n hx hb dL_law_257 rfl (lv_at hl 3 rfl) ?_
  refine lv_iconst (v := 4) hx hb dL_law_258 (by decide) ?_
  refine lv_iadd hx hb dL_law_259 ?_
  refine va_sld hx hb hX hbl hbA hS (ls_in hL hi (k := 4) (by decide) rfl) dL_law_260 ?_
  refine callWi (q := (RX1, TX1, 8)) (ci := 1) (q0 := 0) (As := [.int (xs (nI i + 1).toNatClampNeg), .int (xs (nI i + 2).toNatClampNeg), .int (xs (nI i + 3).toNatClampNeg), .int (xs (nI i + 4).toNatClampNeg)]) (rest := [.int A0.1]) (wr := (w0 q0 q1 q2 q3 d1 d2 d3 A0.2)) (m1_store l dC dI r0 r1 r2 r3 e1 e2 e3 _ mem blk sto dn en pw' wr cm (xs (nI i + 1).toNatClampNeg) (xs (nI i + 2).toNatClampNeg) (xs (nI i + 3).toNatClampNeg) (xs (nI i + 4).toNatClampNeg) hI.2.2.1) ⟨hx, hb, hml, hown, hts⟩ (cwV 4 hts gL_law_X1_store rfl rfl rfl (by decide +kernel) ⟨Nat.le_of_ble_eq_true rfl, Nat.le_of_ble_eq_true rfl⟩) hK1 hP hD hS hA rfl rfl [0, 1, 2, 3] [4, 5, 6, 7] rfl rfl rfl (by decide) (by decide) (by decide) rfl hl.1 rfl (Nat.le_of_ble_eq_true rfl) dL_law_261 ⟨Nat.le_refl _, Nat.le_refl _⟩ (fun H locs hP hD hS => ?_)
  generalize hF1 : F1_store mem blk sto dn en pw' wr cm (xs (nI i + 1).toNatClampNeg) (xs (nI i + 2).toNatClampNeg) (xs (nI i + 3).toNatClampNeg) (xs (nI i + 4).toNatClampNeg) = A1 at hP hD ⊢
  have hP : va_P (dC, dI) vwCl (Ww q0 q1 q2 q3 d1 d2 d3 r0 r1 r2 r3 e1 e2 e3 A0.2 A1.2) _ := hP
  have hD : va_D _ (Ww q0 q1 q2 q3 d1 d2 d3 r0 r1 r2 r3 e1 e2 e3 A0.2 A1.2) := hD
  refine lv_icmp_eq (tgt := 676) hx hb dL_law_264 (by decide) (fun cq => ?_) (fun cq => ?_)
  · have hs := sim_store (sto := sto) (wr := wr) (cm := cm) hI hp hu (xs (nI i + 1).toNatClampNeg) (xs (nI i + 2).toNatClampNeg) (xs (nI i + 3).toNatClampNeg) (xs (nI i + 4).toNatClampNeg)
    rw [hF0, hF1] at hs
    exact again A0.2 A1.2 _ _ hs.2 hP hD hS
  · have hs := sim_store (sto := sto) (wr := wr) (cm := cm) hI hp hu (xs (nI i + 1).toNatClampNeg) (xs (nI i + 2).toNatClampNeg) (xs (nI i + 3).toNatClampNeg) (xs (nI i + 4).toNatClampNeg)
    rw [hF0, hF1] at hs
    exact absurd hs.1 cq
set_option maxHeartbeats 4000000 in
set_option maxRecDepth 100000 in
theorem lc_read {p : Program} {l : Launch} {e : Env} {s : State} {m : MethodId} {below : List Frame} {meth : Method} {c : Code} {dC : Nat → ClassId} {dI : Nat → Nat → Nat} {b L : Nat} {xs : Nat → Int32} {Q : State → Prop} {q0 q1 q2 q3 r0 r1 r2 r3 : Nat} {d1 d2 d3 e1 e2 e3 : ClassId} (hL : L ≤ 2560) (C0 : lw_At p s m meth c b L xs) {i : Nat} (hi : i + 5 ≤ L) {mem blk hdr sto : Nat → Int32} {pw en pw' rn dn wr cm : Int32} (hI : Inv mem blk hdr) (hp : PwR pw en pw') (hu : UpR rn dn) {H : Heap} {locs : List Loc} {ls : Array Slot} (hK : va_K (dC, dI) vwCl (Kk d1 d2 d3 e1 e2 e3) s) (hP : va_P (dC, dI) vwCl (Ww q0 q1 q2 q3 d1 d2 d3 r0 r1 r2 r3 e1 e2 e3 (mem, blk, hdr, nI (sb sto), pw, rn, wr, cm) (mem, blk, sto, dn, en, pw', wr, cm)) H) (hD : va_D (fun q : Nat => s.heap.size ≤ q) (Ww q0 q1 q2 q3 d1 d2 d3 r0 r1 r2 r3 e1 e2 e3 (mem, blk, hdr, nI (sb sto), pw, rn, wr, cm) (mem, blk, sto, dn, en, pw', wr, cm))) (hS : va_S (fun q : Nat => s.heap.size ≤ q) s.heap H locs) (hl : lv_has ls 4 [(0, .ref b), (1, .ref q0), (2, .ref r0), (3, .int (nI i))]) (again : ∀ (u v : S0) (H : Heap) (locs : List Loc), Rel u v → va_P (dC, dI) vwCl (Ww q0 q1 q2 q3 d1 d2 d3 r0 r1 r2 r3 e1 e2 e3 u v) H → va_D (fun q : Nat => s.heap.size ≤ q) (Ww q0 q1 q2 q3 d1 d2 d3 r0 r1 r2 r3 e1 e2 e3 u v) → va_S (fun q : Nat => s.heap.size ≤ q) s.heap H locs → W p l e room_1 s m #[Value.ref b] below meth c H locs 8 628 Q (F0 m 676 ls [])) : W p l e room_1 s m #[Value.ref b] below meth c H locs 8 628 Q (F0 m 269 ls []) := by
  obtain ⟨hx, hb, hr, hml, hown, hts0, hX, hbl, hlocks, hgv⟩ := C0
  have hts : ∀ w ∈ wsL_law, w.before #[Value.ref b] s = true := fun w h => hts0 w (wsL_law_in w h)
  have hown : s.vm.findClass RL = some m.cls := hown
  have hA : ∀ q : Nat, s.heap.size ≤ q → (fun q : Nat => s.heap.size ≤ q) q := fun _ h => h
  have hbA : ¬ (fun q : Nat => s.heap.size ≤ q) b := Nat.not_le.mpr hbl
  have hK0 : va_K (dC, dI) vwCl (k0 d1 d2 d3) s := hK.sub [0, 1, 2] rfl
  have hK1 : va_K (dC, dI) vwCl (k1 e1 e2 e3) s := hK.sub [3, 4, 5] rfl
  refine lv_aload_n hx hb dL_law_269 rfl (lv_at hl 1 rfl) ?_
  refine lv_aload_n hx hb dL_law_270 rfl (lv_at hl 0 rfl) ?_
  refine lv_iload_n hx hb dL_law_271 rfl (lv_at hl 3 rfl) ?_
  refine lv_iconst (v := 1) hx hb dL_law_272 (by decide) ?_
  refine lv_iadd hx hb dL_law_273 ?_
  refine va_sld hx hb hX hbl hbA hS (ls_in hL hi (k := 1) (by decide) rfl) dL_law_274 ?_
  refine lv_aload_n hx hb dL_law_275 rfl (lv_at hl 0 rfl) ?_
  refine lv_iload_n hx hb dL_law_276 rfl (lv_at hl 3 rfl) ?_
  refine lv_iconst (v := 2) hx hb dL_law_277 (by decide) ?_
  refine lv_iadd hx hb dL_law_278 ?_
  refine va_sld hx hb hX hbl hbA hS (ls_in hL hi (k := 2) (by decide) rfl) dL_law_279 ?_
  refine lv_aload_n hx hb dL_law_280 rfl (lv_at hl 0 rfl) ?_
  refine lv_iload_n hx hb dL_law_281 rfl (lv_at hl 3 rfl) ?_
  refine lv_iconst (v := 3) hx hb dL_law_282 (by decide) ?_
  refine lv_iadd hx hb dL_law_283 ?_
  refine va_sld hx hb hX hbl hbA hS (ls_in hL hi (k := 3) (by decide) rfl) dL_law_284 ?_
  refine callRv (q := (RX0, TX0, 8)) (ci := 0) (q0 := 0) (As := [.int (xs (nI i + 1).toNatClampNeg), .int (xs (nI i + 2).toNatClampNeg), .int (xs (nI i + 3).toNatClampNeg)]) (rest := []) (m0_read l dC dI q0 q1 q2 q3 d1 d2 d3 mem blk hdr (nI (sb sto)) pw rn wr cm (xs (nI i + 1).toNatClampNeg) (xs (nI i + 2).toNatClampNeg) (xs (nI i + 3).toNatClampNeg) ) ⟨hx, hb, hml, hown, hts⟩ (cwV 3 hts gL_law_X0_read rfl rfl rfl (by decide +kernel) ⟨Nat.le_of_ble_eq_true rfl, Nat.le_of_ble_eq_true rfl⟩) hK0 (hP.sub (ws' := (w0 q0 q1 q2 q3 d1 d2 d3 (mem, blk, hdr, nI (sb sto), pw, rn, wr, cm))) [0, 1, 2, 3] rfl) rfl rfl rfl hl.1 rfl (Nat.le_of_ble_eq_true rfl) dL_law_285 ⟨Nat.le_refl _, Nat.le_refl _⟩ ?_
  refine lv_aload_n hx hb dL_law_288 rfl (lv_at hl 2 rfl) ?_
  refine lv_aload_n hx hb dL_law_289 rfl (lv_at hl 0 rfl) ?_
  refine lv_iload_n hx hb dL_law_290 rfl (lv_at hl 3 rfl) ?_
  refine lv_iconst (v := 1) hx hb dL_law_291 (by decide) ?_
  refine lv_iadd hx hb dL_law_292 ?_
  refine va_sld hx hb hX hbl hbA hS (ls_in hL hi (k := 1) (by decide) rfl) dL_law_293 ?_
  refine lv_aload_n hx hb dL_law_294 rfl (lv_at hl 0 rfl) ?_
  refine lv_iload_n hx hb dL_law_295 rfl (lv_at hl 3 rfl) ?_
  refine lv_iconst (v := 2) hx hb dL_law_296 (by decide) ?_
  refine lv_iadd hx hb dL_law_297 ?_
  refine va_sld hx hb hX hbl hbA hS (ls_in hL hi (k := 2) (by decide) rfl) dL_law_298 ?_
  refine lv_aload_n hx hb dL_law_299 rfl (lv_at hl 0 rfl) ?_
  refine lv_iload_n hx hb dL_law_300 rfl (lv_at hl 3 rfl) ?_
  refine lv_iconst (v := 3) hx hb dL_law_301 (by decide) ?_
  refine lv_iadd hx hb dL_law_302 ?_
  refine va_sld hx hb hX hbl hbA hS (ls_in hL hi (k := 3) (by decide) rfl) dL_law_303 ?_
  refine callRv (q := (RX1, TX1, 8)) (ci := 1) (q0 := 0) (As := [.int (xs (nI i + 1).toNatClampNeg), .int (xs (nI i + 2).toNatClampNeg), .int (xs (nI i + 3).toNatClampNeg)]) (rest := [.long (f0_read mem blk hdr (nI (sb sto)) pw rn wr cm (xs (nI i + 1).toNatClampNeg) (xs (nI i + 2).toNatClampNeg) (xs (nI i + 3).toNatClampNeg))]) (m1_read l dC dI r0 r1 r2 r3 e1 e2 e3 mem blk sto dn en pw' wr cm (xs (nI i + 1).toNatClampNeg) (xs (nI i + 2).toNatClampNeg) (xs (nI i + 3).toNatClampNeg) hI.2.2.1) ⟨hx, hb, hml, hown, hts⟩ (cwV 3 hts gL_law_X1_read rfl rfl rfl (by decide +kernel) ⟨Nat.le_of_ble_eq_true rfl, Nat.le_of_ble_eq_true rfl⟩) hK1 (hP.sub (ws' := (w1 r0 r1 r2 r3 e1 e2 e3 (mem, blk, sto, dn, en, pw', wr, cm))) [4, 5, 6, 7] rfl) rfl rfl rfl hl.1 rfl (Nat.le_of_ble_eq_true rfl) dL_law_304 ⟨Nat.le_refl _, Nat.le_refl _⟩ ?_
  refine W.lcmp hx hb dL_law_307 ?_
  refine lv_if_eq (tgt := 676) hx hb dL_law_308 (by decide) (fun cq => ?_) (fun cq => ?_)
  · exact again (mem, blk, hdr, nI (sb sto), pw, rn, wr, cm) (mem, blk, sto, dn, en, pw', wr, cm) _ _ (rel_mk hI hp hu) hP hD hS
  · exact absurd (by rw [(sim_read (mem := mem) (blk := blk) (hdr := hdr) (sto := sto) (pw := pw) (en := en) (pw' := pw') (rn := rn) (dn := dn) (wr := wr) (cm := cm) hI hu (xs (nI i + 1).toNatClampNeg) (xs (nI i + 2).toNatClampNeg) (xs (nI i + 3).toNatClampNeg))]; exact lgc _) cq
set_option maxHeartbeats 4000000 in
set_option maxRecDepth 100000 in
theorem lc_write {p : Program} {l : Launch} {e : Env} {s : State} {m : MethodId} {below : List Frame} {meth : Method} {c : Code} {dC : Nat → ClassId} {dI : Nat → Nat → Nat} {b L : Nat} {xs : Nat → Int32} {Q : State → Prop} {q0 q1 q2 q3 r0 r1 r2 r3 : Nat} {d1 d2 d3 e1 e2 e3 : ClassId} (hL : L ≤ 2560) (C0 : lw_At p s m meth c b L xs) {i : Nat} (hi : i + 5 ≤ L) {mem blk hdr sto : Nat → Int32} {pw en pw' rn dn wr cm : Int32} (hI : Inv mem blk hdr) (hp : PwR pw en pw') (hu : UpR rn dn) {H : Heap} {locs : List Loc} {ls : Array Slot} (hK : va_K (dC, dI) vwCl (Kk d1 d2 d3 e1 e2 e3) s) (hP : va_P (dC, dI) vwCl (Ww q0 q1 q2 q3 d1 d2 d3 r0 r1 r2 r3 e1 e2 e3 (mem, blk, hdr, nI (sb sto), pw, rn, wr, cm) (mem, blk, sto, dn, en, pw', wr, cm)) H) (hD : va_D (fun q : Nat => s.heap.size ≤ q) (Ww q0 q1 q2 q3 d1 d2 d3 r0 r1 r2 r3 e1 e2 e3 (mem, blk, hdr, nI (sb sto), pw, rn, wr, cm) (mem, blk, sto, dn, en, pw', wr, cm))) (hS : va_S (fun q : Nat => s.heap.size ≤ q) s.heap H locs) (hl : lv_has ls 4 [(0, .ref b), (1, .ref q0), (2, .ref r0), (3, .int (nI i))]) (again : ∀ (u v : S0) (H : Heap) (locs : List Loc), Rel u v → va_P (dC, dI) vwCl (Ww q0 q1 q2 q3 d1 d2 d3 r0 r1 r2 r3 e1 e2 e3 u v) H → va_D (fun q : Nat => s.heap.size ≤ q) (Ww q0 q1 q2 q3 d1 d2 d3 r0 r1 r2 r3 e1 e2 e3 u v) → va_S (fun q : Nat => s.heap.size ≤ q) s.heap H locs → W p l e room_1 s m #[Value.ref b] below meth c H locs 8 628 Q (F0 m 676 ls [])) : W p l e room_1 s m #[Value.ref b] below meth c H locs 8 628 Q (F0 m 313 ls []) := by
  obtain ⟨hx, hb, hr, hml, hown, hts0, hX, hbl, hlocks, hgv⟩ := C0
  have hts : ∀ w ∈ wsL_law, w.before #[Value.ref b] s = true := fun w h => hts0 w (wsL_law_in w h)
  have hown : s.vm.findClass RL = some m.cls := hown
  have hA : ∀ q : Nat, s.heap.size ≤ q → (fun q : Nat => s.heap.size ≤ q) q := fun _ h => h
  have hbA : ¬ (fun q : Nat => s.heap.size ≤ q) b := Nat.not_le.mpr hbl
  have hK0 : va_K (dC, dI) vwCl (k0 d1 d2 d3) s := hK.sub [0, 1, 2] rfl
  have hK1 : va_K (dC, dI) vwCl (k1 e1 e2 e3) s := hK.sub [3, 4, 5] rfl
  refine lv_aload_n hx hb dL_law_313 rfl (lv_at hl 1 rfl) ?_
  refine lv_aload_n hx hb dL_law_314 rfl (lv_at hl 0 rfl) ?_
  refine lv_iload_n hx hb dL_law_315 rfl (lv_at hl 3 rfl) ?_
  refine lv_iconst (v := 1) hx hb dL_law_316 (by decide) ?_
  refine lv_iadd hx hb dL_law_317 ?_
  refine va_sld hx hb hX hbl hbA hS (ls_in hL hi (k := 1) (by decide) rfl) dL_law_318 ?_
  refine lv_aload_n hx hb dL_law_319 rfl (lv_at hl 0 rfl) ?_
  refine lv_iload_n hx hb dL_law_320 rfl (lv_at hl 3 rfl) ?_
  refine lv_iconst (v := 2) hx hb dL_law_321 (by decide) ?_
  refine lv_iadd hx hb dL_law_322 ?_
  refine va_sld hx hb hX hbl hbA hS (ls_in hL hi (k := 2) (by decide) rfl) dL_law_323 ?_
  refine lv_aload_n hx hb dL_law_324 rfl (lv_at hl 0 rfl) ?_
  refine lv_iload_n hx hb dL_law_325 rfl (lv_at hl 3 rfl) ?_
  refine lv_iconst (v := 3) hx hb dL_law_326 (by decide) ?_
  refine lv_iadd hx hb dL_law_327 ?_
  refine va_sld hx hb hX hbl hbA hS (ls_in hL hi (k := 3) (by decide) rfl) dL_law_328 ?_
  refine lv_aload_n hx hb dL_law_329 rfl (lv_at hl 0 rfl) ?_
  refine lv_iload_n hx hb dL_law_330 rfl (lv_at hl 3 rfl) ?_
  refine lv_iconst (v := 4) hx hb dL_law_331 (by decide) ?_
  refine lv_iadd hx hb dL_law_332 ?_
  refine va_sld hx hb hX hbl hbA hS (ls_in hL hi (k := 4) (by decide) rfl) dL_law_333 ?_
  refine callWi (q := (RX0, TX0, 8)) (ci := 0) (q0 := 0) (As := [.int (xs (nI i + 1).toNatClampNeg), .int (xs (nI i + 2).toNatClampNeg), .int (xs (nI i + 3).toNatClampNeg), .int (xs (nI i + 4).toNatClampNeg)]) (rest := []) (wr := (w1 r0 r1 r2 r3 e1 e2 e3 (mem, blk, sto, dn, en, pw', wr, cm))) (m0_write l dC dI q0 q1 q2 q3 d1 d2 d3 _ mem blk hdr (nI (sb sto)) pw rn wr cm (xs (nI i + 1).toNatClampNeg) (xs (nI i + 2).toNatClampNeg) (xs (nI i + 3).toNatClampNeg) (xs (nI i + 4).toNatClampNeg) ) ⟨hx, hb, hml, hown, hts⟩ (cwV 4 hts gL_law_X0_write rfl rfl rfl (by decide +kernel) ⟨Nat.le_of_ble_eq_true rfl, Nat.le_of_ble_eq_true rfl⟩) hK0 hP hD hS hA rfl rfl [0, 1, 2, 3] [4, 5, 6, 7] rfl rfl rfl (by decide) (by decide) (by decide) rfl hl.1 rfl (Nat.le_of_ble_eq_true rfl) dL_law_334 ⟨Nat.le_refl _, Nat.le_refl _⟩ (fun H locs hP hD hS => ?_)
  generalize hF0 : F0_write mem blk hdr (nI (sb sto)) pw rn wr cm (xs (nI i + 1).toNatClampNeg) (xs (nI i + 2).toNatClampNeg) (xs (nI i + 3).toNatClampNeg) (xs (nI i + 4).toNatClampNeg) = A0 at hP hD ⊢
  have hP : va_P (dC, dI) vwCl (w1 r0 r1 r2 r3 e1 e2 e3 (mem, blk, sto, dn, en, pw', wr, cm) ++ w0 q0 q1 q2 q3 d1 d2 d3 A0.2) _ := hP
  have hD : va_D _ (w1 r0 r1 r2 r3 e1 e2 e3 (mem, blk, sto, dn, en, pw', wr, cm) ++ w0 q0 q1 q2 q3 d1 d2 d3 A0.2) := hD
  refine lv_aload_n hx hb dL_law_337 rfl (lv_at hl 2 rfl) ?_
  refine lv_aload_n hx hb dL_law_338 rfl (lv_at hl 0 rfl) ?_
  refine lv_iload_n hx hb dL_law_339 rfl (lv_at hl 3 rfl) ?_
  refine lv_iconst (v := 1) hx hb dL_law_340 (by decide) ?_
  refine lv_iadd hx hb dL_law_341 ?_
  refine va_sld hx hb hX hbl hbA hS (ls_in hL hi (k := 1) (by decide) rfl) dL_law_342 ?_
  refine lv_aload_n hx hb dL_law_343 rfl (lv_at hl 0 rfl) ?_
  refine lv_iload_n hx hb dL_law_344 rfl (lv_at hl 3 rfl) ?_
  refine lv_iconst (v := 2) hx hb dL_law_345 (by decide) ?_
  refine lv_iadd hx hb dL_law_346 ?_
  refine va_sld hx hb hX hbl hbA hS (ls_in hL hi (k := 2) (by decide) rfl) dL_law_347 ?_
  refine lv_aload_n hx hb dL_law_348 rfl (lv_at hl 0 rfl) ?_
  refine lv_iload_n hx hb dL_law_349 rfl (lv_at hl 3 rfl) ?_
  refine lv_iconst (v := 3) hx hb dL_law_350 (by decide) ?_
  refine lv_iadd hx hb dL_law_351 ?_
  refine va_sld hx hb hX hbl hbA hS (ls_in hL hi (k := 3) (by decide) rfl) dL_law_352 ?_
  refine lv_aload_n hx hb dL_law_353 rfl (lv_at hl 0 rfl) ?_
  refine lv_iload_n hx hb dL_law_354 rfl (lv_at hl 3 rfl) ?_
  refine lv_iconst (v := 4) hx hb dL_law_355 (by decide) ?_
  refine lv_iadd hx hb dL_law_356 ?_
  refine va_sld hx hb hX hbl hbA hS (ls_in hL hi (k := 4) (by decide) rfl) dL_law_357 ?_
  refine callWi (q := (RX1, TX1, 8)) (ci := 1) (q0 := 0) (As := [.int (xs (nI i + 1).toNatClampNeg), .int (xs (nI i + 2).toNatClampNeg), .int (xs (nI i + 3).toNatClampNeg), .int (xs (nI i + 4).toNatClampNeg)]) (rest := [.int A0.1]) (wr := (w0 q0 q1 q2 q3 d1 d2 d3 A0.2)) (m1_write l dC dI r0 r1 r2 r3 e1 e2 e3 _ mem blk sto dn en pw' wr cm (xs (nI i + 1).toNatClampNeg) (xs (nI i + 2).toNatClampNeg) (xs (nI i + 3).toNatClampNeg) (xs (nI i + 4).toNatClampNeg) hI.2.2.1) ⟨hx, hb, hml, hown, hts⟩ (cwV 4 hts gL_law_X1_write rfl rfl rfl (by decide +kernel) ⟨Nat.le_of_ble_eq_true rfl, Nat.le_of_ble_eq_true rfl⟩) hK1 hP hD hS hA rfl rfl [0, 1, 2, 3] [4, 5, 6, 7] rfl rfl rfl (by decide) (by decide) (by decide) rfl hl.1 rfl (Nat.le_of_ble_eq_true rfl) dL_law_358 ⟨Nat.le_refl _, Nat.le_refl _⟩ (fun H locs hP hD hS => ?_)
  generalize hF1 : F1_write mem blk sto dn en pw' wr cm (xs (nI i + 1).toNatClampNeg) (xs (nI i + 2).toNatClampNeg) (xs (nI i + 3).toNatClampNeg) (xs (nI i + 4).toNatClampNeg) = A1 at hP hD ⊢
  have hP : va_P (dC, dI) vwCl (Ww q0 q1 q2 q3 d1 d2 d3 r0 r1 r2 r3 e1 e2 e3 A0.2 A1.2) _ := hP
  have hD : va_D _ (Ww q0 q1 q2 q3 d1 d2 d3 r0 r1 r2 r3 e1 e2 e3 A0.2 A1.2) := hD
  refine lv_icmp_eq (tgt := 676) hx hb dL_law_361 (by decide) (fun cq => ?_) (fun cq => ?_)
  · have hs := sim_write (sto := sto) (wr := wr) (cm := cm) hI hp hu (xs (nI i + 1).toNatClampNeg) (xs (nI i + 2).toNatClampNeg) (xs (nI i + 3).toNatClampNeg) (xs (nI i + 4).toNatClampNeg)
    rw [hF0, hF1] at hs
    exact again A0.2 A1.2 _ _ hs.2 hP hD hS
  · have hs := sim_write (sto := sto) (wr := wr) (cm := cm) hI hp hu (xs (nI i + 1).toNatClampNeg) (xs (nI i + 2).toNatClampNeg) (xs (nI i + 3).toNatClampNeg) (xs (nI i + 4).toNatClampNeg)
    rw [hF0, hF1] at hs
    exact absurd hs.1 cq
set_option maxHeartbeats 4000000 in
set_option maxRecDepth 100000 in
theorem lc_restrict {p : Program} {l : Launch} {e : Env} {s : State} {m : MethodId} {below : List Frame} {meth : Method} {c : Code} {dC : Nat → ClassId} {dI : Nat → Nat → Nat} {b L : Nat} {xs : Nat → Int32} {Q : State → Prop} {q0 q1 q2 q3 r0 r1 r2 r3 : Nat} {d1 d2 d3 e1 e2 e3 : ClassId} (hL : L ≤ 2560) (C0 : lw_At p s m meth c b L xs) {i : Nat} (hi : i + 5 ≤ L) {mem blk hdr sto : Nat → Int32} {pw en pw' rn dn wr cm : Int32} (hI : Inv mem blk hdr) (hp : PwR pw en pw') (hu : UpR rn dn) {H : Heap} {locs : List Loc} {ls : Array Slot} (hK : va_K (dC, dI) vwCl (Kk d1 d2 d3 e1 e2 e3) s) (hP : va_P (dC, dI) vwCl (Ww q0 q1 q2 q3 d1 d2 d3 r0 r1 r2 r3 e1 e2 e3 (mem, blk, hdr, nI (sb sto), pw, rn, wr, cm) (mem, blk, sto, dn, en, pw', wr, cm)) H) (hD : va_D (fun q : Nat => s.heap.size ≤ q) (Ww q0 q1 q2 q3 d1 d2 d3 r0 r1 r2 r3 e1 e2 e3 (mem, blk, hdr, nI (sb sto), pw, rn, wr, cm) (mem, blk, sto, dn, en, pw', wr, cm))) (hS : va_S (fun q : Nat => s.heap.size ≤ q) s.heap H locs) (hl : lv_has ls 4 [(0, .ref b), (1, .ref q0), (2, .ref r0), (3, .int (nI i))]) (again : ∀ (u v : S0) (H : Heap) (locs : List Loc), Rel u v → va_P (dC, dI) vwCl (Ww q0 q1 q2 q3 d1 d2 d3 r0 r1 r2 r3 e1 e2 e3 u v) H → va_D (fun q : Nat => s.heap.size ≤ q) (Ww q0 q1 q2 q3 d1 d2 d3 r0 r1 r2 r3 e1 e2 e3 u v) → va_S (fun q : Nat => s.heap.size ≤ q) s.heap H locs → W p l e room_1 s m #[Value.ref b] below meth c H locs 8 628 Q (F0 m 676 ls [])) : W p l e room_1 s m #[Value.ref b] below meth c H locs 8 628 Q (F0 m 366 ls []) := by
  obtain ⟨hx, hb, hr, hml, hown, hts0, hX, hbl, hlocks, hgv⟩ := C0
  have hts : ∀ w ∈ wsL_law, w.before #[Value.ref b] s = true := fun w h => hts0 w (wsL_law_in w h)
  have hown : s.vm.findClass RL = some m.cls := hown
  have hA : ∀ q : Nat, s.heap.size ≤ q → (fun q : Nat => s.heap.size ≤ q) q := fun _ h => h
  have hbA : ¬ (fun q : Nat => s.heap.size ≤ q) b := Nat.not_le.mpr hbl
  have hK0 : va_K (dC, dI) vwCl (k0 d1 d2 d3) s := hK.sub [0, 1, 2] rfl
  have hK1 : va_K (dC, dI) vwCl (k1 e1 e2 e3) s := hK.sub [3, 4, 5] rfl
  refine lv_aload_n hx hb dL_law_366 rfl (lv_at hl 1 rfl) ?_
  refine lv_aload_n hx hb dL_law_367 rfl (lv_at hl 0 rfl) ?_
  refine lv_iload_n hx hb dL_law_368 rfl (lv_at hl 3 rfl) ?_
  refine lv_iconst (v := 1) hx hb dL_law_369 (by decide) ?_
  refine lv_iadd hx hb dL_law_370 ?_
  refine va_sld hx hb hX hbl hbA hS (ls_in hL hi (k := 1) (by decide) rfl) dL_law_371 ?_
  refine lv_aload_n hx hb dL_law_372 rfl (lv_at hl 0 rfl) ?_
  refine lv_iload_n hx hb dL_law_373 rfl (lv_at hl 3 rfl) ?_
  refine lv_iconst (v := 2) hx hb dL_law_374 (by decide) ?_
  refine lv_iadd hx hb dL_law_375 ?_
  refine va_sld hx hb hX hbl hbA hS (ls_in hL hi (k := 2) (by decide) rfl) dL_law_376 ?_
  refine lv_aload_n hx hb dL_law_377 rfl (lv_at hl 0 rfl) ?_
  refine lv_iload_n hx hb dL_law_378 rfl (lv_at hl 3 rfl) ?_
  refine lv_iconst (v := 3) hx hb dL_law_379 (by decide) ?_
  refine lv_iadd hx hb dL_law_380 ?_
  refine va_sld hx hb hX hbl hbA hS (ls_in hL hi (k := 3) (by decide) rfl) dL_law_381 ?_
  refine lv_aload_n hx hb dL_law_382 rfl (lv_at hl 0 rfl) ?_
  refine lv_iload_n hx hb dL_law_383 rfl (lv_at hl 3 rfl) ?_
  refine lv_iconst (v := 4) hx hb dL_law_384 (by decide) ?_
  refine lv_iadd hx hb dL_law_385 ?_
  refine va_sld hx hb hX hbl hbA hS (ls_in hL hi (k := 4) (by decide) rfl) dL_law_386 ?_
  refine callWi (q := (RX0, TX0, 8)) (ci := 0) (q0 := 0) (As := [.int (xs (nI i + 1).toNatClampNeg), .int (xs (nI i + 2).toNatClampNeg), .int (xs (nI i + 3).toNatClampNeg), .int (xs (nI i + 4).toNatClampNeg)]) (rest := []) (wr := (w1 r0 r1 r2 r3 e1 e2 e3 (mem, blk, sto, dn, en, pw', wr, cm))) (m0_restrict l dC dI q0 q1 q2 q3 d1 d2 d3 _ mem blk hdr (nI (sb sto)) pw rn wr cm (xs (nI i + 1).toNatClampNeg) (xs (nI i + 2).toNatClampNeg) (xs (nI i + 3).toNatClampNeg) (xs (nI i + 4).toNatClampNeg) ) ⟨hx, hb, hml, hown, hts⟩ (cwV 4 hts gL_law_X0_restrict rfl rfl rfl (by decide +kernel) ⟨Nat.le_of_ble_eq_true rfl, Nat.le_of_ble_eq_true rfl⟩) hK0 hP hD hS hA rfl rfl [0, 1, 2, 3] [4, 5, 6, 7] rfl rfl rfl (by decide) (by decide) (by decide) rfl hl.1 rfl (Nat.le_of_ble_eq_true rfl) dL_law_387 ⟨Nat.le_refl _, Nat.le_refl _⟩ (fun H locs hP hD hS => ?_)
  generalize hF0 : F0_restrict mem blk hdr (nI (sb sto)) pw rn wr cm (xs (nI i + 1).toNatClampNeg) (xs (nI i + 2).toNatClampNeg) (xs (nI i + 3).toNatClampNeg) (xs (nI i + 4).toNatClampNeg) = A0 at hP hD ⊢
  have hP : va_P (dC, dI) vwCl (w1 r0 r1 r2 r3 e1 e2 e3 (mem, blk, sto, dn, en, pw', wr, cm) ++ w0 q0 q1 q2 q3 d1 d2 d3 A0.2) _ := hP
  have hD : va_D _ (w1 r0 r1 r2 r3 e1 e2 e3 (mem, blk, sto, dn, en, pw', wr, cm) ++ w0 q0 q1 q2 q3 d1 d2 d3 A0.2) := hD
  refine lv_aload_n hx hb dL_law_390 rfl (lv_at hl 2 rfl) ?_
  refine lv_aload_n hx hb dL_law_391 rfl (lv_at hl 0 rfl) ?_
  refine lv_iload_n hx hb dL_law_392 rfl (lv_at hl 3 rfl) ?_
  refine lv_iconst (v := 1) hx hb dL_law_393 (by decide) ?_
  refine lv_iadd hx hb dL_law_394 ?_
  refine va_sld hx hb hX hbl hbA hS (ls_in hL hi (k := 1) (by decide) rfl) dL_law_395 ?_
  refine lv_aload_n hx hb dL_law_396 rfl (lv_at hl 0 rfl) ?_
  refine lv_iload_n hx hb dL_law_397 rfl (lv_at hl 3 rfl) ?_
  refine lv_iconst (v := 2) hx hb dL_law_398 (by decide) ?_
  refine lv_iadd hx hb dL_law_399 ?_
  refine va_sld hx hb hX hbl hbA hS (ls_in hL hi (k := 2) (by decide) rfl) dL_law_400 ?_
  refine lv_aload_n hx hb dL_law_401 rfl (lv_at hl 0 rfl) ?_
  refine lv_iload_n hx hb dL_law_402 rfl (lv_at hl 3 rfl) ?_
  refine lv_iconst (v := 3) hx hb dL_law_403 (by decide) ?_
  refine lv_iadd hx hb dL_law_404 ?_
  refine va_sld hx hb hX hbl hbA hS (ls_in hL hi (k := 3) (by decide) rfl) dL_law_405 ?_
  refine lv_aload_n hx hb dL_law_406 rfl (lv_at hl 0 rfl) ?_
  refine lv_iload_n hx hb dL_law_407 rfl (lv_at hl 3 rfl) ?_
  refine lv_iconst (v := 4) hx hb dL_law_408 (by decide) ?_
  refine lv_iadd hx hb dL_law_409 ?_
  refine va_sld hx hb hX hbl hbA hS (ls_in hL hi (k := 4) (by decide) rfl) dL_law_410 ?_
  refine callWi (q := (RX1, TX1, 8)) (ci := 1) (q0 := 0) (As := [.int (xs (nI i + 1).toNatClampNeg), .int (xs (nI i + 2).toNatClampNeg), .int (xs (nI i + 3).toNatClampNeg), .int (xs (nI i + 4).toNatClampNeg)]) (rest := [.int A0.1]) (wr := (w0 q0 q1 q2 q3 d1 d2 d3 A0.2)) (m1_restrict l dC dI r0 r1 r2 r3 e1 e2 e3 _ mem blk sto dn en pw' wr cm (xs (nI i + 1).toNatClampNeg) (xs (nI i + 2).toNatClampNeg) (xs (nI i + 3).toNatClampNeg) (xs (nI i + 4).toNatClampNeg) ) ⟨hx, hb, hml, hown, hts⟩ (cwV 4 hts gL_law_X1_restrict rfl rfl rfl (by decide +kernel) ⟨Nat.le_of_ble_eq_true rfl, Nat.le_of_ble_eq_true rfl⟩) hK1 hP hD hS hA rfl rfl [0, 1, 2, 3] [4, 5, 6, 7] rfl rfl rfl (by decide) (by decide) (by decide) rfl hl.1 rfl (Nat.le_of_ble_eq_true rfl) dL_law_411 ⟨Nat.le_refl _, Nat.le_refl _⟩ (fun H locs hP hD hS => ?_)
  generalize hF1 : F1_restrict mem blk sto dn en pw' wr cm (xs (nI i + 1).toNatClampNeg) (xs (nI i + 2).toNatClampNeg) (xs (nI i + 3).toNatClampNeg) (xs (nI i + 4).toNatClampNeg) = A1 at hP hD ⊢
  have hP : va_P (dC, dI) vwCl (Ww q0 q1 q2 q3 d1 d2 d3 r0 r1 r2 r3 e1 e2 e3 A0.2 A1.2) _ := hP
  have hD : va_D _ (Ww q0 q1 q2 q3 d1 d2 d3 r0 r1 r2 r3 e1 e2 e3 A0.2 A1.2) := hD
  refine lv_icmp_eq (tgt := 676) hx hb dL_law_414 (by decide) (fun cq => ?_) (fun cq => ?_)
  · have hs := sim_restrict (sto := sto) (wr := wr) (cm := cm) hI hp hu (xs (nI i + 1).toNatClampNeg) (xs (nI i + 2).toNatClampNeg) (xs (nI i + 3).toNatClampNeg) (xs (nI i + 4).toNatClampNeg)
    rw [hF0, hF1] at hs
    exact again A0.2 A1.2 _ _ hs.2 hP hD hS
  · have hs := sim_restrict (sto := sto) (wr := wr) (cm := cm) hI hp hu (xs (nI i + 1).toNatClampNeg) (xs (nI i + 2).toNatClampNeg) (xs (nI i + 3).toNatClampNeg) (xs (nI i + 4).toNatClampNeg)
    rw [hF0, hF1] at hs
    exact absurd hs.1 cq
set_option maxHeartbeats 4000000 in
set_option maxRecDepth 100000 in
theorem lc_clear {p : Program} {l : Launch} {e : Env} {s : State} {m : MethodId} {below : List Frame} {meth : Method} {c : Code} {dC : Nat → ClassId} {dI : Nat → Nat → Nat} {b L : Nat} {xs : Nat → Int32} {Q : State → Prop} {q0 q1 q2 q3 r0 r1 r2 r3 : Nat} {d1 d2 d3 e1 e2 e3 : ClassId} (hL : L ≤ 2560) (C0 : lw_At p s m meth c b L xs) {i : Nat} (hi : i + 5 ≤ L) {mem blk hdr sto : Nat → Int32} {pw en pw' rn dn wr cm : Int32} (hI : Inv mem blk hdr) (hp : PwR pw en pw') (hu : UpR rn dn) {H : Heap} {locs : List Loc} {ls : Array Slot} (hK : va_K (dC, dI) vwCl (Kk d1 d2 d3 e1 e2 e3) s) (hP : va_P (dC, dI) vwCl (Ww q0 q1 q2 q3 d1 d2 d3 r0 r1 r2 r3 e1 e2 e3 (mem, blk, hdr, nI (sb sto), pw, rn, wr, cm) (mem, blk, sto, dn, en, pw', wr, cm)) H) (hD : va_D (fun q : Nat => s.heap.size ≤ q) (Ww q0 q1 q2 q3 d1 d2 d3 r0 r1 r2 r3 e1 e2 e3 (mem, blk, hdr, nI (sb sto), pw, rn, wr, cm) (mem, blk, sto, dn, en, pw', wr, cm))) (hS : va_S (fun q : Nat => s.heap.size ≤ q) s.heap H locs) (hl : lv_has ls 4 [(0, .ref b), (1, .ref q0), (2, .ref r0), (3, .int (nI i))]) (again : ∀ (u v : S0) (H : Heap) (locs : List Loc), Rel u v → va_P (dC, dI) vwCl (Ww q0 q1 q2 q3 d1 d2 d3 r0 r1 r2 r3 e1 e2 e3 u v) H → va_D (fun q : Nat => s.heap.size ≤ q) (Ww q0 q1 q2 q3 d1 d2 d3 r0 r1 r2 r3 e1 e2 e3 u v) → va_S (fun q : Nat => s.heap.size ≤ q) s.heap H locs → W p l e room_1 s m #[Value.ref b] below meth c H locs 8 628 Q (F0 m 676 ls [])) : W p l e room_1 s m #[Value.ref b] below meth c H locs 8 628 Q (F0 m 419 ls []) := by
  obtain ⟨hx, hb, hr, hml, hown, hts0, hX, hbl, hlocks, hgv⟩ := C0
  have hts : ∀ w ∈ wsL_law, w.before #[Value.ref b] s = true := fun w h => hts0 w (wsL_law_in w h)
  have hown : s.vm.findClass RL = some m.cls := hown
  have hA : ∀ q : Nat, s.heap.size ≤ q → (fun q : Nat => s.heap.size ≤ q) q := fun _ h => h
  have hbA : ¬ (fun q : Nat => s.heap.size ≤ q) b := Nat.not_le.mpr hbl
  have hK0 : va_K (dC, dI) vwCl (k0 d1 d2 d3) s := hK.sub [0, 1, 2] rfl
  have hK1 : va_K (dC, dI) vwCl (k1 e1 e2 e3) s := hK.sub [3, 4, 5] rfl
  refine lv_aload_n hx hb dL_law_419 rfl (lv_at hl 1 rfl) ?_
  refine lv_aload_n hx hb dL_law_420 rfl (lv_at hl 0 rfl) ?_
  refine lv_iload_n hx hb dL_law_421 rfl (lv_at hl 3 rfl) ?_
  refine lv_iconst (v := 1) hx hb dL_law_422 (by decide) ?_
  refine lv_iadd hx hb dL_law_423 ?_
  refine va_sld hx hb hX hbl hbA hS (ls_in hL hi (k := 1) (by decide) rfl) dL_law_424 ?_
  refine lv_aload_n hx hb dL_law_425 rfl (lv_at hl 0 rfl) ?_
  refine lv_iload_n hx hb dL_law_426 rfl (lv_at hl 3 rfl) ?_
  refine lv_iconst (v := 2) hx hb dL_law_427 (by decide) ?_
  refine lv_iadd hx hb dL_law_428 ?_
  refine va_sld hx hb hX hbl hbA hS (ls_in hL hi (k := 2) (by decide) rfl) dL_law_429 ?_
  refine callWi (q := (RX0, TX0, 8)) (ci := 0) (q0 := 0) (As := [.int (xs (nI i + 1).toNatClampNeg), .int (xs (nI i + 2).toNatClampNeg)]) (rest := []) (wr := (w1 r0 r1 r2 r3 e1 e2 e3 (mem, blk, sto, dn, en, pw', wr, cm))) (m0_clear l dC dI q0 q1 q2 q3 d1 d2 d3 _ mem blk hdr (nI (sb sto)) pw rn wr cm (xs (nI i + 1).toNatClampNeg) (xs (nI i + 2).toNatClampNeg) ) ⟨hx, hb, hml, hown, hts⟩ (cwV 2 hts gL_law_X0_clear rfl rfl rfl (by decide +kernel) ⟨Nat.le_of_ble_eq_true rfl, Nat.le_of_ble_eq_true rfl⟩) hK0 hP hD hS hA rfl rfl [0, 1, 2, 3] [4, 5, 6, 7] rfl rfl rfl (by decide) (by decide) (by decide) rfl hl.1 rfl (Nat.le_of_ble_eq_true rfl) dL_law_430 ⟨Nat.le_refl _, Nat.le_refl _⟩ (fun H locs hP hD hS => ?_)
  generalize hF0 : F0_clear mem blk hdr (nI (sb sto)) pw rn wr cm (xs (nI i + 1).toNatClampNeg) (xs (nI i + 2).toNatClampNeg) = A0 at hP hD ⊢
  have hP : va_P (dC, dI) vwCl (w1 r0 r1 r2 r3 e1 e2 e3 (mem, blk, sto, dn, en, pw', wr, cm) ++ w0 q0 q1 q2 q3 d1 d2 d3 A0.2) _ := hP
  have hD : va_D _ (w1 r0 r1 r2 r3 e1 e2 e3 (mem, blk, sto, dn, en, pw', wr, cm) ++ w0 q0 q1 q2 q3 d1 d2 d3 A0.2) := hD
  refine lv_aload_n hx hb dL_law_433 rfl (lv_at hl 2 rfl) ?_
  refine lv_aload_n hx hb dL_law_434 rfl (lv_at hl 0 rfl) ?_
  refine lv_iload_n hx hb dL_law_435 rfl (lv_at hl 3 rfl) ?_
  refine lv_iconst (v := 1) hx hb dL_law_436 (by decide) ?_
  refine lv_iadd hx hb dL_law_437 ?_
  refine va_sld hx hb hX hbl hbA hS (ls_in hL hi (k := 1) (by decide) rfl) dL_law_438 ?_
  refine lv_aload_n hx hb dL_law_439 rfl (lv_at hl 0 rfl) ?_
  refine lv_iload_n hx hb dL_law_440 rfl (lv_at hl 3 rfl) ?_
  refine lv_iconst (v := 2) hx hb dL_law_441 (by decide) ?_
  refine lv_iadd hx hb dL_law_442 ?_
  refine va_sld hx hb hX hbl hbA hS (ls_in hL hi (k := 2) (by decide) rfl) dL_law_443 ?_
  refine callWi (q := (RX1, TX1, 8)) (ci := 1) (q0 := 0) (As := [.int (xs (nI i + 1).toNatClampNeg), .int (xs (nI i + 2).toNatClampNeg)]) (rest := [.int A0.1]) (wr := (w0 q0 q1 q2 q3 d1 d2 d3 A0.2)) (m1_clear l dC dI r0 r1 r2 r3 e1 e2 e3 _ mem blk sto dn en pw' wr cm (xs (nI i + 1).toNatClampNeg) (xs (nI i + 2).toNatClampNeg) ) ⟨hx, hb, hml, hown, hts⟩ (cwV 2 hts gL_law_X1_clear rfl rfl rfl (by decide +kernel) ⟨Nat.le_of_ble_eq_true rfl, Nat.le_of_ble_eq_true rfl⟩) hK1 hP hD hS hA rfl rfl [0, 1, 2, 3] [4, 5, 6, 7] rfl rfl rfl (by decide) (by decide) (by decide) rfl hl.1 rfl (Nat.le_of_ble_eq_true rfl) dL_law_444 ⟨Nat.le_refl _, Nat.le_refl _⟩ (fun H locs hP hD hS => ?_)
  generalize hF1 : F1_clear mem blk sto dn en pw' wr cm (xs (nI i + 1).toNatClampNeg) (xs (nI i + 2).toNatClampNeg) = A1 at hP hD ⊢
  have hP : va_P (dC, dI) vwCl (Ww q0 q1 q2 q3 d1 d2 d3 r0 r1 r2 r3 e1 e2 e3 A0.2 A1.2) _ := hP
  have hD : va_D _ (Ww q0 q1 q2 q3 d1 d2 d3 r0 r1 r2 r3 e1 e2 e3 A0.2 A1.2) := hD
  refine lv_icmp_eq (tgt := 676) hx hb dL_law_447 (by decide) (fun cq => ?_) (fun cq => ?_)
  · have hs := sim_clear (sto := sto) (wr := wr) (cm := cm) hI hp hu (xs (nI i + 1).toNatClampNeg) (xs (nI i + 2).toNatClampNeg)
    rw [hF0, hF1] at hs
    exact again A0.2 A1.2 _ _ hs.2 hP hD hS
  · have hs := sim_clear (sto := sto) (wr := wr) (cm := cm) hI hp hu (xs (nI i + 1).toNatClampNeg) (xs (nI i + 2).toNatClampNeg)
    rw [hF0, hF1] at hs
    exact absurd hs.1 cq
set_option maxHeartbeats 4000000 in
set_option maxRecDepth 100000 in
theorem lc_checkpoint {p : Program} {l : Launch} {e : Env} {s : State} {m : MethodId} {below : List Frame} {meth : Method} {c : Code} {dC : Nat → ClassId} {dI : Nat → Nat → Nat} {b L : Nat} {xs : Nat → Int32} {Q : State → Prop} {q0 q1 q2 q3 r0 r1 r2 r3 : Nat} {d1 d2 d3 e1 e2 e3 : ClassId} (hL : L ≤ 2560) (C0 : lw_At p s m meth c b L xs) {i : Nat} (hi : i + 5 ≤ L) {mem blk hdr sto : Nat → Int32} {pw en pw' rn dn wr cm : Int32} (hI : Inv mem blk hdr) (hp : PwR pw en pw') (hu : UpR rn dn) {H : Heap} {locs : List Loc} {ls : Array Slot} (hK : va_K (dC, dI) vwCl (Kk d1 d2 d3 e1 e2 e3) s) (hP : va_P (dC, dI) vwCl (Ww q0 q1 q2 q3 d1 d2 d3 r0 r1 r2 r3 e1 e2 e3 (mem, blk, hdr, nI (sb sto), pw, rn, wr, cm) (mem, blk, sto, dn, en, pw', wr, cm)) H) (hD : va_D (fun q : Nat => s.heap.size ≤ q) (Ww q0 q1 q2 q3 d1 d2 d3 r0 r1 r2 r3 e1 e2 e3 (mem, blk, hdr, nI (sb sto), pw, rn, wr, cm) (mem, blk, sto, dn, en, pw', wr, cm))) (hS : va_S (fun q : Nat => s.heap.size ≤ q) s.heap H locs) (hl : lv_has ls 4 [(0, .ref b), (1, .ref q0), (2, .ref r0), (3, .int (nI i))]) (again : ∀ (u v : S0) (H : Heap) (locs : List Loc), Rel u v → va_P (dC, dI) vwCl (Ww q0 q1 q2 q3 d1 d2 d3 r0 r1 r2 r3 e1 e2 e3 u v) H → va_D (fun q : Nat => s.heap.size ≤ q) (Ww q0 q1 q2 q3 d1 d2 d3 r0 r1 r2 r3 e1 e2 e3 u v) → va_S (fun q : Nat => s.heap.size ≤ q) s.heap H locs → W p l e room_1 s m #[Value.ref b] below meth c H locs 8 628 Q (F0 m 676 ls [])) : W p l e room_1 s m #[Value.ref b] below meth c H locs 8 628 Q (F0 m 452 ls []) := by
  obtain ⟨hx, hb, hr, hml, hown, hts0, hX, hbl, hlocks, hgv⟩ := C0
  have hts : ∀ w ∈ wsL_law, w.before #[Value.ref b] s = true := fun w h => hts0 w (wsL_law_in w h)
  have hown : s.vm.findClass RL = some m.cls := hown
  have hA : ∀ q : Nat, s.heap.size ≤ q → (fun q : Nat => s.heap.size ≤ q) q := fun _ h => h
  have hbA : ¬ (fun q : Nat => s.heap.size ≤ q) b := Nat.not_le.mpr hbl
  have hK0 : va_K (dC, dI) vwCl (k0 d1 d2 d3) s := hK.sub [0, 1, 2] rfl
  have hK1 : va_K (dC, dI) vwCl (k1 e1 e2 e3) s := hK.sub [3, 4, 5] rfl
  refine lv_aload_n hx hb dL_law_452 rfl (lv_at hl 1 rfl) ?_
  refine callWi (q := (RX0, TX0, 8)) (ci := 0) (q0 := 0) (As := []) (rest := []) (wr := (w1 r0 r1 r2 r3 e1 e2 e3 (mem, blk, sto, dn, en, pw', wr, cm))) (m0_checkpoint l dC dI q0 q1 q2 q3 d1 d2 d3 _ mem blk hdr (nI (sb sto)) pw rn wr cm  ) ⟨hx, hb, hml, hown, hts⟩ (cwV 0 hts gL_law_X0_checkpoint rfl rfl rfl (by decide +kernel) ⟨Nat.le_of_ble_eq_true rfl, Nat.le_of_ble_eq_true rfl⟩) hK0 hP hD hS hA rfl rfl [0, 1, 2, 3] [4, 5, 6, 7] rfl rfl rfl (by decide) (by decide) (by decide) rfl hl.1 rfl (Nat.le_of_ble_eq_true rfl) dL_law_453 ⟨Nat.le_refl _, Nat.le_refl _⟩ (fun H locs hP hD hS => ?_)
  generalize hF0 : F0_checkpoint mem blk hdr (nI (sb sto)) pw rn wr cm = A0 at hP hD ⊢
  have hP : va_P (dC, dI) vwCl (w1 r0 r1 r2 r3 e1 e2 e3 (mem, blk, sto, dn, en, pw', wr, cm) ++ w0 q0 q1 q2 q3 d1 d2 d3 A0.2) _ := hP
  have hD : va_D _ (w1 r0 r1 r2 r3 e1 e2 e3 (mem, blk, sto, dn, en, pw', wr, cm) ++ w0 q0 q1 q2 q3 d1 d2 d3 A0.2) := hD
  refine lv_aload_n hx hb dL_law_456 rfl (lv_at hl 2 rfl) ?_
  refine callWi (q := (RX1, TX1, 8)) (ci := 1) (q0 := 0) (As := []) (rest := [.int A0.1]) (wr := (w0 q0 q1 q2 q3 d1 d2 d3 A0.2)) (m1_checkpoint l dC dI r0 r1 r2 r3 e1 e2 e3 _ mem blk sto dn en pw' wr cm  ) ⟨hx, hb, hml, hown, hts⟩ (cwV 0 hts gL_law_X1_checkpoint rfl rfl rfl (by decide +kernel) ⟨Nat.le_of_ble_eq_true rfl, Nat.le_of_ble_eq_true rfl⟩) hK1 hP hD hS hA rfl rfl [0, 1, 2, 3] [4, 5, 6, 7] rfl rfl rfl (by decide) (by decide) (by decide) rfl hl.1 rfl (Nat.le_of_ble_eq_true rfl) dL_law_457 ⟨Nat.le_refl _, Nat.le_refl _⟩ (fun H locs hP hD hS => ?_)
  generalize hF1 : F1_checkpoint mem blk sto dn en pw' wr cm = A1 at hP hD ⊢
  have hP : va_P (dC, dI) vwCl (Ww q0 q1 q2 q3 d1 d2 d3 r0 r1 r2 r3 e1 e2 e3 A0.2 A1.2) _ := hP
  have hD : va_D _ (Ww q0 q1 q2 q3 d1 d2 d3 r0 r1 r2 r3 e1 e2 e3 A0.2 A1.2) := hD
  refine lv_icmp_eq (tgt := 676) hx hb dL_law_460 (by decide) (fun cq => ?_) (fun cq => ?_)
  · have hs := sim_checkpoint (sto := sto) (wr := wr) (cm := cm) hI hp hu
    rw [hF0, hF1] at hs
    exact again A0.2 A1.2 _ _ hs.2 hP hD hS
  · have hs := sim_checkpoint (sto := sto) (wr := wr) (cm := cm) hI hp hu 
    rw [hF0, hF1] at hs
    exact absurd hs.1 cq
set_option maxHeartbeats 4000000 in
set_option maxRecDepth 100000 in
theorem lc_power {p : Program} {l : Launch} {e : Env} {s : State} {m : MethodId} {below : List Frame} {meth : Method} {c : Code} {dC : Nat → ClassId} {dI : Nat → Nat → Nat} {b L : Nat} {xs : Nat → Int32} {Q : State → Prop} {q0 q1 q2 q3 r0 r1 r2 r3 : Nat} {d1 d2 d3 e1 e2 e3 : ClassId} (hL : L ≤ 2560) (C0 : lw_At p s m meth c b L xs) {i : Nat} (hi : i + 5 ≤ L) {mem blk hdr sto : Nat → Int32} {pw en pw' rn dn wr cm : Int32} (hI : Inv mem blk hdr) (hp : PwR pw en pw') (hu : UpR rn dn) {H : Heap} {locs : List Loc} {ls : Array Slot} (hK : va_K (dC, dI) vwCl (Kk d1 d2 d3 e1 e2 e3) s) (hP : va_P (dC, dI) vwCl (Ww q0 q1 q2 q3 d1 d2 d3 r0 r1 r2 r3 e1 e2 e3 (mem, blk, hdr, nI (sb sto), pw, rn, wr, cm) (mem, blk, sto, dn, en, pw', wr, cm)) H) (hD : va_D (fun q : Nat => s.heap.size ≤ q) (Ww q0 q1 q2 q3 d1 d2 d3 r0 r1 r2 r3 e1 e2 e3 (mem, blk, hdr, nI (sb sto), pw, rn, wr, cm) (mem, blk, sto, dn, en, pw', wr, cm))) (hS : va_S (fun q : Nat => s.heap.size ≤ q) s.heap H locs) (hl : lv_has ls 4 [(0, .ref b), (1, .ref q0), (2, .ref r0), (3, .int (nI i))]) (again : ∀ (u v : S0) (H : Heap) (locs : List Loc), Rel u v → va_P (dC, dI) vwCl (Ww q0 q1 q2 q3 d1 d2 d3 r0 r1 r2 r3 e1 e2 e3 u v) H → va_D (fun q : Nat => s.heap.size ≤ q) (Ww q0 q1 q2 q3 d1 d2 d3 r0 r1 r2 r3 e1 e2 e3 u v) → va_S (fun q : Nat => s.heap.size ≤ q) s.heap H locs → W p l e room_1 s m #[Value.ref b] below meth c H locs 8 628 Q (F0 m 676 ls [])) : W p l e room_1 s m #[Value.ref b] below meth c H locs 8 628 Q (F0 m 465 ls []) := by
  obtain ⟨hx, hb, hr, hml, hown, hts0, hX, hbl, hlocks, hgv⟩ := C0
  have hts : ∀ w ∈ wsL_law, w.before #[Value.ref b] s = true := fun w h => hts0 w (wsL_law_in w h)
  have hown : s.vm.findClass RL = some m.cls := hown
  have hA : ∀ q : Nat, s.heap.size ≤ q → (fun q : Nat => s.heap.size ≤ q) q := fun _ h => h
  have hbA : ¬ (fun q : Nat => s.heap.size ≤ q) b := Nat.not_le.mpr hbl
  have hK0 : va_K (dC, dI) vwCl (k0 d1 d2 d3) s := hK.sub [0, 1, 2] rfl
  have hK1 : va_K (dC, dI) vwCl (k1 e1 e2 e3) s := hK.sub [3, 4, 5] rfl
  refine lv_aload_n hx hb dL_law_465 rfl (lv_at hl 1 rfl) ?_
  refine lv_aload_n hx hb dL_law_466 rfl (lv_at hl 0 rfl) ?_
  refine lv_iload_n hx hb dL_law_467 rfl (lv_at hl 3 rfl) ?_
  refine lv_iconst (v := 1) hx hb dL_law_468 (by decide) ?_
  refine lv_iadd hx hb dL_law_469 ?_
  refine va_sld hx hb hX hbl hbA hS (ls_in hL hi (k := 1) (by decide) rfl) dL_law_470 ?_
  refine callWi (q := (RX0, TX0, 8)) (ci := 0) (q0 := 0) (As := [.int (xs (nI i + 1).toNatClampNeg)]) (rest := []) (wr := (w1 r0 r1 r2 r3 e1 e2 e3 (mem, blk, sto, dn, en, pw', wr, cm))) (m0_power l dC dI q0 q1 q2 q3 d1 d2 d3 _ mem blk hdr (nI (sb sto)) pw rn wr cm (xs (nI i + 1).toNatClampNeg) ) ⟨hx, hb, hml, hown, hts⟩ (cwV 1 hts gL_law_X0_power rfl rfl rfl (by decide +kernel) ⟨Nat.le_of_ble_eq_true rfl, Nat.le_of_ble_eq_true rfl⟩) hK0 hP hD hS hA rfl rfl [0, 1, 2, 3] [4, 5, 6, 7] rfl rfl rfl (by decide) (by decide) (by decide) rfl hl.1 rfl (Nat.le_of_ble_eq_true rfl) dL_law_471 ⟨Nat.le_refl _, Nat.le_refl _⟩ (fun H locs hP hD hS => ?_)
  generalize hF0 : F0_power mem blk hdr (nI (sb sto)) pw rn wr cm (xs (nI i + 1).toNatClampNeg) = A0 at hP hD ⊢
  have hP : va_P (dC, dI) vwCl (w1 r0 r1 r2 r3 e1 e2 e3 (mem, blk, sto, dn, en, pw', wr, cm) ++ w0 q0 q1 q2 q3 d1 d2 d3 A0.2) _ := hP
  have hD : va_D _ (w1 r0 r1 r2 r3 e1 e2 e3 (mem, blk, sto, dn, en, pw', wr, cm) ++ w0 q0 q1 q2 q3 d1 d2 d3 A0.2) := hD
  refine lv_aload_n hx hb dL_law_474 rfl (lv_at hl 2 rfl) ?_
  refine lv_aload_n hx hb dL_law_475 rfl (lv_at hl 0 rfl) ?_
  refine lv_iload_n hx hb dL_law_476 rfl (lv_at hl 3 rfl) ?_
  refine lv_iconst (v := 1) hx hb dL_law_477 (by decide) ?_
  refine lv_iadd hx hb dL_law_478 ?_
  refine va_sld hx hb hX hbl hbA hS (ls_in hL hi (k := 1) (by decide) rfl) dL_law_479 ?_
  refine callWi (q := (RX1, TX1, 8)) (ci := 1) (q0 := 0) (As := [.int (xs (nI i + 1).toNatClampNeg)]) (rest := [.int A0.1]) (wr := (w0 q0 q1 q2 q3 d1 d2 d3 A0.2)) (m1_power l dC dI r0 r1 r2 r3 e1 e2 e3 _ mem blk sto dn en pw' wr cm (xs (nI i + 1).toNatClampNeg) ) ⟨hx, hb, hml, hown, hts⟩ (cwV 1 hts gL_law_X1_power rfl rfl rfl (by decide +kernel) ⟨Nat.le_of_ble_eq_true rfl, Nat.le_of_ble_eq_true rfl⟩) hK1 hP hD hS hA rfl rfl [0, 1, 2, 3] [4, 5, 6, 7] rfl rfl rfl (by decide) (by decide) (by decide) rfl hl.1 rfl (Nat.le_of_ble_eq_true rfl) dL_law_480 ⟨Nat.le_refl _, Nat.le_refl _⟩ (fun H locs hP hD hS => ?_)
  generalize hF1 : F1_power mem blk sto dn en pw' wr cm (xs (nI i + 1).toNatClampNeg) = A1 at hP hD ⊢
  have hP : va_P (dC, dI) vwCl (Ww q0 q1 q2 q3 d1 d2 d3 r0 r1 r2 r3 e1 e2 e3 A0.2 A1.2) _ := hP
  have hD : va_D _ (Ww q0 q1 q2 q3 d1 d2 d3 r0 r1 r2 r3 e1 e2 e3 A0.2 A1.2) := hD
  refine lv_icmp_eq (tgt := 676) hx hb dL_law_483 (by decide) (fun cq => ?_) (fun cq => ?_)
  · have hs := sim_power (sto := sto) (wr := wr) (cm := cm) hI hp hu (xs (nI i + 1).toNatClampNeg)
    rw [hF0, hF1] at hs
    exact again A0.2 A1.2 _ _ hs.2 hP hD hS
  · have hs := sim_power (sto := sto) (wr := wr) (cm := cm) hI hp hu (xs (nI i + 1).toNatClampNeg)
    rw [hF0, hF1] at hs
    exact absurd hs.1 cq
set_option maxHeartbeats 4000000 in
set_option maxRecDepth 100000 in
theorem lc_crash {p : Program} {l : Launch} {e : Env} {s : State} {m : MethodId} {below : List Frame} {meth : Method} {c : Code} {dC : Nat → ClassId} {dI : Nat → Nat → Nat} {b L : Nat} {xs : Nat → Int32} {Q : State → Prop} {q0 q1 q2 q3 r0 r1 r2 r3 : Nat} {d1 d2 d3 e1 e2 e3 : ClassId} (hL : L ≤ 2560) (C0 : lw_At p s m meth c b L xs) {i : Nat} (hi : i + 5 ≤ L) {mem blk hdr sto : Nat → Int32} {pw en pw' rn dn wr cm : Int32} (hI : Inv mem blk hdr) (hp : PwR pw en pw') (hu : UpR rn dn) {H : Heap} {locs : List Loc} {ls : Array Slot} (hK : va_K (dC, dI) vwCl (Kk d1 d2 d3 e1 e2 e3) s) (hP : va_P (dC, dI) vwCl (Ww q0 q1 q2 q3 d1 d2 d3 r0 r1 r2 r3 e1 e2 e3 (mem, blk, hdr, nI (sb sto), pw, rn, wr, cm) (mem, blk, sto, dn, en, pw', wr, cm)) H) (hD : va_D (fun q : Nat => s.heap.size ≤ q) (Ww q0 q1 q2 q3 d1 d2 d3 r0 r1 r2 r3 e1 e2 e3 (mem, blk, hdr, nI (sb sto), pw, rn, wr, cm) (mem, blk, sto, dn, en, pw', wr, cm))) (hS : va_S (fun q : Nat => s.heap.size ≤ q) s.heap H locs) (hl : lv_has ls 4 [(0, .ref b), (1, .ref q0), (2, .ref r0), (3, .int (nI i))]) (again : ∀ (u v : S0) (H : Heap) (locs : List Loc), Rel u v → va_P (dC, dI) vwCl (Ww q0 q1 q2 q3 d1 d2 d3 r0 r1 r2 r3 e1 e2 e3 u v) H → va_D (fun q : Nat => s.heap.size ≤ q) (Ww q0 q1 q2 q3 d1 d2 d3 r0 r1 r2 r3 e1 e2 e3 u v) → va_S (fun q : Nat => s.heap.size ≤ q) s.heap H locs → W p l e room_1 s m #[Value.ref b] below meth c H locs 8 628 Q (F0 m 676 ls [])) : W p l e room_1 s m #[Value.ref b] below meth c H locs 8 628 Q (F0 m 488 ls []) := by
  obtain ⟨hx, hb, hr, hml, hown, hts0, hX, hbl, hlocks, hgv⟩ := C0
  have hts : ∀ w ∈ wsL_law, w.before #[Value.ref b] s = true := fun w h => hts0 w (wsL_law_in w h)
  have hown : s.vm.findClass RL = some m.cls := hown
  have hA : ∀ q : Nat, s.heap.size ≤ q → (fun q : Nat => s.heap.size ≤ q) q := fun _ h => h
  have hbA : ¬ (fun q : Nat => s.heap.size ≤ q) b := Nat.not_le.mpr hbl
  have hK0 : va_K (dC, dI) vwCl (k0 d1 d2 d3) s := hK.sub [0, 1, 2] rfl
  have hK1 : va_K (dC, dI) vwCl (k1 e1 e2 e3) s := hK.sub [3, 4, 5] rfl
  refine lv_aload_n hx hb dL_law_488 rfl (lv_at hl 1 rfl) ?_
  refine callWi (q := (RX0, TX0, 8)) (ci := 0) (q0 := 0) (As := []) (rest := []) (wr := (w1 r0 r1 r2 r3 e1 e2 e3 (mem, blk, sto, dn, en, pw', wr, cm))) (m0_crash l dC dI q0 q1 q2 q3 d1 d2 d3 _ mem blk hdr (nI (sb sto)) pw rn wr cm  (hu01 hu)) ⟨hx, hb, hml, hown, hts⟩ (cwV 0 hts gL_law_X0_crash rfl rfl rfl (by decide +kernel) ⟨Nat.le_of_ble_eq_true rfl, Nat.le_of_ble_eq_true rfl⟩) hK0 hP hD hS hA rfl rfl [0, 1, 2, 3] [4, 5, 6, 7] rfl rfl rfl (by decide) (by decide) (by decide) rfl hl.1 rfl (Nat.le_of_ble_eq_true rfl) dL_law_489 ⟨Nat.le_refl _, Nat.le_refl _⟩ (fun H locs hP hD hS => ?_)
  generalize hF0 : F0_crash mem blk hdr (nI (sb sto)) pw rn wr cm = A0 at hP hD ⊢
  have hP : va_P (dC, dI) vwCl (w1 r0 r1 r2 r3 e1 e2 e3 (mem, blk, sto, dn, en, pw', wr, cm) ++ w0 q0 q1 q2 q3 d1 d2 d3 A0.2) _ := hP
  have hD : va_D _ (w1 r0 r1 r2 r3 e1 e2 e3 (mem, blk, sto, dn, en, pw', wr, cm) ++ w0 q0 q1 q2 q3 d1 d2 d3 A0.2) := hD
  refine lv_aload_n hx hb dL_law_492 rfl (lv_at hl 2 rfl) ?_
  refine callWi (q := (RX1, TX1, 8)) (ci := 1) (q0 := 0) (As := []) (rest := [.int A0.1]) (wr := (w0 q0 q1 q2 q3 d1 d2 d3 A0.2)) (m1_crash l dC dI r0 r1 r2 r3 e1 e2 e3 _ mem blk sto dn en pw' wr cm  ) ⟨hx, hb, hml, hown, hts⟩ (cwV 0 hts gL_law_X1_crash rfl rfl rfl (by decide +kernel) ⟨Nat.le_of_ble_eq_true rfl, Nat.le_of_ble_eq_true rfl⟩) hK1 hP hD hS hA rfl rfl [0, 1, 2, 3] [4, 5, 6, 7] rfl rfl rfl (by decide) (by decide) (by decide) rfl hl.1 rfl (Nat.le_of_ble_eq_true rfl) dL_law_493 ⟨Nat.le_refl _, Nat.le_refl _⟩ (fun H locs hP hD hS => ?_)
  generalize hF1 : F1_crash mem blk sto dn en pw' wr cm = A1 at hP hD ⊢
  have hP : va_P (dC, dI) vwCl (Ww q0 q1 q2 q3 d1 d2 d3 r0 r1 r2 r3 e1 e2 e3 A0.2 A1.2) _ := hP
  have hD : va_D _ (Ww q0 q1 q2 q3 d1 d2 d3 r0 r1 r2 r3 e1 e2 e3 A0.2 A1.2) := hD
  refine lv_icmp_eq (tgt := 676) hx hb dL_law_496 (by decide) (fun cq => ?_) (fun cq => ?_)
  · have hs := sim_crash (sto := sto) (wr := wr) (cm := cm) hI hp hu
    rw [hF0, hF1] at hs
    exact again A0.2 A1.2 _ _ hs.2 hP hD hS
  · have hs := sim_crash (sto := sto) (wr := wr) (cm := cm) hI hp hu 
    rw [hF0, hF1] at hs
    exact absurd hs.1 cq
set_option maxHeartbeats 4000000 in
set_option maxRecDepth 100000 in
theorem lc_start {p : Program} {l : Launch} {e : Env} {s : State} {m : MethodId} {below : List Frame} {meth : Method} {c : Code} {dC : Nat → ClassId} {dI : Nat → Nat → Nat} {b L : Nat} {xs : Nat → Int32} {Q : State → Prop} {q0 q1 q2 q3 r0 r1 r2 r3 : Nat} {d1 d2 d3 e1 e2 e3 : ClassId} (hL : L ≤ 2560) (C0 : lw_At p s m meth c b L xs) {i : Nat} (hi : i + 5 ≤ L) {mem blk hdr sto : Nat → Int32} {pw en pw' rn dn wr cm : Int32} (hI : Inv mem blk hdr) (hp : PwR pw en pw') (hu : UpR rn dn) {H : Heap} {locs : List Loc} {ls : Array Slot} (hK : va_K (dC, dI) vwCl (Kk d1 d2 d3 e1 e2 e3) s) (hP : va_P (dC, dI) vwCl (Ww q0 q1 q2 q3 d1 d2 d3 r0 r1 r2 r3 e1 e2 e3 (mem, blk, hdr, nI (sb sto), pw, rn, wr, cm) (mem, blk, sto, dn, en, pw', wr, cm)) H) (hD : va_D (fun q : Nat => s.heap.size ≤ q) (Ww q0 q1 q2 q3 d1 d2 d3 r0 r1 r2 r3 e1 e2 e3 (mem, blk, hdr, nI (sb sto), pw, rn, wr, cm) (mem, blk, sto, dn, en, pw', wr, cm))) (hS : va_S (fun q : Nat => s.heap.size ≤ q) s.heap H locs) (hl : lv_has ls 4 [(0, .ref b), (1, .ref q0), (2, .ref r0), (3, .int (nI i))]) (again : ∀ (u v : S0) (H : Heap) (locs : List Loc), Rel u v → va_P (dC, dI) vwCl (Ww q0 q1 q2 q3 d1 d2 d3 r0 r1 r2 r3 e1 e2 e3 u v) H → va_D (fun q : Nat => s.heap.size ≤ q) (Ww q0 q1 q2 q3 d1 d2 d3 r0 r1 r2 r3 e1 e2 e3 u v) → va_S (fun q : Nat => s.heap.size ≤ q) s.heap H locs → W p l e room_1 s m #[Value.ref b] below meth c H locs 8 628 Q (F0 m 676 ls [])) : W p l e room_1 s m #[Value.ref b] below meth c H locs 8 628 Q (F0 m 501 ls []) := by
  obtain ⟨hx, hb, hr, hml, hown, hts0, hX, hbl, hlocks, hgv⟩ := C0
  have hts : ∀ w ∈ wsL_law, w.before #[Value.ref b] s = true := fun w h => hts0 w (wsL_law_in w h)
  have hown : s.vm.findClass RL = some m.cls := hown
  have hA : ∀ q : Nat, s.heap.size ≤ q → (fun q : Nat => s.heap.size ≤ q) q := fun _ h => h
  have hbA : ¬ (fun q : Nat => s.heap.size ≤ q) b := Nat.not_le.mpr hbl
  have hK0 : va_K (dC, dI) vwCl (k0 d1 d2 d3) s := hK.sub [0, 1, 2] rfl
  have hK1 : va_K (dC, dI) vwCl (k1 e1 e2 e3) s := hK.sub [3, 4, 5] rfl
  refine lv_aload_n hx hb dL_law_501 rfl (lv_at hl 1 rfl) ?_
  refine lv_aload_n hx hb dL_law_502 rfl (lv_at hl 0 rfl) ?_
  refine lv_iload_n hx hb dL_law_503 rfl (lv_at hl 3 rfl) ?_
  refine lv_iconst (v := 1) hx hb dL_law_504 (by decide) ?_
  refine lv_iadd hx hb dL_law_505 ?_
  refine va_sld hx hb hX hbl hbA hS (ls_in hL hi (k := 1) (by decide) rfl) dL_law_506 ?_
  refine callWi (q := (RX0, TX0, 8)) (ci := 0) (q0 := 0) (As := [.int (xs (nI i + 1).toNatClampNeg)]) (rest := []) (wr := (w1 r0 r1 r2 r3 e1 e2 e3 (mem, blk, sto, dn, en, pw', wr, cm))) (m0_start l dC dI q0 q1 q2 q3 d1 d2 d3 _ mem blk hdr (nI (sb sto)) pw rn wr cm (xs (nI i + 1).toNatClampNeg) ) ⟨hx, hb, hml, hown, hts⟩ (cwV 1 hts gL_law_X0_start rfl rfl rfl (by decide +kernel) ⟨Nat.le_of_ble_eq_true rfl, Nat.le_of_ble_eq_true rfl⟩) hK0 hP hD hS hA rfl rfl [0, 1, 2, 3] [4, 5, 6, 7] rfl rfl rfl (by decide) (by decide) (by decide) rfl hl.1 rfl (Nat.le_of_ble_eq_true rfl) dL_law_507 ⟨Nat.le_refl _, Nat.le_refl _⟩ (fun H locs hP hD hS => ?_)
  generalize hF0 : F0_start mem blk hdr (nI (sb sto)) pw rn wr cm (xs (nI i + 1).toNatClampNeg) = A0 at hP hD ⊢
  have hP : va_P (dC, dI) vwCl (w1 r0 r1 r2 r3 e1 e2 e3 (mem, blk, sto, dn, en, pw', wr, cm) ++ w0 q0 q1 q2 q3 d1 d2 d3 A0.2) _ := hP
  have hD : va_D _ (w1 r0 r1 r2 r3 e1 e2 e3 (mem, blk, sto, dn, en, pw', wr, cm) ++ w0 q0 q1 q2 q3 d1 d2 d3 A0.2) := hD
  refine lv_aload_n hx hb dL_law_510 rfl (lv_at hl 2 rfl) ?_
  refine lv_aload_n hx hb dL_law_511 rfl (lv_at hl 0 rfl) ?_
  refine lv_iload_n hx hb dL_law_512 rfl (lv_at hl 3 rfl) ?_
  refine lv_iconst (v := 1) hx hb dL_law_513 (by decide) ?_
  refine lv_iadd hx hb dL_law_514 ?_
  refine va_sld hx hb hX hbl hbA hS (ls_in hL hi (k := 1) (by decide) rfl) dL_law_515 ?_
  refine callWi (q := (RX1, TX1, 8)) (ci := 1) (q0 := 0) (As := [.int (xs (nI i + 1).toNatClampNeg)]) (rest := [.int A0.1]) (wr := (w0 q0 q1 q2 q3 d1 d2 d3 A0.2)) (m1_start l dC dI r0 r1 r2 r3 e1 e2 e3 _ mem blk sto dn en pw' wr cm (xs (nI i + 1).toNatClampNeg) ) ⟨hx, hb, hml, hown, hts⟩ (cwV 1 hts gL_law_X1_start rfl rfl rfl (by decide +kernel) ⟨Nat.le_of_ble_eq_true rfl, Nat.le_of_ble_eq_true rfl⟩) hK1 hP hD hS hA rfl rfl [0, 1, 2, 3] [4, 5, 6, 7] rfl rfl rfl (by decide) (by decide) (by decide) rfl hl.1 rfl (Nat.le_of_ble_eq_true rfl) dL_law_516 ⟨Nat.le_refl _, Nat.le_refl _⟩ (fun H locs hP hD hS => ?_)
  generalize hF1 : F1_start mem blk sto dn en pw' wr cm (xs (nI i + 1).toNatClampNeg) = A1 at hP hD ⊢
  have hP : va_P (dC, dI) vwCl (Ww q0 q1 q2 q3 d1 d2 d3 r0 r1 r2 r3 e1 e2 e3 A0.2 A1.2) _ := hP
  have hD : va_D _ (Ww q0 q1 q2 q3 d1 d2 d3 r0 r1 r2 r3 e1 e2 e3 A0.2 A1.2) := hD
  refine lv_icmp_eq (tgt := 676) hx hb dL_law_519 (by decide) (fun cq => ?_) (fun cq => ?_)
  · have hs := sim_start (sto := sto) (wr := wr) (cm := cm) hI hp hu (xs (nI i + 1).toNatClampNeg)
    rw [hF0, hF1] at hs
    exact again A0.2 A1.2 _ _ hs.2 hP hD hS
  · have hs := sim_start (sto := sto) (wr := wr) (cm := cm) hI hp hu (xs (nI i + 1).toNatClampNeg)
    rw [hF0, hF1] at hs
    exact absurd hs.1 cq
set_option maxHeartbeats 4000000 in
set_option maxRecDepth 100000 in
theorem lc_isUp {p : Program} {l : Launch} {e : Env} {s : State} {m : MethodId} {below : List Frame} {meth : Method} {c : Code} {dC : Nat → ClassId} {dI : Nat → Nat → Nat} {b L : Nat} {xs : Nat → Int32} {Q : State → Prop} {q0 q1 q2 q3 r0 r1 r2 r3 : Nat} {d1 d2 d3 e1 e2 e3 : ClassId} (hL : L ≤ 2560) (C0 : lw_At p s m meth c b L xs) {i : Nat} (hi : i + 5 ≤ L) {mem blk hdr sto : Nat → Int32} {pw en pw' rn dn wr cm : Int32} (hI : Inv mem blk hdr) (hp : PwR pw en pw') (hu : UpR rn dn) {H : Heap} {locs : List Loc} {ls : Array Slot} (hK : va_K (dC, dI) vwCl (Kk d1 d2 d3 e1 e2 e3) s) (hP : va_P (dC, dI) vwCl (Ww q0 q1 q2 q3 d1 d2 d3 r0 r1 r2 r3 e1 e2 e3 (mem, blk, hdr, nI (sb sto), pw, rn, wr, cm) (mem, blk, sto, dn, en, pw', wr, cm)) H) (hD : va_D (fun q : Nat => s.heap.size ≤ q) (Ww q0 q1 q2 q3 d1 d2 d3 r0 r1 r2 r3 e1 e2 e3 (mem, blk, hdr, nI (sb sto), pw, rn, wr, cm) (mem, blk, sto, dn, en, pw', wr, cm))) (hS : va_S (fun q : Nat => s.heap.size ≤ q) s.heap H locs) (hl : lv_has ls 4 [(0, .ref b), (1, .ref q0), (2, .ref r0), (3, .int (nI i))]) (again : ∀ (u v : S0) (H : Heap) (locs : List Loc), Rel u v → va_P (dC, dI) vwCl (Ww q0 q1 q2 q3 d1 d2 d3 r0 r1 r2 r3 e1 e2 e3 u v) H → va_D (fun q : Nat => s.heap.size ≤ q) (Ww q0 q1 q2 q3 d1 d2 d3 r0 r1 r2 r3 e1 e2 e3 u v) → va_S (fun q : Nat => s.heap.size ≤ q) s.heap H locs → W p l e room_1 s m #[Value.ref b] below meth c H locs 8 628 Q (F0 m 676 ls [])) : W p l e room_1 s m #[Value.ref b] below meth c H locs 8 628 Q (F0 m 524 ls []) := by
  obtain ⟨hx, hb, hr, hml, hown, hts0, hX, hbl, hlocks, hgv⟩ := C0
  have hts : ∀ w ∈ wsL_law, w.before #[Value.ref b] s = true := fun w h => hts0 w (wsL_law_in w h)
  have hown : s.vm.findClass RL = some m.cls := hown
  have hA : ∀ q : Nat, s.heap.size ≤ q → (fun q : Nat => s.heap.size ≤ q) q := fun _ h => h
  have hbA : ¬ (fun q : Nat => s.heap.size ≤ q) b := Nat.not_le.mpr hbl
  have hK0 : va_K (dC, dI) vwCl (k0 d1 d2 d3) s := hK.sub [0, 1, 2] rfl
  have hK1 : va_K (dC, dI) vwCl (k1 e1 e2 e3) s := hK.sub [3, 4, 5] rfl
  refine lv_aload_n hx hb dL_law_524 rfl (lv_at hl 1 rfl) ?_
  refine callRi (q := (RX0, TX0, 8)) (ci := 0) (q0 := 0) (As := []) (rest := []) (m0_isUp l dC dI q0 q1 q2 q3 d1 d2 d3 mem blk hdr (nI (sb sto)) pw rn wr cm  (hu01 hu)) ⟨hx, hb, hml, hown, hts⟩ (cwV 0 hts gL_law_X0_isUp rfl rfl rfl (by decide +kernel) ⟨Nat.le_of_ble_eq_true rfl, Nat.le_of_ble_eq_true rfl⟩) hK0 (hP.sub (ws' := (w0 q0 q1 q2 q3 d1 d2 d3 (mem, blk, hdr, nI (sb sto), pw, rn, wr, cm))) [0, 1, 2, 3] rfl) rfl rfl rfl hl.1 rfl (Nat.le_of_ble_eq_true rfl) dL_law_525 ⟨Nat.le_refl _, Nat.le_refl _⟩ ?_
  refine lv_aload_n hx hb dL_law_528 rfl (lv_at hl 2 rfl) ?_
  refine callRi (q := (RX1, TX1, 8)) (ci := 1) (q0 := 0) (As := []) (rest := [.int (f0_isUp mem blk hdr (nI (sb sto)) pw rn wr cm)]) (m1_isUp l dC dI r0 r1 r2 r3 e1 e2 e3 mem blk sto dn en pw' wr cm  ) ⟨hx, hb, hml, hown, hts⟩ (cwV 0 hts gL_law_X1_isUp rfl rfl rfl (by decide +kernel) ⟨Nat.le_of_ble_eq_true rfl, Nat.le_of_ble_eq_true rfl⟩) hK1 (hP.sub (ws' := (w1 r0 r1 r2 r3 e1 e2 e3 (mem, blk, sto, dn, en, pw', wr, cm))) [4, 5, 6, 7] rfl) rfl rfl rfl hl.1 rfl (Nat.le_of_ble_eq_true rfl) dL_law_529 ⟨Nat.le_refl _, Nat.le_refl _⟩ ?_
  refine lv_icmp_eq (tgt := 676) hx hb dL_law_532 (by decide) (fun cq => ?_) (fun cq => ?_)
  · exact again (mem, blk, hdr, nI (sb sto), pw, rn, wr, cm) (mem, blk, sto, dn, en, pw', wr, cm) _ _ (rel_mk hI hp hu) hP hD hS
  · exact absurd (sim_isUp (mem := mem) (blk := blk) (hdr := hdr) (sto := sto) (pw := pw) (en := en) (pw' := pw') (rn := rn) (dn := dn) (wr := wr) (cm := cm) hu ) cq
set_option maxHeartbeats 4000000 in
set_option maxRecDepth 100000 in
theorem lc_key {p : Program} {l : Launch} {e : Env} {s : State} {m : MethodId} {below : List Frame} {meth : Method} {c : Code} {dC : Nat → ClassId} {dI : Nat → Nat → Nat} {b L : Nat} {xs : Nat → Int32} {Q : State → Prop} {q0 q1 q2 q3 r0 r1 r2 r3 : Nat} {d1 d2 d3 e1 e2 e3 : ClassId} (hL : L ≤ 2560) (C0 : lw_At p s m meth c b L xs) {i : Nat} (hi : i + 5 ≤ L) {mem blk hdr sto : Nat → Int32} {pw en pw' rn dn wr cm : Int32} (hI : Inv mem blk hdr) (hp : PwR pw en pw') (hu : UpR rn dn) {H : Heap} {locs : List Loc} {ls : Array Slot} (hK : va_K (dC, dI) vwCl (Kk d1 d2 d3 e1 e2 e3) s) (hP : va_P (dC, dI) vwCl (Ww q0 q1 q2 q3 d1 d2 d3 r0 r1 r2 r3 e1 e2 e3 (mem, blk, hdr, nI (sb sto), pw, rn, wr, cm) (mem, blk, sto, dn, en, pw', wr, cm)) H) (hD : va_D (fun q : Nat => s.heap.size ≤ q) (Ww q0 q1 q2 q3 d1 d2 d3 r0 r1 r2 r3 e1 e2 e3 (mem, blk, hdr, nI (sb sto), pw, rn, wr, cm) (mem, blk, sto, dn, en, pw', wr, cm))) (hS : va_S (fun q : Nat => s.heap.size ≤ q) s.heap H locs) (hl : lv_has ls 4 [(0, .ref b), (1, .ref q0), (2, .ref r0), (3, .int (nI i))]) (again : ∀ (u v : S0) (H : Heap) (locs : List Loc), Rel u v → va_P (dC, dI) vwCl (Ww q0 q1 q2 q3 d1 d2 d3 r0 r1 r2 r3 e1 e2 e3 u v) H → va_D (fun q : Nat => s.heap.size ≤ q) (Ww q0 q1 q2 q3 d1 d2 d3 r0 r1 r2 r3 e1 e2 e3 u v) → va_S (fun q : Nat => s.heap.size ≤ q) s.heap H locs → W p l e room_1 s m #[Value.ref b] below meth c H locs 8 628 Q (F0 m 676 ls [])) : W p l e room_1 s m #[Value.ref b] below meth c H locs 8 628 Q (F0 m 537 ls []) := by
  obtain ⟨hx, hb, hr, hml, hown, hts0, hX, hbl, hlocks, hgv⟩ := C0
  have hts : ∀ w ∈ wsL_law, w.before #[Value.ref b] s = true := fun w h => hts0 w (wsL_law_in w h)
  have hown : s.vm.findClass RL = some m.cls := hown
  have hA : ∀ q : Nat, s.heap.size ≤ q → (fun q : Nat => s.heap.size ≤ q) q := fun _ h => h
  have hbA : ¬ (fun q : Nat => s.heap.size ≤ q) b := Nat.not_le.mpr hbl
  have hK0 : va_K (dC, dI) vwCl (k0 d1 d2 d3) s := hK.sub [0, 1, 2] rfl
  have hK1 : va_K (dC, dI) vwCl (k1 e1 e2 e3) s := hK.sub [3, 4, 5] rfl
  refine lv_aload_n hx hb dL_law_537 rfl (lv_at hl 1 rfl) ?_
  refine lv_aload_n hx hb dL_law_538 rfl (lv_at hl 0 rfl) ?_
  refine lv_iload_n hx hb dL_law_539 rfl (lv_at hl 3 rfl) ?_
  refine lv_iconst (v := 1) hx hb dL_law_540 (by decide) ?_
  refine lv_iadd hx hb dL_law_541 ?_
  refine va_sld hx hb hX hbl hbA hS (ls_in hL hi (k := 1) (by decide) rfl) dL_law_542 ?_
  refine lv_aload_n hx hb dL_law_543 rfl (lv_at hl 0 rfl) ?_
  refine lv_iload_n hx hb dL_law_544 rfl (lv_at hl 3 rfl) ?_
  refine lv_iconst (v := 2) hx hb dL_law_545 (by decide) ?_
  refine lv_iadd hx hb dL_law_546 ?_
  refine va_sld hx hb hX hbl hbA hS (ls_in hL hi (k := 2) (by decide) rfl) dL_law_547 ?_
  refine callRi (q := (RX0, TX0, 8)) (ci := 0) (q0 := 0) (As := [.int (xs (nI i + 1).toNatClampNeg), .int (xs (nI i + 2).toNatClampNeg)]) (rest := []) (m0_key l dC dI q0 q1 q2 q3 d1 d2 d3 mem blk hdr (nI (sb sto)) pw rn wr cm (xs (nI i + 1).toNatClampNeg) (xs (nI i + 2).toNatClampNeg) ) ⟨hx, hb, hml, hown, hts⟩ (cwV 2 hts gL_law_X0_key rfl rfl rfl (by decide +kernel) ⟨Nat.le_of_ble_eq_true rfl, Nat.le_of_ble_eq_true rfl⟩) hK0 (hP.sub (ws' := (w0 q0 q1 q2 q3 d1 d2 d3 (mem, blk, hdr, nI (sb sto), pw, rn, wr, cm))) [0, 1, 2, 3] rfl) rfl rfl rfl hl.1 rfl (Nat.le_of_ble_eq_true rfl) dL_law_548 ⟨Nat.le_refl _, Nat.le_refl _⟩ ?_
  refine lv_aload_n hx hb dL_law_551 rfl (lv_at hl 2 rfl) ?_
  refine lv_aload_n hx hb dL_law_552 rfl (lv_at hl 0 rfl) ?_
  refine lv_iload_n hx hb dL_law_553 rfl (lv_at hl 3 rfl) ?_
  refine lv_iconst (v := 1) hx hb dL_law_554 (by decide) ?_
  refine lv_iadd hx hb dL_law_555 ?_
  refine va_sld hx hb hX hbl hbA hS (ls_in hL hi (k := 1) (by decide) rfl) dL_law_556 ?_
  refine lv_aload_n hx hb dL_law_557 rfl (lv_at hl 0 rfl) ?_
  refine lv_iload_n hx hb dL_law_558 rfl (lv_at hl 3 rfl) ?_
  refine lv_iconst (v := 2) hx hb dL_law_559 (by decide) ?_
  refine lv_iadd hx hb dL_law_560 ?_
  refine va_sld hx hb hX hbl hbA hS (ls_in hL hi (k := 2) (by decide) rfl) dL_law_561 ?_
  refine callRi (q := (RX1, TX1, 8)) (ci := 1) (q0 := 0) (As := [.int (xs (nI i + 1).toNatClampNeg), .int (xs (nI i + 2).toNatClampNeg)]) (rest := [.int (f0_key mem blk hdr (nI (sb sto)) pw rn wr cm (xs (nI i + 1).toNatClampNeg) (xs (nI i + 2).toNatClampNeg))]) (m1_key l dC dI r0 r1 r2 r3 e1 e2 e3 mem blk sto dn en pw' wr cm (xs (nI i + 1).toNatClampNeg) (xs (nI i + 2).toNatClampNeg) ) ⟨hx, hb, hml, hown, hts⟩ (cwV 2 hts gL_law_X1_key rfl rfl rfl (by decide +kernel) ⟨Nat.le_of_ble_eq_true rfl, Nat.le_of_ble_eq_true rfl⟩) hK1 (hP.sub (ws' := (w1 r0 r1 r2 r3 e1 e2 e3 (mem, blk, sto, dn, en, pw', wr, cm))) [4, 5, 6, 7] rfl) rfl rfl rfl hl.1 rfl (Nat.le_of_ble_eq_true rfl) dL_law_562 ⟨Nat.le_refl _, Nat.le_refl _⟩ ?_
  refine lv_icmp_eq (tgt := 676) hx hb dL_law_565 (by decide) (fun cq => ?_) (fun cq => ?_)
  · exact again (mem, blk, hdr, nI (sb sto), pw, rn, wr, cm) (mem, blk, sto, dn, en, pw', wr, cm) _ _ (rel_mk hI hp hu) hP hD hS
  · exact absurd (sim_key (mem := mem) (blk := blk) (hdr := hdr) (sto := sto) (pw := pw) (en := en) (pw' := pw') (rn := rn) (dn := dn) (wr := wr) (cm := cm) hu (xs (nI i + 1).toNatClampNeg) (xs (nI i + 2).toNatClampNeg)) cq
set_option maxHeartbeats 4000000 in
set_option maxRecDepth 100000 in
theorem lc_word {p : Program} {l : Launch} {e : Env} {s : State} {m : MethodId} {below : List Frame} {meth : Method} {c : Code} {dC : Nat → ClassId} {dI : Nat → Nat → Nat} {b L : Nat} {xs : Nat → Int32} {Q : State → Prop} {q0 q1 q2 q3 r0 r1 r2 r3 : Nat} {d1 d2 d3 e1 e2 e3 : ClassId} (hL : L ≤ 2560) (C0 : lw_At p s m meth c b L xs) {i : Nat} (hi : i + 5 ≤ L) {mem blk hdr sto : Nat → Int32} {pw en pw' rn dn wr cm : Int32} (hI : Inv mem blk hdr) (hp : PwR pw en pw') (hu : UpR rn dn) {H : Heap} {locs : List Loc} {ls : Array Slot} (hK : va_K (dC, dI) vwCl (Kk d1 d2 d3 e1 e2 e3) s) (hP : va_P (dC, dI) vwCl (Ww q0 q1 q2 q3 d1 d2 d3 r0 r1 r2 r3 e1 e2 e3 (mem, blk, hdr, nI (sb sto), pw, rn, wr, cm) (mem, blk, sto, dn, en, pw', wr, cm)) H) (hD : va_D (fun q : Nat => s.heap.size ≤ q) (Ww q0 q1 q2 q3 d1 d2 d3 r0 r1 r2 r3 e1 e2 e3 (mem, blk, hdr, nI (sb sto), pw, rn, wr, cm) (mem, blk, sto, dn, en, pw', wr, cm))) (hS : va_S (fun q : Nat => s.heap.size ≤ q) s.heap H locs) (hl : lv_has ls 4 [(0, .ref b), (1, .ref q0), (2, .ref r0), (3, .int (nI i))]) (again : ∀ (u v : S0) (H : Heap) (locs : List Loc), Rel u v → va_P (dC, dI) vwCl (Ww q0 q1 q2 q3 d1 d2 d3 r0 r1 r2 r3 e1 e2 e3 u v) H → va_D (fun q : Nat => s.heap.size ≤ q) (Ww q0 q1 q2 q3 d1 d2 d3 r0 r1 r2 r3 e1 e2 e3 u v) → va_S (fun q : Nat => s.heap.size ≤ q) s.heap H locs → W p l e room_1 s m #[Value.ref b] below meth c H locs 8 628 Q (F0 m 676 ls [])) : W p l e room_1 s m #[Value.ref b] below meth c H locs 8 628 Q (F0 m 570 ls []) := by
  obtain ⟨hx, hb, hr, hml, hown, hts0, hX, hbl, hlocks, hgv⟩ := C0
  have hts : ∀ w ∈ wsL_law, w.before #[Value.ref b] s = true := fun w h => hts0 w (wsL_law_in w h)
  have hown : s.vm.findClass RL = some m.cls := hown
  have hA : ∀ q : Nat, s.heap.size ≤ q → (fun q : Nat => s.heap.size ≤ q) q := fun _ h => h
  have hbA : ¬ (fun q : Nat => s.heap.size ≤ q) b := Nat.not_le.mpr hbl
  have hK0 : va_K (dC, dI) vwCl (k0 d1 d2 d3) s := hK.sub [0, 1, 2] rfl
  have hK1 : va_K (dC, dI) vwCl (k1 e1 e2 e3) s := hK.sub [3, 4, 5] rfl
  refine lv_aload_n hx hb dL_law_570 rfl (lv_at hl 1 rfl) ?_
  refine lv_aload_n hx hb dL_law_571 rfl (lv_at hl 0 rfl) ?_
  refine lv_iload_n hx hb dL_law_572 rfl (lv_at hl 3 rfl) ?_
  refine lv_iconst (v := 1) hx hb dL_law_573 (by decide) ?_
  refine lv_iadd hx hb dL_law_574 ?_
  refine va_sld hx hb hX hbl hbA hS (ls_in hL hi (k := 1) (by decide) rfl) dL_law_575 ?_
  refine lv_aload_n hx hb dL_law_576 rfl (lv_at hl 0 rfl) ?_
  refine lv_iload_n hx hb dL_law_577 rfl (lv_at hl 3 rfl) ?_
  refine lv_iconst (v := 2) hx hb dL_law_578 (by decide) ?_
  refine lv_iadd hx hb dL_law_579 ?_
  refine va_sld hx hb hX hbl hbA hS (ls_in hL hi (k := 2) (by decide) rfl) dL_law_580 ?_
  refine callRv (q := (RX0, TX0, 8)) (ci := 0) (q0 := 0) (As := [.int (xs (nI i + 1).toNatClampNeg), .int (xs (nI i + 2).toNatClampNeg)]) (rest := []) (m0_word l dC dI q0 q1 q2 q3 d1 d2 d3 mem blk hdr (nI (sb sto)) pw rn wr cm (xs (nI i + 1).toNatClampNeg) (xs (nI i + 2).toNatClampNeg) ) ⟨hx, hb, hml, hown, hts⟩ (cwV 2 hts gL_law_X0_word rfl rfl rfl (by decide +kernel) ⟨Nat.le_of_ble_eq_true rfl, Nat.le_of_ble_eq_true rfl⟩) hK0 (hP.sub (ws' := (w0 q0 q1 q2 q3 d1 d2 d3 (mem, blk, hdr, nI (sb sto), pw, rn, wr, cm))) [0, 1, 2, 3] rfl) rfl rfl rfl hl.1 rfl (Nat.le_of_ble_eq_true rfl) dL_law_581 ⟨Nat.le_refl _, Nat.le_refl _⟩ ?_
  refine lv_aload_n hx hb dL_law_584 rfl (lv_at hl 2 rfl) ?_
  refine lv_aload_n hx hb dL_law_585 rfl (lv_at hl 0 rfl) ?_
  refine lv_iload_n hx hb dL_law_586 rfl (lv_at hl 3 rfl) ?_
  refine lv_iconst (v := 1) hx hb dL_law_587 (by decide) ?_
  refine lv_iadd hx hb dL_law_588 ?_
  refine va_sld hx hb hX hbl hbA hS (ls_in hL hi (k := 1) (by decide) rfl) dL_law_589 ?_
  refine lv_aload_n hx hb dL_law_590 rfl (lv_at hl 0 rfl) ?_
  refine lv_iload_n hx hb dL_law_591 rfl (lv_at hl 3 rfl) ?_
  refine lv_iconst (v := 2) hx hb dL_law_592 (by decide) ?_
  refine lv_iadd hx hb dL_law_593 ?_
  refine va_sld hx hb hX hbl hbA hS (ls_in hL hi (k := 2) (by decide) rfl) dL_law_594 ?_
  refine callRv (q := (RX1, TX1, 8)) (ci := 1) (q0 := 0) (As := [.int (xs (nI i + 1).toNatClampNeg), .int (xs (nI i + 2).toNatClampNeg)]) (rest := [.long (f0_word mem blk hdr (nI (sb sto)) pw rn wr cm (xs (nI i + 1).toNatClampNeg) (xs (nI i + 2).toNatClampNeg))]) (m1_word l dC dI r0 r1 r2 r3 e1 e2 e3 mem blk sto dn en pw' wr cm (xs (nI i + 1).toNatClampNeg) (xs (nI i + 2).toNatClampNeg) ) ⟨hx, hb, hml, hown, hts⟩ (cwV 2 hts gL_law_X1_word rfl rfl rfl (by decide +kernel) ⟨Nat.le_of_ble_eq_true rfl, Nat.le_of_ble_eq_true rfl⟩) hK1 (hP.sub (ws' := (w1 r0 r1 r2 r3 e1 e2 e3 (mem, blk, sto, dn, en, pw', wr, cm))) [4, 5, 6, 7] rfl) rfl rfl rfl hl.1 rfl (Nat.le_of_ble_eq_true rfl) dL_law_595 ⟨Nat.le_refl _, Nat.le_refl _⟩ ?_
  refine W.lcmp hx hb dL_law_598 ?_
  refine lv_if_eq (tgt := 676) hx hb dL_law_599 (by decide) (fun cq => ?_) (fun cq => ?_)
  · exact again (mem, blk, hdr, nI (sb sto), pw, rn, wr, cm) (mem, blk, sto, dn, en, pw', wr, cm) _ _ (rel_mk hI hp hu) hP hD hS
  · exact absurd (by rw [(sim_word (mem := mem) (blk := blk) (hdr := hdr) (sto := sto) (pw := pw) (en := en) (pw' := pw') (rn := rn) (dn := dn) (wr := wr) (cm := cm) hu (xs (nI i + 1).toNatClampNeg) (xs (nI i + 2).toNatClampNeg))]; exact lgc _) cq
set_option maxHeartbeats 4000000 in
set_option maxRecDepth 100000 in
theorem lc_dirty {p : Program} {l : Launch} {e : Env} {s : State} {m : MethodId} {below : List Frame} {meth : Method} {c : Code} {dC : Nat → ClassId} {dI : Nat → Nat → Nat} {b L : Nat} {xs : Nat → Int32} {Q : State → Prop} {q0 q1 q2 q3 r0 r1 r2 r3 : Nat} {d1 d2 d3 e1 e2 e3 : ClassId} (hL : L ≤ 2560) (C0 : lw_At p s m meth c b L xs) {i : Nat} (hi : i + 5 ≤ L) {mem blk hdr sto : Nat → Int32} {pw en pw' rn dn wr cm : Int32} (hI : Inv mem blk hdr) (hp : PwR pw en pw') (hu : UpR rn dn) {H : Heap} {locs : List Loc} {ls : Array Slot} (hK : va_K (dC, dI) vwCl (Kk d1 d2 d3 e1 e2 e3) s) (hP : va_P (dC, dI) vwCl (Ww q0 q1 q2 q3 d1 d2 d3 r0 r1 r2 r3 e1 e2 e3 (mem, blk, hdr, nI (sb sto), pw, rn, wr, cm) (mem, blk, sto, dn, en, pw', wr, cm)) H) (hD : va_D (fun q : Nat => s.heap.size ≤ q) (Ww q0 q1 q2 q3 d1 d2 d3 r0 r1 r2 r3 e1 e2 e3 (mem, blk, hdr, nI (sb sto), pw, rn, wr, cm) (mem, blk, sto, dn, en, pw', wr, cm))) (hS : va_S (fun q : Nat => s.heap.size ≤ q) s.heap H locs) (hl : lv_has ls 4 [(0, .ref b), (1, .ref q0), (2, .ref r0), (3, .int (nI i))]) (again : ∀ (u v : S0) (H : Heap) (locs : List Loc), Rel u v → va_P (dC, dI) vwCl (Ww q0 q1 q2 q3 d1 d2 d3 r0 r1 r2 r3 e1 e2 e3 u v) H → va_D (fun q : Nat => s.heap.size ≤ q) (Ww q0 q1 q2 q3 d1 d2 d3 r0 r1 r2 r3 e1 e2 e3 u v) → va_S (fun q : Nat => s.heap.size ≤ q) s.heap H locs → W p l e room_1 s m #[Value.ref b] below meth c H locs 8 628 Q (F0 m 676 ls [])) : W p l e room_1 s m #[Value.ref b] below meth c H locs 8 628 Q (F0 m 604 ls []) := by
  obtain ⟨hx, hb, hr, hml, hown, hts0, hX, hbl, hlocks, hgv⟩ := C0
  have hts : ∀ w ∈ wsL_law, w.before #[Value.ref b] s = true := fun w h => hts0 w (wsL_law_in w h)
  have hown : s.vm.findClass RL = some m.cls := hown
  have hA : ∀ q : Nat, s.heap.size ≤ q → (fun q : Nat => s.heap.size ≤ q) q := fun _ h => h
  have hbA : ¬ (fun q : Nat => s.heap.size ≤ q) b := Nat.not_le.mpr hbl
  have hK0 : va_K (dC, dI) vwCl (k0 d1 d2 d3) s := hK.sub [0, 1, 2] rfl
  have hK1 : va_K (dC, dI) vwCl (k1 e1 e2 e3) s := hK.sub [3, 4, 5] rfl
  refine lv_aload_n hx hb dL_law_604 rfl (lv_at hl 1 rfl) ?_
  refine callRi (q := (RX0, TX0, 8)) (ci := 0) (q0 := 0) (As := []) (rest := []) (m0_dirty l dC dI q0 q1 q2 q3 d1 d2 d3 mem blk hdr (nI (sb sto)) pw rn wr cm  ) ⟨hx, hb, hml, hown, hts⟩ (cwV 0 hts gL_law_X0_dirty rfl rfl rfl (by decide +kernel) ⟨Nat.le_of_ble_eq_true rfl, Nat.le_of_ble_eq_true rfl⟩) hK0 (hP.sub (ws' := (w0 q0 q1 q2 q3 d1 d2 d3 (mem, blk, hdr, nI (sb sto), pw, rn, wr, cm))) [0, 1, 2, 3] rfl) rfl rfl rfl hl.1 rfl (Nat.le_of_ble_eq_true rfl) dL_law_605 ⟨Nat.le_refl _, Nat.le_refl _⟩ ?_
  refine lv_aload_n hx hb dL_law_608 rfl (lv_at hl 2 rfl) ?_
  refine callRi (q := (RX1, TX1, 8)) (ci := 1) (q0 := 0) (As := []) (rest := [.int (f0_dirty mem blk hdr (nI (sb sto)) pw rn wr cm)]) (m1_dirty l dC dI r0 r1 r2 r3 e1 e2 e3 mem blk sto dn en pw' wr cm  ) ⟨hx, hb, hml, hown, hts⟩ (cwV 0 hts gL_law_X1_dirty rfl rfl rfl (by decide +kernel) ⟨Nat.le_of_ble_eq_true rfl, Nat.le_of_ble_eq_true rfl⟩) hK1 (hP.sub (ws' := (w1 r0 r1 r2 r3 e1 e2 e3 (mem, blk, sto, dn, en, pw', wr, cm))) [4, 5, 6, 7] rfl) rfl rfl rfl hl.1 rfl (Nat.le_of_ble_eq_true rfl) dL_law_609 ⟨Nat.le_refl _, Nat.le_refl _⟩ ?_
  refine lv_icmp_eq (tgt := 676) hx hb dL_law_612 (by decide) (fun cq => ?_) (fun cq => ?_)
  · exact again (mem, blk, hdr, nI (sb sto), pw, rn, wr, cm) (mem, blk, sto, dn, en, pw', wr, cm) _ _ (rel_mk hI hp hu) hP hD hS
  · exact absurd (sim_dirty (mem := mem) (blk := blk) (hdr := hdr) (sto := sto) (pw := pw) (en := en) (pw' := pw') (rn := rn) (dn := dn) (wr := wr) (cm := cm) hu ) cq
set_option maxHeartbeats 4000000 in
set_option maxRecDepth 100000 in
theorem lc_disk {p : Program} {l : Launch} {e : Env} {s : State} {m : MethodId} {below : List Frame} {meth : Method} {c : Code} {dC : Nat → ClassId} {dI : Nat → Nat → Nat} {b L : Nat} {xs : Nat → Int32} {Q : State → Prop} {q0 q1 q2 q3 r0 r1 r2 r3 : Nat} {d1 d2 d3 e1 e2 e3 : ClassId} (hL : L ≤ 2560) (C0 : lw_At p s m meth c b L xs) {i : Nat} (hi : i + 5 ≤ L) {mem blk hdr sto : Nat → Int32} {pw en pw' rn dn wr cm : Int32} (hI : Inv mem blk hdr) (hp : PwR pw en pw') (hu : UpR rn dn) {H : Heap} {locs : List Loc} {ls : Array Slot} (hK : va_K (dC, dI) vwCl (Kk d1 d2 d3 e1 e2 e3) s) (hP : va_P (dC, dI) vwCl (Ww q0 q1 q2 q3 d1 d2 d3 r0 r1 r2 r3 e1 e2 e3 (mem, blk, hdr, nI (sb sto), pw, rn, wr, cm) (mem, blk, sto, dn, en, pw', wr, cm)) H) (hD : va_D (fun q : Nat => s.heap.size ≤ q) (Ww q0 q1 q2 q3 d1 d2 d3 r0 r1 r2 r3 e1 e2 e3 (mem, blk, hdr, nI (sb sto), pw, rn, wr, cm) (mem, blk, sto, dn, en, pw', wr, cm))) (hS : va_S (fun q : Nat => s.heap.size ≤ q) s.heap H locs) (hl : lv_has ls 4 [(0, .ref b), (1, .ref q0), (2, .ref r0), (3, .int (nI i))]) (again : ∀ (u v : S0) (H : Heap) (locs : List Loc), Rel u v → va_P (dC, dI) vwCl (Ww q0 q1 q2 q3 d1 d2 d3 r0 r1 r2 r3 e1 e2 e3 u v) H → va_D (fun q : Nat => s.heap.size ≤ q) (Ww q0 q1 q2 q3 d1 d2 d3 r0 r1 r2 r3 e1 e2 e3 u v) → va_S (fun q : Nat => s.heap.size ≤ q) s.heap H locs → W p l e room_1 s m #[Value.ref b] below meth c H locs 8 628 Q (F0 m 676 ls [])) : W p l e room_1 s m #[Value.ref b] below meth c H locs 8 628 Q (F0 m 617 ls []) := by
  obtain ⟨hx, hb, hr, hml, hown, hts0, hX, hbl, hlocks, hgv⟩ := C0
  have hts : ∀ w ∈ wsL_law, w.before #[Value.ref b] s = true := fun w h => hts0 w (wsL_law_in w h)
  have hown : s.vm.findClass RL = some m.cls := hown
  have hA : ∀ q : Nat, s.heap.size ≤ q → (fun q : Nat => s.heap.size ≤ q) q := fun _ h => h
  have hbA : ¬ (fun q : Nat => s.heap.size ≤ q) b := Nat.not_le.mpr hbl
  have hK0 : va_K (dC, dI) vwCl (k0 d1 d2 d3) s := hK.sub [0, 1, 2] rfl
  have hK1 : va_K (dC, dI) vwCl (k1 e1 e2 e3) s := hK.sub [3, 4, 5] rfl
  refine lv_aload_n hx hb dL_law_617 rfl (lv_at hl 1 rfl) ?_
  refine lv_aload_n hx hb dL_law_618 rfl (lv_at hl 0 rfl) ?_
  refine lv_iload_n hx hb dL_law_619 rfl (lv_at hl 3 rfl) ?_
  refine lv_iconst (v := 1) hx hb dL_law_620 (by decide) ?_
  refine lv_iadd hx hb dL_law_621 ?_
  refine va_sld hx hb hX hbl hbA hS (ls_in hL hi (k := 1) (by decide) rfl) dL_law_622 ?_
  refine lv_aload_n hx hb dL_law_623 rfl (lv_at hl 0 rfl) ?_
  refine lv_iload_n hx hb dL_law_624 rfl (lv_at hl 3 rfl) ?_
  refine lv_iconst (v := 2) hx hb dL_law_625 (by decide) ?_
  refine lv_iadd hx hb dL_law_626 ?_
  refine va_sld hx hb hX hbl hbA hS (ls_in hL hi (k := 2) (by decide) rfl) dL_law_627 ?_
  refine callRi (q := (RX0, TX0, 8)) (ci := 0) (q0 := 0) (As := [.int (xs (nI i + 1).toNatClampNeg), .int (xs (nI i + 2).toNatClampNeg)]) (rest := []) (m0_disk l dC dI q0 q1 q2 q3 d1 d2 d3 mem blk hdr (nI (sb sto)) pw rn wr cm (xs (nI i + 1).toNatClampNeg) (xs (nI i + 2).toNatClampNeg) ) ⟨hx, hb, hml, hown, hts⟩ (cwV 2 hts gL_law_X0_disk rfl rfl rfl (by decide +kernel) ⟨Nat.le_of_ble_eq_true rfl, Nat.le_of_ble_eq_true rfl⟩) hK0 (hP.sub (ws' := (w0 q0 q1 q2 q3 d1 d2 d3 (mem, blk, hdr, nI (sb sto), pw, rn, wr, cm))) [0, 1, 2, 3] rfl) rfl rfl rfl hl.1 rfl (Nat.le_of_ble_eq_true rfl) dL_law_628 ⟨Nat.le_refl _, Nat.le_refl _⟩ ?_
  refine lv_aload_n hx hb dL_law_631 rfl (lv_at hl 2 rfl) ?_
  refine lv_aload_n hx hb dL_law_632 rfl (lv_at hl 0 rfl) ?_
  refine lv_iload_n hx hb dL_law_633 rfl (lv_at hl 3 rfl) ?_
  refine lv_iconst (v := 1) hx hb dL_law_634 (by decide) ?_
  refine lv_iadd hx hb dL_law_635 ?_
  refine va_sld hx hb hX hbl hbA hS (ls_in hL hi (k := 1) (by decide) rfl) dL_law_636 ?_
  refine lv_aload_n hx hb dL_law_637 rfl (lv_at hl 0 rfl) ?_
  refine lv_iload_n hx hb dL_law_638 rfl (lv_at hl 3 rfl) ?_
  refine lv_iconst (v := 2) hx hb dL_law_639 (by decide) ?_
  refine lv_iadd hx hb dL_law_640 ?_
  refine va_sld hx hb hX hbl hbA hS (ls_in hL hi (k := 2) (by decide) rfl) dL_law_641 ?_
  refine callRi (q := (RX1, TX1, 8)) (ci := 1) (q0 := 0) (As := [.int (xs (nI i + 1).toNatClampNeg), .int (xs (nI i + 2).toNatClampNeg)]) (rest := [.int (f0_disk mem blk hdr (nI (sb sto)) pw rn wr cm (xs (nI i + 1).toNatClampNeg) (xs (nI i + 2).toNatClampNeg))]) (m1_disk l dC dI r0 r1 r2 r3 e1 e2 e3 mem blk sto dn en pw' wr cm (xs (nI i + 1).toNatClampNeg) (xs (nI i + 2).toNatClampNeg) ) ⟨hx, hb, hml, hown, hts⟩ (cwV 2 hts gL_law_X1_disk rfl rfl rfl (by decide +kernel) ⟨Nat.le_of_ble_eq_true rfl, Nat.le_of_ble_eq_true rfl⟩) hK1 (hP.sub (ws' := (w1 r0 r1 r2 r3 e1 e2 e3 (mem, blk, sto, dn, en, pw', wr, cm))) [4, 5, 6, 7] rfl) rfl rfl rfl hl.1 rfl (Nat.le_of_ble_eq_true rfl) dL_law_642 ⟨Nat.le_refl _, Nat.le_refl _⟩ ?_
  refine lv_icmp_eq (tgt := 676) hx hb dL_law_645 (by decide) (fun cq => ?_) (fun cq => ?_)
  · exact again (mem, blk, hdr, nI (sb sto), pw, rn, wr, cm) (mem, blk, sto, dn, en, pw', wr, cm) _ _ (rel_mk hI hp hu) hP hD hS
  · exact absurd (sim_disk (mem := mem) (blk := blk) (hdr := hdr) (sto := sto) (pw := pw) (en := en) (pw' := pw') (rn := rn) (dn := dn) (wr := wr) (cm := cm)  (xs (nI i + 1).toNatClampNeg) (xs (nI i + 2).toNatClampNeg)) cq
set_option maxHeartbeats 4000000 in
set_option maxRecDepth 100000 in
theorem lc_writes {p : Program} {l : Launch} {e : Env} {s : State} {m : MethodId} {below : List Frame} {meth : Method} {c : Code} {dC : Nat → ClassId} {dI : Nat → Nat → Nat} {b L : Nat} {xs : Nat → Int32} {Q : State → Prop} {q0 q1 q2 q3 r0 r1 r2 r3 : Nat} {d1 d2 d3 e1 e2 e3 : ClassId} (hL : L ≤ 2560) (C0 : lw_At p s m meth c b L xs) {i : Nat} (hi : i + 5 ≤ L) {mem blk hdr sto : Nat → Int32} {pw en pw' rn dn wr cm : Int32} (hI : Inv mem blk hdr) (hp : PwR pw en pw') (hu : UpR rn dn) {H : Heap} {locs : List Loc} {ls : Array Slot} (hK : va_K (dC, dI) vwCl (Kk d1 d2 d3 e1 e2 e3) s) (hP : va_P (dC, dI) vwCl (Ww q0 q1 q2 q3 d1 d2 d3 r0 r1 r2 r3 e1 e2 e3 (mem, blk, hdr, nI (sb sto), pw, rn, wr, cm) (mem, blk, sto, dn, en, pw', wr, cm)) H) (hD : va_D (fun q : Nat => s.heap.size ≤ q) (Ww q0 q1 q2 q3 d1 d2 d3 r0 r1 r2 r3 e1 e2 e3 (mem, blk, hdr, nI (sb sto), pw, rn, wr, cm) (mem, blk, sto, dn, en, pw', wr, cm))) (hS : va_S (fun q : Nat => s.heap.size ≤ q) s.heap H locs) (hl : lv_has ls 4 [(0, .ref b), (1, .ref q0), (2, .ref r0), (3, .int (nI i))]) (again : ∀ (u v : S0) (H : Heap) (locs : List Loc), Rel u v → va_P (dC, dI) vwCl (Ww q0 q1 q2 q3 d1 d2 d3 r0 r1 r2 r3 e1 e2 e3 u v) H → va_D (fun q : Nat => s.heap.size ≤ q) (Ww q0 q1 q2 q3 d1 d2 d3 r0 r1 r2 r3 e1 e2 e3 u v) → va_S (fun q : Nat => s.heap.size ≤ q) s.heap H locs → W p l e room_1 s m #[Value.ref b] below meth c H locs 8 628 Q (F0 m 676 ls [])) : W p l e room_1 s m #[Value.ref b] below meth c H locs 8 628 Q (F0 m 650 ls []) := by
  obtain ⟨hx, hb, hr, hml, hown, hts0, hX, hbl, hlocks, hgv⟩ := C0
  have hts : ∀ w ∈ wsL_law, w.before #[Value.ref b] s = true := fun w h => hts0 w (wsL_law_in w h)
  have hown : s.vm.findClass RL = some m.cls := hown
  have hA : ∀ q : Nat, s.heap.size ≤ q → (fun q : Nat => s.heap.size ≤ q) q := fun _ h => h
  have hbA : ¬ (fun q : Nat => s.heap.size ≤ q) b := Nat.not_le.mpr hbl
  have hK0 : va_K (dC, dI) vwCl (k0 d1 d2 d3) s := hK.sub [0, 1, 2] rfl
  have hK1 : va_K (dC, dI) vwCl (k1 e1 e2 e3) s := hK.sub [3, 4, 5] rfl
  refine lv_aload_n hx hb dL_law_650 rfl (lv_at hl 1 rfl) ?_
  refine callRi (q := (RX0, TX0, 8)) (ci := 0) (q0 := 0) (As := []) (rest := []) (m0_writes l dC dI q0 q1 q2 q3 d1 d2 d3 mem blk hdr (nI (sb sto)) pw rn wr cm  ) ⟨hx, hb, hml, hown, hts⟩ (cwV 0 hts gL_law_X0_writes rfl rfl rfl (by decide +kernel) ⟨Nat.le_of_ble_eq_true rfl, Nat.le_of_ble_eq_true rfl⟩) hK0 (hP.sub (ws' := (w0 q0 q1 q2 q3 d1 d2 d3 (mem, blk, hdr, nI (sb sto), pw, rn, wr, cm))) [0, 1, 2, 3] rfl) rfl rfl rfl hl.1 rfl (Nat.le_of_ble_eq_true rfl) dL_law_651 ⟨Nat.le_refl _, Nat.le_refl _⟩ ?_
  refine lv_aload_n hx hb dL_law_654 rfl (lv_at hl 2 rfl) ?_
  refine callRi (q := (RX1, TX1, 8)) (ci := 1) (q0 := 0) (As := []) (rest := [.int (f0_writes mem blk hdr (nI (sb sto)) pw rn wr cm)]) (m1_writes l dC dI r0 r1 r2 r3 e1 e2 e3 mem blk sto dn en pw' wr cm  ) ⟨hx, hb, hml, hown, hts⟩ (cwV 0 hts gL_law_X1_writes rfl rfl rfl (by decide +kernel) ⟨Nat.le_of_ble_eq_true rfl, Nat.le_of_ble_eq_true rfl⟩) hK1 (hP.sub (ws' := (w1 r0 r1 r2 r3 e1 e2 e3 (mem, blk, sto, dn, en, pw', wr, cm))) [4, 5, 6, 7] rfl) rfl rfl rfl hl.1 rfl (Nat.le_of_ble_eq_true rfl) dL_law_655 ⟨Nat.le_refl _, Nat.le_refl _⟩ ?_
  refine lv_icmp_eq (tgt := 676) hx hb dL_law_658 (by decide) (fun cq => ?_) (fun cq => ?_)
  · exact again (mem, blk, hdr, nI (sb sto), pw, rn, wr, cm) (mem, blk, sto, dn, en, pw', wr, cm) _ _ (rel_mk hI hp hu) hP hD hS
  · exact absurd rfl cq
set_option maxHeartbeats 4000000 in
set_option maxRecDepth 100000 in
theorem lc_commits {p : Program} {l : Launch} {e : Env} {s : State} {m : MethodId} {below : List Frame} {meth : Method} {c : Code} {dC : Nat → ClassId} {dI : Nat → Nat → Nat} {b L : Nat} {xs : Nat → Int32} {Q : State → Prop} {q0 q1 q2 q3 r0 r1 r2 r3 : Nat} {d1 d2 d3 e1 e2 e3 : ClassId} (hL : L ≤ 2560) (C0 : lw_At p s m meth c b L xs) {i : Nat} (hi : i + 5 ≤ L) {mem blk hdr sto : Nat → Int32} {pw en pw' rn dn wr cm : Int32} (hI : Inv mem blk hdr) (hp : PwR pw en pw') (hu : UpR rn dn) {H : Heap} {locs : List Loc} {ls : Array Slot} (hK : va_K (dC, dI) vwCl (Kk d1 d2 d3 e1 e2 e3) s) (hP : va_P (dC, dI) vwCl (Ww q0 q1 q2 q3 d1 d2 d3 r0 r1 r2 r3 e1 e2 e3 (mem, blk, hdr, nI (sb sto), pw, rn, wr, cm) (mem, blk, sto, dn, en, pw', wr, cm)) H) (hD : va_D (fun q : Nat => s.heap.size ≤ q) (Ww q0 q1 q2 q3 d1 d2 d3 r0 r1 r2 r3 e1 e2 e3 (mem, blk, hdr, nI (sb sto), pw, rn, wr, cm) (mem, blk, sto, dn, en, pw', wr, cm))) (hS : va_S (fun q : Nat => s.heap.size ≤ q) s.heap H locs) (hl : lv_has ls 4 [(0, .ref b), (1, .ref q0), (2, .ref r0), (3, .int (nI i))]) (again : ∀ (u v : S0) (H : Heap) (locs : List Loc), Rel u v → va_P (dC, dI) vwCl (Ww q0 q1 q2 q3 d1 d2 d3 r0 r1 r2 r3 e1 e2 e3 u v) H → va_D (fun q : Nat => s.heap.size ≤ q) (Ww q0 q1 q2 q3 d1 d2 d3 r0 r1 r2 r3 e1 e2 e3 u v) → va_S (fun q : Nat => s.heap.size ≤ q) s.heap H locs → W p l e room_1 s m #[Value.ref b] below meth c H locs 8 628 Q (F0 m 676 ls [])) : W p l e room_1 s m #[Value.ref b] below meth c H locs 8 628 Q (F0 m 663 ls []) := by
  obtain ⟨hx, hb, hr, hml, hown, hts0, hX, hbl, hlocks, hgv⟩ := C0
  have hts : ∀ w ∈ wsL_law, w.before #[Value.ref b] s = true := fun w h => hts0 w (wsL_law_in w h)
  have hown : s.vm.findClass RL = some m.cls := hown
  have hA : ∀ q : Nat, s.heap.size ≤ q → (fun q : Nat => s.heap.size ≤ q) q := fun _ h => h
  have hbA : ¬ (fun q : Nat => s.heap.size ≤ q) b := Nat.not_le.mpr hbl
  have hK0 : va_K (dC, dI) vwCl (k0 d1 d2 d3) s := hK.sub [0, 1, 2] rfl
  have hK1 : va_K (dC, dI) vwCl (k1 e1 e2 e3) s := hK.sub [3, 4, 5] rfl
  refine lv_aload_n hx hb dL_law_663 rfl (lv_at hl 1 rfl) ?_
  refine callRi (q := (RX0, TX0, 8)) (ci := 0) (q0 := 0) (As := []) (rest := []) (m0_commits l dC dI q0 q1 q2 q3 d1 d2 d3 mem blk hdr (nI (sb sto)) pw rn wr cm  ) ⟨hx, hb, hml, hown, hts⟩ (cwV 0 hts gL_law_X0_commits rfl rfl rfl (by decide +kernel) ⟨Nat.le_of_ble_eq_true rfl, Nat.le_of_ble_eq_true rfl⟩) hK0 (hP.sub (ws' := (w0 q0 q1 q2 q3 d1 d2 d3 (mem, blk, hdr, nI (sb sto), pw, rn, wr, cm))) [0, 1, 2, 3] rfl) rfl rfl rfl hl.1 rfl (Nat.le_of_ble_eq_true rfl) dL_law_664 ⟨Nat.le_refl _, Nat.le_refl _⟩ ?_
  refine lv_aload_n hx hb dL_law_667 rfl (lv_at hl 2 rfl) ?_
  refine callRi (q := (RX1, TX1, 8)) (ci := 1) (q0 := 0) (As := []) (rest := [.int (f0_commits mem blk hdr (nI (sb sto)) pw rn wr cm)]) (m1_commits l dC dI r0 r1 r2 r3 e1 e2 e3 mem blk sto dn en pw' wr cm  ) ⟨hx, hb, hml, hown, hts⟩ (cwV 0 hts gL_law_X1_commits rfl rfl rfl (by decide +kernel) ⟨Nat.le_of_ble_eq_true rfl, Nat.le_of_ble_eq_true rfl⟩) hK1 (hP.sub (ws' := (w1 r0 r1 r2 r3 e1 e2 e3 (mem, blk, sto, dn, en, pw', wr, cm))) [4, 5, 6, 7] rfl) rfl rfl rfl hl.1 rfl (Nat.le_of_ble_eq_true rfl) dL_law_668 ⟨Nat.le_refl _, Nat.le_refl _⟩ ?_
  refine lv_icmp_eq (tgt := 676) hx hb dL_law_671 (by decide) (fun cq => ?_) (fun cq => ?_)
  · exact again (mem, blk, hdr, nI (sb sto), pw, rn, wr, cm) (mem, blk, sto, dn, en, pw', wr, cm) _ _ (rel_mk hI hp hu) hP hD hS
  · exact absurd rfl cq
