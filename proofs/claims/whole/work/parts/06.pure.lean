def f0_isNode (x0 : Int32) : Int32 := (if x0 < 0 then 0 else (if 8 ≤ x0 then 0 else 1))
def f0_isPage (x0 : Int32) : Int32 := (if x0 < 8 then 0 else (if 12 ≤ x0 then 0 else 1))
def f0_isInRow (x0 : Int32) : Int32 := (if x0 < 0 then 0 else (if 8 ≤ x0 then 0 else 1))
def f0_isRegister (x0 : Int32) (x1 : Int32) : Int32 := (if x0 < 0 then 0 else (if 3 ≤ x0 then 0 else (if (f0_isInRow x1) = 0 then 0 else 1)))
def f0_isLimits (x0 : Int32) : Int32 := (if x0 < 0 then 0 else (if 3 < x0 then 0 else 1))
def f0_isPower (x0 : Int32) : Int32 := (if x0 = (-1) then 1 else (if x0 < 0 then 0 else (if 63 < x0 then 0 else 1)))
def f0_isBlock (x0 : Int32) : Int32 := (if x0 < 0 then 0 else (if 25 ≤ x0 then 0 else 1))
def f0_isKey (x0 : Int32) : Int32 := (if x0 < 0 then 0 else (if 48 < x0 then 0 else 1))
def f0_isNodeKey (x0 : Int32) : Int32 := (if x0 < 1 then 0 else (if 33 ≤ x0 then 0 else 1))
def f0_isPageKey (x0 : Int32) : Int32 := (if x0 < 33 then 0 else (if 48 < x0 then 0 else 1))
def f0_objectOf (x0 : Int32) : Int32 := ((x0 - 1) / 4)
def f0_limitsOf (x0 : Int32) : Int32 := ((x0 - 1) - (x0 - 1) / 4 * 4)
def f0_isWriting (x0 : Int32) : Int32 := (if (f0_limitsOf x0) = 0 then 1 else 0)
def f0_isWeak (x0 : Int32) : Int32 := (if ((f0_limitsOf x0) &&& 2) = 0 then 0 else 1)
def f0_limited (x0 : Int32) (x1 : Int32) : Int32 := (if x0 = 0 then 0 else ((1 + (4 * (f0_objectOf x0))) + ((f0_limitsOf x0) ||| x1)))
def f0_has (x0 : Int32) (x1 : Int32) : Int32 := (if ((x0 >>> (x1 &&& 31)) &&& 1) = 0 then 0 else 1)
def f1_eight (x0 : Int32) : Int32 := (if x0 < 0 then 0 else (if 7 < x0 then 0 else 1))
def f1_third (x0 : Int32) : Int32 := (if x0 < 0 then 0 else (if 2 < x0 then 0 else 1))
def f1_object (x0 : Int32) : Int32 := (if x0 = 0 then 12 else ((x0 - 1) / 4))
def f1_limits (x0 : Int32) : Int32 := ((x0 - 1) - (x0 - 1) / 4 * 4)
def f1_limited (x0 : Int32) (x1 : Int32) : Int32 := (if x0 = 0 then 0 else ((x0 - (f1_limits x0)) + ((f1_limits x0) ||| x1)))
set_option maxHeartbeats 4000000 in
set_option maxRecDepth 100000 in
theorem m0_isNode (l : Launch) (x0 : Int32) : Met l yX0_isNode wsX0_isNode ({ frames := 0, cells := 0, slots := 0, locals := 0 }) (pcP [.int x0]) (QcRead (f0_isNode x0)) 0 0 (fun _ => False) := by
  refine Met.ofW (cc := cX0_isNode) (maxL := 1) (ret := (some .boolean)) (by decide) rfl ?_
  intro p e s m args below meth c s₁ B hml hv
  obtain rfl := hv
  have hx := B.exec
  have hb := B.bytes
  have hr := B.returns
  have hts := atoms_spec (ws := wsX0_isNode) B.pre
  have hown : s.vm.findClass RX0 = some m.cls := findClass_of_methodNamed B.named
  have hlocks := B.notSynchronized
  have hl := lv_entry ([.int x0]) (n := 1) (Nat.le_of_ble_eq_true rfl)
  rw [lg_entry_eq]
  generalize (lg_sl ([.int x0]) ++ List.replicate (1 - (lg_sl ([.int x0])).length) Slot.unset).toArray = ls at hl ⊢
  have hl : lv_has ls 1 [(0, .int x0)] := hl
  refine lv_iload_n hx hb dX0_isNode_0 rfl (lv_at hl 0 rfl) ?_
  refine lv_if_lt (tgt := 14) hx hb dX0_isNode_1 (by decide) (fun c_1 => ?_) (fun c_1 => ?_)
  · skip
    refine lv_iconst (v := 0) hx hb dX0_isNode_14 (by decide) ?_
    exact retP hx hb hr hlocks rfl (by unfold f0_isNode; rw [if_pos c_1]) rfl dX0_isNode_15
  · skip
    refine lv_iload_n hx hb dX0_isNode_4 rfl (lv_at hl 0 rfl) ?_
    refine lv_bipush (v := 8) hx hb dX0_isNode_5 (by decide) ?_
    refine lv_icmp_ge (tgt := 14) hx hb dX0_isNode_7 (by decide) (fun c_7 => ?_) (fun c_7 => ?_)
    · skip
      refine lv_iconst (v := 0) hx hb dX0_isNode_14 (by decide) ?_
      exact retP hx hb hr hlocks rfl (by unfold f0_isNode; rw [if_neg c_1, if_pos c_7]) rfl dX0_isNode_15
    · skip
      refine lv_iconst (v := 1) hx hb dX0_isNode_10 (by decide) ?_
      refine lv_goto (tgt := 15) hx hb dX0_isNode_11 (by decide) ?_
      exact retP hx hb hr hlocks rfl (by unfold f0_isNode; rw [if_neg c_1, if_neg c_7]) rfl dX0_isNode_15
set_option maxHeartbeats 4000000 in
set_option maxRecDepth 100000 in
theorem m0_isPage (l : Launch) (x0 : Int32) : Met l yX0_isPage wsX0_isPage ({ frames := 0, cells := 0, slots := 0, locals := 0 }) (pcP [.int x0]) (QcRead (f0_isPage x0)) 0 0 (fun _ => False) := by
  refine Met.ofW (cc := cX0_isPage) (maxL := 1) (ret := (some .boolean)) (by decide) rfl ?_
  intro p e s m args below meth c s₁ B hml hv
  obtain rfl := hv
  have hx := B.exec
  have hb := B.bytes
  have hr := B.returns
  have hts := atoms_spec (ws := wsX0_isPage) B.pre
  have hown : s.vm.findClass RX0 = some m.cls := findClass_of_methodNamed B.named
  have hlocks := B.notSynchronized
  have hl := lv_entry ([.int x0]) (n := 1) (Nat.le_of_ble_eq_true rfl)
  rw [lg_entry_eq]
  generalize (lg_sl ([.int x0]) ++ List.replicate (1 - (lg_sl ([.int x0])).length) Slot.unset).toArray = ls at hl ⊢
  have hl : lv_has ls 1 [(0, .int x0)] := hl
  refine lv_iload_n hx hb dX0_isPage_0 rfl (lv_at hl 0 rfl) ?_
  refine lv_bipush (v := 8) hx hb dX0_isPage_1 (by decide) ?_
  refine lv_icmp_lt (tgt := 16) hx hb dX0_isPage_3 (by decide) (fun c_3 => ?_) (fun c_3 => ?_)
  · skip
    refine lv_iconst (v := 0) hx hb dX0_isPage_16 (by decide) ?_
    exact retP hx hb hr hlocks rfl (by unfold f0_isPage; rw [if_pos c_3]) rfl dX0_isPage_17
  · skip
    refine lv_iload_n hx hb dX0_isPage_6 rfl (lv_at hl 0 rfl) ?_
    refine lv_bipush (v := 12) hx hb dX0_isPage_7 (by decide) ?_
    refine lv_icmp_ge (tgt := 16) hx hb dX0_isPage_9 (by decide) (fun c_9 => ?_) (fun c_9 => ?_)
    · skip
      refine lv_iconst (v := 0) hx hb dX0_isPage_16 (by decide) ?_
      exact retP hx hb hr hlocks rfl (by unfold f0_isPage; rw [if_neg c_3, if_pos c_9]) rfl dX0_isPage_17
    · skip
      refine lv_iconst (v := 1) hx hb dX0_isPage_12 (by decide) ?_
      refine lv_goto (tgt := 17) hx hb dX0_isPage_13 (by decide) ?_
      exact retP hx hb hr hlocks rfl (by unfold f0_isPage; rw [if_neg c_3, if_neg c_9]) rfl dX0_isPage_17
set_option maxHeartbeats 4000000 in
set_option maxRecDepth 100000 in
theorem m0_isInRow (l : Launch) (x0 : Int32) : Met l yX0_isInRow wsX0_isInRow ({ frames := 0, cells := 0, slots := 0, locals := 0 }) (pcP [.int x0]) (QcRead (f0_isInRow x0)) 0 0 (fun _ => False) := by
  refine Met.ofW (cc := cX0_isInRow) (maxL := 1) (ret := (some .boolean)) (by decide) rfl ?_
  intro p e s m args below meth c s₁ B hml hv
  obtain rfl := hv
  have hx := B.exec
  have hb := B.bytes
  have hr := B.returns
  have hts := atoms_spec (ws := wsX0_isInRow) B.pre
  have hown : s.vm.findClass RX0 = some m.cls := findClass_of_methodNamed B.named
  have hlocks := B.notSynchronized
  have hl := lv_entry ([.int x0]) (n := 1) (Nat.le_of_ble_eq_true rfl)
  rw [lg_entry_eq]
  generalize (lg_sl ([.int x0]) ++ List.replicate (1 - (lg_sl ([.int x0])).length) Slot.unset).toArray = ls at hl ⊢
  have hl : lv_has ls 1 [(0, .int x0)] := hl
  refine lv_iload_n hx hb dX0_isInRow_0 rfl (lv_at hl 0 rfl) ?_
  refine lv_if_lt (tgt := 14) hx hb dX0_isInRow_1 (by decide) (fun c_1 => ?_) (fun c_1 => ?_)
  · skip
    refine lv_iconst (v := 0) hx hb dX0_isInRow_14 (by decide) ?_
    exact retP hx hb hr hlocks rfl (by unfold f0_isInRow; rw [if_pos c_1]) rfl dX0_isInRow_15
  · skip
    refine lv_iload_n hx hb dX0_isInRow_4 rfl (lv_at hl 0 rfl) ?_
    refine lv_bipush (v := 8) hx hb dX0_isInRow_5 (by decide) ?_
    refine lv_icmp_ge (tgt := 14) hx hb dX0_isInRow_7 (by decide) (fun c_7 => ?_) (fun c_7 => ?_)
    · skip
      refine lv_iconst (v := 0) hx hb dX0_isInRow_14 (by decide) ?_
      exact retP hx hb hr hlocks rfl (by unfold f0_isInRow; rw [if_neg c_1, if_pos c_7]) rfl dX0_isInRow_15
    · skip
      refine lv_iconst (v := 1) hx hb dX0_isInRow_10 (by decide) ?_
      refine lv_goto (tgt := 15) hx hb dX0_isInRow_11 (by decide) ?_
      exact retP hx hb hr hlocks rfl (by unfold f0_isInRow; rw [if_neg c_1, if_neg c_7]) rfl dX0_isInRow_15
set_option maxHeartbeats 4000000 in
set_option maxRecDepth 100000 in
theorem m0_isRegister (l : Launch) (x0 : Int32) (x1 : Int32) : Met l yX0_isRegister wsX0_isRegister ({ frames := 1, cells := 0, slots := 0, locals := 20 }) (pcP [.int x0, .int x1]) (QcRead (f0_isRegister x0 x1)) 0 0 (fun _ => False) := by
  refine Met.ofW (cc := cX0_isRegister) (maxL := 2) (ret := (some .boolean)) (by decide) rfl ?_
  intro p e s m args below meth c s₁ B hml hv
  obtain rfl := hv
  have hx := B.exec
  have hb := B.bytes
  have hr := B.returns
  have hts := atoms_spec (ws := wsX0_isRegister) B.pre
  have hown : s.vm.findClass RX0 = some m.cls := findClass_of_methodNamed B.named
  have hlocks := B.notSynchronized
  have hl := lv_entry ([.int x0, .int x1]) (n := 2) (Nat.le_of_ble_eq_true rfl)
  rw [lg_entry_eq]
  generalize (lg_sl ([.int x0, .int x1]) ++ List.replicate (2 - (lg_sl ([.int x0, .int x1])).length) Slot.unset).toArray = ls at hl ⊢
  have hl : lv_has ls 2 [(0, .int x0), (1, .int x1)] := hl
  refine lv_iload_n hx hb dX0_isRegister_0 rfl (lv_at hl 0 rfl) ?_
  refine lv_if_lt (tgt := 20) hx hb dX0_isRegister_1 (by decide) (fun c_1 => ?_) (fun c_1 => ?_)
  · skip
    refine lv_iconst (v := 0) hx hb dX0_isRegister_20 (by decide) ?_
    exact retP hx hb hr hlocks rfl (by unfold f0_isRegister; rw [if_pos c_1]) rfl dX0_isRegister_21
  · skip
    refine lv_iload_n hx hb dX0_isRegister_4 rfl (lv_at hl 0 rfl) ?_
    refine lv_iconst (v := 3) hx hb dX0_isRegister_5 (by decide) ?_
    refine lv_icmp_ge (tgt := 20) hx hb dX0_isRegister_6 (by decide) (fun c_6 => ?_) (fun c_6 => ?_)
    · skip
      refine lv_iconst (v := 0) hx hb dX0_isRegister_20 (by decide) ?_
      exact retP hx hb hr hlocks rfl (by unfold f0_isRegister; rw [if_neg c_1, if_pos c_6]) rfl dX0_isRegister_21
    · skip
      refine lv_iload_n hx hb dX0_isRegister_9 rfl (lv_at hl 1 rfl) ?_
      refine callSi (As := [.int x1]) (rest := []) (m0_isInRow l x1) ⟨hx, hb, hml, hown, hts⟩ (va_cwS 1 hts gX0_isRegister_X0_isInRow rfl rfl rfl (by decide +kernel) ⟨Nat.le_of_ble_eq_true rfl, Nat.le_of_ble_eq_true rfl⟩) rfl hl.1 rfl (Nat.le_of_ble_eq_true rfl) dX0_isRegister_10 ⟨Nat.zero_le _, Nat.zero_le _⟩ ?_
      refine lv_if_eq (tgt := 20) hx hb dX0_isRegister_13 (by decide) (fun c_13 => ?_) (fun c_13 => ?_)
      · skip
        refine lv_iconst (v := 0) hx hb dX0_isRegister_20 (by decide) ?_
        exact retP hx hb hr hlocks rfl (by unfold f0_isRegister; rw [if_neg c_1, if_neg c_6, if_pos c_13]) rfl dX0_isRegister_21
      · skip
        refine lv_iconst (v := 1) hx hb dX0_isRegister_16 (by decide) ?_
        refine lv_goto (tgt := 21) hx hb dX0_isRegister_17 (by decide) ?_
        exact retP hx hb hr hlocks rfl (by unfold f0_isRegister; rw [if_neg c_1, if_neg c_6, if_neg c_13]) rfl dX0_isRegister_21
set_option maxHeartbeats 4000000 in
set_option maxRecDepth 100000 in
theorem m0_isLimits (l : Launch) (x0 : Int32) : Met l yX0_isLimits wsX0_isLimits ({ frames := 0, cells := 0, slots := 0, locals := 0 }) (pcP [.int x0]) (QcRead (f0_isLimits x0)) 0 0 (fun _ => False) := by
  refine Met.ofW (cc := cX0_isLimits) (maxL := 1) (ret := (some .boolean)) (by decide) rfl ?_
  intro p e s m args below meth c s₁ B hml hv
  obtain rfl := hv
  have hx := B.exec
  have hb := B.bytes
  have hr := B.returns
  have hts := atoms_spec (ws := wsX0_isLimits) B.pre
  have hown : s.vm.findClass RX0 = some m.cls := findClass_of_methodNamed B.named
  have hlocks := B.notSynchronized
  have hl := lv_entry ([.int x0]) (n := 1) (Nat.le_of_ble_eq_true rfl)
  rw [lg_entry_eq]
  generalize (lg_sl ([.int x0]) ++ List.replicate (1 - (lg_sl ([.int x0])).length) Slot.unset).toArray = ls at hl ⊢
  have hl : lv_has ls 1 [(0, .int x0)] := hl
  refine lv_iload_n hx hb dX0_isLimits_0 rfl (lv_at hl 0 rfl) ?_
  refine lv_if_lt (tgt := 13) hx hb dX0_isLimits_1 (by decide) (fun c_1 => ?_) (fun c_1 => ?_)
  · skip
    refine lv_iconst (v := 0) hx hb dX0_isLimits_13 (by decide) ?_
    exact retP hx hb hr hlocks rfl (by unfold f0_isLimits; rw [if_pos c_1]) rfl dX0_isLimits_14
  · skip
    refine lv_iload_n hx hb dX0_isLimits_4 rfl (lv_at hl 0 rfl) ?_
    refine lv_iconst (v := 3) hx hb dX0_isLimits_5 (by decide) ?_
    refine lv_icmp_gt (tgt := 13) hx hb dX0_isLimits_6 (by decide) (fun c_6 => ?_) (fun c_6 => ?_)
    · skip
      refine lv_iconst (v := 0) hx hb dX0_isLimits_13 (by decide) ?_
      exact retP hx hb hr hlocks rfl (by unfold f0_isLimits; rw [if_neg c_1, if_pos c_6]) rfl dX0_isLimits_14
    · skip
      refine lv_iconst (v := 1) hx hb dX0_isLimits_9 (by decide) ?_
      refine lv_goto (tgt := 14) hx hb dX0_isLimits_10 (by decide) ?_
      exact retP hx hb hr hlocks rfl (by unfold f0_isLimits; rw [if_neg c_1, if_neg c_6]) rfl dX0_isLimits_14
set_option maxHeartbeats 4000000 in
set_option maxRecDepth 100000 in
theorem m0_isPower (l : Launch) (x0 : Int32) : Met l yX0_isPower wsX0_isPower ({ frames := 0, cells := 0, slots := 0, locals := 0 }) (pcP [.int x0]) (QcRead (f0_isPower x0)) 0 0 (fun _ => False) := by
  refine Met.ofW (cc := cX0_isPower) (maxL := 1) (ret := (some .boolean)) (by decide) rfl ?_
  intro p e s m args below meth c s₁ B hml hv
  obtain rfl := hv
  have hx := B.exec
  have hb := B.bytes
  have hr := B.returns
  have hts := atoms_spec (ws := wsX0_isPower) B.pre
  have hown : s.vm.findClass RX0 = some m.cls := findClass_of_methodNamed B.named
  have hlocks := B.notSynchronized
  have hl := lv_entry ([.int x0]) (n := 1) (Nat.le_of_ble_eq_true rfl)
  rw [lg_entry_eq]
  generalize (lg_sl ([.int x0]) ++ List.replicate (1 - (lg_sl ([.int x0])).length) Slot.unset).toArray = ls at hl ⊢
  have hl : lv_has ls 1 [(0, .int x0)] := hl
  refine lv_iload_n hx hb dX0_isPower_0 rfl (lv_at hl 0 rfl) ?_
  refine lv_iconst (v := (-1)) hx hb dX0_isPower_1 (by decide) ?_
  refine lv_icmp_eq (tgt := 15) hx hb dX0_isPower_2 (by decide) (fun c_2 => ?_) (fun c_2 => ?_)
  · skip
    refine lv_iconst (v := 1) hx hb dX0_isPower_15 (by decide) ?_
    refine lv_goto (tgt := 20) hx hb dX0_isPower_16 (by decide) ?_
    exact retP hx hb hr hlocks rfl (by unfold f0_isPower; rw [if_pos c_2]) rfl dX0_isPower_20
  · skip
    refine lv_iload_n hx hb dX0_isPower_5 rfl (lv_at hl 0 rfl) ?_
    refine lv_if_lt (tgt := 19) hx hb dX0_isPower_6 (by decide) (fun c_6 => ?_) (fun c_6 => ?_)
    · skip
      refine lv_iconst (v := 0) hx hb dX0_isPower_19 (by decide) ?_
      exact retP hx hb hr hlocks rfl (by unfold f0_isPower; rw [if_neg c_2, if_pos c_6]) rfl dX0_isPower_20
    · skip
      refine lv_iload_n hx hb dX0_isPower_9 rfl (lv_at hl 0 rfl) ?_
      refine lv_bipush (v := 63) hx hb dX0_isPower_10 (by decide) ?_
      refine lv_icmp_gt (tgt := 19) hx hb dX0_isPower_12 (by decide) (fun c_12 => ?_) (fun c_12 => ?_)
      · skip
        refine lv_iconst (v := 0) hx hb dX0_isPower_19 (by decide) ?_
        exact retP hx hb hr hlocks rfl (by unfold f0_isPower; rw [if_neg c_2, if_neg c_6, if_pos c_12]) rfl dX0_isPower_20
      · skip
        refine lv_iconst (v := 1) hx hb dX0_isPower_15 (by decide) ?_
        refine lv_goto (tgt := 20) hx hb dX0_isPower_16 (by decide) ?_
        exact retP hx hb hr hlocks rfl (by unfold f0_isPower; rw [if_neg c_2, if_neg c_6, if_neg c_12]) rfl dX0_isPower_20
set_option maxHeartbeats 4000000 in
set_option maxRecDepth 100000 in
theorem m0_isBlock (l : Launch) (x0 : Int32) : Met l yX0_isBlock wsX0_isBlock ({ frames := 0, cells := 0, slots := 0, locals := 0 }) (pcP [.int x0]) (QcRead (f0_isBlock x0)) 0 0 (fun _ => False) := by
  refine Met.ofW (cc := cX0_isBlock) (maxL := 1) (ret := (some .boolean)) (by decide) rfl ?_
  intro p e s m args below meth c s₁ B hml hv
  obtain rfl := hv
  have hx := B.exec
  have hb := B.bytes
  have hr := B.returns
  have hts := atoms_spec (ws := wsX0_isBlock) B.pre
  have hown : s.vm.findClass RX0 = some m.cls := findClass_of_methodNamed B.named
  have hlocks := B.notSynchronized
  have hl := lv_entry ([.int x0]) (n := 1) (Nat.le_of_ble_eq_true rfl)
  rw [lg_entry_eq]
  generalize (lg_sl ([.int x0]) ++ List.replicate (1 - (lg_sl ([.int x0])).length) Slot.unset).toArray = ls at hl ⊢
  have hl : lv_has ls 1 [(0, .int x0)] := hl
  refine lv_iload_n hx hb dX0_isBlock_0 rfl (lv_at hl 0 rfl) ?_
  refine lv_if_lt (tgt := 14) hx hb dX0_isBlock_1 (by decide) (fun c_1 => ?_) (fun c_1 => ?_)
  · skip
    refine lv_iconst (v := 0) hx hb dX0_isBlock_14 (by decide) ?_
    exact retP hx hb hr hlocks rfl (by unfold f0_isBlock; rw [if_pos c_1]) rfl dX0_isBlock_15
  · skip
    refine lv_iload_n hx hb dX0_isBlock_4 rfl (lv_at hl 0 rfl) ?_
    refine lv_bipush (v := 25) hx hb dX0_isBlock_5 (by decide) ?_
    refine lv_icmp_ge (tgt := 14) hx hb dX0_isBlock_7 (by decide) (fun c_7 => ?_) (fun c_7 => ?_)
    · skip
      refine lv_iconst (v := 0) hx hb dX0_isBlock_14 (by decide) ?_
      exact retP hx hb hr hlocks rfl (by unfold f0_isBlock; rw [if_neg c_1, if_pos c_7]) rfl dX0_isBlock_15
    · skip
      refine lv_iconst (v := 1) hx hb dX0_isBlock_10 (by decide) ?_
      refine lv_goto (tgt := 15) hx hb dX0_isBlock_11 (by decide) ?_
      exact retP hx hb hr hlocks rfl (by unfold f0_isBlock; rw [if_neg c_1, if_neg c_7]) rfl dX0_isBlock_15
set_option maxHeartbeats 4000000 in
set_option maxRecDepth 100000 in
theorem m0_isKey (l : Launch) (x0 : Int32) : Met l yX0_isKey wsX0_isKey ({ frames := 0, cells := 0, slots := 0, locals := 0 }) (pcP [.int x0]) (QcRead (f0_isKey x0)) 0 0 (fun _ => False) := by
  refine Met.ofW (cc := cX0_isKey) (maxL := 1) (ret := (some .boolean)) (by decide) rfl ?_
  intro p e s m args below meth c s₁ B hml hv
  obtain rfl := hv
  have hx := B.exec
  have hb := B.bytes
  have hr := B.returns
  have hts := atoms_spec (ws := wsX0_isKey) B.pre
  have hown : s.vm.findClass RX0 = some m.cls := findClass_of_methodNamed B.named
  have hlocks := B.notSynchronized
  have hl := lv_entry ([.int x0]) (n := 1) (Nat.le_of_ble_eq_true rfl)
  rw [lg_entry_eq]
  generalize (lg_sl ([.int x0]) ++ List.replicate (1 - (lg_sl ([.int x0])).length) Slot.unset).toArray = ls at hl ⊢
  have hl : lv_has ls 1 [(0, .int x0)] := hl
  refine lv_iload_n hx hb dX0_isKey_0 rfl (lv_at hl 0 rfl) ?_
  refine lv_if_lt (tgt := 14) hx hb dX0_isKey_1 (by decide) (fun c_1 => ?_) (fun c_1 => ?_)
  · skip
    refine lv_iconst (v := 0) hx hb dX0_isKey_14 (by decide) ?_
    exact retP hx hb hr hlocks rfl (by unfold f0_isKey; rw [if_pos c_1]) rfl dX0_isKey_15
  · skip
    refine lv_iload_n hx hb dX0_isKey_4 rfl (lv_at hl 0 rfl) ?_
    refine lv_bipush (v := 48) hx hb dX0_isKey_5 (by decide) ?_
    refine lv_icmp_gt (tgt := 14) hx hb dX0_isKey_7 (by decide) (fun c_7 => ?_) (fun c_7 => ?_)
    · skip
      refine lv_iconst (v := 0) hx hb dX0_isKey_14 (by decide) ?_
      exact retP hx hb hr hlocks rfl (by unfold f0_isKey; rw [if_neg c_1, if_pos c_7]) rfl dX0_isKey_15
    · skip
      refine lv_iconst (v := 1) hx hb dX0_isKey_10 (by decide) ?_
      refine lv_goto (tgt := 15) hx hb dX0_isKey_11 (by decide) ?_
      exact retP hx hb hr hlocks rfl (by unfold f0_isKey; rw [if_neg c_1, if_neg c_7]) rfl dX0_isKey_15
set_option maxHeartbeats 4000000 in
set_option maxRecDepth 100000 in
theorem m0_isNodeKey (l : Launch) (x0 : Int32) : Met l yX0_isNodeKey wsX0_isNodeKey ({ frames := 0, cells := 0, slots := 0, locals := 0 }) (pcP [.int x0]) (QcRead (f0_isNodeKey x0)) 0 0 (fun _ => False) := by
  refine Met.ofW (cc := cX0_isNodeKey) (maxL := 1) (ret := (some .boolean)) (by decide) rfl ?_
  intro p e s m args below meth c s₁ B hml hv
  obtain rfl := hv
  have hx := B.exec
  have hb := B.bytes
  have hr := B.returns
  have hts := atoms_spec (ws := wsX0_isNodeKey) B.pre
  have hown : s.vm.findClass RX0 = some m.cls := findClass_of_methodNamed B.named
  have hlocks := B.notSynchronized
  have hl := lv_entry ([.int x0]) (n := 1) (Nat.le_of_ble_eq_true rfl)
  rw [lg_entry_eq]
  generalize (lg_sl ([.int x0]) ++ List.replicate (1 - (lg_sl ([.int x0])).length) Slot.unset).toArray = ls at hl ⊢
  have hl : lv_has ls 1 [(0, .int x0)] := hl
  refine lv_iload_n hx hb dX0_isNodeKey_0 rfl (lv_at hl 0 rfl) ?_
  refine lv_iconst (v := 1) hx hb dX0_isNodeKey_1 (by decide) ?_
  refine lv_icmp_lt (tgt := 15) hx hb dX0_isNodeKey_2 (by decide) (fun c_2 => ?_) (fun c_2 => ?_)
  · skip
    refine lv_iconst (v := 0) hx hb dX0_isNodeKey_15 (by decide) ?_
    exact retP hx hb hr hlocks rfl (by unfold f0_isNodeKey; rw [if_pos c_2]) rfl dX0_isNodeKey_16
  · skip
    refine lv_iload_n hx hb dX0_isNodeKey_5 rfl (lv_at hl 0 rfl) ?_
    refine lv_bipush (v := 33) hx hb dX0_isNodeKey_6 (by decide) ?_
    refine lv_icmp_ge (tgt := 15) hx hb dX0_isNodeKey_8 (by decide) (fun c_8 => ?_) (fun c_8 => ?_)
    · skip
      refine lv_iconst (v := 0) hx hb dX0_isNodeKey_15 (by decide) ?_
      exact retP hx hb hr hlocks rfl (by unfold f0_isNodeKey; rw [if_neg c_2, if_pos c_8]) rfl dX0_isNodeKey_16
    · skip
      refine lv_iconst (v := 1) hx hb dX0_isNodeKey_11 (by decide) ?_
      refine lv_goto (tgt := 16) hx hb dX0_isNodeKey_12 (by decide) ?_
      exact retP hx hb hr hlocks rfl (by unfold f0_isNodeKey; rw [if_neg c_2, if_neg c_8]) rfl dX0_isNodeKey_16
set_option maxHeartbeats 4000000 in
set_option maxRecDepth 100000 in
theorem m0_isPageKey (l : Launch) (x0 : Int32) : Met l yX0_isPageKey wsX0_isPageKey ({ frames := 0, cells := 0, slots := 0, locals := 0 }) (pcP [.int x0]) (QcRead (f0_isPageKey x0)) 0 0 (fun _ => False) := by
  refine Met.ofW (cc := cX0_isPageKey) (maxL := 1) (ret := (some .boolean)) (by decide) rfl ?_
  intro p e s m args below meth c s₁ B hml hv
  obtain rfl := hv
  have hx := B.exec
  have hb := B.bytes
  have hr := B.returns
  have hts := atoms_spec (ws := wsX0_isPageKey) B.pre
  have hown : s.vm.findClass RX0 = some m.cls := findClass_of_methodNamed B.named
  have hlocks := B.notSynchronized
  have hl := lv_entry ([.int x0]) (n := 1) (Nat.le_of_ble_eq_true rfl)
  rw [lg_entry_eq]
  generalize (lg_sl ([.int x0]) ++ List.replicate (1 - (lg_sl ([.int x0])).length) Slot.unset).toArray = ls at hl ⊢
  have hl : lv_has ls 1 [(0, .int x0)] := hl
  refine lv_iload_n hx hb dX0_isPageKey_0 rfl (lv_at hl 0 rfl) ?_
  refine lv_bipush (v := 33) hx hb dX0_isPageKey_1 (by decide) ?_
  refine lv_icmp_lt (tgt := 16) hx hb dX0_isPageKey_3 (by decide) (fun c_3 => ?_) (fun c_3 => ?_)
  · skip
    refine lv_iconst (v := 0) hx hb dX0_isPageKey_16 (by decide) ?_
    exact retP hx hb hr hlocks rfl (by unfold f0_isPageKey; rw [if_pos c_3]) rfl dX0_isPageKey_17
  · skip
    refine lv_iload_n hx hb dX0_isPageKey_6 rfl (lv_at hl 0 rfl) ?_
    refine lv_bipush (v := 48) hx hb dX0_isPageKey_7 (by decide) ?_
    refine lv_icmp_gt (tgt := 16) hx hb dX0_isPageKey_9 (by decide) (fun c_9 => ?_) (fun c_9 => ?_)
    · skip
      refine lv_iconst (v := 0) hx hb dX0_isPageKey_16 (by decide) ?_
      exact retP hx hb hr hlocks rfl (by unfold f0_isPageKey; rw [if_neg c_3, if_pos c_9]) rfl dX0_isPageKey_17
    · skip
      refine lv_iconst (v := 1) hx hb dX0_isPageKey_12 (by decide) ?_
      refine lv_goto (tgt := 17) hx hb dX0_isPageKey_13 (by decide) ?_
      exact retP hx hb hr hlocks rfl (by unfold f0_isPageKey; rw [if_neg c_3, if_neg c_9]) rfl dX0_isPageKey_17
set_option maxHeartbeats 4000000 in
set_option maxRecDepth 100000 in
theorem m0_objectOf (l : Launch) (x0 : Int32) : Met l yX0_objectOf wsX0_objectOf ({ frames := 0, cells := 0, slots := 0, locals := 0 }) (pcP [.int x0]) (QcRead (f0_objectOf x0)) 0 0 (fun _ => False) := by
  refine Met.ofW (cc := cX0_objectOf) (maxL := 1) (ret := (some .int)) (by decide) rfl ?_
  intro p e s m args below meth c s₁ B hml hv
  obtain rfl := hv
  have hx := B.exec
  have hb := B.bytes
  have hr := B.returns
  have hts := atoms_spec (ws := wsX0_objectOf) B.pre
  have hown : s.vm.findClass RX0 = some m.cls := findClass_of_methodNamed B.named
  have hlocks := B.notSynchronized
  have hl := lv_entry ([.int x0]) (n := 1) (Nat.le_of_ble_eq_true rfl)
  rw [lg_entry_eq]
  generalize (lg_sl ([.int x0]) ++ List.replicate (1 - (lg_sl ([.int x0])).length) Slot.unset).toArray = ls at hl ⊢
  have hl : lv_has ls 1 [(0, .int x0)] := hl
  refine lv_iload_n hx hb dX0_objectOf_0 rfl (lv_at hl 0 rfl) ?_
  refine lv_iconst (v := 1) hx hb dX0_objectOf_1 (by decide) ?_
  refine lv_isub hx hb dX0_objectOf_2 ?_
  refine lv_iconst (v := 4) hx hb dX0_objectOf_3 (by decide) ?_
  refine lv_idiv hx hb dX0_objectOf_4 (by decide) ?_
  exact retP hx hb hr hlocks rfl (rfl) rfl dX0_objectOf_5
set_option maxHeartbeats 4000000 in
set_option maxRecDepth 100000 in
theorem m0_limitsOf (l : Launch) (x0 : Int32) : Met l yX0_limitsOf wsX0_limitsOf ({ frames := 0, cells := 0, slots := 0, locals := 0 }) (pcP [.int x0]) (QcRead (f0_limitsOf x0)) 0 0 (fun _ => False) := by
  refine Met.ofW (cc := cX0_limitsOf) (maxL := 1) (ret := (some .int)) (by decide) rfl ?_
  intro p e s m args below meth c s₁ B hml hv
  obtain rfl := hv
  have hx := B.exec
  have hb := B.bytes
  have hr := B.returns
  have hts := atoms_spec (ws := wsX0_limitsOf) B.pre
  have hown : s.vm.findClass RX0 = some m.cls := findClass_of_methodNamed B.named
  have hlocks := B.notSynchronized
  have hl := lv_entry ([.int x0]) (n := 1) (Nat.le_of_ble_eq_true rfl)
  rw [lg_entry_eq]
  generalize (lg_sl ([.int x0]) ++ List.replicate (1 - (lg_sl ([.int x0])).length) Slot.unset).toArray = ls at hl ⊢
  have hl : lv_has ls 1 [(0, .int x0)] := hl
  refine lv_iload_n hx hb dX0_limitsOf_0 rfl (lv_at hl 0 rfl) ?_
  refine lv_iconst (v := 1) hx hb dX0_limitsOf_1 (by decide) ?_
  refine lv_isub hx hb dX0_limitsOf_2 ?_
  refine lv_iconst (v := 4) hx hb dX0_limitsOf_3 (by decide) ?_
  refine lv_irem hx hb dX0_limitsOf_4 (by decide) ?_
  exact retP hx hb hr hlocks rfl (rfl) rfl dX0_limitsOf_5
set_option maxHeartbeats 4000000 in
set_option maxRecDepth 100000 in
theorem m0_isWriting (l : Launch) (x0 : Int32) : Met l yX0_isWriting wsX0_isWriting ({ frames := 1, cells := 0, slots := 0, locals := 20 }) (pcP [.int x0]) (QcRead (f0_isWriting x0)) 0 0 (fun _ => False) := by
  refine Met.ofW (cc := cX0_isWriting) (maxL := 1) (ret := (some .boolean)) (by decide) rfl ?_
  intro p e s m args below meth c s₁ B hml hv
  obtain rfl := hv
  have hx := B.exec
  have hb := B.bytes
  have hr := B.returns
  have hts := atoms_spec (ws := wsX0_isWriting) B.pre
  have hown : s.vm.findClass RX0 = some m.cls := findClass_of_methodNamed B.named
  have hlocks := B.notSynchronized
  have hl := lv_entry ([.int x0]) (n := 1) (Nat.le_of_ble_eq_true rfl)
  rw [lg_entry_eq]
  generalize (lg_sl ([.int x0]) ++ List.replicate (1 - (lg_sl ([.int x0])).length) Slot.unset).toArray = ls at hl ⊢
  have hl : lv_has ls 1 [(0, .int x0)] := hl
  refine lv_iload_n hx hb dX0_isWriting_0 rfl (lv_at hl 0 rfl) ?_
  refine callSi (As := [.int x0]) (rest := []) (m0_limitsOf l x0) ⟨hx, hb, hml, hown, hts⟩ (va_cwS 1 hts gX0_isWriting_X0_limitsOf rfl rfl rfl (by decide +kernel) ⟨Nat.le_of_ble_eq_true rfl, Nat.le_of_ble_eq_true rfl⟩) rfl hl.1 rfl (Nat.le_of_ble_eq_true rfl) dX0_isWriting_1 ⟨Nat.zero_le _, Nat.zero_le _⟩ ?_
  refine lv_if_ne (tgt := 11) hx hb dX0_isWriting_4 (by decide) (fun c_4 => ?_) (fun c_4 => ?_)
  · skip
    refine lv_iconst (v := 0) hx hb dX0_isWriting_11 (by decide) ?_
    exact retP hx hb hr hlocks rfl (by unfold f0_isWriting; rw [if_neg c_4]) rfl dX0_isWriting_12
  · skip
    refine lv_iconst (v := 1) hx hb dX0_isWriting_7 (by decide) ?_
    refine lv_goto (tgt := 12) hx hb dX0_isWriting_8 (by decide) ?_
    exact retP hx hb hr hlocks rfl (by unfold f0_isWriting; rw [if_pos c_4]) rfl dX0_isWriting_12
set_option maxHeartbeats 4000000 in
set_option maxRecDepth 100000 in
theorem m0_isWeak (l : Launch) (x0 : Int32) : Met l yX0_isWeak wsX0_isWeak ({ frames := 1, cells := 0, slots := 0, locals := 20 }) (pcP [.int x0]) (QcRead (f0_isWeak x0)) 0 0 (fun _ => False) := by
  refine Met.ofW (cc := cX0_isWeak) (maxL := 1) (ret := (some .boolean)) (by decide) rfl ?_
  intro p e s m args below meth c s₁ B hml hv
  obtain rfl := hv
  have hx := B.exec
  have hb := B.bytes
  have hr := B.returns
  have hts := atoms_spec (ws := wsX0_isWeak) B.pre
  have hown : s.vm.findClass RX0 = some m.cls := findClass_of_methodNamed B.named
  have hlocks := B.notSynchronized
  have hl := lv_entry ([.int x0]) (n := 1) (Nat.le_of_ble_eq_true rfl)
  rw [lg_entry_eq]
  generalize (lg_sl ([.int x0]) ++ List.replicate (1 - (lg_sl ([.int x0])).length) Slot.unset).toArray = ls at hl ⊢
  have hl : lv_has ls 1 [(0, .int x0)] := hl
  refine lv_iload_n hx hb dX0_isWeak_0 rfl (lv_at hl 0 rfl) ?_
  refine callSi (As := [.int x0]) (rest := []) (m0_limitsOf l x0) ⟨hx, hb, hml, hown, hts⟩ (va_cwS 1 hts gX0_isWeak_X0_limitsOf rfl rfl rfl (by decide +kernel) ⟨Nat.le_of_ble_eq_true rfl, Nat.le_of_ble_eq_true rfl⟩) rfl hl.1 rfl (Nat.le_of_ble_eq_true rfl) dX0_isWeak_1 ⟨Nat.zero_le _, Nat.zero_le _⟩ ?_
  refine lv_iconst (v := 2) hx hb dX0_isWeak_4 (by decide) ?_
  refine lv_iand hx hb dX0_isWeak_5 ?_
  refine lv_if_eq (tgt := 13) hx hb dX0_isWeak_6 (by decide) (fun c_6 => ?_) (fun c_6 => ?_)
  · skip
    refine lv_iconst (v := 0) hx hb dX0_isWeak_13 (by decide) ?_
    exact retP hx hb hr hlocks rfl (by unfold f0_isWeak; rw [if_pos c_6]) rfl dX0_isWeak_14
  · skip
    refine lv_iconst (v := 1) hx hb dX0_isWeak_9 (by decide) ?_
    refine lv_goto (tgt := 14) hx hb dX0_isWeak_10 (by decide) ?_
    exact retP hx hb hr hlocks rfl (by unfold f0_isWeak; rw [if_neg c_6]) rfl dX0_isWeak_14
set_option maxHeartbeats 4000000 in
set_option maxRecDepth 100000 in
theorem m0_limited (l : Launch) (x0 : Int32) (x1 : Int32) : Met l yX0_limited wsX0_limited ({ frames := 1, cells := 0, slots := 0, locals := 20 }) (pcP [.int x0, .int x1]) (QcRead (f0_limited x0 x1)) 0 0 (fun _ => False) := by
  refine Met.ofW (cc := cX0_limited) (maxL := 2) (ret := (some .int)) (by decide) rfl ?_
  intro p e s m args below meth c s₁ B hml hv
  obtain rfl := hv
  have hx := B.exec
  have hb := B.bytes
  have hr := B.returns
  have hts := atoms_spec (ws := wsX0_limited) B.pre
  have hown : s.vm.findClass RX0 = some m.cls := findClass_of_methodNamed B.named
  have hlocks := B.notSynchronized
  have hl := lv_entry ([.int x0, .int x1]) (n := 2) (Nat.le_of_ble_eq_true rfl)
  rw [lg_entry_eq]
  generalize (lg_sl ([.int x0, .int x1]) ++ List.replicate (2 - (lg_sl ([.int x0, .int x1])).length) Slot.unset).toArray = ls at hl ⊢
  have hl : lv_has ls 2 [(0, .int x0), (1, .int x1)] := hl
  refine lv_iload_n hx hb dX0_limited_0 rfl (lv_at hl 0 rfl) ?_
  refine lv_if_ne (tgt := 6) hx hb dX0_limited_1 (by decide) (fun c_1 => ?_) (fun c_1 => ?_)
  · skip
    refine lv_iconst (v := 1) hx hb dX0_limited_6 (by decide) ?_
    refine lv_iconst (v := 4) hx hb dX0_limited_7 (by decide) ?_
    refine lv_iload_n hx hb dX0_limited_8 rfl (lv_at hl 0 rfl) ?_
    refine callSi (As := [.int x0]) (rest := [.int 4, .int 1]) (m0_objectOf l x0) ⟨hx, hb, hml, hown, hts⟩ (va_cwS 1 hts gX0_limited_X0_objectOf rfl rfl rfl (by decide +kernel) ⟨Nat.le_of_ble_eq_true rfl, Nat.le_of_ble_eq_true rfl⟩) rfl hl.1 rfl (Nat.le_of_ble_eq_true rfl) dX0_limited_9 ⟨Nat.zero_le _, Nat.zero_le _⟩ ?_
    refine lv_imul hx hb dX0_limited_12 ?_
    refine lv_iadd hx hb dX0_limited_13 ?_
    refine lv_iload_n hx hb dX0_limited_14 rfl (lv_at hl 0 rfl) ?_
    refine callSi (As := [.int x0]) (rest := [.int (1 + (4 * (f0_objectOf x0)))]) (m0_limitsOf l x0) ⟨hx, hb, hml, hown, hts⟩ (va_cwS 1 hts gX0_limited_X0_limitsOf rfl rfl rfl (by decide +kernel) ⟨Nat.le_of_ble_eq_true rfl, Nat.le_of_ble_eq_true rfl⟩) rfl hl.1 rfl (Nat.le_of_ble_eq_true rfl) dX0_limited_15 ⟨Nat.zero_le _, Nat.zero_le _⟩ ?_
    refine lv_iload_n hx hb dX0_limited_18 rfl (lv_at hl 1 rfl) ?_
    refine lv_ior hx hb dX0_limited_19 ?_
    refine lv_iadd hx hb dX0_limited_20 ?_
    exact retP hx hb hr hlocks rfl (by unfold f0_limited; rw [if_neg c_1]) rfl dX0_limited_21
  · skip
    refine lv_iconst (v := 0) hx hb dX0_limited_4 (by decide) ?_
    exact retP hx hb hr hlocks rfl (by unfold f0_limited; rw [if_pos c_1]) rfl dX0_limited_5
set_option maxHeartbeats 4000000 in
set_option maxRecDepth 100000 in
theorem m0_has (l : Launch) (x0 : Int32) (x1 : Int32) : Met l yX0_has wsX0_has ({ frames := 0, cells := 0, slots := 0, locals := 0 }) (pcP [.int x0, .int x1]) (QcRead (f0_has x0 x1)) 0 0 (fun _ => False) := by
  refine Met.ofW (cc := cX0_has) (maxL := 2) (ret := (some .boolean)) (by decide) rfl ?_
  intro p e s m args below meth c s₁ B hml hv
  obtain rfl := hv
  have hx := B.exec
  have hb := B.bytes
  have hr := B.returns
  have hts := atoms_spec (ws := wsX0_has) B.pre
  have hown : s.vm.findClass RX0 = some m.cls := findClass_of_methodNamed B.named
  have hlocks := B.notSynchronized
  have hl := lv_entry ([.int x0, .int x1]) (n := 2) (Nat.le_of_ble_eq_true rfl)
  rw [lg_entry_eq]
  generalize (lg_sl ([.int x0, .int x1]) ++ List.replicate (2 - (lg_sl ([.int x0, .int x1])).length) Slot.unset).toArray = ls at hl ⊢
  have hl : lv_has ls 2 [(0, .int x0), (1, .int x1)] := hl
  refine lv_iload_n hx hb dX0_has_0 rfl (lv_at hl 0 rfl) ?_
  refine lv_iload_n hx hb dX0_has_1 rfl (lv_at hl 1 rfl) ?_
  refine lv_ishr hx hb dX0_has_2 ?_
  refine lv_iconst (v := 1) hx hb dX0_has_3 (by decide) ?_
  refine lv_iand hx hb dX0_has_4 ?_
  refine lv_if_eq (tgt := 12) hx hb dX0_has_5 (by decide) (fun c_5 => ?_) (fun c_5 => ?_)
  · skip
    refine lv_iconst (v := 0) hx hb dX0_has_12 (by decide) ?_
    exact retP hx hb hr hlocks rfl (by unfold f0_has; rw [if_pos c_5]) rfl dX0_has_13
  · skip
    refine lv_iconst (v := 1) hx hb dX0_has_8 (by decide) ?_
    refine lv_goto (tgt := 13) hx hb dX0_has_9 (by decide) ?_
    exact retP hx hb hr hlocks rfl (by unfold f0_has; rw [if_neg c_5]) rfl dX0_has_13
set_option maxHeartbeats 4000000 in
set_option maxRecDepth 100000 in
theorem m1_eight (l : Launch) (x0 : Int32) : Met l yX1_eight wsX1_eight ({ frames := 0, cells := 0, slots := 0, locals := 0 }) (pcP [.int x0]) (QcRead (f1_eight x0)) 0 0 (fun _ => False) := by
  refine Met.ofW (cc := cX1_eight) (maxL := 1) (ret := (some .boolean)) (by decide) rfl ?_
  intro p e s m args below meth c s₁ B hml hv
  obtain rfl := hv
  have hx := B.exec
  have hb := B.bytes
  have hr := B.returns
  have hts := atoms_spec (ws := wsX1_eight) B.pre
  have hown : s.vm.findClass RX1 = some m.cls := findClass_of_methodNamed B.named
  have hlocks := B.notSynchronized
  have hl := lv_entry ([.int x0]) (n := 1) (Nat.le_of_ble_eq_true rfl)
  rw [lg_entry_eq]
  generalize (lg_sl ([.int x0]) ++ List.replicate (1 - (lg_sl ([.int x0])).length) Slot.unset).toArray = ls at hl ⊢
  have hl : lv_has ls 1 [(0, .int x0)] := hl
  refine lv_iload_n hx hb dX1_eight_0 rfl (lv_at hl 0 rfl) ?_
  refine lv_if_lt (tgt := 14) hx hb dX1_eight_1 (by decide) (fun c_1 => ?_) (fun c_1 => ?_)
  · skip
    refine lv_iconst (v := 0) hx hb dX1_eight_14 (by decide) ?_
    exact retP hx hb hr hlocks rfl (by unfold f1_eight; rw [if_pos c_1]) rfl dX1_eight_15
  · skip
    refine lv_iload_n hx hb dX1_eight_4 rfl (lv_at hl 0 rfl) ?_
    refine lv_bipush (v := 7) hx hb dX1_eight_5 (by decide) ?_
    refine lv_icmp_gt (tgt := 14) hx hb dX1_eight_7 (by decide) (fun c_7 => ?_) (fun c_7 => ?_)
    · skip
      refine lv_iconst (v := 0) hx hb dX1_eight_14 (by decide) ?_
      exact retP hx hb hr hlocks rfl (by unfold f1_eight; rw [if_neg c_1, if_pos c_7]) rfl dX1_eight_15
    · skip
      refine lv_iconst (v := 1) hx hb dX1_eight_10 (by decide) ?_
      refine lv_goto (tgt := 15) hx hb dX1_eight_11 (by decide) ?_
      exact retP hx hb hr hlocks rfl (by unfold f1_eight; rw [if_neg c_1, if_neg c_7]) rfl dX1_eight_15
set_option maxHeartbeats 4000000 in
set_option maxRecDepth 100000 in
theorem m1_third (l : Launch) (x0 : Int32) : Met l yX1_third wsX1_third ({ frames := 0, cells := 0, slots := 0, locals := 0 }) (pcP [.int x0]) (QcRead (f1_third x0)) 0 0 (fun _ => False) := by
  refine Met.ofW (cc := cX1_third) (maxL := 1) (ret := (some .boolean)) (by decide) rfl ?_
  intro p e s m args below meth c s₁ B hml hv
  obtain rfl := hv
  have hx := B.exec
  have hb := B.bytes
  have hr := B.returns
  have hts := atoms_spec (ws := wsX1_third) B.pre
  have hown : s.vm.findClass RX1 = some m.cls := findClass_of_methodNamed B.named
  have hlocks := B.notSynchronized
  have hl := lv_entry ([.int x0]) (n := 1) (Nat.le_of_ble_eq_true rfl)
  rw [lg_entry_eq]
  generalize (lg_sl ([.int x0]) ++ List.replicate (1 - (lg_sl ([.int x0])).length) Slot.unset).toArray = ls at hl ⊢
  have hl : lv_has ls 1 [(0, .int x0)] := hl
  refine lv_iload_n hx hb dX1_third_0 rfl (lv_at hl 0 rfl) ?_
  refine lv_if_lt (tgt := 13) hx hb dX1_third_1 (by decide) (fun c_1 => ?_) (fun c_1 => ?_)
  · skip
    refine lv_iconst (v := 0) hx hb dX1_third_13 (by decide) ?_
    exact retP hx hb hr hlocks rfl (by unfold f1_third; rw [if_pos c_1]) rfl dX1_third_14
  · skip
    refine lv_iload_n hx hb dX1_third_4 rfl (lv_at hl 0 rfl) ?_
    refine lv_iconst (v := 2) hx hb dX1_third_5 (by decide) ?_
    refine lv_icmp_gt (tgt := 13) hx hb dX1_third_6 (by decide) (fun c_6 => ?_) (fun c_6 => ?_)
    · skip
      refine lv_iconst (v := 0) hx hb dX1_third_13 (by decide) ?_
      exact retP hx hb hr hlocks rfl (by unfold f1_third; rw [if_neg c_1, if_pos c_6]) rfl dX1_third_14
    · skip
      refine lv_iconst (v := 1) hx hb dX1_third_9 (by decide) ?_
      refine lv_goto (tgt := 14) hx hb dX1_third_10 (by decide) ?_
      exact retP hx hb hr hlocks rfl (by unfold f1_third; rw [if_neg c_1, if_neg c_6]) rfl dX1_third_14
set_option maxHeartbeats 4000000 in
set_option maxRecDepth 100000 in
theorem m1_object (l : Launch) (x0 : Int32) : Met l yX1_object wsX1_object ({ frames := 0, cells := 0, slots := 0, locals := 0 }) (pcP [.int x0]) (QcRead (f1_object x0)) 0 0 (fun _ => False) := by
  refine Met.ofW (cc := cX1_object) (maxL := 1) (ret := (some .int)) (by decide) rfl ?_
  intro p e s m args below meth c s₁ B hml hv
  obtain rfl := hv
  have hx := B.exec
  have hb := B.bytes
  have hr := B.returns
  have hts := atoms_spec (ws := wsX1_object) B.pre
  have hown : s.vm.findClass RX1 = some m.cls := findClass_of_methodNamed B.named
  have hlocks := B.notSynchronized
  have hl := lv_entry ([.int x0]) (n := 1) (Nat.le_of_ble_eq_true rfl)
  rw [lg_entry_eq]
  generalize (lg_sl ([.int x0]) ++ List.replicate (1 - (lg_sl ([.int x0])).length) Slot.unset).toArray = ls at hl ⊢
  have hl : lv_has ls 1 [(0, .int x0)] := hl
  refine lv_iload_n hx hb dX1_object_0 rfl (lv_at hl 0 rfl) ?_
  refine lv_if_ne (tgt := 9) hx hb dX1_object_1 (by decide) (fun c_1 => ?_) (fun c_1 => ?_)
  · skip
    refine lv_iload_n hx hb dX1_object_9 rfl (lv_at hl 0 rfl) ?_
    refine lv_iconst (v := 1) hx hb dX1_object_10 (by decide) ?_
    refine lv_isub hx hb dX1_object_11 ?_
    refine lv_iconst (v := 4) hx hb dX1_object_12 (by decide) ?_
    refine lv_idiv hx hb dX1_object_13 (by decide) ?_
    exact retP hx hb hr hlocks rfl (by unfold f1_object; rw [if_neg c_1]) rfl dX1_object_14
  · skip
    refine lv_bipush (v := 12) hx hb dX1_object_4 (by decide) ?_
    refine lv_goto (tgt := 14) hx hb dX1_object_6 (by decide) ?_
    exact retP hx hb hr hlocks rfl (by unfold f1_object; rw [if_pos c_1]) rfl dX1_object_14
set_option maxHeartbeats 4000000 in
set_option maxRecDepth 100000 in
theorem m1_limits (l : Launch) (x0 : Int32) : Met l yX1_limits wsX1_limits ({ frames := 0, cells := 0, slots := 0, locals := 0 }) (pcP [.int x0]) (QcRead (f1_limits x0)) 0 0 (fun _ => False) := by
  refine Met.ofW (cc := cX1_limits) (maxL := 1) (ret := (some .int)) (by decide) rfl ?_
  intro p e s m args below meth c s₁ B hml hv
  obtain rfl := hv
  have hx := B.exec
  have hb := B.bytes
  have hr := B.returns
  have hts := atoms_spec (ws := wsX1_limits) B.pre
  have hown : s.vm.findClass RX1 = some m.cls := findClass_of_methodNamed B.named
  have hlocks := B.notSynchronized
  have hl := lv_entry ([.int x0]) (n := 1) (Nat.le_of_ble_eq_true rfl)
  rw [lg_entry_eq]
  generalize (lg_sl ([.int x0]) ++ List.replicate (1 - (lg_sl ([.int x0])).length) Slot.unset).toArray = ls at hl ⊢
  have hl : lv_has ls 1 [(0, .int x0)] := hl
  refine lv_iload_n hx hb dX1_limits_0 rfl (lv_at hl 0 rfl) ?_
  refine lv_iconst (v := 1) hx hb dX1_limits_1 (by decide) ?_
  refine lv_isub hx hb dX1_limits_2 ?_
  refine lv_iconst (v := 4) hx hb dX1_limits_3 (by decide) ?_
  refine lv_irem hx hb dX1_limits_4 (by decide) ?_
  exact retP hx hb hr hlocks rfl (rfl) rfl dX1_limits_5
set_option maxHeartbeats 4000000 in
set_option maxRecDepth 100000 in
theorem m1_limited (l : Launch) (x0 : Int32) (x1 : Int32) : Met l yX1_limited wsX1_limited ({ frames := 1, cells := 0, slots := 0, locals := 20 }) (pcP [.int x0, .int x1]) (QcRead (f1_limited x0 x1)) 0 0 (fun _ => False) := by
  refine Met.ofW (cc := cX1_limited) (maxL := 2) (ret := (some .int)) (by decide) rfl ?_
  intro p e s m args below meth c s₁ B hml hv
  obtain rfl := hv
  have hx := B.exec
  have hb := B.bytes
  have hr := B.returns
  have hts := atoms_spec (ws := wsX1_limited) B.pre
  have hown : s.vm.findClass RX1 = some m.cls := findClass_of_methodNamed B.named
  have hlocks := B.notSynchronized
  have hl := lv_entry ([.int x0, .int x1]) (n := 2) (Nat.le_of_ble_eq_true rfl)
  rw [lg_entry_eq]
  generalize (lg_sl ([.int x0, .int x1]) ++ List.replicate (2 - (lg_sl ([.int x0, .int x1])).length) Slot.unset).toArray = ls at hl ⊢
  have hl : lv_has ls 2 [(0, .int x0), (1, .int x1)] := hl
  refine lv_iload_n hx hb dX1_limited_0 rfl (lv_at hl 0 rfl) ?_
  refine lv_if_ne (tgt := 8) hx hb dX1_limited_1 (by decide) (fun c_1 => ?_) (fun c_1 => ?_)
  · skip
    refine lv_iload_n hx hb dX1_limited_8 rfl (lv_at hl 0 rfl) ?_
    refine lv_iload_n hx hb dX1_limited_9 rfl (lv_at hl 0 rfl) ?_
    refine callSi (As := [.int x0]) (rest := [.int x0]) (m1_limits l x0) ⟨hx, hb, hml, hown, hts⟩ (va_cwS 1 hts gX1_limited_X1_limits rfl rfl rfl (by decide +kernel) ⟨Nat.le_of_ble_eq_true rfl, Nat.le_of_ble_eq_true rfl⟩) rfl hl.1 rfl (Nat.le_of_ble_eq_true rfl) dX1_limited_10 ⟨Nat.zero_le _, Nat.zero_le _⟩ ?_
    refine lv_isub hx hb dX1_limited_13 ?_
    refine lv_iload_n hx hb dX1_limited_14 rfl (lv_at hl 0 rfl) ?_
    refine callSi (As := [.int x0]) (rest := [.int (x0 - (f1_limits x0))]) (m1_limits l x0) ⟨hx, hb, hml, hown, hts⟩ (va_cwS 1 hts gX1_limited_X1_limits rfl rfl rfl (by decide +kernel) ⟨Nat.le_of_ble_eq_true rfl, Nat.le_of_ble_eq_true rfl⟩) rfl hl.1 rfl (Nat.le_of_ble_eq_true rfl) dX1_limited_15 ⟨Nat.zero_le _, Nat.zero_le _⟩ ?_
    refine lv_iload_n hx hb dX1_limited_18 rfl (lv_at hl 1 rfl) ?_
    refine lv_ior hx hb dX1_limited_19 ?_
    refine lv_iadd hx hb dX1_limited_20 ?_
    exact retP hx hb hr hlocks rfl (by unfold f1_limited; rw [if_neg c_1]) rfl dX1_limited_21
  · skip
    refine lv_iconst (v := 0) hx hb dX1_limited_4 (by decide) ?_
    refine lv_goto (tgt := 21) hx hb dX1_limited_5 (by decide) ?_
    exact retP hx hb hr hlocks rfl (by unfold f1_limited; rw [if_pos c_1]) rfl dX1_limited_21
