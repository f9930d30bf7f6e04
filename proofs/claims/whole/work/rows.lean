section
-- ===== PART A: goes FIRST, ahead of the names: the tables' words, and 'selects' of the private methods out of them =====
/-- a private method of a class that the tables say can be made, by its rows of tables_1 -/
def lw_okq (q : MethodName × Nat) : Prop := (q.1.cls ≠ "java/lang/invoke/MethodHandle" ∧ q.1.cls ≠ "java/lang/invoke/VarHandle") ∧ Cond.instantiable q.1.cls q.2 ∈ tables_1 ∧ Cond.privateMethod q.1 ∈ tables_1 ∧ Cond.instanceMethod q.1 ∈ tables_1
theorem lw_p0 : lw_okq (⟨"CapStore", "refusal", "(Z)I"⟩, 8) := ⟨⟨by decide +kernel, by decide +kernel⟩, List.mem_of_getElem? (i := 5) (by decide +kernel), List.mem_of_getElem? (i := 52) (by decide +kernel), List.mem_of_getElem? (i := 53) (by decide +kernel)⟩
theorem lw_p1 : lw_okq (⟨"CapStore", "put", "(III)V"⟩, 8) := ⟨⟨by decide +kernel, by decide +kernel⟩, List.mem_of_getElem? (i := 5) (by decide +kernel), List.mem_of_getElem? (i := 56) (by decide +kernel), List.mem_of_getElem? (i := 57) (by decide +kernel)⟩
theorem lw_p2 : lw_okq (⟨"CapStore", "nodeRefusal", "(IIZ)I"⟩, 8) := ⟨⟨by decide +kernel, by decide +kernel⟩, List.mem_of_getElem? (i := 5) (by decide +kernel), List.mem_of_getElem? (i := 64) (by decide +kernel), List.mem_of_getElem? (i := 65) (by decide +kernel)⟩
theorem lw_p3 : lw_okq (⟨"CapStore", "get", "(II)I"⟩, 8) := ⟨⟨by decide +kernel, by decide +kernel⟩, List.mem_of_getElem? (i := 5) (by decide +kernel), List.mem_of_getElem? (i := 71) (by decide +kernel), List.mem_of_getElem? (i := 72) (by decide +kernel)⟩
theorem lw_p4 : lw_okq (⟨"CapStore", "pageRefusal", "(IIZ)I"⟩, 8) := ⟨⟨by decide +kernel, by decide +kernel⟩, List.mem_of_getElem? (i := 5) (by decide +kernel), List.mem_of_getElem? (i := 101) (by decide +kernel), List.mem_of_getElem? (i := 102) (by decide +kernel)⟩
theorem lw_p5 : lw_okq (⟨"CapStore", "saveDirty", "()Z"⟩, 8) := ⟨⟨by decide +kernel, by decide +kernel⟩, List.mem_of_getElem? (i := 5) (by decide +kernel), List.mem_of_getElem? (i := 128) (by decide +kernel), List.mem_of_getElem? (i := 129) (by decide +kernel)⟩
theorem lw_p6 : lw_okq (⟨"CapStore", "copyRows", "(I[III)Z"⟩, 8) := ⟨⟨by decide +kernel, by decide +kernel⟩, List.mem_of_getElem? (i := 5) (by decide +kernel), List.mem_of_getElem? (i := 132) (by decide +kernel), List.mem_of_getElem? (i := 133) (by decide +kernel)⟩
theorem lw_p7 : lw_okq (⟨"CapStore", "writeBlock", "(I[II)Z"⟩, 8) := ⟨⟨by decide +kernel, by decide +kernel⟩, List.mem_of_getElem? (i := 5) (by decide +kernel), List.mem_of_getElem? (i := 139) (by decide +kernel), List.mem_of_getElem? (i := 140) (by decide +kernel)⟩
theorem lw_p8 : lw_okq (⟨"CapStore", "writeHeader", "(I)Z"⟩, 8) := ⟨⟨by decide +kernel, by decide +kernel⟩, List.mem_of_getElem? (i := 5) (by decide +kernel), List.mem_of_getElem? (i := 146) (by decide +kernel), List.mem_of_getElem? (i := 147) (by decide +kernel)⟩
theorem lw_p9 : lw_okq (⟨"CapStore", "finishCommitted", "()Z"⟩, 8) := ⟨⟨by decide +kernel, by decide +kernel⟩, List.mem_of_getElem? (i := 5) (by decide +kernel), List.mem_of_getElem? (i := 165) (by decide +kernel), List.mem_of_getElem? (i := 166) (by decide +kernel)⟩
theorem lw_p10 : lw_okq (⟨"CapStore", "loadHomes", "()V"⟩, 8) := ⟨⟨by decide +kernel, by decide +kernel⟩, List.mem_of_getElem? (i := 5) (by decide +kernel), List.mem_of_getElem? (i := 169) (by decide +kernel), List.mem_of_getElem? (i := 170) (by decide +kernel)⟩
theorem lw_p11 : lw_okq (⟨"CapStoreModel", "put", "(III)V"⟩, 8) := ⟨⟨by decide +kernel, by decide +kernel⟩, List.mem_of_getElem? (i := 207) (by decide +kernel), List.mem_of_getElem? (i := 246) (by decide +kernel), List.mem_of_getElem? (i := 247) (by decide +kernel)⟩
theorem lw_p12 : lw_okq (⟨"CapStoreModel", "refusal", "(IIIZZ)I"⟩, 8) := ⟨⟨by decide +kernel, by decide +kernel⟩, List.mem_of_getElem? (i := 207) (by decide +kernel), List.mem_of_getElem? (i := 254) (by decide +kernel), List.mem_of_getElem? (i := 255) (by decide +kernel)⟩
theorem lw_p13 : lw_okq (⟨"CapStoreModel", "inSet", "(I)I"⟩, 8) := ⟨⟨by decide +kernel, by decide +kernel⟩, List.mem_of_getElem? (i := 207) (by decide +kernel), List.mem_of_getElem? (i := 299) (by decide +kernel), List.mem_of_getElem? (i := 300) (by decide +kernel)⟩
theorem lw_p14 : lw_okq (⟨"CapStoreModel", "may", "()Z"⟩, 8) := ⟨⟨by decide +kernel, by decide +kernel⟩, List.mem_of_getElem? (i := 207) (by decide +kernel), List.mem_of_getElem? (i := 303) (by decide +kernel), List.mem_of_getElem? (i := 304) (by decide +kernel)⟩
theorem lw_p15 : lw_okq (⟨"CapStoreModel", "header", "(I)V"⟩, 8) := ⟨⟨by decide +kernel, by decide +kernel⟩, List.mem_of_getElem? (i := 207) (by decide +kernel), List.mem_of_getElem? (i := 307) (by decide +kernel), List.mem_of_getElem? (i := 308) (by decide +kernel)⟩
def lw_privs_1 : List (MethodName × Nat) := [(⟨"CapStore", "refusal", "(Z)I"⟩, 8), (⟨"CapStore", "put", "(III)V"⟩, 8), (⟨"CapStore", "nodeRefusal", "(IIZ)I"⟩, 8), (⟨"CapStore", "get", "(II)I"⟩, 8), (⟨"CapStore", "pageRefusal", "(IIZ)I"⟩, 8), (⟨"CapStore", "saveDirty", "()Z"⟩, 8), (⟨"CapStore", "copyRows", "(I[III)Z"⟩, 8), (⟨"CapStore", "writeBlock", "(I[II)Z"⟩, 8), (⟨"CapStore", "writeHeader", "(I)Z"⟩, 8), (⟨"CapStore", "finishCommitted", "()Z"⟩, 8), (⟨"CapStore", "loadHomes", "()V"⟩, 8), (⟨"CapStoreModel", "put", "(III)V"⟩, 8), (⟨"CapStoreModel", "refusal", "(IIIZZ)I"⟩, 8), (⟨"CapStoreModel", "inSet", "(I)I"⟩, 8), (⟨"CapStoreModel", "may", "()Z"⟩, 8), (⟨"CapStoreModel", "header", "(I)V"⟩, 8)]
theorem lw_r1 : ∀ q ∈ lw_privs_1, lw_okq q := List.forall_mem_cons.mpr ⟨lw_p0, List.forall_mem_cons.mpr ⟨lw_p1, List.forall_mem_cons.mpr ⟨lw_p2, List.forall_mem_cons.mpr ⟨lw_p3, List.forall_mem_cons.mpr ⟨lw_p4, List.forall_mem_cons.mpr ⟨lw_p5, List.forall_mem_cons.mpr ⟨lw_p6, List.forall_mem_cons.mpr ⟨lw_p7, List.forall_mem_cons.mpr ⟨lw_p8, List.forall_mem_cons.mpr ⟨lw_p9, List.forall_mem_cons.mpr ⟨lw_p10, List.forall_mem_cons.mpr ⟨lw_p11, List.forall_mem_cons.mpr ⟨lw_p12, List.forall_mem_cons.mpr ⟨lw_p13, List.forall_mem_cons.mpr ⟨lw_p14, List.forall_mem_cons.mpr ⟨lw_p15, fun _ h => absurd h List.not_mem_nil⟩⟩⟩⟩⟩⟩⟩⟩⟩⟩⟩⟩⟩⟩⟩⟩
theorem lw_p16 : lw_okq (⟨"CapStoreModel", "member", "(II)I"⟩, 8) := ⟨⟨by decide +kernel, by decide +kernel⟩, List.mem_of_getElem? (i := 207) (by decide +kernel), List.mem_of_getElem? (i := 311) (by decide +kernel), List.mem_of_getElem? (i := 312) (by decide +kernel)⟩
def lw_privs_2 : List (MethodName × Nat) := [(⟨"CapStoreModel", "member", "(II)I"⟩, 8)]
theorem lw_r2 : ∀ q ∈ lw_privs_2, lw_okq q := List.forall_mem_cons.mpr ⟨lw_p16, fun _ h => absurd h List.not_mem_nil⟩
def lw_privs : List (MethodName × Nat) := lw_privs_1 ++ (lw_privs_2)
def lw_tbl : List Cond := k2_sels lw_privs ++ tables_1
theorem lw_privs_ok : ∀ q ∈ lw_privs, lw_okq q := by
  show ∀ q ∈ lw_privs_1 ++ (lw_privs_2), lw_okq q
  exact List.forall_mem_append.mpr ⟨lw_r1, lw_r2⟩
/-! ===== BEGIN words of one list among another's, by their places ===== -/
theorem goodIn_r {big : List Cond} (ws : List Cond) (ps : List Nat) (hp : ws = ps.filterMap (fun i => big[i]?)) (h : ws.all goodWord = true) : GoodIn big ws := by
  intro w hw
  have h1 := List.all_eq_true.mp h w hw
  rw [hp] at hw
  obtain ⟨i, -, hi⟩ := List.mem_filterMap.mp hw
  have hm : w ∈ big := by first | exact List.mem_of_getElem? hi | exact List.getElem?_mem hi
  exact ⟨hm, good_of_word h1⟩
theorem goodIn_app {big a b : List Cond} (ha : GoodIn big a) (hb : GoodIn big b) : GoodIn big (a ++ b) := fun w h => (List.mem_append.mp h).elim (ha w) (hb w)
theorem goodIn_ca {big a b : List Cond} {c : Cond} (ha : GoodIn big (c :: a)) (hb : GoodIn big b) : GoodIn big (c :: (a ++ b)) := fun w h => (List.mem_cons.mp h).elim (fun e => ha w (List.mem_cons.mpr (Or.inl e))) (fun h => (List.mem_append.mp h).elim (fun h => ha w (List.mem_cons.mpr (Or.inr h))) (hb w))
theorem goodIn_sub {big ws : List Cond} (hm : ∀ w ∈ ws, w ∈ big) (h : ws.all goodWord = true) : GoodIn big ws := fun w hw => ⟨hm w hw, good_of_word (List.all_eq_true.mp h w hw)⟩
/-! ===== END ===== -/

/-! ===== BEGIN printed: names, fields, word lists, decode rows ===== -/
def RX0 : String := "CapStore"
def TX0 : u_T := fun k => match k with
  | 0 => ("CapStore", "memory", "[I", true)
  | 1 => ("CapStore", "blocks", "[I", true)
  | 2 => ("CapStore", "headerRow", "[I", true)
  | 3 => ("CapStore", "dirtySet", "I", false)
  | 4 => ("CapStore", "powerLeft", "I", false)
  | 5 => ("CapStore", "running", "Z", false)
  | 6 => ("CapStore", "written", "I", false)
  | _ => ("CapStore", "committed", "I", false)
def tyX0 : Nat → FieldType := fun k => match k with
  | 0 => .array .int
  | 1 => .array .int
  | 2 => .array .int
  | 3 => .int
  | 4 => .int
  | 5 => .boolean
  | 6 => .int
  | _ => .int
abbrev wsX00 : List Cond := u_ws RX0 TX0 8
theorem nmX0 : ∀ a, a < 8 → ∀ b, b < 8 → a ≠ b → (TX0 a).2.1 ≠ (TX0 b).2.1 := by decide +kernel
theorem tyX0_ok : ∀ k, k < 8 → parseFieldDescriptor (TX0 k).2.2.1 = some (tyX0 k) := by decide +kernel
abbrev cX0_init : ByteArray := prog_1_method_1_code
def yX0_init : MethodName := ⟨RX0, "<init>", "()V"⟩
abbrev cX0_place : ByteArray := prog_1_method_2_code
def yX0_place : MethodName := ⟨RX0, "place", "(III)I"⟩
abbrev cX0_fetch : ByteArray := prog_1_method_3_code
def yX0_fetch : MethodName := ⟨RX0, "fetch", "(IIII)I"⟩
abbrev cX0_store : ByteArray := prog_1_method_4_code
def yX0_store : MethodName := ⟨RX0, "store", "(IIII)I"⟩
abbrev cX0_read : ByteArray := prog_1_method_5_code
def yX0_read : MethodName := ⟨RX0, "read", "(III)J"⟩
abbrev cX0_write : ByteArray := prog_1_method_6_code
def yX0_write : MethodName := ⟨RX0, "write", "(IIII)I"⟩
abbrev cX0_restrict : ByteArray := prog_1_method_7_code
def yX0_restrict : MethodName := ⟨RX0, "restrict", "(IIII)I"⟩
abbrev cX0_clear : ByteArray := prog_1_method_8_code
def yX0_clear : MethodName := ⟨RX0, "clear", "(II)I"⟩
abbrev cX0_checkpoint : ByteArray := prog_1_method_9_code
def yX0_checkpoint : MethodName := ⟨RX0, "checkpoint", "()I"⟩
abbrev cX0_power : ByteArray := prog_1_method_10_code
def yX0_power : MethodName := ⟨RX0, "power", "(I)I"⟩
abbrev cX0_crash : ByteArray := prog_1_method_11_code
def yX0_crash : MethodName := ⟨RX0, "crash", "()Z"⟩
abbrev cX0_start : ByteArray := prog_1_method_12_code
def yX0_start : MethodName := ⟨RX0, "start", "(I)I"⟩
abbrev cX0_isUp : ByteArray := prog_1_method_13_code
def yX0_isUp : MethodName := ⟨RX0, "isUp", "()Z"⟩
abbrev cX0_key : ByteArray := prog_1_method_14_code
def yX0_key : MethodName := ⟨RX0, "key", "(II)I"⟩
abbrev cX0_word : ByteArray := prog_1_method_15_code
def yX0_word : MethodName := ⟨RX0, "word", "(II)J"⟩
abbrev cX0_dirty : ByteArray := prog_1_method_16_code
def yX0_dirty : MethodName := ⟨RX0, "dirty", "()I"⟩
abbrev cX0_disk : ByteArray := prog_1_method_17_code
def yX0_disk : MethodName := ⟨RX0, "disk", "(II)I"⟩
abbrev cX0_writes : ByteArray := prog_1_method_18_code
def yX0_writes : MethodName := ⟨RX0, "writes", "()I"⟩
abbrev cX0_commits : ByteArray := prog_1_method_19_code
def yX0_commits : MethodName := ⟨RX0, "commits", "()I"⟩
abbrev cX0_refusal : ByteArray := prog_1_method_20_code
def yX0_refusal : MethodName := ⟨RX0, "refusal", "(Z)I"⟩
abbrev cX0_nodeRefusal : ByteArray := prog_1_method_21_code
def yX0_nodeRefusal : MethodName := ⟨RX0, "nodeRefusal", "(IIZ)I"⟩
abbrev cX0_pageRefusal : ByteArray := prog_1_method_22_code
def yX0_pageRefusal : MethodName := ⟨RX0, "pageRefusal", "(IIZ)I"⟩
abbrev cX0_isNode : ByteArray := prog_1_method_23_code
def yX0_isNode : MethodName := ⟨RX0, "isNode", "(I)Z"⟩
abbrev cX0_isPage : ByteArray := prog_1_method_24_code
def yX0_isPage : MethodName := ⟨RX0, "isPage", "(I)Z"⟩
abbrev cX0_isInRow : ByteArray := prog_1_method_25_code
def yX0_isInRow : MethodName := ⟨RX0, "isInRow", "(I)Z"⟩
abbrev cX0_isRegister : ByteArray := prog_1_method_26_code
def yX0_isRegister : MethodName := ⟨RX0, "isRegister", "(II)Z"⟩
abbrev cX0_isLimits : ByteArray := prog_1_method_27_code
def yX0_isLimits : MethodName := ⟨RX0, "isLimits", "(I)Z"⟩
abbrev cX0_isPower : ByteArray := prog_1_method_28_code
def yX0_isPower : MethodName := ⟨RX0, "isPower", "(I)Z"⟩
abbrev cX0_isBlock : ByteArray := prog_1_method_29_code
def yX0_isBlock : MethodName := ⟨RX0, "isBlock", "(I)Z"⟩
abbrev cX0_isKey : ByteArray := prog_1_method_30_code
def yX0_isKey : MethodName := ⟨RX0, "isKey", "(I)Z"⟩
abbrev cX0_isNodeKey : ByteArray := prog_1_method_31_code
def yX0_isNodeKey : MethodName := ⟨RX0, "isNodeKey", "(I)Z"⟩
abbrev cX0_isPageKey : ByteArray := prog_1_method_32_code
def yX0_isPageKey : MethodName := ⟨RX0, "isPageKey", "(I)Z"⟩
abbrev cX0_objectOf : ByteArray := prog_1_method_33_code
def yX0_objectOf : MethodName := ⟨RX0, "objectOf", "(I)I"⟩
abbrev cX0_limitsOf : ByteArray := prog_1_method_34_code
def yX0_limitsOf : MethodName := ⟨RX0, "limitsOf", "(I)I"⟩
abbrev cX0_isWriting : ByteArray := prog_1_method_35_code
def yX0_isWriting : MethodName := ⟨RX0, "isWriting", "(I)Z"⟩
abbrev cX0_isWeak : ByteArray := prog_1_method_36_code
def yX0_isWeak : MethodName := ⟨RX0, "isWeak", "(I)Z"⟩
abbrev cX0_limited : ByteArray := prog_1_method_37_code
def yX0_limited : MethodName := ⟨RX0, "limited", "(II)I"⟩
abbrev cX0_get : ByteArray := prog_1_method_38_code
def yX0_get : MethodName := ⟨RX0, "get", "(II)I"⟩
abbrev cX0_put : ByteArray := prog_1_method_39_code
def yX0_put : MethodName := ⟨RX0, "put", "(III)V"⟩
abbrev cX0_has : ByteArray := prog_1_method_40_code
def yX0_has : MethodName := ⟨RX0, "has", "(II)Z"⟩
abbrev cX0_saveDirty : ByteArray := prog_1_method_41_code
def yX0_saveDirty : MethodName := ⟨RX0, "saveDirty", "()Z"⟩
abbrev cX0_finishCommitted : ByteArray := prog_1_method_42_code
def yX0_finishCommitted : MethodName := ⟨RX0, "finishCommitted", "()Z"⟩
abbrev cX0_loadHomes : ByteArray := prog_1_method_43_code
def yX0_loadHomes : MethodName := ⟨RX0, "loadHomes", "()V"⟩
abbrev cX0_copyRows : ByteArray := prog_1_method_44_code
def yX0_copyRows : MethodName := ⟨RX0, "copyRows", "(I[III)Z"⟩
abbrev cX0_writeHeader : ByteArray := prog_1_method_45_code
def yX0_writeHeader : MethodName := ⟨RX0, "writeHeader", "(I)Z"⟩
abbrev cX0_writeBlock : ByteArray := prog_1_method_46_code
def yX0_writeBlock : MethodName := ⟨RX0, "writeBlock", "(I[II)Z"⟩
def RX1 : String := "CapStoreModel"
def TX1 : u_T := fun k => match k with
  | 0 => ("CapStoreModel", "memory", "[I", true)
  | 1 => ("CapStoreModel", "disk", "[I", true)
  | 2 => ("CapStoreModel", "stored", "[Z", true)
  | 3 => ("CapStoreModel", "down", "Z", false)
  | 4 => ("CapStoreModel", "endless", "Z", false)
  | 5 => ("CapStoreModel", "power", "I", false)
  | 6 => ("CapStoreModel", "writes", "I", false)
  | _ => ("CapStoreModel", "commits", "I", false)
def tyX1 : Nat → FieldType := fun k => match k with
  | 0 => .array .int
  | 1 => .array .int
  | 2 => .array .boolean
  | 3 => .boolean
  | 4 => .boolean
  | 5 => .int
  | 6 => .int
  | _ => .int
abbrev wsX10 : List Cond := u_ws RX1 TX1 8
theorem nmX1 : ∀ a, a < 8 → ∀ b, b < 8 → a ≠ b → (TX1 a).2.1 ≠ (TX1 b).2.1 := by decide +kernel
theorem tyX1_ok : ∀ k, k < 8 → parseFieldDescriptor (TX1 k).2.2.1 = some (tyX1 k) := by decide +kernel
abbrev cX1_init : ByteArray := prog_3_method_1_code
def yX1_init : MethodName := ⟨RX1, "<init>", "()V"⟩
abbrev cX1_eight : ByteArray := prog_3_method_2_code
def yX1_eight : MethodName := ⟨RX1, "eight", "(I)Z"⟩
abbrev cX1_third : ByteArray := prog_3_method_3_code
def yX1_third : MethodName := ⟨RX1, "third", "(I)Z"⟩
abbrev cX1_object : ByteArray := prog_3_method_4_code
def yX1_object : MethodName := ⟨RX1, "object", "(I)I"⟩
abbrev cX1_limits : ByteArray := prog_3_method_5_code
def yX1_limits : MethodName := ⟨RX1, "limits", "(I)I"⟩
abbrev cX1_limited : ByteArray := prog_3_method_6_code
def yX1_limited : MethodName := ⟨RX1, "limited", "(II)I"⟩
abbrev cX1_put : ByteArray := prog_3_method_7_code
def yX1_put : MethodName := ⟨RX1, "put", "(III)V"⟩
abbrev cX1_place : ByteArray := prog_3_method_8_code
def yX1_place : MethodName := ⟨RX1, "place", "(III)I"⟩
abbrev cX1_refusal : ByteArray := prog_3_method_9_code
def yX1_refusal : MethodName := ⟨RX1, "refusal", "(IIIZZ)I"⟩
abbrev cX1_fetch : ByteArray := prog_3_method_10_code
def yX1_fetch : MethodName := ⟨RX1, "fetch", "(IIII)I"⟩
abbrev cX1_store : ByteArray := prog_3_method_11_code
def yX1_store : MethodName := ⟨RX1, "store", "(IIII)I"⟩
abbrev cX1_read : ByteArray := prog_3_method_12_code
def yX1_read : MethodName := ⟨RX1, "read", "(III)J"⟩
abbrev cX1_write : ByteArray := prog_3_method_13_code
def yX1_write : MethodName := ⟨RX1, "write", "(IIII)I"⟩
abbrev cX1_restrict : ByteArray := prog_3_method_14_code
def yX1_restrict : MethodName := ⟨RX1, "restrict", "(IIII)I"⟩
abbrev cX1_clear : ByteArray := prog_3_method_15_code
def yX1_clear : MethodName := ⟨RX1, "clear", "(II)I"⟩
abbrev cX1_inSet : ByteArray := prog_3_method_16_code
def yX1_inSet : MethodName := ⟨RX1, "inSet", "(I)I"⟩
abbrev cX1_member : ByteArray := prog_3_method_17_code
def yX1_member : MethodName := ⟨RX1, "member", "(II)I"⟩
abbrev cX1_may : ByteArray := prog_3_method_18_code
def yX1_may : MethodName := ⟨RX1, "may", "()Z"⟩
abbrev cX1_header : ByteArray := prog_3_method_19_code
def yX1_header : MethodName := ⟨RX1, "header", "(I)V"⟩
abbrev cX1_checkpoint : ByteArray := prog_3_method_20_code
def yX1_checkpoint : MethodName := ⟨RX1, "checkpoint", "()I"⟩
abbrev cX1_power : ByteArray := prog_3_method_21_code
def yX1_power : MethodName := ⟨RX1, "power", "(I)I"⟩
abbrev cX1_crash : ByteArray := prog_3_method_22_code
def yX1_crash : MethodName := ⟨RX1, "crash", "()Z"⟩
abbrev cX1_start : ByteArray := prog_3_method_23_code
def yX1_start : MethodName := ⟨RX1, "start", "(I)I"⟩
abbrev cX1_isUp : ByteArray := prog_3_method_24_code
def yX1_isUp : MethodName := ⟨RX1, "isUp", "()Z"⟩
abbrev cX1_key : ByteArray := prog_3_method_25_code
def yX1_key : MethodName := ⟨RX1, "key", "(II)I"⟩
abbrev cX1_word : ByteArray := prog_3_method_26_code
def yX1_word : MethodName := ⟨RX1, "word", "(II)J"⟩
abbrev cX1_dirty : ByteArray := prog_3_method_27_code
def yX1_dirty : MethodName := ⟨RX1, "dirty", "()I"⟩
abbrev cX1_disk : ByteArray := prog_3_method_28_code
def yX1_disk : MethodName := ⟨RX1, "disk", "(II)I"⟩
abbrev cX1_writes : ByteArray := prog_3_method_29_code
def yX1_writes : MethodName := ⟨RX1, "writes", "()I"⟩
abbrev cX1_commits : ByteArray := prog_3_method_30_code
def yX1_commits : MethodName := ⟨RX1, "commits", "()I"⟩
def RJ10 : String := "java/lang/System"
def TJ10 : u_T := fun k => match k with
  | _ => ("", "", "", false)
def tyJ10 : Nat → FieldType := fun k => match k with
  | _ => .int
abbrev wsJ100 : List Cond := u_ws RJ10 TJ10 0
theorem nmJ10 : ∀ a, a < 0 → ∀ b, b < 0 → a ≠ b → (TJ10 a).2.1 ≠ (TJ10 b).2.1 := by decide +kernel
theorem tyJ10_ok : ∀ k, k < 0 → parseFieldDescriptor (TJ10 k).2.2.1 = some (tyJ10 k) := by decide +kernel
def RL : String := "CapStoreLaw"
abbrev cL_law : ByteArray := code
def yL_law : MethodName := ⟨RL, "law", "([I)Z"⟩
def wsX0_init : List Cond := .code yX0_init cX0_init 1 none :: ([.methodLink RX0 3 objectInit, .instanceMethod objectInit, .code objectInit ⟨#[0xb1]⟩ 1 none, .arrayClass .int, .fieldLink RX0 9 "CapStore" "memory" "[I", .fieldLink RX0 13 "CapStore" "blocks" "[I", .fieldLink RX0 16 "CapStore" "headerRow" "[I", .fieldLink RX0 19 "CapStore" "dirtySet" "I", .fieldLink RX0 23 "CapStore" "powerLeft" "I", .fieldLink RX0 26 "CapStore" "running" "Z", .fieldLink RX0 30 "CapStore" "written" "I", .fieldLink RX0 33 "CapStore" "committed" "I"] ++ wsX00)
def wsX0_isNode : List Cond := .code yX0_isNode cX0_isNode 1 (some .boolean) :: ([])
def wsX0_isInRow : List Cond := .code yX0_isInRow cX0_isInRow 1 (some .boolean) :: ([])
def wsX0_isKey : List Cond := .code yX0_isKey cX0_isKey 1 (some .boolean) :: ([])
def wsX0_refusal : List Cond := .code yX0_refusal cX0_refusal 2 (some .int) :: ([.fieldLink RX0 26 "CapStore" "running" "Z"] ++ wsX00)
def wsX0_put : List Cond := .code yX0_put cX0_put 4 none :: ([.fieldLink RX0 9 "CapStore" "memory" "[I", .fieldLink RX0 19 "CapStore" "dirtySet" "I"] ++ wsX00)
def wsX0_place : List Cond := .code yX0_place cX0_place 5 (some .int) :: ([.methodLink RX0 36 yX0_isNode, .static yX0_isNode, .initialized RX0, .code yX0_isNode cX0_isNode 1 (some .boolean), .methodLink RX0 40 yX0_isInRow, .static yX0_isInRow, .code yX0_isInRow cX0_isInRow 1 (some .boolean), .methodLink RX0 43 yX0_isKey, .static yX0_isKey, .code yX0_isKey cX0_isKey 1 (some .boolean), .methodLink RX0 46 yX0_refusal, .instanceMethod yX0_refusal, .selects RX0 yX0_refusal yX0_refusal, .code yX0_refusal cX0_refusal 2 (some .int), .fieldLink RX0 26 "CapStore" "running" "Z", .methodLink RX0 50 yX0_put, .instanceMethod yX0_put, .selects RX0 yX0_put yX0_put, .code yX0_put cX0_put 4 none, .fieldLink RX0 9 "CapStore" "memory" "[I", .fieldLink RX0 19 "CapStore" "dirtySet" "I"] ++ wsX00)
def wsX0_isRegister : List Cond := .code yX0_isRegister cX0_isRegister 2 (some .boolean) :: ([.methodLink RX0 40 yX0_isInRow, .static yX0_isInRow, .initialized RX0, .code yX0_isInRow cX0_isInRow 1 (some .boolean)])
def wsX0_get : List Cond := .code yX0_get cX0_get 3 (some .int) :: ([.fieldLink RX0 9 "CapStore" "memory" "[I"] ++ wsX00)
def wsX0_isNodeKey : List Cond := .code yX0_isNodeKey cX0_isNodeKey 1 (some .boolean) :: ([])
def wsX0_nodeRefusal : List Cond := .code yX0_nodeRefusal cX0_nodeRefusal 5 (some .int) :: ([.methodLink RX0 80 yX0_isRegister, .static yX0_isRegister, .initialized RX0, .code yX0_isRegister cX0_isRegister 2 (some .boolean), .methodLink RX0 40 yX0_isInRow, .static yX0_isInRow, .code yX0_isInRow cX0_isInRow 1 (some .boolean), .methodLink RX0 46 yX0_refusal, .instanceMethod yX0_refusal, .selects RX0 yX0_refusal yX0_refusal, .code yX0_refusal cX0_refusal 2 (some .int), .fieldLink RX0 26 "CapStore" "running" "Z", .methodLink RX0 58 yX0_get, .instanceMethod yX0_get, .selects RX0 yX0_get yX0_get, .code yX0_get cX0_get 3 (some .int), .fieldLink RX0 9 "CapStore" "memory" "[I", .methodLink RX0 106 yX0_isNodeKey, .static yX0_isNodeKey, .code yX0_isNodeKey cX0_isNodeKey 1 (some .boolean)] ++ wsX00)
def wsX0_objectOf : List Cond := .code yX0_objectOf cX0_objectOf 1 (some .int) :: ([])
def wsX0_limitsOf : List Cond := .code yX0_limitsOf cX0_limitsOf 1 (some .int) :: ([])
def wsX0_isWeak : List Cond := .code yX0_isWeak cX0_isWeak 1 (some .boolean) :: ([.methodLink RX0 112 yX0_limitsOf, .static yX0_limitsOf, .initialized RX0, .code yX0_limitsOf cX0_limitsOf 1 (some .int)])
def wsX0_limited : List Cond := .code yX0_limited cX0_limited 2 (some .int) :: ([.methodLink RX0 62 yX0_objectOf, .static yX0_objectOf, .initialized RX0, .code yX0_objectOf cX0_objectOf 1 (some .int), .methodLink RX0 112 yX0_limitsOf, .static yX0_limitsOf, .code yX0_limitsOf cX0_limitsOf 1 (some .int)])
def wsX0_fetch_r1 : List Cond := [Cond.methodLink RX0 40 yX0_isInRow, Cond.static yX0_isInRow, Cond.initialized RX0, Cond.code yX0_isInRow cX0_isInRow 1 (some .boolean), Cond.methodLink RX0 54 yX0_nodeRefusal, Cond.instanceMethod yX0_nodeRefusal, Cond.selects RX0 yX0_nodeRefusal yX0_nodeRefusal, Cond.code yX0_nodeRefusal cX0_nodeRefusal 5 (some .int), Cond.methodLink RX0 80 yX0_isRegister, Cond.static yX0_isRegister, Cond.code yX0_isRegister cX0_isRegister 2 (some .boolean), Cond.methodLink RX0 46 yX0_refusal, Cond.instanceMethod yX0_refusal, Cond.selects RX0 yX0_refusal yX0_refusal, Cond.code yX0_refusal cX0_refusal 2 (some .int), Cond.fieldLink RX0 26 "CapStore" "running" "Z", Cond.methodLink RX0 58 yX0_get, Cond.instanceMethod yX0_get, Cond.selects RX0 yX0_get yX0_get, Cond.code yX0_get cX0_get 3 (some .int), Cond.fieldLink RX0 9 "CapStore" "memory" "[I", Cond.methodLink RX0 106 yX0_isNodeKey, Cond.static yX0_isNodeKey, Cond.code yX0_isNodeKey cX0_isNodeKey 1 (some .boolean)]
def wsX0_fetch_r2 : List Cond := [Cond.methodLink RX0 62 yX0_objectOf, Cond.static yX0_objectOf, Cond.code yX0_objectOf cX0_objectOf 1 (some .int), Cond.methodLink RX0 66 yX0_isWeak, Cond.static yX0_isWeak, Cond.code yX0_isWeak cX0_isWeak 1 (some .boolean), Cond.methodLink RX0 112 yX0_limitsOf, Cond.static yX0_limitsOf, Cond.code yX0_limitsOf cX0_limitsOf 1 (some .int), Cond.methodLink RX0 69 yX0_limited, Cond.static yX0_limited, Cond.code yX0_limited cX0_limited 2 (some .int), Cond.methodLink RX0 50 yX0_put, Cond.instanceMethod yX0_put, Cond.selects RX0 yX0_put yX0_put, Cond.code yX0_put cX0_put 4 none, Cond.fieldLink RX0 19 "CapStore" "dirtySet" "I"]
def wsX0_fetch : List Cond := .code yX0_fetch cX0_fetch 8 (some .int) :: ((wsX0_fetch_r1 ++ wsX0_fetch_r2) ++ wsX00)
def wsX0_isWriting : List Cond := .code yX0_isWriting cX0_isWriting 1 (some .boolean) :: ([.methodLink RX0 112 yX0_limitsOf, .static yX0_limitsOf, .initialized RX0, .code yX0_limitsOf cX0_limitsOf 1 (some .int)])
def wsX0_store_r1 : List Cond := [Cond.methodLink RX0 40 yX0_isInRow, Cond.static yX0_isInRow, Cond.initialized RX0, Cond.code yX0_isInRow cX0_isInRow 1 (some .boolean), Cond.methodLink RX0 54 yX0_nodeRefusal, Cond.instanceMethod yX0_nodeRefusal, Cond.selects RX0 yX0_nodeRefusal yX0_nodeRefusal, Cond.code yX0_nodeRefusal cX0_nodeRefusal 5 (some .int), Cond.methodLink RX0 80 yX0_isRegister, Cond.static yX0_isRegister, Cond.code yX0_isRegister cX0_isRegister 2 (some .boolean), Cond.methodLink RX0 46 yX0_refusal, Cond.instanceMethod yX0_refusal, Cond.selects RX0 yX0_refusal yX0_refusal, Cond.code yX0_refusal cX0_refusal 2 (some .int), Cond.fieldLink RX0 26 "CapStore" "running" "Z", Cond.methodLink RX0 58 yX0_get, Cond.instanceMethod yX0_get, Cond.selects RX0 yX0_get yX0_get, Cond.code yX0_get cX0_get 3 (some .int), Cond.fieldLink RX0 9 "CapStore" "memory" "[I", Cond.methodLink RX0 106 yX0_isNodeKey, Cond.static yX0_isNodeKey, Cond.code yX0_isNodeKey cX0_isNodeKey 1 (some .boolean)]
def wsX0_store_r2 : List Cond := [Cond.methodLink RX0 72 yX0_isWriting, Cond.static yX0_isWriting, Cond.code yX0_isWriting cX0_isWriting 1 (some .boolean), Cond.methodLink RX0 112 yX0_limitsOf, Cond.static yX0_limitsOf, Cond.code yX0_limitsOf cX0_limitsOf 1 (some .int), Cond.methodLink RX0 62 yX0_objectOf, Cond.static yX0_objectOf, Cond.code yX0_objectOf cX0_objectOf 1 (some .int), Cond.methodLink RX0 50 yX0_put, Cond.instanceMethod yX0_put, Cond.selects RX0 yX0_put yX0_put, Cond.code yX0_put cX0_put 4 none, Cond.fieldLink RX0 19 "CapStore" "dirtySet" "I"]
def wsX0_store : List Cond := .code yX0_store cX0_store 7 (some .int) :: ((wsX0_store_r1 ++ wsX0_store_r2) ++ wsX00)
def wsX0_isPageKey : List Cond := .code yX0_isPageKey cX0_isPageKey 1 (some .boolean) :: ([])
def wsX0_pageRefusal : List Cond := .code yX0_pageRefusal cX0_pageRefusal 5 (some .int) :: ([.methodLink RX0 80 yX0_isRegister, .static yX0_isRegister, .initialized RX0, .code yX0_isRegister cX0_isRegister 2 (some .boolean), .methodLink RX0 40 yX0_isInRow, .static yX0_isInRow, .code yX0_isInRow cX0_isInRow 1 (some .boolean), .methodLink RX0 46 yX0_refusal, .instanceMethod yX0_refusal, .selects RX0 yX0_refusal yX0_refusal, .code yX0_refusal cX0_refusal 2 (some .int), .fieldLink RX0 26 "CapStore" "running" "Z", .methodLink RX0 58 yX0_get, .instanceMethod yX0_get, .selects RX0 yX0_get yX0_get, .code yX0_get cX0_get 3 (some .int), .fieldLink RX0 9 "CapStore" "memory" "[I", .methodLink RX0 109 yX0_isPageKey, .static yX0_isPageKey, .code yX0_isPageKey cX0_isPageKey 1 (some .boolean)] ++ wsX00)
def wsX0_read_r1 : List Cond := [Cond.constantLong RX0 78 (4294967296), Cond.methodLink RX0 40 yX0_isInRow, Cond.static yX0_isInRow, Cond.initialized RX0, Cond.code yX0_isInRow cX0_isInRow 1 (some .boolean), Cond.methodLink RX0 75 yX0_pageRefusal, Cond.instanceMethod yX0_pageRefusal, Cond.selects RX0 yX0_pageRefusal yX0_pageRefusal, Cond.code yX0_pageRefusal cX0_pageRefusal 5 (some .int), Cond.methodLink RX0 80 yX0_isRegister, Cond.static yX0_isRegister, Cond.code yX0_isRegister cX0_isRegister 2 (some .boolean), Cond.methodLink RX0 46 yX0_refusal, Cond.instanceMethod yX0_refusal, Cond.selects RX0 yX0_refusal yX0_refusal, Cond.code yX0_refusal cX0_refusal 2 (some .int), Cond.fieldLink RX0 26 "CapStore" "running" "Z", Cond.methodLink RX0 58 yX0_get, Cond.instanceMethod yX0_get, Cond.selects RX0 yX0_get yX0_get, Cond.code yX0_get cX0_get 3 (some .int), Cond.fieldLink RX0 9 "CapStore" "memory" "[I", Cond.methodLink RX0 109 yX0_isPageKey, Cond.static yX0_isPageKey]
def wsX0_read_r2 : List Cond := [Cond.code yX0_isPageKey cX0_isPageKey 1 (some .boolean), Cond.methodLink RX0 62 yX0_objectOf, Cond.static yX0_objectOf, Cond.code yX0_objectOf cX0_objectOf 1 (some .int)]
def wsX0_read : List Cond := .code yX0_read cX0_read 5 (some .long) :: ((wsX0_read_r1 ++ wsX0_read_r2) ++ wsX00)
def wsX0_write_r1 : List Cond := [Cond.methodLink RX0 40 yX0_isInRow, Cond.static yX0_isInRow, Cond.initialized RX0, Cond.code yX0_isInRow cX0_isInRow 1 (some .boolean), Cond.methodLink RX0 75 yX0_pageRefusal, Cond.instanceMethod yX0_pageRefusal, Cond.selects RX0 yX0_pageRefusal yX0_pageRefusal, Cond.code yX0_pageRefusal cX0_pageRefusal 5 (some .int), Cond.methodLink RX0 80 yX0_isRegister, Cond.static yX0_isRegister, Cond.code yX0_isRegister cX0_isRegister 2 (some .boolean), Cond.methodLink RX0 46 yX0_refusal, Cond.instanceMethod yX0_refusal, Cond.selects RX0 yX0_refusal yX0_refusal, Cond.code yX0_refusal cX0_refusal 2 (some .int), Cond.fieldLink RX0 26 "CapStore" "running" "Z", Cond.methodLink RX0 58 yX0_get, Cond.instanceMethod yX0_get, Cond.selects RX0 yX0_get yX0_get, Cond.code yX0_get cX0_get 3 (some .int), Cond.fieldLink RX0 9 "CapStore" "memory" "[I", Cond.methodLink RX0 109 yX0_isPageKey, Cond.static yX0_isPageKey, Cond.code yX0_isPageKey cX0_isPageKey 1 (some .boolean)]
def wsX0_write_r2 : List Cond := [Cond.methodLink RX0 72 yX0_isWriting, Cond.static yX0_isWriting, Cond.code yX0_isWriting cX0_isWriting 1 (some .boolean), Cond.methodLink RX0 112 yX0_limitsOf, Cond.static yX0_limitsOf, Cond.code yX0_limitsOf cX0_limitsOf 1 (some .int), Cond.methodLink RX0 62 yX0_objectOf, Cond.static yX0_objectOf, Cond.code yX0_objectOf cX0_objectOf 1 (some .int), Cond.methodLink RX0 50 yX0_put, Cond.instanceMethod yX0_put, Cond.selects RX0 yX0_put yX0_put, Cond.code yX0_put cX0_put 4 none, Cond.fieldLink RX0 19 "CapStore" "dirtySet" "I"]
def wsX0_write : List Cond := .code yX0_write cX0_write 7 (some .int) :: ((wsX0_write_r1 ++ wsX0_write_r2) ++ wsX00)
def wsX0_isLimits : List Cond := .code yX0_isLimits cX0_isLimits 1 (some .boolean) :: ([])
def wsX0_restrict_r1 : List Cond := [Cond.methodLink RX0 80 yX0_isRegister, Cond.static yX0_isRegister, Cond.initialized RX0, Cond.code yX0_isRegister cX0_isRegister 2 (some .boolean), Cond.methodLink RX0 40 yX0_isInRow, Cond.static yX0_isInRow, Cond.code yX0_isInRow cX0_isInRow 1 (some .boolean), Cond.methodLink RX0 84 yX0_isLimits, Cond.static yX0_isLimits, Cond.code yX0_isLimits cX0_isLimits 1 (some .boolean), Cond.methodLink RX0 46 yX0_refusal, Cond.instanceMethod yX0_refusal, Cond.selects RX0 yX0_refusal yX0_refusal, Cond.code yX0_refusal cX0_refusal 2 (some .int), Cond.fieldLink RX0 26 "CapStore" "running" "Z", Cond.methodLink RX0 58 yX0_get, Cond.instanceMethod yX0_get, Cond.selects RX0 yX0_get yX0_get, Cond.code yX0_get cX0_get 3 (some .int), Cond.fieldLink RX0 9 "CapStore" "memory" "[I", Cond.methodLink RX0 69 yX0_limited, Cond.static yX0_limited, Cond.code yX0_limited cX0_limited 2 (some .int), Cond.methodLink RX0 62 yX0_objectOf]
def wsX0_restrict_r2 : List Cond := [Cond.static yX0_objectOf, Cond.code yX0_objectOf cX0_objectOf 1 (some .int), Cond.methodLink RX0 112 yX0_limitsOf, Cond.static yX0_limitsOf, Cond.code yX0_limitsOf cX0_limitsOf 1 (some .int), Cond.methodLink RX0 50 yX0_put, Cond.instanceMethod yX0_put, Cond.selects RX0 yX0_put yX0_put, Cond.code yX0_put cX0_put 4 none, Cond.fieldLink RX0 19 "CapStore" "dirtySet" "I"]
def wsX0_restrict : List Cond := .code yX0_restrict cX0_restrict 6 (some .int) :: ((wsX0_restrict_r1 ++ wsX0_restrict_r2) ++ wsX00)
def wsX0_clear : List Cond := .code yX0_clear cX0_clear 4 (some .int) :: ([.methodLink RX0 80 yX0_isRegister, .static yX0_isRegister, .initialized RX0, .code yX0_isRegister cX0_isRegister 2 (some .boolean), .methodLink RX0 40 yX0_isInRow, .static yX0_isInRow, .code yX0_isInRow cX0_isInRow 1 (some .boolean), .methodLink RX0 46 yX0_refusal, .instanceMethod yX0_refusal, .selects RX0 yX0_refusal yX0_refusal, .code yX0_refusal cX0_refusal 2 (some .int), .fieldLink RX0 26 "CapStore" "running" "Z", .methodLink RX0 50 yX0_put, .instanceMethod yX0_put, .selects RX0 yX0_put yX0_put, .code yX0_put cX0_put 4 none, .fieldLink RX0 9 "CapStore" "memory" "[I", .fieldLink RX0 19 "CapStore" "dirtySet" "I"] ++ wsX00)
def wsX0_has : List Cond := .code yX0_has cX0_has 2 (some .boolean) :: ([])
def wsX0_writeBlock : List Cond := .code yX0_writeBlock cX0_writeBlock 4 (some .boolean) :: ([.fieldLink RX0 23 "CapStore" "powerLeft" "I", .fieldLink RX0 26 "CapStore" "running" "Z", .fieldLink RX0 13 "CapStore" "blocks" "[I", .methodLink RX0 122 arraycopyName, .native arraycopyName, .static arraycopyName, .initialized "java/lang/System", .fieldLink RX0 30 "CapStore" "written" "I"] ++ wsX00)
def wsX0_copyRows : List Cond := .code yX0_copyRows cX0_copyRows 6 (some .boolean) :: ([.methodLink RX0 128 yX0_has, .static yX0_has, .initialized RX0, .code yX0_has cX0_has 2 (some .boolean), .methodLink RX0 131 yX0_writeBlock, .instanceMethod yX0_writeBlock, .selects RX0 yX0_writeBlock yX0_writeBlock, .code yX0_writeBlock cX0_writeBlock 4 (some .boolean), .fieldLink RX0 23 "CapStore" "powerLeft" "I", .fieldLink RX0 26 "CapStore" "running" "Z", .fieldLink RX0 13 "CapStore" "blocks" "[I", .methodLink RX0 122 arraycopyName, .native arraycopyName, .static arraycopyName, .initialized "java/lang/System", .fieldLink RX0 30 "CapStore" "written" "I"] ++ wsX00)
def wsX0_writeHeader : List Cond := .code yX0_writeHeader cX0_writeHeader 2 (some .boolean) :: ([.fieldLink RX0 16 "CapStore" "headerRow" "[I", .methodLink RX0 131 yX0_writeBlock, .instanceMethod yX0_writeBlock, .selects RX0 yX0_writeBlock yX0_writeBlock, .initialized RX0, .code yX0_writeBlock cX0_writeBlock 4 (some .boolean), .fieldLink RX0 23 "CapStore" "powerLeft" "I", .fieldLink RX0 26 "CapStore" "running" "Z", .fieldLink RX0 13 "CapStore" "blocks" "[I", .methodLink RX0 122 arraycopyName, .native arraycopyName, .static arraycopyName, .initialized "java/lang/System", .fieldLink RX0 30 "CapStore" "written" "I"] ++ wsX00)
def wsX0_saveDirty_r1 : List Cond := [Cond.fieldLink RX0 19 "CapStore" "dirtySet" "I", Cond.fieldLink RX0 9 "CapStore" "memory" "[I", Cond.fieldLink RX0 33 "CapStore" "committed" "I", Cond.methodLink RX0 115 yX0_copyRows, Cond.instanceMethod yX0_copyRows, Cond.selects RX0 yX0_copyRows yX0_copyRows, Cond.initialized RX0, Cond.code yX0_copyRows cX0_copyRows 6 (some .boolean), Cond.methodLink RX0 128 yX0_has, Cond.static yX0_has, Cond.code yX0_has cX0_has 2 (some .boolean), Cond.methodLink RX0 131 yX0_writeBlock, Cond.instanceMethod yX0_writeBlock, Cond.selects RX0 yX0_writeBlock yX0_writeBlock, Cond.code yX0_writeBlock cX0_writeBlock 4 (some .boolean), Cond.fieldLink RX0 23 "CapStore" "powerLeft" "I", Cond.fieldLink RX0 26 "CapStore" "running" "Z", Cond.fieldLink RX0 13 "CapStore" "blocks" "[I", Cond.methodLink RX0 122 arraycopyName, Cond.native arraycopyName, Cond.static arraycopyName, Cond.initialized "java/lang/System", Cond.fieldLink RX0 30 "CapStore" "written" "I", Cond.methodLink RX0 119 yX0_writeHeader]
def wsX0_saveDirty_r2 : List Cond := [Cond.instanceMethod yX0_writeHeader, Cond.selects RX0 yX0_writeHeader yX0_writeHeader, Cond.code yX0_writeHeader cX0_writeHeader 2 (some .boolean), Cond.fieldLink RX0 16 "CapStore" "headerRow" "[I"]
def wsX0_saveDirty : List Cond := .code yX0_saveDirty cX0_saveDirty 1 (some .boolean) :: ((wsX0_saveDirty_r1 ++ wsX0_saveDirty_r2) ++ wsX00)
def wsX0_checkpoint_r1 : List Cond := [Cond.fieldLink RX0 26 "CapStore" "running" "Z", Cond.fieldLink RX0 30 "CapStore" "written" "I", Cond.fieldLink RX0 19 "CapStore" "dirtySet" "I", Cond.methodLink RX0 87 yX0_saveDirty, Cond.instanceMethod yX0_saveDirty, Cond.selects RX0 yX0_saveDirty yX0_saveDirty, Cond.initialized RX0, Cond.code yX0_saveDirty cX0_saveDirty 1 (some .boolean), Cond.fieldLink RX0 9 "CapStore" "memory" "[I", Cond.fieldLink RX0 33 "CapStore" "committed" "I", Cond.methodLink RX0 115 yX0_copyRows, Cond.instanceMethod yX0_copyRows, Cond.selects RX0 yX0_copyRows yX0_copyRows, Cond.code yX0_copyRows cX0_copyRows 6 (some .boolean), Cond.methodLink RX0 128 yX0_has, Cond.static yX0_has, Cond.code yX0_has cX0_has 2 (some .boolean), Cond.methodLink RX0 131 yX0_writeBlock, Cond.instanceMethod yX0_writeBlock, Cond.selects RX0 yX0_writeBlock yX0_writeBlock, Cond.code yX0_writeBlock cX0_writeBlock 4 (some .boolean), Cond.fieldLink RX0 23 "CapStore" "powerLeft" "I", Cond.fieldLink RX0 13 "CapStore" "blocks" "[I", Cond.methodLink RX0 122 arraycopyName]
def wsX0_checkpoint_r2 : List Cond := [Cond.native arraycopyName, Cond.static arraycopyName, Cond.initialized "java/lang/System", Cond.methodLink RX0 119 yX0_writeHeader, Cond.instanceMethod yX0_writeHeader, Cond.selects RX0 yX0_writeHeader yX0_writeHeader, Cond.code yX0_writeHeader cX0_writeHeader 2 (some .boolean), Cond.fieldLink RX0 16 "CapStore" "headerRow" "[I"]
def wsX0_checkpoint : List Cond := .code yX0_checkpoint cX0_checkpoint 2 (some .int) :: ((wsX0_checkpoint_r1 ++ wsX0_checkpoint_r2) ++ wsX00)
def wsX0_isPower : List Cond := .code yX0_isPower cX0_isPower 1 (some .boolean) :: ([])
def wsX0_power : List Cond := .code yX0_power cX0_power 3 (some .int) :: ([.fieldLink RX0 23 "CapStore" "powerLeft" "I", .methodLink RX0 91 yX0_isPower, .static yX0_isPower, .initialized RX0, .code yX0_isPower cX0_isPower 1 (some .boolean), .methodLink RX0 46 yX0_refusal, .instanceMethod yX0_refusal, .selects RX0 yX0_refusal yX0_refusal, .code yX0_refusal cX0_refusal 2 (some .int), .fieldLink RX0 26 "CapStore" "running" "Z"] ++ wsX00)
def wsX0_crash : List Cond := .code yX0_crash cX0_crash 2 (some .boolean) :: ([.fieldLink RX0 26 "CapStore" "running" "Z"] ++ wsX00)
def wsX0_finishCommitted_r1 : List Cond := [Cond.fieldLink RX0 13 "CapStore" "blocks" "[I", Cond.methodLink RX0 115 yX0_copyRows, Cond.instanceMethod yX0_copyRows, Cond.selects RX0 yX0_copyRows yX0_copyRows, Cond.initialized RX0, Cond.code yX0_copyRows cX0_copyRows 6 (some .boolean), Cond.methodLink RX0 128 yX0_has, Cond.static yX0_has, Cond.code yX0_has cX0_has 2 (some .boolean), Cond.methodLink RX0 131 yX0_writeBlock, Cond.instanceMethod yX0_writeBlock, Cond.selects RX0 yX0_writeBlock yX0_writeBlock, Cond.code yX0_writeBlock cX0_writeBlock 4 (some .boolean), Cond.fieldLink RX0 23 "CapStore" "powerLeft" "I", Cond.fieldLink RX0 26 "CapStore" "running" "Z", Cond.methodLink RX0 122 arraycopyName, Cond.native arraycopyName, Cond.static arraycopyName, Cond.initialized "java/lang/System", Cond.fieldLink RX0 30 "CapStore" "written" "I", Cond.methodLink RX0 119 yX0_writeHeader, Cond.instanceMethod yX0_writeHeader, Cond.selects RX0 yX0_writeHeader yX0_writeHeader, Cond.code yX0_writeHeader cX0_writeHeader 2 (some .boolean)]
def wsX0_finishCommitted_r2 : List Cond := [Cond.fieldLink RX0 16 "CapStore" "headerRow" "[I"]
def wsX0_finishCommitted : List Cond := .code yX0_finishCommitted cX0_finishCommitted 2 (some .boolean) :: ((wsX0_finishCommitted_r1 ++ wsX0_finishCommitted_r2) ++ wsX00)
def wsX0_loadHomes : List Cond := .code yX0_loadHomes cX0_loadHomes 1 none :: ([.fieldLink RX0 13 "CapStore" "blocks" "[I", .fieldLink RX0 9 "CapStore" "memory" "[I", .methodLink RX0 122 arraycopyName, .native arraycopyName, .static arraycopyName, .initialized "java/lang/System", .fieldLink RX0 19 "CapStore" "dirtySet" "I"] ++ wsX00)
def wsX0_start_r1 : List Cond := [Cond.fieldLink RX0 26 "CapStore" "running" "Z", Cond.fieldLink RX0 23 "CapStore" "powerLeft" "I", Cond.fieldLink RX0 30 "CapStore" "written" "I", Cond.methodLink RX0 91 yX0_isPower, Cond.static yX0_isPower, Cond.initialized RX0, Cond.code yX0_isPower cX0_isPower 1 (some .boolean), Cond.methodLink RX0 94 yX0_finishCommitted, Cond.instanceMethod yX0_finishCommitted, Cond.selects RX0 yX0_finishCommitted yX0_finishCommitted, Cond.code yX0_finishCommitted cX0_finishCommitted 2 (some .boolean), Cond.fieldLink RX0 13 "CapStore" "blocks" "[I", Cond.methodLink RX0 115 yX0_copyRows, Cond.instanceMethod yX0_copyRows, Cond.selects RX0 yX0_copyRows yX0_copyRows, Cond.code yX0_copyRows cX0_copyRows 6 (some .boolean), Cond.methodLink RX0 128 yX0_has, Cond.static yX0_has, Cond.code yX0_has cX0_has 2 (some .boolean), Cond.methodLink RX0 131 yX0_writeBlock, Cond.instanceMethod yX0_writeBlock, Cond.selects RX0 yX0_writeBlock yX0_writeBlock, Cond.code yX0_writeBlock cX0_writeBlock 4 (some .boolean), Cond.methodLink RX0 122 arraycopyName]
def wsX0_start_r2 : List Cond := [Cond.native arraycopyName, Cond.static arraycopyName, Cond.initialized "java/lang/System", Cond.methodLink RX0 119 yX0_writeHeader, Cond.instanceMethod yX0_writeHeader, Cond.selects RX0 yX0_writeHeader yX0_writeHeader, Cond.code yX0_writeHeader cX0_writeHeader 2 (some .boolean), Cond.fieldLink RX0 16 "CapStore" "headerRow" "[I", Cond.methodLink RX0 97 yX0_loadHomes, Cond.instanceMethod yX0_loadHomes, Cond.selects RX0 yX0_loadHomes yX0_loadHomes, Cond.code yX0_loadHomes cX0_loadHomes 1 none, Cond.fieldLink RX0 9 "CapStore" "memory" "[I", Cond.fieldLink RX0 19 "CapStore" "dirtySet" "I"]
def wsX0_start : List Cond := .code yX0_start cX0_start 3 (some .int) :: ((wsX0_start_r1 ++ wsX0_start_r2) ++ wsX00)
def wsX0_isUp : List Cond := .code yX0_isUp cX0_isUp 1 (some .boolean) :: ([.fieldLink RX0 26 "CapStore" "running" "Z"] ++ wsX00)
def wsX0_key : List Cond := .code yX0_key cX0_key 4 (some .int) :: ([.methodLink RX0 36 yX0_isNode, .static yX0_isNode, .initialized RX0, .code yX0_isNode cX0_isNode 1 (some .boolean), .methodLink RX0 40 yX0_isInRow, .static yX0_isInRow, .code yX0_isInRow cX0_isInRow 1 (some .boolean), .methodLink RX0 46 yX0_refusal, .instanceMethod yX0_refusal, .selects RX0 yX0_refusal yX0_refusal, .code yX0_refusal cX0_refusal 2 (some .int), .fieldLink RX0 26 "CapStore" "running" "Z", .methodLink RX0 58 yX0_get, .instanceMethod yX0_get, .selects RX0 yX0_get yX0_get, .code yX0_get cX0_get 3 (some .int), .fieldLink RX0 9 "CapStore" "memory" "[I"] ++ wsX00)
def wsX0_isPage : List Cond := .code yX0_isPage cX0_isPage 1 (some .boolean) :: ([])
def wsX0_word : List Cond := .code yX0_word cX0_word 4 (some .long) :: ([.constantLong RX0 78 (4294967296), .methodLink RX0 100 yX0_isPage, .static yX0_isPage, .initialized RX0, .code yX0_isPage cX0_isPage 1 (some .boolean), .methodLink RX0 40 yX0_isInRow, .static yX0_isInRow, .code yX0_isInRow cX0_isInRow 1 (some .boolean), .methodLink RX0 46 yX0_refusal, .instanceMethod yX0_refusal, .selects RX0 yX0_refusal yX0_refusal, .code yX0_refusal cX0_refusal 2 (some .int), .fieldLink RX0 26 "CapStore" "running" "Z", .methodLink RX0 58 yX0_get, .instanceMethod yX0_get, .selects RX0 yX0_get yX0_get, .code yX0_get cX0_get 3 (some .int), .fieldLink RX0 9 "CapStore" "memory" "[I"] ++ wsX00)
def wsX0_dirty : List Cond := .code yX0_dirty cX0_dirty 1 (some .int) :: ([.fieldLink RX0 26 "CapStore" "running" "Z", .fieldLink RX0 19 "CapStore" "dirtySet" "I"] ++ wsX00)
def wsX0_isBlock : List Cond := .code yX0_isBlock cX0_isBlock 1 (some .boolean) :: ([])
def wsX0_disk : List Cond := .code yX0_disk cX0_disk 3 (some .int) :: ([.fieldLink RX0 13 "CapStore" "blocks" "[I", .methodLink RX0 103 yX0_isBlock, .static yX0_isBlock, .initialized RX0, .code yX0_isBlock cX0_isBlock 1 (some .boolean), .methodLink RX0 40 yX0_isInRow, .static yX0_isInRow, .code yX0_isInRow cX0_isInRow 1 (some .boolean)] ++ wsX00)
def wsX0_writes : List Cond := .code yX0_writes cX0_writes 1 (some .int) :: ([.fieldLink RX0 30 "CapStore" "written" "I"] ++ wsX00)
def wsX0_commits : List Cond := .code yX0_commits cX0_commits 1 (some .int) :: ([.fieldLink RX0 33 "CapStore" "committed" "I"] ++ wsX00)
def wsX1_init : List Cond := .code yX1_init cX1_init 1 none :: ([.methodLink RX1 1 objectInit, .instanceMethod objectInit, .code objectInit ⟨#[0xb1]⟩ 1 none, .arrayClass .int, .fieldLink RX1 7 "CapStoreModel" "memory" "[I", .fieldLink RX1 13 "CapStoreModel" "disk" "[I", .arrayClass .boolean, .fieldLink RX1 16 "CapStoreModel" "stored" "[Z", .fieldLink RX1 20 "CapStoreModel" "endless" "Z"] ++ wsX10)
def wsX1_eight : List Cond := .code yX1_eight cX1_eight 1 (some .boolean) :: ([])
def wsX1_third : List Cond := .code yX1_third cX1_third 1 (some .boolean) :: ([])
def wsX1_object : List Cond := .code yX1_object cX1_object 1 (some .int) :: ([])
def wsX1_limits : List Cond := .code yX1_limits cX1_limits 1 (some .int) :: ([])
def wsX1_limited : List Cond := .code yX1_limited cX1_limited 2 (some .int) :: ([.methodLink RX1 24 yX1_limits, .static yX1_limits, .initialized RX1, .code yX1_limits cX1_limits 1 (some .int)])
def wsX1_put : List Cond := .code yX1_put cX1_put 4 none :: ([.fieldLink RX1 7 "CapStoreModel" "memory" "[I", .fieldLink RX1 16 "CapStoreModel" "stored" "[Z"] ++ wsX10)
def wsX1_place : List Cond := .code yX1_place cX1_place 4 (some .int) :: ([.fieldLink RX1 28 "CapStoreModel" "down" "Z", .methodLink RX1 31 yX1_eight, .static yX1_eight, .initialized RX1, .code yX1_eight cX1_eight 1 (some .boolean), .methodLink RX1 35 yX1_put, .instanceMethod yX1_put, .selects RX1 yX1_put yX1_put, .code yX1_put cX1_put 4 none, .fieldLink RX1 7 "CapStoreModel" "memory" "[I", .fieldLink RX1 16 "CapStoreModel" "stored" "[Z"] ++ wsX10)
def wsX1_refusal : List Cond := .code yX1_refusal cX1_refusal 8 (some .int) :: ([.fieldLink RX1 28 "CapStoreModel" "down" "Z", .fieldLink RX1 7 "CapStoreModel" "memory" "[I", .methodLink RX1 39 yX1_third, .static yX1_third, .initialized RX1, .code yX1_third cX1_third 1 (some .boolean), .methodLink RX1 31 yX1_eight, .static yX1_eight, .code yX1_eight cX1_eight 1 (some .boolean), .methodLink RX1 42 yX1_object, .static yX1_object, .code yX1_object cX1_object 1 (some .int), .methodLink RX1 24 yX1_limits, .static yX1_limits, .code yX1_limits cX1_limits 1 (some .int)] ++ wsX10)
def wsX1_fetch_r1 : List Cond := [Cond.fieldLink RX1 7 "CapStoreModel" "memory" "[I", Cond.methodLink RX1 45 yX1_refusal, Cond.instanceMethod yX1_refusal, Cond.selects RX1 yX1_refusal yX1_refusal, Cond.initialized RX1, Cond.code yX1_refusal cX1_refusal 8 (some .int), Cond.fieldLink RX1 28 "CapStoreModel" "down" "Z", Cond.methodLink RX1 39 yX1_third, Cond.static yX1_third, Cond.code yX1_third cX1_third 1 (some .boolean), Cond.methodLink RX1 31 yX1_eight, Cond.static yX1_eight, Cond.code yX1_eight cX1_eight 1 (some .boolean), Cond.methodLink RX1 42 yX1_object, Cond.static yX1_object, Cond.code yX1_object cX1_object 1 (some .int), Cond.methodLink RX1 24 yX1_limits, Cond.static yX1_limits, Cond.code yX1_limits cX1_limits 1 (some .int), Cond.methodLink RX1 49 yX1_limited, Cond.static yX1_limited, Cond.code yX1_limited cX1_limited 2 (some .int), Cond.methodLink RX1 35 yX1_put, Cond.instanceMethod yX1_put]
def wsX1_fetch_r2 : List Cond := [Cond.selects RX1 yX1_put yX1_put, Cond.code yX1_put cX1_put 4 none, Cond.fieldLink RX1 16 "CapStoreModel" "stored" "[Z"]
def wsX1_fetch : List Cond := .code yX1_fetch cX1_fetch 8 (some .int) :: ((wsX1_fetch_r1 ++ wsX1_fetch_r2) ++ wsX10)
def wsX1_store : List Cond := .code yX1_store cX1_store 6 (some .int) :: ([.fieldLink RX1 7 "CapStoreModel" "memory" "[I", .methodLink RX1 45 yX1_refusal, .instanceMethod yX1_refusal, .selects RX1 yX1_refusal yX1_refusal, .initialized RX1, .code yX1_refusal cX1_refusal 8 (some .int), .fieldLink RX1 28 "CapStoreModel" "down" "Z", .methodLink RX1 39 yX1_third, .static yX1_third, .code yX1_third cX1_third 1 (some .boolean), .methodLink RX1 31 yX1_eight, .static yX1_eight, .code yX1_eight cX1_eight 1 (some .boolean), .methodLink RX1 42 yX1_object, .static yX1_object, .code yX1_object cX1_object 1 (some .int), .methodLink RX1 24 yX1_limits, .static yX1_limits, .code yX1_limits cX1_limits 1 (some .int), .methodLink RX1 35 yX1_put, .instanceMethod yX1_put, .selects RX1 yX1_put yX1_put, .code yX1_put cX1_put 4 none, .fieldLink RX1 16 "CapStoreModel" "stored" "[Z"] ++ wsX10)
def wsX1_read : List Cond := .code yX1_read cX1_read 5 (some .long) :: ([.constantLong RX1 53 (4294967296), .fieldLink RX1 7 "CapStoreModel" "memory" "[I", .methodLink RX1 45 yX1_refusal, .instanceMethod yX1_refusal, .selects RX1 yX1_refusal yX1_refusal, .initialized RX1, .code yX1_refusal cX1_refusal 8 (some .int), .fieldLink RX1 28 "CapStoreModel" "down" "Z", .methodLink RX1 39 yX1_third, .static yX1_third, .code yX1_third cX1_third 1 (some .boolean), .methodLink RX1 31 yX1_eight, .static yX1_eight, .code yX1_eight cX1_eight 1 (some .boolean), .methodLink RX1 42 yX1_object, .static yX1_object, .code yX1_object cX1_object 1 (some .int), .methodLink RX1 24 yX1_limits, .static yX1_limits, .code yX1_limits cX1_limits 1 (some .int)] ++ wsX10)
def wsX1_write : List Cond := .code yX1_write cX1_write 6 (some .int) :: ([.fieldLink RX1 7 "CapStoreModel" "memory" "[I", .methodLink RX1 45 yX1_refusal, .instanceMethod yX1_refusal, .selects RX1 yX1_refusal yX1_refusal, .initialized RX1, .code yX1_refusal cX1_refusal 8 (some .int), .fieldLink RX1 28 "CapStoreModel" "down" "Z", .methodLink RX1 39 yX1_third, .static yX1_third, .code yX1_third cX1_third 1 (some .boolean), .methodLink RX1 31 yX1_eight, .static yX1_eight, .code yX1_eight cX1_eight 1 (some .boolean), .methodLink RX1 42 yX1_object, .static yX1_object, .code yX1_object cX1_object 1 (some .int), .methodLink RX1 24 yX1_limits, .static yX1_limits, .code yX1_limits cX1_limits 1 (some .int), .methodLink RX1 35 yX1_put, .instanceMethod yX1_put, .selects RX1 yX1_put yX1_put, .code yX1_put cX1_put 4 none, .fieldLink RX1 16 "CapStoreModel" "stored" "[Z"] ++ wsX10)
def wsX1_restrict : List Cond := .code yX1_restrict cX1_restrict 5 (some .int) :: ([.fieldLink RX1 28 "CapStoreModel" "down" "Z", .fieldLink RX1 7 "CapStoreModel" "memory" "[I", .methodLink RX1 39 yX1_third, .static yX1_third, .initialized RX1, .code yX1_third cX1_third 1 (some .boolean), .methodLink RX1 31 yX1_eight, .static yX1_eight, .code yX1_eight cX1_eight 1 (some .boolean), .methodLink RX1 49 yX1_limited, .static yX1_limited, .code yX1_limited cX1_limited 2 (some .int), .methodLink RX1 24 yX1_limits, .static yX1_limits, .code yX1_limits cX1_limits 1 (some .int), .methodLink RX1 35 yX1_put, .instanceMethod yX1_put, .selects RX1 yX1_put yX1_put, .code yX1_put cX1_put 4 none, .fieldLink RX1 16 "CapStoreModel" "stored" "[Z"] ++ wsX10)
def wsX1_clear : List Cond := .code yX1_clear cX1_clear 3 (some .int) :: ([.fieldLink RX1 28 "CapStoreModel" "down" "Z", .methodLink RX1 39 yX1_third, .static yX1_third, .initialized RX1, .code yX1_third cX1_third 1 (some .boolean), .methodLink RX1 31 yX1_eight, .static yX1_eight, .code yX1_eight cX1_eight 1 (some .boolean), .methodLink RX1 35 yX1_put, .instanceMethod yX1_put, .selects RX1 yX1_put yX1_put, .code yX1_put cX1_put 4 none, .fieldLink RX1 7 "CapStoreModel" "memory" "[I", .fieldLink RX1 16 "CapStoreModel" "stored" "[Z"] ++ wsX10)
def wsX1_inSet : List Cond := .code yX1_inSet cX1_inSet 4 (some .int) :: ([])
def wsX1_member : List Cond := .code yX1_member cX1_member 5 (some .int) :: ([])
def wsX1_may : List Cond := .code yX1_may cX1_may 1 (some .boolean) :: ([.fieldLink RX1 20 "CapStoreModel" "endless" "Z", .fieldLink RX1 55 "CapStoreModel" "power" "I", .fieldLink RX1 28 "CapStoreModel" "down" "Z", .fieldLink RX1 59 "CapStoreModel" "writes" "I"] ++ wsX10)
def wsX1_header : List Cond := .code yX1_header cX1_header 2 none :: ([.fieldLink RX1 13 "CapStoreModel" "disk" "[I"] ++ wsX10)
def wsX1_dirty : List Cond := .code yX1_dirty cX1_dirty 3 (some .int) :: ([.fieldLink RX1 28 "CapStoreModel" "down" "Z", .fieldLink RX1 16 "CapStoreModel" "stored" "[Z"] ++ wsX10)
def wsX1_checkpoint_r1 : List Cond := [Cond.fieldLink RX1 28 "CapStoreModel" "down" "Z", Cond.fieldLink RX1 77 "CapStoreModel" "commits" "I", Cond.fieldLink RX1 13 "CapStoreModel" "disk" "[I", Cond.fieldLink RX1 7 "CapStoreModel" "memory" "[I", Cond.fieldLink RX1 16 "CapStoreModel" "stored" "[Z", Cond.methodLink RX1 62 yX1_dirty, Cond.instanceMethod yX1_dirty, Cond.selects RX1 yX1_dirty yX1_dirty, Cond.initialized RX1, Cond.code yX1_dirty cX1_dirty 3 (some .int), Cond.methodLink RX1 66 yX1_inSet, Cond.instanceMethod yX1_inSet, Cond.selects RX1 yX1_inSet yX1_inSet, Cond.code yX1_inSet cX1_inSet 4 (some .int), Cond.methodLink RX1 69 yX1_may, Cond.instanceMethod yX1_may, Cond.selects RX1 yX1_may yX1_may, Cond.code yX1_may cX1_may 1 (some .boolean), Cond.fieldLink RX1 20 "CapStoreModel" "endless" "Z", Cond.fieldLink RX1 55 "CapStoreModel" "power" "I", Cond.fieldLink RX1 59 "CapStoreModel" "writes" "I", Cond.methodLink RX1 73 yX1_header, Cond.instanceMethod yX1_header, Cond.selects RX1 yX1_header yX1_header]
def wsX1_checkpoint_r2 : List Cond := [Cond.code yX1_header cX1_header 2 none, Cond.methodLink RX1 80 yX1_member, Cond.instanceMethod yX1_member, Cond.selects RX1 yX1_member yX1_member, Cond.code yX1_member cX1_member 5 (some .int)]
def wsX1_checkpoint : List Cond := .code yX1_checkpoint cX1_checkpoint 7 (some .int) :: ((wsX1_checkpoint_r1 ++ wsX1_checkpoint_r2) ++ wsX10)
def wsX1_power : List Cond := .code yX1_power cX1_power 2 (some .int) :: ([.fieldLink RX1 28 "CapStoreModel" "down" "Z", .fieldLink RX1 20 "CapStoreModel" "endless" "Z", .fieldLink RX1 55 "CapStoreModel" "power" "I"] ++ wsX10)
def wsX1_crash : List Cond := .code yX1_crash cX1_crash 2 (some .boolean) :: ([.fieldLink RX1 28 "CapStoreModel" "down" "Z"] ++ wsX10)
def wsX1_start : List Cond := .code yX1_start cX1_start 7 (some .int) :: ([.fieldLink RX1 28 "CapStoreModel" "down" "Z", .fieldLink RX1 20 "CapStoreModel" "endless" "Z", .fieldLink RX1 55 "CapStoreModel" "power" "I", .fieldLink RX1 13 "CapStoreModel" "disk" "[I", .fieldLink RX1 7 "CapStoreModel" "memory" "[I", .fieldLink RX1 16 "CapStoreModel" "stored" "[Z", .methodLink RX1 66 yX1_inSet, .instanceMethod yX1_inSet, .selects RX1 yX1_inSet yX1_inSet, .initialized RX1, .code yX1_inSet cX1_inSet 4 (some .int), .methodLink RX1 69 yX1_may, .instanceMethod yX1_may, .selects RX1 yX1_may yX1_may, .code yX1_may cX1_may 1 (some .boolean), .fieldLink RX1 59 "CapStoreModel" "writes" "I", .methodLink RX1 73 yX1_header, .instanceMethod yX1_header, .selects RX1 yX1_header yX1_header, .code yX1_header cX1_header 2 none, .methodLink RX1 80 yX1_member, .instanceMethod yX1_member, .selects RX1 yX1_member yX1_member, .code yX1_member cX1_member 5 (some .int)] ++ wsX10)
def wsX1_isUp : List Cond := .code yX1_isUp cX1_isUp 1 (some .boolean) :: ([.fieldLink RX1 28 "CapStoreModel" "down" "Z"] ++ wsX10)
def wsX1_key : List Cond := .code yX1_key cX1_key 3 (some .int) :: ([.fieldLink RX1 28 "CapStoreModel" "down" "Z", .fieldLink RX1 7 "CapStoreModel" "memory" "[I", .methodLink RX1 31 yX1_eight, .static yX1_eight, .initialized RX1, .code yX1_eight cX1_eight 1 (some .boolean)] ++ wsX10)
def wsX1_word : List Cond := .code yX1_word cX1_word 3 (some .long) :: ([.fieldLink RX1 28 "CapStoreModel" "down" "Z", .constantLong RX1 83 (4294967295), .fieldLink RX1 7 "CapStoreModel" "memory" "[I", .constantLong RX1 85 (4294967294), .methodLink RX1 31 yX1_eight, .static yX1_eight, .initialized RX1, .code yX1_eight cX1_eight 1 (some .boolean)] ++ wsX10)
def wsX1_disk : List Cond := .code yX1_disk cX1_disk 3 (some .int) :: ([.fieldLink RX1 13 "CapStoreModel" "disk" "[I", .methodLink RX1 31 yX1_eight, .static yX1_eight, .initialized RX1, .code yX1_eight cX1_eight 1 (some .boolean)] ++ wsX10)
def wsX1_writes : List Cond := .code yX1_writes cX1_writes 1 (some .int) :: ([.fieldLink RX1 59 "CapStoreModel" "writes" "I"] ++ wsX10)
def wsX1_commits : List Cond := .code yX1_commits cX1_commits 1 (some .int) :: ([.fieldLink RX1 77 "CapStoreModel" "commits" "I"] ++ wsX10)
def wsL_law_r1 : List Cond := [Cond.classLink RL 7 RX0, Cond.instantiable RX0 8, Cond.initialized RX0, Cond.classLink RL 10 RX1, Cond.instantiable RX1 8, Cond.initialized RX1, Cond.methodLink RL 9 yX0_init, Cond.instanceMethod yX0_init, Cond.code yX0_init cX0_init 1 none, Cond.methodLink RX0 3 objectInit, Cond.instanceMethod objectInit, Cond.code objectInit ⟨#[0xb1]⟩ 1 none, Cond.arrayClass .int, Cond.fieldLink RX0 9 "CapStore" "memory" "[I", Cond.fieldLink RX0 13 "CapStore" "blocks" "[I", Cond.fieldLink RX0 16 "CapStore" "headerRow" "[I", Cond.fieldLink RX0 19 "CapStore" "dirtySet" "I", Cond.fieldLink RX0 23 "CapStore" "powerLeft" "I", Cond.fieldLink RX0 26 "CapStore" "running" "Z", Cond.fieldLink RX0 30 "CapStore" "written" "I", Cond.fieldLink RX0 33 "CapStore" "committed" "I", Cond.methodLink RL 12 yX1_init, Cond.instanceMethod yX1_init, Cond.code yX1_init cX1_init 1 none]
def wsL_law_r2 : List Cond := [Cond.methodLink RX1 1 objectInit, Cond.fieldLink RX1 7 "CapStoreModel" "memory" "[I", Cond.fieldLink RX1 13 "CapStoreModel" "disk" "[I", Cond.arrayClass .boolean, Cond.fieldLink RX1 16 "CapStoreModel" "stored" "[Z", Cond.fieldLink RX1 20 "CapStoreModel" "endless" "Z", Cond.methodLink RL 13 yX0_place, Cond.instanceMethod yX0_place, Cond.selects RX0 yX0_place yX0_place, Cond.code yX0_place cX0_place 5 (some .int), Cond.methodLink RX0 36 yX0_isNode, Cond.static yX0_isNode, Cond.code yX0_isNode cX0_isNode 1 (some .boolean), Cond.methodLink RX0 40 yX0_isInRow, Cond.static yX0_isInRow, Cond.code yX0_isInRow cX0_isInRow 1 (some .boolean), Cond.methodLink RX0 43 yX0_isKey, Cond.static yX0_isKey, Cond.code yX0_isKey cX0_isKey 1 (some .boolean), Cond.methodLink RX0 46 yX0_refusal, Cond.instanceMethod yX0_refusal, Cond.selects RX0 yX0_refusal yX0_refusal, Cond.code yX0_refusal cX0_refusal 2 (some .int), Cond.methodLink RX0 50 yX0_put]
def wsL_law_r3 : List Cond := [Cond.instanceMethod yX0_put, Cond.selects RX0 yX0_put yX0_put, Cond.code yX0_put cX0_put 4 none, Cond.methodLink RL 17 yX1_place, Cond.instanceMethod yX1_place, Cond.selects RX1 yX1_place yX1_place, Cond.code yX1_place cX1_place 4 (some .int), Cond.fieldLink RX1 28 "CapStoreModel" "down" "Z", Cond.methodLink RX1 31 yX1_eight, Cond.static yX1_eight, Cond.code yX1_eight cX1_eight 1 (some .boolean), Cond.methodLink RX1 35 yX1_put, Cond.instanceMethod yX1_put, Cond.selects RX1 yX1_put yX1_put, Cond.code yX1_put cX1_put 4 none, Cond.methodLink RL 18 yX0_fetch, Cond.instanceMethod yX0_fetch, Cond.selects RX0 yX0_fetch yX0_fetch, Cond.code yX0_fetch cX0_fetch 8 (some .int), Cond.methodLink RX0 54 yX0_nodeRefusal, Cond.instanceMethod yX0_nodeRefusal, Cond.selects RX0 yX0_nodeRefusal yX0_nodeRefusal, Cond.code yX0_nodeRefusal cX0_nodeRefusal 5 (some .int), Cond.methodLink RX0 80 yX0_isRegister]
def wsL_law_r4 : List Cond := [Cond.static yX0_isRegister, Cond.code yX0_isRegister cX0_isRegister 2 (some .boolean), Cond.methodLink RX0 58 yX0_get, Cond.instanceMethod yX0_get, Cond.selects RX0 yX0_get yX0_get, Cond.code yX0_get cX0_get 3 (some .int), Cond.methodLink RX0 106 yX0_isNodeKey, Cond.static yX0_isNodeKey, Cond.code yX0_isNodeKey cX0_isNodeKey 1 (some .boolean), Cond.methodLink RX0 62 yX0_objectOf, Cond.static yX0_objectOf, Cond.code yX0_objectOf cX0_objectOf 1 (some .int), Cond.methodLink RX0 66 yX0_isWeak, Cond.static yX0_isWeak, Cond.code yX0_isWeak cX0_isWeak 1 (some .boolean), Cond.methodLink RX0 112 yX0_limitsOf, Cond.static yX0_limitsOf, Cond.code yX0_limitsOf cX0_limitsOf 1 (some .int), Cond.methodLink RX0 69 yX0_limited, Cond.static yX0_limited, Cond.code yX0_limited cX0_limited 2 (some .int), Cond.methodLink RL 22 yX1_fetch, Cond.instanceMethod yX1_fetch, Cond.selects RX1 yX1_fetch yX1_fetch]
def wsL_law_r5 : List Cond := [Cond.code yX1_fetch cX1_fetch 8 (some .int), Cond.methodLink RX1 45 yX1_refusal, Cond.instanceMethod yX1_refusal, Cond.selects RX1 yX1_refusal yX1_refusal, Cond.code yX1_refusal cX1_refusal 8 (some .int), Cond.methodLink RX1 39 yX1_third, Cond.static yX1_third, Cond.code yX1_third cX1_third 1 (some .boolean), Cond.methodLink RX1 42 yX1_object, Cond.static yX1_object, Cond.code yX1_object cX1_object 1 (some .int), Cond.methodLink RX1 24 yX1_limits, Cond.static yX1_limits, Cond.code yX1_limits cX1_limits 1 (some .int), Cond.methodLink RX1 49 yX1_limited, Cond.static yX1_limited, Cond.code yX1_limited cX1_limited 2 (some .int), Cond.methodLink RL 23 yX0_store, Cond.instanceMethod yX0_store, Cond.selects RX0 yX0_store yX0_store, Cond.code yX0_store cX0_store 7 (some .int), Cond.methodLink RX0 72 yX0_isWriting, Cond.static yX0_isWriting, Cond.code yX0_isWriting cX0_isWriting 1 (some .boolean)]
def wsL_law_r6 : List Cond := [Cond.methodLink RL 26 yX1_store, Cond.instanceMethod yX1_store, Cond.selects RX1 yX1_store yX1_store, Cond.code yX1_store cX1_store 6 (some .int), Cond.methodLink RL 27 yX0_read, Cond.instanceMethod yX0_read, Cond.selects RX0 yX0_read yX0_read, Cond.code yX0_read cX0_read 5 (some .long), Cond.constantLong RX0 78 (4294967296), Cond.methodLink RX0 75 yX0_pageRefusal, Cond.instanceMethod yX0_pageRefusal, Cond.selects RX0 yX0_pageRefusal yX0_pageRefusal, Cond.code yX0_pageRefusal cX0_pageRefusal 5 (some .int), Cond.methodLink RX0 109 yX0_isPageKey, Cond.static yX0_isPageKey, Cond.code yX0_isPageKey cX0_isPageKey 1 (some .boolean), Cond.methodLink RL 31 yX1_read, Cond.instanceMethod yX1_read, Cond.selects RX1 yX1_read yX1_read, Cond.code yX1_read cX1_read 5 (some .long), Cond.constantLong RX1 53 (4294967296), Cond.methodLink RL 32 yX0_write, Cond.instanceMethod yX0_write, Cond.selects RX0 yX0_write yX0_write]
def wsL_law_r7 : List Cond := [Cond.code yX0_write cX0_write 7 (some .int), Cond.methodLink RL 35 yX1_write, Cond.instanceMethod yX1_write, Cond.selects RX1 yX1_write yX1_write, Cond.code yX1_write cX1_write 6 (some .int), Cond.methodLink RL 36 yX0_restrict, Cond.instanceMethod yX0_restrict, Cond.selects RX0 yX0_restrict yX0_restrict, Cond.code yX0_restrict cX0_restrict 6 (some .int), Cond.methodLink RX0 84 yX0_isLimits, Cond.static yX0_isLimits, Cond.code yX0_isLimits cX0_isLimits 1 (some .boolean), Cond.methodLink RL 39 yX1_restrict, Cond.instanceMethod yX1_restrict, Cond.selects RX1 yX1_restrict yX1_restrict, Cond.code yX1_restrict cX1_restrict 5 (some .int), Cond.methodLink RL 40 yX0_clear, Cond.instanceMethod yX0_clear, Cond.selects RX0 yX0_clear yX0_clear, Cond.code yX0_clear cX0_clear 4 (some .int), Cond.methodLink RL 44 yX1_clear, Cond.instanceMethod yX1_clear, Cond.selects RX1 yX1_clear yX1_clear, Cond.code yX1_clear cX1_clear 3 (some .int)]
def wsL_law_r8 : List Cond := [Cond.methodLink RL 45 yX0_checkpoint, Cond.instanceMethod yX0_checkpoint, Cond.selects RX0 yX0_checkpoint yX0_checkpoint, Cond.code yX0_checkpoint cX0_checkpoint 2 (some .int), Cond.methodLink RX0 87 yX0_saveDirty, Cond.instanceMethod yX0_saveDirty, Cond.selects RX0 yX0_saveDirty yX0_saveDirty, Cond.code yX0_saveDirty cX0_saveDirty 1 (some .boolean), Cond.methodLink RX0 115 yX0_copyRows, Cond.instanceMethod yX0_copyRows, Cond.selects RX0 yX0_copyRows yX0_copyRows, Cond.code yX0_copyRows cX0_copyRows 6 (some .boolean), Cond.methodLink RX0 128 yX0_has, Cond.static yX0_has, Cond.code yX0_has cX0_has 2 (some .boolean), Cond.methodLink RX0 131 yX0_writeBlock, Cond.instanceMethod yX0_writeBlock, Cond.selects RX0 yX0_writeBlock yX0_writeBlock, Cond.code yX0_writeBlock cX0_writeBlock 4 (some .boolean), Cond.methodLink RX0 122 arraycopyName, Cond.native arraycopyName, Cond.static arraycopyName, Cond.initialized "java/lang/System", Cond.methodLink RX0 119 yX0_writeHeader]
def wsL_law_r9 : List Cond := [Cond.instanceMethod yX0_writeHeader, Cond.selects RX0 yX0_writeHeader yX0_writeHeader, Cond.code yX0_writeHeader cX0_writeHeader 2 (some .boolean), Cond.methodLink RL 49 yX1_checkpoint, Cond.instanceMethod yX1_checkpoint, Cond.selects RX1 yX1_checkpoint yX1_checkpoint, Cond.code yX1_checkpoint cX1_checkpoint 7 (some .int), Cond.fieldLink RX1 77 "CapStoreModel" "commits" "I", Cond.methodLink RX1 62 yX1_dirty, Cond.instanceMethod yX1_dirty, Cond.selects RX1 yX1_dirty yX1_dirty, Cond.code yX1_dirty cX1_dirty 3 (some .int), Cond.methodLink RX1 66 yX1_inSet, Cond.instanceMethod yX1_inSet, Cond.selects RX1 yX1_inSet yX1_inSet, Cond.code yX1_inSet cX1_inSet 4 (some .int), Cond.methodLink RX1 69 yX1_may, Cond.instanceMethod yX1_may, Cond.selects RX1 yX1_may yX1_may, Cond.code yX1_may cX1_may 1 (some .boolean), Cond.fieldLink RX1 55 "CapStoreModel" "power" "I", Cond.fieldLink RX1 59 "CapStoreModel" "writes" "I", Cond.methodLink RX1 73 yX1_header, Cond.instanceMethod yX1_header]
def wsL_law_r10 : List Cond := [Cond.selects RX1 yX1_header yX1_header, Cond.code yX1_header cX1_header 2 none, Cond.methodLink RX1 80 yX1_member, Cond.instanceMethod yX1_member, Cond.selects RX1 yX1_member yX1_member, Cond.code yX1_member cX1_member 5 (some .int), Cond.methodLink RL 50 yX0_power, Cond.instanceMethod yX0_power, Cond.selects RX0 yX0_power yX0_power, Cond.code yX0_power cX0_power 3 (some .int), Cond.methodLink RX0 91 yX0_isPower, Cond.static yX0_isPower, Cond.code yX0_isPower cX0_isPower 1 (some .boolean), Cond.methodLink RL 54 yX1_power, Cond.instanceMethod yX1_power, Cond.selects RX1 yX1_power yX1_power, Cond.code yX1_power cX1_power 2 (some .int), Cond.methodLink RL 55 yX0_crash, Cond.instanceMethod yX0_crash, Cond.selects RX0 yX0_crash yX0_crash, Cond.code yX0_crash cX0_crash 2 (some .boolean), Cond.methodLink RL 59 yX1_crash, Cond.instanceMethod yX1_crash, Cond.selects RX1 yX1_crash yX1_crash]
def wsL_law_r11 : List Cond := [Cond.code yX1_crash cX1_crash 2 (some .boolean), Cond.methodLink RL 60 yX0_start, Cond.instanceMethod yX0_start, Cond.selects RX0 yX0_start yX0_start, Cond.code yX0_start cX0_start 3 (some .int), Cond.methodLink RX0 94 yX0_finishCommitted, Cond.instanceMethod yX0_finishCommitted, Cond.selects RX0 yX0_finishCommitted yX0_finishCommitted, Cond.code yX0_finishCommitted cX0_finishCommitted 2 (some .boolean), Cond.methodLink RX0 97 yX0_loadHomes, Cond.instanceMethod yX0_loadHomes, Cond.selects RX0 yX0_loadHomes yX0_loadHomes, Cond.code yX0_loadHomes cX0_loadHomes 1 none, Cond.methodLink RL 63 yX1_start, Cond.instanceMethod yX1_start, Cond.selects RX1 yX1_start yX1_start, Cond.code yX1_start cX1_start 7 (some .int), Cond.methodLink RL 64 yX0_isUp, Cond.instanceMethod yX0_isUp, Cond.selects RX0 yX0_isUp yX0_isUp, Cond.code yX0_isUp cX0_isUp 1 (some .boolean), Cond.methodLink RL 67 yX1_isUp, Cond.instanceMethod yX1_isUp, Cond.selects RX1 yX1_isUp yX1_isUp]
def wsL_law_r12 : List Cond := [Cond.code yX1_isUp cX1_isUp 1 (some .boolean), Cond.methodLink RL 68 yX0_key, Cond.instanceMethod yX0_key, Cond.selects RX0 yX0_key yX0_key, Cond.code yX0_key cX0_key 4 (some .int), Cond.methodLink RL 71 yX1_key, Cond.instanceMethod yX1_key, Cond.selects RX1 yX1_key yX1_key, Cond.code yX1_key cX1_key 3 (some .int), Cond.methodLink RL 72 yX0_word, Cond.instanceMethod yX0_word, Cond.selects RX0 yX0_word yX0_word, Cond.code yX0_word cX0_word 4 (some .long), Cond.methodLink RX0 100 yX0_isPage, Cond.static yX0_isPage, Cond.code yX0_isPage cX0_isPage 1 (some .boolean), Cond.methodLink RL 76 yX1_word, Cond.instanceMethod yX1_word, Cond.selects RX1 yX1_word yX1_word, Cond.code yX1_word cX1_word 3 (some .long), Cond.constantLong RX1 83 (4294967295), Cond.constantLong RX1 85 (4294967294), Cond.methodLink RL 77 yX0_dirty, Cond.instanceMethod yX0_dirty]
def wsL_law_r13 : List Cond := [Cond.selects RX0 yX0_dirty yX0_dirty, Cond.code yX0_dirty cX0_dirty 1 (some .int), Cond.methodLink RL 80 yX1_dirty, Cond.methodLink RL 81 yX0_disk, Cond.instanceMethod yX0_disk, Cond.selects RX0 yX0_disk yX0_disk, Cond.code yX0_disk cX0_disk 3 (some .int), Cond.methodLink RX0 103 yX0_isBlock, Cond.static yX0_isBlock, Cond.code yX0_isBlock cX0_isBlock 1 (some .boolean), Cond.methodLink RL 84 yX1_disk, Cond.instanceMethod yX1_disk, Cond.selects RX1 yX1_disk yX1_disk, Cond.code yX1_disk cX1_disk 3 (some .int), Cond.methodLink RL 85 yX0_writes, Cond.instanceMethod yX0_writes, Cond.selects RX0 yX0_writes yX0_writes, Cond.code yX0_writes cX0_writes 1 (some .int), Cond.methodLink RL 88 yX1_writes, Cond.instanceMethod yX1_writes, Cond.selects RX1 yX1_writes yX1_writes, Cond.code yX1_writes cX1_writes 1 (some .int), Cond.methodLink RL 89 yX0_commits, Cond.instanceMethod yX0_commits]
def wsL_law_r14 : List Cond := [Cond.selects RX0 yX0_commits yX0_commits, Cond.code yX0_commits cX0_commits 1 (some .int), Cond.methodLink RL 92 yX1_commits, Cond.instanceMethod yX1_commits, Cond.selects RX1 yX1_commits yX1_commits, Cond.code yX1_commits cX1_commits 1 (some .int)]
def wsL_law : List Cond := (wsL_law_r1 ++ (wsL_law_r2 ++ (wsL_law_r3 ++ (wsL_law_r4 ++ (wsL_law_r5 ++ (wsL_law_r6 ++ (wsL_law_r7 ++ (wsL_law_r8 ++ (wsL_law_r9 ++ (wsL_law_r10 ++ (wsL_law_r11 ++ (wsL_law_r12 ++ (wsL_law_r13 ++ wsL_law_r14))))))))))))) ++ wsX00 ++ wsX10 ++ ([] : List Cond)
set_option maxRecDepth 20000 in
theorem wsL_law_in : ∀ w ∈ wsL_law, w ∈ lw_tbl := fun w h => (goodIn_p wsL_law [25, 28, 227, 58, 61, 64, 67, 71, 75, 258, 261, 265, 79, 83, 86, 90, 93, 96, 99, 102, 105, 269, 273, 276, 279, 282, 285, 109, 112, 289, 116, 120, 123, 293, 128, 298, 132, 135, 302, 139, 306, 143, 147, 151, 154, 158, 165, 310, 314, 318, 322, 326, 330, 169, 172, 334, 176, 338, 180, 184, 188, 342, 192, 346, 196, 350, 200, 203, 354, 207, 211, 214, 361, 218, 365, 222, 369] (by decide +kernel) (by decide +kernel) w h).1
theorem inlX0 : ∀ w ∈ wsX00, w ∈ wsL_law := fun _ h => List.mem_append_left _ (List.mem_append_left _ (List.mem_append_right _ h))
theorem inX0 : ∀ w ∈ wsX00, w ∈ lw_tbl := fun w h => wsL_law_in w (inlX0 w h)
theorem inlX1 : ∀ w ∈ wsX10, w ∈ wsL_law := fun _ h => List.mem_append_left _ (List.mem_append_right _ h)
theorem inX1 : ∀ w ∈ wsX10, w ∈ lw_tbl := fun w h => wsL_law_in w (inlX1 w h)
theorem inJ10 : ∀ w ∈ wsJ100, w ∈ lw_tbl := by decide +kernel
abbrev vwCl : List vw_C := [(RX0, TX0, 8), (RX1, TX1, 8)]
end
section
theorem dX0_init_0 : decode cX0_init 0 = .ok (.aload_n 0, 1) := by decide +kernel
theorem dX0_init_1 : decode cX0_init 1 = .ok (.invokespecial 3, 3) := by decide +kernel
theorem dX0_init_4 : decode cX0_init 4 = .ok (.aload_n 0, 1) := by decide +kernel
theorem dX0_init_5 : decode cX0_init 5 = .ok (.bipush 96, 2) := by decide +kernel
theorem dX0_init_7 : decode cX0_init 7 = .ok (.newarray .int, 2) := by decide +kernel
theorem dX0_init_9 : decode cX0_init 9 = .ok (.putfield 9, 3) := by decide +kernel
theorem dX0_init_12 : decode cX0_init 12 = .ok (.aload_n 0, 1) := by decide +kernel
theorem dX0_init_13 : decode cX0_init 13 = .ok (.sipush 200, 3) := by decide +kernel
theorem dX0_init_16 : decode cX0_init 16 = .ok (.newarray .int, 2) := by decide +kernel
theorem dX0_init_18 : decode cX0_init 18 = .ok (.putfield 13, 3) := by decide +kernel
theorem dX0_init_21 : decode cX0_init 21 = .ok (.aload_n 0, 1) := by decide +kernel
theorem dX0_init_22 : decode cX0_init 22 = .ok (.bipush 8, 2) := by decide +kernel
theorem dX0_init_24 : decode cX0_init 24 = .ok (.newarray .int, 2) := by decide +kernel
theorem dX0_init_26 : decode cX0_init 26 = .ok (.putfield 16, 3) := by decide +kernel
theorem dX0_init_29 : decode cX0_init 29 = .ok (.aload_n 0, 1) := by decide +kernel
theorem dX0_init_30 : decode cX0_init 30 = .ok (.iconst 0, 1) := by decide +kernel
theorem dX0_init_31 : decode cX0_init 31 = .ok (.putfield 19, 3) := by decide +kernel
theorem dX0_init_34 : decode cX0_init 34 = .ok (.aload_n 0, 1) := by decide +kernel
theorem dX0_init_35 : decode cX0_init 35 = .ok (.iconst (-1), 1) := by decide +kernel
theorem dX0_init_36 : decode cX0_init 36 = .ok (.putfield 23, 3) := by decide +kernel
theorem dX0_init_39 : decode cX0_init 39 = .ok (.aload_n 0, 1) := by decide +kernel
theorem dX0_init_40 : decode cX0_init 40 = .ok (.iconst 1, 1) := by decide +kernel
theorem dX0_init_41 : decode cX0_init 41 = .ok (.putfield 26, 3) := by decide +kernel
theorem dX0_init_44 : decode cX0_init 44 = .ok (.aload_n 0, 1) := by decide +kernel
theorem dX0_init_45 : decode cX0_init 45 = .ok (.iconst 0, 1) := by decide +kernel
theorem dX0_init_46 : decode cX0_init 46 = .ok (.putfield 30, 3) := by decide +kernel
theorem dX0_init_49 : decode cX0_init 49 = .ok (.aload_n 0, 1) := by decide +kernel
theorem dX0_init_50 : decode cX0_init 50 = .ok (.iconst 0, 1) := by decide +kernel
theorem dX0_init_51 : decode cX0_init 51 = .ok (.putfield 33, 3) := by decide +kernel
theorem dX0_init_54 : decode cX0_init 54 = .ok (.return_, 1) := by decide +kernel
set_option maxRecDepth 20000 in
theorem ggX0_place_X0_isNode : GoodIn wsX0_place wsX0_isNode := goodIn_r _ [4] (by decide +kernel) (by decide +kernel)
set_option maxRecDepth 20000 in
theorem gX0_place_X0_isNode : GoodIn wsX0_place (va_wsS RX0 36 yX0_isNode wsX0_isNode) := goodIn_app (goodIn_of _ (by decide +kernel)) ggX0_place_X0_isNode
set_option maxRecDepth 20000 in
theorem ggX0_place_X0_isInRow : GoodIn wsX0_place wsX0_isInRow := goodIn_r _ [7] (by decide +kernel) (by decide +kernel)
set_option maxRecDepth 20000 in
theorem gX0_place_X0_isInRow : GoodIn wsX0_place (va_wsS RX0 40 yX0_isInRow wsX0_isInRow) := goodIn_app (goodIn_of _ (by decide +kernel)) ggX0_place_X0_isInRow
set_option maxRecDepth 20000 in
theorem ggX0_place_X0_isKey : GoodIn wsX0_place wsX0_isKey := goodIn_r _ [10] (by decide +kernel) (by decide +kernel)
set_option maxRecDepth 20000 in
theorem gX0_place_X0_isKey : GoodIn wsX0_place (va_wsS RX0 43 yX0_isKey wsX0_isKey) := goodIn_app (goodIn_of _ (by decide +kernel)) ggX0_place_X0_isKey
set_option maxRecDepth 20000 in
theorem ggX0_place_X0_refusal : GoodIn wsX0_place wsX0_refusal := goodIn_r _ [14, 15, 22, 23, 24, 25, 26, 27, 28, 29] (by decide +kernel) (by decide +kernel)
set_option maxRecDepth 20000 in
theorem gX0_place_X0_refusal : GoodIn wsX0_place (wsV RX0 46 RX0 yX0_refusal wsX0_refusal) := goodIn_app (goodIn_of _ (by decide +kernel)) ggX0_place_X0_refusal
set_option maxRecDepth 20000 in
theorem ggX0_place_X0_put : GoodIn wsX0_place wsX0_put := goodIn_r _ [19, 20, 21, 22, 23, 24, 25, 26, 27, 28, 29] (by decide +kernel) (by decide +kernel)
set_option maxRecDepth 20000 in
theorem gX0_place_X0_put : GoodIn wsX0_place (wsV RX0 50 RX0 yX0_put wsX0_put) := goodIn_app (goodIn_of _ (by decide +kernel)) ggX0_place_X0_put
theorem dX0_place_0 : decode cX0_place 0 = .ok (.aload_n 0, 1) := by decide +kernel
theorem dX0_place_1 : decode cX0_place 1 = .ok (.iload_n 1, 1) := by decide +kernel
theorem dX0_place_2 : decode cX0_place 2 = .ok (.invokestatic 36, 3) := by decide +kernel
theorem dX0_place_5 : decode cX0_place 5 = .ok (.ifCond .eq 21, 3) := by decide +kernel
theorem dX0_place_8 : decode cX0_place 8 = .ok (.iload_n 2, 1) := by decide +kernel
theorem dX0_place_9 : decode cX0_place 9 = .ok (.invokestatic 40, 3) := by decide +kernel
theorem dX0_place_12 : decode cX0_place 12 = .ok (.ifCond .eq 14, 3) := by decide +kernel
theorem dX0_place_15 : decode cX0_place 15 = .ok (.iload_n 3, 1) := by decide +kernel
theorem dX0_place_16 : decode cX0_place 16 = .ok (.invokestatic 43, 3) := by decide +kernel
theorem dX0_place_19 : decode cX0_place 19 = .ok (.ifCond .eq 7, 3) := by decide +kernel
theorem dX0_place_22 : decode cX0_place 22 = .ok (.iconst 1, 1) := by decide +kernel
theorem dX0_place_23 : decode cX0_place 23 = .ok (.goto 4, 3) := by decide +kernel
theorem dX0_place_26 : decode cX0_place 26 = .ok (.iconst 0, 1) := by decide +kernel
theorem dX0_place_27 : decode cX0_place 27 = .ok (.invokevirtual 46, 3) := by decide +kernel
theorem dX0_place_30 : decode cX0_place 30 = .ok (.istore 4, 2) := by decide +kernel
theorem dX0_place_32 : decode cX0_place 32 = .ok (.iload 4, 2) := by decide +kernel
theorem dX0_place_34 : decode cX0_place 34 = .ok (.ifCond .eq 6, 3) := by decide +kernel
theorem dX0_place_37 : decode cX0_place 37 = .ok (.iload 4, 2) := by decide +kernel
theorem dX0_place_39 : decode cX0_place 39 = .ok (.ireturn, 1) := by decide +kernel
theorem dX0_place_40 : decode cX0_place 40 = .ok (.aload_n 0, 1) := by decide +kernel
theorem dX0_place_41 : decode cX0_place 41 = .ok (.iload_n 1, 1) := by decide +kernel
theorem dX0_place_42 : decode cX0_place 42 = .ok (.iload_n 2, 1) := by decide +kernel
theorem dX0_place_43 : decode cX0_place 43 = .ok (.iload_n 3, 1) := by decide +kernel
theorem dX0_place_44 : decode cX0_place 44 = .ok (.invokevirtual 50, 3) := by decide +kernel
theorem dX0_place_47 : decode cX0_place 47 = .ok (.iconst 0, 1) := by decide +kernel
theorem dX0_place_48 : decode cX0_place 48 = .ok (.ireturn, 1) := by decide +kernel
set_option maxRecDepth 20000 in
theorem ggX0_fetch_X0_isInRow : GoodIn wsX0_fetch wsX0_isInRow := goodIn_r _ [4] (by decide +kernel) (by decide +kernel)
set_option maxRecDepth 20000 in
theorem gX0_fetch_X0_isInRow : GoodIn wsX0_fetch (va_wsS RX0 40 yX0_isInRow wsX0_isInRow) := goodIn_app (goodIn_of _ (by decide +kernel)) ggX0_fetch_X0_isInRow
set_option maxRecDepth 20000 in
theorem ggX0_fetch_X0_nodeRefusal : GoodIn wsX0_fetch wsX0_nodeRefusal := goodIn_r _ [8, 9, 10, 3, 11, 1, 2, 4, 12, 13, 14, 15, 16, 17, 18, 19, 20, 21, 22, 23, 24, 42, 43, 44, 45, 46, 47, 48, 49] (by decide +kernel) (by decide +kernel)
set_option maxRecDepth 20000 in
theorem gX0_fetch_X0_nodeRefusal : GoodIn wsX0_fetch (wsV RX0 54 RX0 yX0_nodeRefusal wsX0_nodeRefusal) := goodIn_app (goodIn_of _ (by decide +kernel)) ggX0_fetch_X0_nodeRefusal
set_option maxRecDepth 20000 in
theorem ggX0_fetch_X0_get : GoodIn wsX0_fetch wsX0_get := goodIn_r _ [20, 21, 42, 43, 44, 45, 46, 47, 48, 49] (by decide +kernel) (by decide +kernel)
set_option maxRecDepth 20000 in
theorem gX0_fetch_X0_get : GoodIn wsX0_fetch (wsV RX0 58 RX0 yX0_get wsX0_get) := goodIn_app (goodIn_of _ (by decide +kernel)) ggX0_fetch_X0_get
set_option maxRecDepth 20000 in
theorem ggX0_fetch_X0_objectOf : GoodIn wsX0_fetch wsX0_objectOf := goodIn_r _ [27] (by decide +kernel) (by decide +kernel)
set_option maxRecDepth 20000 in
theorem gX0_fetch_X0_objectOf : GoodIn wsX0_fetch (va_wsS RX0 62 yX0_objectOf wsX0_objectOf) := goodIn_app (goodIn_of _ (by decide +kernel)) ggX0_fetch_X0_objectOf
set_option maxRecDepth 20000 in
theorem ggX0_fetch_X0_isWeak : GoodIn wsX0_fetch wsX0_isWeak := goodIn_r _ [30, 31, 32, 3, 33] (by decide +kernel) (by decide +kernel)
set_option maxRecDepth 20000 in
theorem gX0_fetch_X0_isWeak : GoodIn wsX0_fetch (va_wsS RX0 66 yX0_isWeak wsX0_isWeak) := goodIn_app (goodIn_of _ (by decide +kernel)) ggX0_fetch_X0_isWeak
set_option maxRecDepth 20000 in
theorem ggX0_fetch_X0_limited : GoodIn wsX0_fetch wsX0_limited := goodIn_r _ [36, 25, 26, 3, 27, 31, 32, 33] (by decide +kernel) (by decide +kernel)
set_option maxRecDepth 20000 in
theorem gX0_fetch_X0_limited : GoodIn wsX0_fetch (va_wsS RX0 69 yX0_limited wsX0_limited) := goodIn_app (goodIn_of _ (by decide +kernel)) ggX0_fetch_X0_limited
set_option maxRecDepth 20000 in
theorem ggX0_fetch_X0_put : GoodIn wsX0_fetch wsX0_put := goodIn_r _ [40, 21, 41, 42, 43, 44, 45, 46, 47, 48, 49] (by decide +kernel) (by decide +kernel)
set_option maxRecDepth 20000 in
theorem gX0_fetch_X0_put : GoodIn wsX0_fetch (wsV RX0 50 RX0 yX0_put wsX0_put) := goodIn_app (goodIn_of _ (by decide +kernel)) ggX0_fetch_X0_put
theorem dX0_fetch_0 : decode cX0_fetch 0 = .ok (.aload_n 0, 1) := by decide +kernel
theorem dX0_fetch_1 : decode cX0_fetch 1 = .ok (.iload_n 1, 1) := by decide +kernel
theorem dX0_fetch_2 : decode cX0_fetch 2 = .ok (.iload_n 2, 1) := by decide +kernel
theorem dX0_fetch_3 : decode cX0_fetch 3 = .ok (.iload_n 3, 1) := by decide +kernel
theorem dX0_fetch_4 : decode cX0_fetch 4 = .ok (.invokestatic 40, 3) := by decide +kernel
theorem dX0_fetch_7 : decode cX0_fetch 7 = .ok (.ifCond .eq 15, 3) := by decide +kernel
theorem dX0_fetch_10 : decode cX0_fetch 10 = .ok (.iload 4, 2) := by decide +kernel
theorem dX0_fetch_12 : decode cX0_fetch 12 = .ok (.invokestatic 40, 3) := by decide +kernel
theorem dX0_fetch_15 : decode cX0_fetch 15 = .ok (.ifCond .eq 7, 3) := by decide +kernel
theorem dX0_fetch_18 : decode cX0_fetch 18 = .ok (.iconst 1, 1) := by decide +kernel
theorem dX0_fetch_19 : decode cX0_fetch 19 = .ok (.goto 4, 3) := by decide +kernel
theorem dX0_fetch_22 : decode cX0_fetch 22 = .ok (.iconst 0, 1) := by decide +kernel
theorem dX0_fetch_23 : decode cX0_fetch 23 = .ok (.invokevirtual 54, 3) := by decide +kernel
theorem dX0_fetch_26 : decode cX0_fetch 26 = .ok (.istore 5, 2) := by decide +kernel
theorem dX0_fetch_28 : decode cX0_fetch 28 = .ok (.iload 5, 2) := by decide +kernel
theorem dX0_fetch_30 : decode cX0_fetch 30 = .ok (.ifCond .eq 6, 3) := by decide +kernel
theorem dX0_fetch_33 : decode cX0_fetch 33 = .ok (.iload 5, 2) := by decide +kernel
theorem dX0_fetch_35 : decode cX0_fetch 35 = .ok (.ireturn, 1) := by decide +kernel
theorem dX0_fetch_36 : decode cX0_fetch 36 = .ok (.aload_n 0, 1) := by decide +kernel
theorem dX0_fetch_37 : decode cX0_fetch 37 = .ok (.iload_n 1, 1) := by decide +kernel
theorem dX0_fetch_38 : decode cX0_fetch 38 = .ok (.iload_n 2, 1) := by decide +kernel
theorem dX0_fetch_39 : decode cX0_fetch 39 = .ok (.invokevirtual 58, 3) := by decide +kernel
theorem dX0_fetch_42 : decode cX0_fetch 42 = .ok (.istore 6, 2) := by decide +kernel
theorem dX0_fetch_44 : decode cX0_fetch 44 = .ok (.aload_n 0, 1) := by decide +kernel
theorem dX0_fetch_45 : decode cX0_fetch 45 = .ok (.iload 6, 2) := by decide +kernel
theorem dX0_fetch_47 : decode cX0_fetch 47 = .ok (.invokestatic 62, 3) := by decide +kernel
theorem dX0_fetch_50 : decode cX0_fetch 50 = .ok (.iload_n 3, 1) := by decide +kernel
theorem dX0_fetch_51 : decode cX0_fetch 51 = .ok (.invokevirtual 58, 3) := by decide +kernel
theorem dX0_fetch_54 : decode cX0_fetch 54 = .ok (.istore 7, 2) := by decide +kernel
theorem dX0_fetch_56 : decode cX0_fetch 56 = .ok (.aload_n 0, 1) := by decide +kernel
theorem dX0_fetch_57 : decode cX0_fetch 57 = .ok (.iload_n 1, 1) := by decide +kernel
theorem dX0_fetch_58 : decode cX0_fetch 58 = .ok (.iload 4, 2) := by decide +kernel
theorem dX0_fetch_60 : decode cX0_fetch 60 = .ok (.iload 6, 2) := by decide +kernel
theorem dX0_fetch_62 : decode cX0_fetch 62 = .ok (.invokestatic 66, 3) := by decide +kernel
theorem dX0_fetch_65 : decode cX0_fetch 65 = .ok (.ifCond .eq 12, 3) := by decide +kernel
theorem dX0_fetch_68 : decode cX0_fetch 68 = .ok (.iload 7, 2) := by decide +kernel
theorem dX0_fetch_70 : decode cX0_fetch 70 = .ok (.iconst 3, 1) := by decide +kernel
theorem dX0_fetch_71 : decode cX0_fetch 71 = .ok (.invokestatic 69, 3) := by decide +kernel
theorem dX0_fetch_74 : decode cX0_fetch 74 = .ok (.goto 5, 3) := by decide +kernel
theorem dX0_fetch_77 : decode cX0_fetch 77 = .ok (.iload 7, 2) := by decide +kernel
theorem dX0_fetch_79 : decode cX0_fetch 79 = .ok (.invokevirtual 50, 3) := by decide +kernel
theorem dX0_fetch_82 : decode cX0_fetch 82 = .ok (.iconst 0, 1) := by decide +kernel
theorem dX0_fetch_83 : decode cX0_fetch 83 = .ok (.ireturn, 1) := by decide +kernel
set_option maxRecDepth 20000 in
theorem ggX0_store_X0_isInRow : GoodIn wsX0_store wsX0_isInRow := goodIn_r _ [4] (by decide +kernel) (by decide +kernel)
set_option maxRecDepth 20000 in
theorem gX0_store_X0_isInRow : GoodIn wsX0_store (va_wsS RX0 40 yX0_isInRow wsX0_isInRow) := goodIn_app (goodIn_of _ (by decide +kernel)) ggX0_store_X0_isInRow
set_option maxRecDepth 20000 in
theorem ggX0_store_X0_nodeRefusal : GoodIn wsX0_store wsX0_nodeRefusal := goodIn_r _ [8, 9, 10, 3, 11, 1, 2, 4, 12, 13, 14, 15, 16, 17, 18, 19, 20, 21, 22, 23, 24, 39, 40, 41, 42, 43, 44, 45, 46] (by decide +kernel) (by decide +kernel)
set_option maxRecDepth 20000 in
theorem gX0_store_X0_nodeRefusal : GoodIn wsX0_store (wsV RX0 54 RX0 yX0_nodeRefusal wsX0_nodeRefusal) := goodIn_app (goodIn_of _ (by decide +kernel)) ggX0_store_X0_nodeRefusal
set_option maxRecDepth 20000 in
theorem ggX0_store_X0_get : GoodIn wsX0_store wsX0_get := goodIn_r _ [20, 21, 39, 40, 41, 42, 43, 44, 45, 46] (by decide +kernel) (by decide +kernel)
set_option maxRecDepth 20000 in
theorem gX0_store_X0_get : GoodIn wsX0_store (wsV RX0 58 RX0 yX0_get wsX0_get) := goodIn_app (goodIn_of _ (by decide +kernel)) ggX0_store_X0_get
set_option maxRecDepth 20000 in
theorem ggX0_store_X0_isWriting : GoodIn wsX0_store wsX0_isWriting := goodIn_r _ [27, 28, 29, 3, 30] (by decide +kernel) (by decide +kernel)
set_option maxRecDepth 20000 in
theorem gX0_store_X0_isWriting : GoodIn wsX0_store (va_wsS RX0 72 yX0_isWriting wsX0_isWriting) := goodIn_app (goodIn_of _ (by decide +kernel)) ggX0_store_X0_isWriting
set_option maxRecDepth 20000 in
theorem ggX0_store_X0_objectOf : GoodIn wsX0_store wsX0_objectOf := goodIn_r _ [33] (by decide +kernel) (by decide +kernel)
set_option maxRecDepth 20000 in
theorem gX0_store_X0_objectOf : GoodIn wsX0_store (va_wsS RX0 62 yX0_objectOf wsX0_objectOf) := goodIn_app (goodIn_of _ (by decide +kernel)) ggX0_store_X0_objectOf
set_option maxRecDepth 20000 in
theorem ggX0_store_X0_put : GoodIn wsX0_store wsX0_put := goodIn_r _ [37, 21, 38, 39, 40, 41, 42, 43, 44, 45, 46] (by decide +kernel) (by decide +kernel)
set_option maxRecDepth 20000 in
theorem gX0_store_X0_put : GoodIn wsX0_store (wsV RX0 50 RX0 yX0_put wsX0_put) := goodIn_app (goodIn_of _ (by decide +kernel)) ggX0_store_X0_put
theorem dX0_store_0 : decode cX0_store 0 = .ok (.aload_n 0, 1) := by decide +kernel
theorem dX0_store_1 : decode cX0_store 1 = .ok (.iload_n 1, 1) := by decide +kernel
theorem dX0_store_2 : decode cX0_store 2 = .ok (.iload_n 2, 1) := by decide +kernel
theorem dX0_store_3 : decode cX0_store 3 = .ok (.iload_n 3, 1) := by decide +kernel
theorem dX0_store_4 : decode cX0_store 4 = .ok (.invokestatic 40, 3) := by decide +kernel
theorem dX0_store_7 : decode cX0_store 7 = .ok (.ifCond .eq 15, 3) := by decide +kernel
theorem dX0_store_10 : decode cX0_store 10 = .ok (.iload 4, 2) := by decide +kernel
theorem dX0_store_12 : decode cX0_store 12 = .ok (.invokestatic 40, 3) := by decide +kernel
theorem dX0_store_15 : decode cX0_store 15 = .ok (.ifCond .eq 7, 3) := by decide +kernel
theorem dX0_store_18 : decode cX0_store 18 = .ok (.iconst 1, 1) := by decide +kernel
theorem dX0_store_19 : decode cX0_store 19 = .ok (.goto 4, 3) := by decide +kernel
theorem dX0_store_22 : decode cX0_store 22 = .ok (.iconst 0, 1) := by decide +kernel
theorem dX0_store_23 : decode cX0_store 23 = .ok (.invokevirtual 54, 3) := by decide +kernel
theorem dX0_store_26 : decode cX0_store 26 = .ok (.istore 5, 2) := by decide +kernel
theorem dX0_store_28 : decode cX0_store 28 = .ok (.iload 5, 2) := by decide +kernel
theorem dX0_store_30 : decode cX0_store 30 = .ok (.ifCond .eq 6, 3) := by decide +kernel
theorem dX0_store_33 : decode cX0_store 33 = .ok (.iload 5, 2) := by decide +kernel
theorem dX0_store_35 : decode cX0_store 35 = .ok (.ireturn, 1) := by decide +kernel
theorem dX0_store_36 : decode cX0_store 36 = .ok (.aload_n 0, 1) := by decide +kernel
theorem dX0_store_37 : decode cX0_store 37 = .ok (.iload_n 1, 1) := by decide +kernel
theorem dX0_store_38 : decode cX0_store 38 = .ok (.iload_n 2, 1) := by decide +kernel
theorem dX0_store_39 : decode cX0_store 39 = .ok (.invokevirtual 58, 3) := by decide +kernel
theorem dX0_store_42 : decode cX0_store 42 = .ok (.istore 6, 2) := by decide +kernel
theorem dX0_store_44 : decode cX0_store 44 = .ok (.iload 6, 2) := by decide +kernel
theorem dX0_store_46 : decode cX0_store 46 = .ok (.invokestatic 72, 3) := by decide +kernel
theorem dX0_store_49 : decode cX0_store 49 = .ok (.ifCond .ne 6, 3) := by decide +kernel
theorem dX0_store_52 : decode cX0_store 52 = .ok (.bipush (-4), 2) := by decide +kernel
theorem dX0_store_54 : decode cX0_store 54 = .ok (.ireturn, 1) := by decide +kernel
theorem dX0_store_55 : decode cX0_store 55 = .ok (.aload_n 0, 1) := by decide +kernel
theorem dX0_store_56 : decode cX0_store 56 = .ok (.iload 6, 2) := by decide +kernel
theorem dX0_store_58 : decode cX0_store 58 = .ok (.invokestatic 62, 3) := by decide +kernel
theorem dX0_store_61 : decode cX0_store 61 = .ok (.iload_n 3, 1) := by decide +kernel
theorem dX0_store_62 : decode cX0_store 62 = .ok (.aload_n 0, 1) := by decide +kernel
theorem dX0_store_63 : decode cX0_store 63 = .ok (.iload_n 1, 1) := by decide +kernel
theorem dX0_store_64 : decode cX0_store 64 = .ok (.iload 4, 2) := by decide +kernel
theorem dX0_store_66 : decode cX0_store 66 = .ok (.invokevirtual 58, 3) := by decide +kernel
theorem dX0_store_69 : decode cX0_store 69 = .ok (.invokevirtual 50, 3) := by decide +kernel
theorem dX0_store_72 : decode cX0_store 72 = .ok (.iconst 0, 1) := by decide +kernel
theorem dX0_store_73 : decode cX0_store 73 = .ok (.ireturn, 1) := by decide +kernel
set_option maxRecDepth 20000 in
theorem ggX0_read_X0_isInRow : GoodIn wsX0_read wsX0_isInRow := goodIn_r _ [5] (by decide +kernel) (by decide +kernel)
set_option maxRecDepth 20000 in
theorem gX0_read_X0_isInRow : GoodIn wsX0_read (va_wsS RX0 40 yX0_isInRow wsX0_isInRow) := goodIn_app (goodIn_of _ (by decide +kernel)) ggX0_read_X0_isInRow
set_option maxRecDepth 20000 in
theorem ggX0_read_X0_pageRefusal : GoodIn wsX0_read wsX0_pageRefusal := goodIn_r _ [9, 10, 11, 4, 12, 2, 3, 5, 13, 14, 15, 16, 17, 18, 19, 20, 21, 22, 23, 24, 25, 29, 30, 31, 32, 33, 34, 35, 36] (by decide +kernel) (by decide +kernel)
set_option maxRecDepth 20000 in
theorem gX0_read_X0_pageRefusal : GoodIn wsX0_read (wsV RX0 75 RX0 yX0_pageRefusal wsX0_pageRefusal) := goodIn_app (goodIn_of _ (by decide +kernel)) ggX0_read_X0_pageRefusal
set_option maxRecDepth 20000 in
theorem ggX0_read_X0_get : GoodIn wsX0_read wsX0_get := goodIn_r _ [21, 22, 29, 30, 31, 32, 33, 34, 35, 36] (by decide +kernel) (by decide +kernel)
set_option maxRecDepth 20000 in
theorem gX0_read_X0_get : GoodIn wsX0_read (wsV RX0 58 RX0 yX0_get wsX0_get) := goodIn_app (goodIn_of _ (by decide +kernel)) ggX0_read_X0_get
set_option maxRecDepth 20000 in
theorem ggX0_read_X0_objectOf : GoodIn wsX0_read wsX0_objectOf := goodIn_r _ [28] (by decide +kernel) (by decide +kernel)
set_option maxRecDepth 20000 in
theorem gX0_read_X0_objectOf : GoodIn wsX0_read (va_wsS RX0 62 yX0_objectOf wsX0_objectOf) := goodIn_app (goodIn_of _ (by decide +kernel)) ggX0_read_X0_objectOf
theorem dX0_read_0 : decode cX0_read 0 = .ok (.aload_n 0, 1) := by decide +kernel
theorem dX0_read_1 : decode cX0_read 1 = .ok (.iload_n 1, 1) := by decide +kernel
theorem dX0_read_2 : decode cX0_read 2 = .ok (.iload_n 2, 1) := by decide +kernel
theorem dX0_read_3 : decode cX0_read 3 = .ok (.iload_n 3, 1) := by decide +kernel
theorem dX0_read_4 : decode cX0_read 4 = .ok (.invokestatic 40, 3) := by decide +kernel
theorem dX0_read_7 : decode cX0_read 7 = .ok (.invokevirtual 75, 3) := by decide +kernel
theorem dX0_read_10 : decode cX0_read 10 = .ok (.istore 4, 2) := by decide +kernel
theorem dX0_read_12 : decode cX0_read 12 = .ok (.iload 4, 2) := by decide +kernel
theorem dX0_read_14 : decode cX0_read 14 = .ok (.ifCond .eq 11, 3) := by decide +kernel
theorem dX0_read_17 : decode cX0_read 17 = .ok (.ldc2_w 78, 3) := by decide +kernel
theorem dX0_read_20 : decode cX0_read 20 = .ok (.iload 4, 2) := by decide +kernel
theorem dX0_read_22 : decode cX0_read 22 = .ok (.i2l, 1) := by decide +kernel
theorem dX0_read_23 : decode cX0_read 23 = .ok (.ladd, 1) := by decide +kernel
theorem dX0_read_24 : decode cX0_read 24 = .ok (.lreturn, 1) := by decide +kernel
theorem dX0_read_25 : decode cX0_read 25 = .ok (.aload_n 0, 1) := by decide +kernel
theorem dX0_read_26 : decode cX0_read 26 = .ok (.aload_n 0, 1) := by decide +kernel
theorem dX0_read_27 : decode cX0_read 27 = .ok (.iload_n 1, 1) := by decide +kernel
theorem dX0_read_28 : decode cX0_read 28 = .ok (.iload_n 2, 1) := by decide +kernel
theorem dX0_read_29 : decode cX0_read 29 = .ok (.invokevirtual 58, 3) := by decide +kernel
theorem dX0_read_32 : decode cX0_read 32 = .ok (.invokestatic 62, 3) := by decide +kernel
theorem dX0_read_35 : decode cX0_read 35 = .ok (.iload_n 3, 1) := by decide +kernel
theorem dX0_read_36 : decode cX0_read 36 = .ok (.invokevirtual 58, 3) := by decide +kernel
theorem dX0_read_39 : decode cX0_read 39 = .ok (.i2l, 1) := by decide +kernel
theorem dX0_read_40 : decode cX0_read 40 = .ok (.lreturn, 1) := by decide +kernel
set_option maxRecDepth 20000 in
theorem ggX0_write_X0_isInRow : GoodIn wsX0_write wsX0_isInRow := goodIn_r _ [4] (by decide +kernel) (by decide +kernel)
set_option maxRecDepth 20000 in
theorem gX0_write_X0_isInRow : GoodIn wsX0_write (va_wsS RX0 40 yX0_isInRow wsX0_isInRow) := goodIn_app (goodIn_of _ (by decide +kernel)) ggX0_write_X0_isInRow
set_option maxRecDepth 20000 in
theorem ggX0_write_X0_pageRefusal : GoodIn wsX0_write wsX0_pageRefusal := goodIn_r _ [8, 9, 10, 3, 11, 1, 2, 4, 12, 13, 14, 15, 16, 17, 18, 19, 20, 21, 22, 23, 24, 39, 40, 41, 42, 43, 44, 45, 46] (by decide +kernel) (by decide +kernel)
set_option maxRecDepth 20000 in
theorem gX0_write_X0_pageRefusal : GoodIn wsX0_write (wsV RX0 75 RX0 yX0_pageRefusal wsX0_pageRefusal) := goodIn_app (goodIn_of _ (by decide +kernel)) ggX0_write_X0_pageRefusal
set_option maxRecDepth 20000 in
theorem ggX0_write_X0_get : GoodIn wsX0_write wsX0_get := goodIn_r _ [20, 21, 39, 40, 41, 42, 43, 44, 45, 46] (by decide +kernel) (by decide +kernel)
set_option maxRecDepth 20000 in
theorem gX0_write_X0_get : GoodIn wsX0_write (wsV RX0 58 RX0 yX0_get wsX0_get) := goodIn_app (goodIn_of _ (by decide +kernel)) ggX0_write_X0_get
set_option maxRecDepth 20000 in
theorem ggX0_write_X0_isWriting : GoodIn wsX0_write wsX0_isWriting := goodIn_r _ [27, 28, 29, 3, 30] (by decide +kernel) (by decide +kernel)
set_option maxRecDepth 20000 in
theorem gX0_write_X0_isWriting : GoodIn wsX0_write (va_wsS RX0 72 yX0_isWriting wsX0_isWriting) := goodIn_app (goodIn_of _ (by decide +kernel)) ggX0_write_X0_isWriting
set_option maxRecDepth 20000 in
theorem ggX0_write_X0_objectOf : GoodIn wsX0_write wsX0_objectOf := goodIn_r _ [33] (by decide +kernel) (by decide +kernel)
set_option maxRecDepth 20000 in
theorem gX0_write_X0_objectOf : GoodIn wsX0_write (va_wsS RX0 62 yX0_objectOf wsX0_objectOf) := goodIn_app (goodIn_of _ (by decide +kernel)) ggX0_write_X0_objectOf
set_option maxRecDepth 20000 in
theorem ggX0_write_X0_put : GoodIn wsX0_write wsX0_put := goodIn_r _ [37, 21, 38, 39, 40, 41, 42, 43, 44, 45, 46] (by decide +kernel) (by decide +kernel)
set_option maxRecDepth 20000 in
theorem gX0_write_X0_put : GoodIn wsX0_write (wsV RX0 50 RX0 yX0_put wsX0_put) := goodIn_app (goodIn_of _ (by decide +kernel)) ggX0_write_X0_put
theorem dX0_write_0 : decode cX0_write 0 = .ok (.aload_n 0, 1) := by decide +kernel
theorem dX0_write_1 : decode cX0_write 1 = .ok (.iload_n 1, 1) := by decide +kernel
theorem dX0_write_2 : decode cX0_write 2 = .ok (.iload_n 2, 1) := by decide +kernel
theorem dX0_write_3 : decode cX0_write 3 = .ok (.iload_n 3, 1) := by decide +kernel
theorem dX0_write_4 : decode cX0_write 4 = .ok (.invokestatic 40, 3) := by decide +kernel
theorem dX0_write_7 : decode cX0_write 7 = .ok (.invokevirtual 75, 3) := by decide +kernel
theorem dX0_write_10 : decode cX0_write 10 = .ok (.istore 5, 2) := by decide +kernel
theorem dX0_write_12 : decode cX0_write 12 = .ok (.iload 5, 2) := by decide +kernel
theorem dX0_write_14 : decode cX0_write 14 = .ok (.ifCond .eq 6, 3) := by decide +kernel
theorem dX0_write_17 : decode cX0_write 17 = .ok (.iload 5, 2) := by decide +kernel
theorem dX0_write_19 : decode cX0_write 19 = .ok (.ireturn, 1) := by decide +kernel
theorem dX0_write_20 : decode cX0_write 20 = .ok (.aload_n 0, 1) := by decide +kernel
theorem dX0_write_21 : decode cX0_write 21 = .ok (.iload_n 1, 1) := by decide +kernel
theorem dX0_write_22 : decode cX0_write 22 = .ok (.iload_n 2, 1) := by decide +kernel
theorem dX0_write_23 : decode cX0_write 23 = .ok (.invokevirtual 58, 3) := by decide +kernel
theorem dX0_write_26 : decode cX0_write 26 = .ok (.istore 6, 2) := by decide +kernel
theorem dX0_write_28 : decode cX0_write 28 = .ok (.iload 6, 2) := by decide +kernel
theorem dX0_write_30 : decode cX0_write 30 = .ok (.invokestatic 72, 3) := by decide +kernel
theorem dX0_write_33 : decode cX0_write 33 = .ok (.ifCond .ne 6, 3) := by decide +kernel
theorem dX0_write_36 : decode cX0_write 36 = .ok (.bipush (-4), 2) := by decide +kernel
theorem dX0_write_38 : decode cX0_write 38 = .ok (.ireturn, 1) := by decide +kernel
theorem dX0_write_39 : decode cX0_write 39 = .ok (.aload_n 0, 1) := by decide +kernel
theorem dX0_write_40 : decode cX0_write 40 = .ok (.iload 6, 2) := by decide +kernel
theorem dX0_write_42 : decode cX0_write 42 = .ok (.invokestatic 62, 3) := by decide +kernel
theorem dX0_write_45 : decode cX0_write 45 = .ok (.iload_n 3, 1) := by decide +kernel
theorem dX0_write_46 : decode cX0_write 46 = .ok (.iload 4, 2) := by decide +kernel
theorem dX0_write_48 : decode cX0_write 48 = .ok (.invokevirtual 50, 3) := by decide +kernel
theorem dX0_write_51 : decode cX0_write 51 = .ok (.iconst 0, 1) := by decide +kernel
theorem dX0_write_52 : decode cX0_write 52 = .ok (.ireturn, 1) := by decide +kernel
set_option maxRecDepth 20000 in
theorem ggX0_restrict_X0_isRegister : GoodIn wsX0_restrict wsX0_isRegister := goodIn_r _ [4, 5, 6, 3, 7] (by decide +kernel) (by decide +kernel)
set_option maxRecDepth 20000 in
theorem gX0_restrict_X0_isRegister : GoodIn wsX0_restrict (va_wsS RX0 80 yX0_isRegister wsX0_isRegister) := goodIn_app (goodIn_of _ (by decide +kernel)) ggX0_restrict_X0_isRegister
set_option maxRecDepth 20000 in
theorem ggX0_restrict_X0_isLimits : GoodIn wsX0_restrict wsX0_isLimits := goodIn_r _ [10] (by decide +kernel) (by decide +kernel)
set_option maxRecDepth 20000 in
theorem gX0_restrict_X0_isLimits : GoodIn wsX0_restrict (va_wsS RX0 84 yX0_isLimits wsX0_isLimits) := goodIn_app (goodIn_of _ (by decide +kernel)) ggX0_restrict_X0_isLimits
set_option maxRecDepth 20000 in
theorem ggX0_restrict_X0_isInRow : GoodIn wsX0_restrict wsX0_isInRow := goodIn_r _ [7] (by decide +kernel) (by decide +kernel)
set_option maxRecDepth 20000 in
theorem gX0_restrict_X0_isInRow : GoodIn wsX0_restrict (va_wsS RX0 40 yX0_isInRow wsX0_isInRow) := goodIn_app (goodIn_of _ (by decide +kernel)) ggX0_restrict_X0_isInRow
set_option maxRecDepth 20000 in
theorem ggX0_restrict_X0_refusal : GoodIn wsX0_restrict wsX0_refusal := goodIn_r _ [14, 15, 35, 36, 37, 38, 39, 40, 41, 42] (by decide +kernel) (by decide +kernel)
set_option maxRecDepth 20000 in
theorem gX0_restrict_X0_refusal : GoodIn wsX0_restrict (wsV RX0 46 RX0 yX0_refusal wsX0_refusal) := goodIn_app (goodIn_of _ (by decide +kernel)) ggX0_restrict_X0_refusal
set_option maxRecDepth 20000 in
theorem ggX0_restrict_X0_get : GoodIn wsX0_restrict wsX0_get := goodIn_r _ [19, 20, 35, 36, 37, 38, 39, 40, 41, 42] (by decide +kernel) (by decide +kernel)
set_option maxRecDepth 20000 in
theorem gX0_restrict_X0_get : GoodIn wsX0_restrict (wsV RX0 58 RX0 yX0_get wsX0_get) := goodIn_app (goodIn_of _ (by decide +kernel)) ggX0_restrict_X0_get
set_option maxRecDepth 20000 in
theorem ggX0_restrict_X0_limited : GoodIn wsX0_restrict wsX0_limited := goodIn_r _ [23, 24, 25, 3, 26, 27, 28, 29] (by decide +kernel) (by decide +kernel)
set_option maxRecDepth 20000 in
theorem gX0_restrict_X0_limited : GoodIn wsX0_restrict (va_wsS RX0 69 yX0_limited wsX0_limited) := goodIn_app (goodIn_of _ (by decide +kernel)) ggX0_restrict_X0_limited
set_option maxRecDepth 20000 in
theorem ggX0_restrict_X0_put : GoodIn wsX0_restrict wsX0_put := goodIn_r _ [33, 20, 34, 35, 36, 37, 38, 39, 40, 41, 42] (by decide +kernel) (by decide +kernel)
set_option maxRecDepth 20000 in
theorem gX0_restrict_X0_put : GoodIn wsX0_restrict (wsV RX0 50 RX0 yX0_put wsX0_put) := goodIn_app (goodIn_of _ (by decide +kernel)) ggX0_restrict_X0_put
theorem dX0_restrict_0 : decode cX0_restrict 0 = .ok (.aload_n 0, 1) := by decide +kernel
theorem dX0_restrict_1 : decode cX0_restrict 1 = .ok (.iload_n 1, 1) := by decide +kernel
theorem dX0_restrict_2 : decode cX0_restrict 2 = .ok (.iload_n 2, 1) := by decide +kernel
theorem dX0_restrict_3 : decode cX0_restrict 3 = .ok (.invokestatic 80, 3) := by decide +kernel
theorem dX0_restrict_6 : decode cX0_restrict 6 = .ok (.ifCond .eq 22, 3) := by decide +kernel
theorem dX0_restrict_9 : decode cX0_restrict 9 = .ok (.iload_n 3, 1) := by decide +kernel
theorem dX0_restrict_10 : decode cX0_restrict 10 = .ok (.invokestatic 84, 3) := by decide +kernel
theorem dX0_restrict_13 : decode cX0_restrict 13 = .ok (.ifCond .eq 15, 3) := by decide +kernel
theorem dX0_restrict_16 : decode cX0_restrict 16 = .ok (.iload 4, 2) := by decide +kernel
theorem dX0_restrict_18 : decode cX0_restrict 18 = .ok (.invokestatic 40, 3) := by decide +kernel
theorem dX0_restrict_21 : decode cX0_restrict 21 = .ok (.ifCond .eq 7, 3) := by decide +kernel
theorem dX0_restrict_24 : decode cX0_restrict 24 = .ok (.iconst 1, 1) := by decide +kernel
theorem dX0_restrict_25 : decode cX0_restrict 25 = .ok (.goto 4, 3) := by decide +kernel
theorem dX0_restrict_28 : decode cX0_restrict 28 = .ok (.iconst 0, 1) := by decide +kernel
theorem dX0_restrict_29 : decode cX0_restrict 29 = .ok (.invokevirtual 46, 3) := by decide +kernel
theorem dX0_restrict_32 : decode cX0_restrict 32 = .ok (.istore 5, 2) := by decide +kernel
theorem dX0_restrict_34 : decode cX0_restrict 34 = .ok (.iload 5, 2) := by decide +kernel
theorem dX0_restrict_36 : decode cX0_restrict 36 = .ok (.ifCond .eq 6, 3) := by decide +kernel
theorem dX0_restrict_39 : decode cX0_restrict 39 = .ok (.iload 5, 2) := by decide +kernel
theorem dX0_restrict_41 : decode cX0_restrict 41 = .ok (.ireturn, 1) := by decide +kernel
theorem dX0_restrict_42 : decode cX0_restrict 42 = .ok (.aload_n 0, 1) := by decide +kernel
theorem dX0_restrict_43 : decode cX0_restrict 43 = .ok (.iload_n 1, 1) := by decide +kernel
theorem dX0_restrict_44 : decode cX0_restrict 44 = .ok (.iload 4, 2) := by decide +kernel
theorem dX0_restrict_46 : decode cX0_restrict 46 = .ok (.aload_n 0, 1) := by decide +kernel
theorem dX0_restrict_47 : decode cX0_restrict 47 = .ok (.iload_n 1, 1) := by decide +kernel
theorem dX0_restrict_48 : decode cX0_restrict 48 = .ok (.iload_n 2, 1) := by decide +kernel
theorem dX0_restrict_49 : decode cX0_restrict 49 = .ok (.invokevirtual 58, 3) := by decide +kernel
theorem dX0_restrict_52 : decode cX0_restrict 52 = .ok (.iload_n 3, 1) := by decide +kernel
theorem dX0_restrict_53 : decode cX0_restrict 53 = .ok (.invokestatic 69, 3) := by decide +kernel
theorem dX0_restrict_56 : decode cX0_restrict 56 = .ok (.invokevirtual 50, 3) := by decide +kernel
theorem dX0_restrict_59 : decode cX0_restrict 59 = .ok (.iconst 0, 1) := by decide +kernel
theorem dX0_restrict_60 : decode cX0_restrict 60 = .ok (.ireturn, 1) := by decide +kernel
set_option maxRecDepth 20000 in
theorem ggX0_clear_X0_isRegister : GoodIn wsX0_clear wsX0_isRegister := goodIn_r _ [4, 5, 6, 3, 7] (by decide +kernel) (by decide +kernel)
set_option maxRecDepth 20000 in
theorem gX0_clear_X0_isRegister : GoodIn wsX0_clear (va_wsS RX0 80 yX0_isRegister wsX0_isRegister) := goodIn_app (goodIn_of _ (by decide +kernel)) ggX0_clear_X0_isRegister
set_option maxRecDepth 20000 in
theorem ggX0_clear_X0_refusal : GoodIn wsX0_clear wsX0_refusal := goodIn_r _ [11, 12, 19, 20, 21, 22, 23, 24, 25, 26] (by decide +kernel) (by decide +kernel)
set_option maxRecDepth 20000 in
theorem gX0_clear_X0_refusal : GoodIn wsX0_clear (wsV RX0 46 RX0 yX0_refusal wsX0_refusal) := goodIn_app (goodIn_of _ (by decide +kernel)) ggX0_clear_X0_refusal
set_option maxRecDepth 20000 in
theorem ggX0_clear_X0_put : GoodIn wsX0_clear wsX0_put := goodIn_r _ [16, 17, 18, 19, 20, 21, 22, 23, 24, 25, 26] (by decide +kernel) (by decide +kernel)
set_option maxRecDepth 20000 in
theorem gX0_clear_X0_put : GoodIn wsX0_clear (wsV RX0 50 RX0 yX0_put wsX0_put) := goodIn_app (goodIn_of _ (by decide +kernel)) ggX0_clear_X0_put
theorem dX0_clear_0 : decode cX0_clear 0 = .ok (.aload_n 0, 1) := by decide +kernel
theorem dX0_clear_1 : decode cX0_clear 1 = .ok (.iload_n 1, 1) := by decide +kernel
theorem dX0_clear_2 : decode cX0_clear 2 = .ok (.iload_n 2, 1) := by decide +kernel
theorem dX0_clear_3 : decode cX0_clear 3 = .ok (.invokestatic 80, 3) := by decide +kernel
theorem dX0_clear_6 : decode cX0_clear 6 = .ok (.invokevirtual 46, 3) := by decide +kernel
theorem dX0_clear_9 : decode cX0_clear 9 = .ok (.istore_n 3, 1) := by decide +kernel
theorem dX0_clear_10 : decode cX0_clear 10 = .ok (.iload_n 3, 1) := by decide +kernel
theorem dX0_clear_11 : decode cX0_clear 11 = .ok (.ifCond .eq 5, 3) := by decide +kernel
theorem dX0_clear_14 : decode cX0_clear 14 = .ok (.iload_n 3, 1) := by decide +kernel
theorem dX0_clear_15 : decode cX0_clear 15 = .ok (.ireturn, 1) := by decide +kernel
theorem dX0_clear_16 : decode cX0_clear 16 = .ok (.aload_n 0, 1) := by decide +kernel
theorem dX0_clear_17 : decode cX0_clear 17 = .ok (.iload_n 1, 1) := by decide +kernel
theorem dX0_clear_18 : decode cX0_clear 18 = .ok (.iload_n 2, 1) := by decide +kernel
theorem dX0_clear_19 : decode cX0_clear 19 = .ok (.iconst 0, 1) := by decide +kernel
theorem dX0_clear_20 : decode cX0_clear 20 = .ok (.invokevirtual 50, 3) := by decide +kernel
theorem dX0_clear_23 : decode cX0_clear 23 = .ok (.iconst 0, 1) := by decide +kernel
theorem dX0_clear_24 : decode cX0_clear 24 = .ok (.ireturn, 1) := by decide +kernel
set_option maxRecDepth 20000 in
theorem ggX0_checkpoint_X0_saveDirty : GoodIn wsX0_checkpoint wsX0_saveDirty := goodIn_r _ [8, 3, 9, 10, 11, 12, 13, 7, 14, 15, 16, 17, 18, 19, 20, 21, 22, 1, 23, 24, 25, 26, 27, 2, 28, 29, 30, 31, 32, 33, 34, 35, 36, 37, 38, 39, 40] (by decide +kernel) (by decide +kernel)
set_option maxRecDepth 20000 in
theorem gX0_checkpoint_X0_saveDirty : GoodIn wsX0_checkpoint (wsV RX0 87 RX0 yX0_saveDirty wsX0_saveDirty) := goodIn_app (goodIn_of _ (by decide +kernel)) ggX0_checkpoint_X0_saveDirty
theorem dX0_checkpoint_0 : decode cX0_checkpoint 0 = .ok (.aload_n 0, 1) := by decide +kernel
theorem dX0_checkpoint_1 : decode cX0_checkpoint 1 = .ok (.getfield 26, 3) := by decide +kernel
theorem dX0_checkpoint_4 : decode cX0_checkpoint 4 = .ok (.ifCond .ne 5, 3) := by decide +kernel
theorem dX0_checkpoint_7 : decode cX0_checkpoint 7 = .ok (.iconst (-1), 1) := by decide +kernel
theorem dX0_checkpoint_8 : decode cX0_checkpoint 8 = .ok (.ireturn, 1) := by decide +kernel
theorem dX0_checkpoint_9 : decode cX0_checkpoint 9 = .ok (.aload_n 0, 1) := by decide +kernel
theorem dX0_checkpoint_10 : decode cX0_checkpoint 10 = .ok (.getfield 30, 3) := by decide +kernel
theorem dX0_checkpoint_13 : decode cX0_checkpoint 13 = .ok (.istore_n 1, 1) := by decide +kernel
theorem dX0_checkpoint_14 : decode cX0_checkpoint 14 = .ok (.aload_n 0, 1) := by decide +kernel
theorem dX0_checkpoint_15 : decode cX0_checkpoint 15 = .ok (.invokevirtual 87, 3) := by decide +kernel
theorem dX0_checkpoint_18 : decode cX0_checkpoint 18 = .ok (.ifCond .ne 6, 3) := by decide +kernel
theorem dX0_checkpoint_21 : decode cX0_checkpoint 21 = .ok (.bipush (-2), 2) := by decide +kernel
theorem dX0_checkpoint_23 : decode cX0_checkpoint 23 = .ok (.ireturn, 1) := by decide +kernel
theorem dX0_checkpoint_24 : decode cX0_checkpoint 24 = .ok (.aload_n 0, 1) := by decide +kernel
theorem dX0_checkpoint_25 : decode cX0_checkpoint 25 = .ok (.iconst 0, 1) := by decide +kernel
theorem dX0_checkpoint_26 : decode cX0_checkpoint 26 = .ok (.putfield 19, 3) := by decide +kernel
theorem dX0_checkpoint_29 : decode cX0_checkpoint 29 = .ok (.aload_n 0, 1) := by decide +kernel
theorem dX0_checkpoint_30 : decode cX0_checkpoint 30 = .ok (.getfield 30, 3) := by decide +kernel
theorem dX0_checkpoint_33 : decode cX0_checkpoint 33 = .ok (.iload_n 1, 1) := by decide +kernel
theorem dX0_checkpoint_34 : decode cX0_checkpoint 34 = .ok (.isub, 1) := by decide +kernel
theorem dX0_checkpoint_35 : decode cX0_checkpoint 35 = .ok (.ireturn, 1) := by decide +kernel
set_option maxRecDepth 20000 in
theorem ggX0_power_X0_isPower : GoodIn wsX0_power wsX0_isPower := goodIn_r _ [5] (by decide +kernel) (by decide +kernel)
set_option maxRecDepth 20000 in
theorem gX0_power_X0_isPower : GoodIn wsX0_power (va_wsS RX0 91 yX0_isPower wsX0_isPower) := goodIn_app (goodIn_of _ (by decide +kernel)) ggX0_power_X0_isPower
set_option maxRecDepth 20000 in
theorem ggX0_power_X0_refusal : GoodIn wsX0_power wsX0_refusal := goodIn_r _ [9, 10, 11, 12, 13, 14, 15, 16, 17, 18] (by decide +kernel) (by decide +kernel)
set_option maxRecDepth 20000 in
theorem gX0_power_X0_refusal : GoodIn wsX0_power (wsV RX0 46 RX0 yX0_refusal wsX0_refusal) := goodIn_app (goodIn_of _ (by decide +kernel)) ggX0_power_X0_refusal
theorem dX0_power_0 : decode cX0_power 0 = .ok (.aload_n 0, 1) := by decide +kernel
theorem dX0_power_1 : decode cX0_power 1 = .ok (.iload_n 1, 1) := by decide +kernel
theorem dX0_power_2 : decode cX0_power 2 = .ok (.invokestatic 91, 3) := by decide +kernel
theorem dX0_power_5 : decode cX0_power 5 = .ok (.invokevirtual 46, 3) := by decide +kernel
theorem dX0_power_8 : decode cX0_power 8 = .ok (.istore_n 2, 1) := by decide +kernel
theorem dX0_power_9 : decode cX0_power 9 = .ok (.iload_n 2, 1) := by decide +kernel
theorem dX0_power_10 : decode cX0_power 10 = .ok (.ifCond .eq 5, 3) := by decide +kernel
theorem dX0_power_13 : decode cX0_power 13 = .ok (.iload_n 2, 1) := by decide +kernel
theorem dX0_power_14 : decode cX0_power 14 = .ok (.ireturn, 1) := by decide +kernel
theorem dX0_power_15 : decode cX0_power 15 = .ok (.aload_n 0, 1) := by decide +kernel
theorem dX0_power_16 : decode cX0_power 16 = .ok (.iload_n 1, 1) := by decide +kernel
theorem dX0_power_17 : decode cX0_power 17 = .ok (.putfield 23, 3) := by decide +kernel
theorem dX0_power_20 : decode cX0_power 20 = .ok (.iconst 0, 1) := by decide +kernel
theorem dX0_power_21 : decode cX0_power 21 = .ok (.ireturn, 1) := by decide +kernel
theorem dX0_crash_0 : decode cX0_crash 0 = .ok (.aload_n 0, 1) := by decide +kernel
theorem dX0_crash_1 : decode cX0_crash 1 = .ok (.getfield 26, 3) := by decide +kernel
theorem dX0_crash_4 : decode cX0_crash 4 = .ok (.istore_n 1, 1) := by decide +kernel
theorem dX0_crash_5 : decode cX0_crash 5 = .ok (.aload_n 0, 1) := by decide +kernel
theorem dX0_crash_6 : decode cX0_crash 6 = .ok (.iconst 0, 1) := by decide +kernel
theorem dX0_crash_7 : decode cX0_crash 7 = .ok (.putfield 26, 3) := by decide +kernel
theorem dX0_crash_10 : decode cX0_crash 10 = .ok (.iload_n 1, 1) := by decide +kernel
theorem dX0_crash_11 : decode cX0_crash 11 = .ok (.ireturn, 1) := by decide +kernel
set_option maxRecDepth 20000 in
theorem ggX0_start_X0_isPower : GoodIn wsX0_start wsX0_isPower := goodIn_r _ [7] (by decide +kernel) (by decide +kernel)
set_option maxRecDepth 20000 in
theorem gX0_start_X0_isPower : GoodIn wsX0_start (va_wsS RX0 91 yX0_isPower wsX0_isPower) := goodIn_app (goodIn_of _ (by decide +kernel)) ggX0_start_X0_isPower
set_option maxRecDepth 20000 in
theorem ggX0_start_X0_finishCommitted : GoodIn wsX0_start wsX0_finishCommitted := goodIn_r _ [11, 12, 13, 14, 15, 6, 16, 17, 18, 19, 20, 21, 22, 23, 2, 1, 24, 25, 26, 27, 3, 28, 29, 30, 31, 32, 39, 40, 41, 42, 43, 44, 45, 46] (by decide +kernel) (by decide +kernel)
set_option maxRecDepth 20000 in
theorem gX0_start_X0_finishCommitted : GoodIn wsX0_start (wsV RX0 94 RX0 yX0_finishCommitted wsX0_finishCommitted) := goodIn_app (goodIn_of _ (by decide +kernel)) ggX0_start_X0_finishCommitted
set_option maxRecDepth 20000 in
theorem ggX0_start_X0_loadHomes : GoodIn wsX0_start wsX0_loadHomes := goodIn_r _ [36, 12, 37, 24, 25, 26, 27, 38, 39, 40, 41, 42, 43, 44, 45, 46] (by decide +kernel) (by decide +kernel)
set_option maxRecDepth 20000 in
theorem gX0_start_X0_loadHomes : GoodIn wsX0_start (wsV RX0 97 RX0 yX0_loadHomes wsX0_loadHomes) := goodIn_app (goodIn_of _ (by decide +kernel)) ggX0_start_X0_loadHomes
theorem dX0_start_0 : decode cX0_start 0 = .ok (.aload_n 0, 1) := by decide +kernel
theorem dX0_start_1 : decode cX0_start 1 = .ok (.getfield 26, 3) := by decide +kernel
theorem dX0_start_4 : decode cX0_start 4 = .ok (.ifCond .eq 5, 3) := by decide +kernel
theorem dX0_start_7 : decode cX0_start 7 = .ok (.iconst (-1), 1) := by decide +kernel
theorem dX0_start_8 : decode cX0_start 8 = .ok (.ireturn, 1) := by decide +kernel
theorem dX0_start_9 : decode cX0_start 9 = .ok (.iload_n 1, 1) := by decide +kernel
theorem dX0_start_10 : decode cX0_start 10 = .ok (.invokestatic 91, 3) := by decide +kernel
theorem dX0_start_13 : decode cX0_start 13 = .ok (.ifCond .ne 6, 3) := by decide +kernel
theorem dX0_start_16 : decode cX0_start 16 = .ok (.bipush (-2), 2) := by decide +kernel
theorem dX0_start_18 : decode cX0_start 18 = .ok (.ireturn, 1) := by decide +kernel
theorem dX0_start_19 : decode cX0_start 19 = .ok (.aload_n 0, 1) := by decide +kernel
theorem dX0_start_20 : decode cX0_start 20 = .ok (.iload_n 1, 1) := by decide +kernel
theorem dX0_start_21 : decode cX0_start 21 = .ok (.putfield 23, 3) := by decide +kernel
theorem dX0_start_24 : decode cX0_start 24 = .ok (.aload_n 0, 1) := by decide +kernel
theorem dX0_start_25 : decode cX0_start 25 = .ok (.getfield 30, 3) := by decide +kernel
theorem dX0_start_28 : decode cX0_start 28 = .ok (.istore_n 2, 1) := by decide +kernel
theorem dX0_start_29 : decode cX0_start 29 = .ok (.aload_n 0, 1) := by decide +kernel
theorem dX0_start_30 : decode cX0_start 30 = .ok (.invokevirtual 94, 3) := by decide +kernel
theorem dX0_start_33 : decode cX0_start 33 = .ok (.ifCond .ne 6, 3) := by decide +kernel
theorem dX0_start_36 : decode cX0_start 36 = .ok (.bipush (-3), 2) := by decide +kernel
theorem dX0_start_38 : decode cX0_start 38 = .ok (.ireturn, 1) := by decide +kernel
theorem dX0_start_39 : decode cX0_start 39 = .ok (.aload_n 0, 1) := by decide +kernel
theorem dX0_start_40 : decode cX0_start 40 = .ok (.invokevirtual 97, 3) := by decide +kernel
theorem dX0_start_43 : decode cX0_start 43 = .ok (.aload_n 0, 1) := by decide +kernel
theorem dX0_start_44 : decode cX0_start 44 = .ok (.iconst 1, 1) := by decide +kernel
theorem dX0_start_45 : decode cX0_start 45 = .ok (.putfield 26, 3) := by decide +kernel
theorem dX0_start_48 : decode cX0_start 48 = .ok (.aload_n 0, 1) := by decide +kernel
theorem dX0_start_49 : decode cX0_start 49 = .ok (.getfield 30, 3) := by decide +kernel
theorem dX0_start_52 : decode cX0_start 52 = .ok (.iload_n 2, 1) := by decide +kernel
theorem dX0_start_53 : decode cX0_start 53 = .ok (.isub, 1) := by decide +kernel
theorem dX0_start_54 : decode cX0_start 54 = .ok (.ireturn, 1) := by decide +kernel
theorem dX0_isUp_0 : decode cX0_isUp 0 = .ok (.aload_n 0, 1) := by decide +kernel
theorem dX0_isUp_1 : decode cX0_isUp 1 = .ok (.getfield 26, 3) := by decide +kernel
theorem dX0_isUp_4 : decode cX0_isUp 4 = .ok (.ireturn, 1) := by decide +kernel
set_option maxRecDepth 20000 in
theorem ggX0_key_X0_isNode : GoodIn wsX0_key wsX0_isNode := goodIn_r _ [4] (by decide +kernel) (by decide +kernel)
set_option maxRecDepth 20000 in
theorem gX0_key_X0_isNode : GoodIn wsX0_key (va_wsS RX0 36 yX0_isNode wsX0_isNode) := goodIn_app (goodIn_of _ (by decide +kernel)) ggX0_key_X0_isNode
set_option maxRecDepth 20000 in
theorem ggX0_key_X0_isInRow : GoodIn wsX0_key wsX0_isInRow := goodIn_r _ [7] (by decide +kernel) (by decide +kernel)
set_option maxRecDepth 20000 in
theorem gX0_key_X0_isInRow : GoodIn wsX0_key (va_wsS RX0 40 yX0_isInRow wsX0_isInRow) := goodIn_app (goodIn_of _ (by decide +kernel)) ggX0_key_X0_isInRow
set_option maxRecDepth 20000 in
theorem ggX0_key_X0_refusal : GoodIn wsX0_key wsX0_refusal := goodIn_r _ [11, 12, 18, 19, 20, 21, 22, 23, 24, 25] (by decide +kernel) (by decide +kernel)
set_option maxRecDepth 20000 in
theorem gX0_key_X0_refusal : GoodIn wsX0_key (wsV RX0 46 RX0 yX0_refusal wsX0_refusal) := goodIn_app (goodIn_of _ (by decide +kernel)) ggX0_key_X0_refusal
set_option maxRecDepth 20000 in
theorem ggX0_key_X0_get : GoodIn wsX0_key wsX0_get := goodIn_r _ [16, 17, 18, 19, 20, 21, 22, 23, 24, 25] (by decide +kernel) (by decide +kernel)
set_option maxRecDepth 20000 in
theorem gX0_key_X0_get : GoodIn wsX0_key (wsV RX0 58 RX0 yX0_get wsX0_get) := goodIn_app (goodIn_of _ (by decide +kernel)) ggX0_key_X0_get
theorem dX0_key_0 : decode cX0_key 0 = .ok (.aload_n 0, 1) := by decide +kernel
theorem dX0_key_1 : decode cX0_key 1 = .ok (.iload_n 1, 1) := by decide +kernel
theorem dX0_key_2 : decode cX0_key 2 = .ok (.invokestatic 36, 3) := by decide +kernel
theorem dX0_key_5 : decode cX0_key 5 = .ok (.ifCond .eq 14, 3) := by decide +kernel
theorem dX0_key_8 : decode cX0_key 8 = .ok (.iload_n 2, 1) := by decide +kernel
theorem dX0_key_9 : decode cX0_key 9 = .ok (.invokestatic 40, 3) := by decide +kernel
theorem dX0_key_12 : decode cX0_key 12 = .ok (.ifCond .eq 7, 3) := by decide +kernel
theorem dX0_key_15 : decode cX0_key 15 = .ok (.iconst 1, 1) := by decide +kernel
theorem dX0_key_16 : decode cX0_key 16 = .ok (.goto 4, 3) := by decide +kernel
theorem dX0_key_19 : decode cX0_key 19 = .ok (.iconst 0, 1) := by decide +kernel
theorem dX0_key_20 : decode cX0_key 20 = .ok (.invokevirtual 46, 3) := by decide +kernel
theorem dX0_key_23 : decode cX0_key 23 = .ok (.istore_n 3, 1) := by decide +kernel
theorem dX0_key_24 : decode cX0_key 24 = .ok (.iload_n 3, 1) := by decide +kernel
theorem dX0_key_25 : decode cX0_key 25 = .ok (.ifCond .eq 7, 3) := by decide +kernel
theorem dX0_key_28 : decode cX0_key 28 = .ok (.iload_n 3, 1) := by decide +kernel
theorem dX0_key_29 : decode cX0_key 29 = .ok (.goto 9, 3) := by decide +kernel
theorem dX0_key_32 : decode cX0_key 32 = .ok (.aload_n 0, 1) := by decide +kernel
theorem dX0_key_33 : decode cX0_key 33 = .ok (.iload_n 1, 1) := by decide +kernel
theorem dX0_key_34 : decode cX0_key 34 = .ok (.iload_n 2, 1) := by decide +kernel
theorem dX0_key_35 : decode cX0_key 35 = .ok (.invokevirtual 58, 3) := by decide +kernel
theorem dX0_key_38 : decode cX0_key 38 = .ok (.ireturn, 1) := by decide +kernel
set_option maxRecDepth 20000 in
theorem ggX0_word_X0_isPage : GoodIn wsX0_word wsX0_isPage := goodIn_r _ [5] (by decide +kernel) (by decide +kernel)
set_option maxRecDepth 20000 in
theorem gX0_word_X0_isPage : GoodIn wsX0_word (va_wsS RX0 100 yX0_isPage wsX0_isPage) := goodIn_app (goodIn_of _ (by decide +kernel)) ggX0_word_X0_isPage
set_option maxRecDepth 20000 in
theorem ggX0_word_X0_isInRow : GoodIn wsX0_word wsX0_isInRow := goodIn_r _ [8] (by decide +kernel) (by decide +kernel)
set_option maxRecDepth 20000 in
theorem gX0_word_X0_isInRow : GoodIn wsX0_word (va_wsS RX0 40 yX0_isInRow wsX0_isInRow) := goodIn_app (goodIn_of _ (by decide +kernel)) ggX0_word_X0_isInRow
set_option maxRecDepth 20000 in
theorem ggX0_word_X0_refusal : GoodIn wsX0_word wsX0_refusal := goodIn_r _ [12, 13, 19, 20, 21, 22, 23, 24, 25, 26] (by decide +kernel) (by decide +kernel)
set_option maxRecDepth 20000 in
theorem gX0_word_X0_refusal : GoodIn wsX0_word (wsV RX0 46 RX0 yX0_refusal wsX0_refusal) := goodIn_app (goodIn_of _ (by decide +kernel)) ggX0_word_X0_refusal
set_option maxRecDepth 20000 in
theorem ggX0_word_X0_get : GoodIn wsX0_word wsX0_get := goodIn_r _ [17, 18, 19, 20, 21, 22, 23, 24, 25, 26] (by decide +kernel) (by decide +kernel)
set_option maxRecDepth 20000 in
theorem gX0_word_X0_get : GoodIn wsX0_word (wsV RX0 58 RX0 yX0_get wsX0_get) := goodIn_app (goodIn_of _ (by decide +kernel)) ggX0_word_X0_get
theorem dX0_word_0 : decode cX0_word 0 = .ok (.aload_n 0, 1) := by decide +kernel
theorem dX0_word_1 : decode cX0_word 1 = .ok (.iload_n 1, 1) := by decide +kernel
theorem dX0_word_2 : decode cX0_word 2 = .ok (.invokestatic 100, 3) := by decide +kernel
theorem dX0_word_5 : decode cX0_word 5 = .ok (.ifCond .eq 14, 3) := by decide +kernel
theorem dX0_word_8 : decode cX0_word 8 = .ok (.iload_n 2, 1) := by decide +kernel
theorem dX0_word_9 : decode cX0_word 9 = .ok (.invokestatic 40, 3) := by decide +kernel
theorem dX0_word_12 : decode cX0_word 12 = .ok (.ifCond .eq 7, 3) := by decide +kernel
theorem dX0_word_15 : decode cX0_word 15 = .ok (.iconst 1, 1) := by decide +kernel
theorem dX0_word_16 : decode cX0_word 16 = .ok (.goto 4, 3) := by decide +kernel
theorem dX0_word_19 : decode cX0_word 19 = .ok (.iconst 0, 1) := by decide +kernel
theorem dX0_word_20 : decode cX0_word 20 = .ok (.invokevirtual 46, 3) := by decide +kernel
theorem dX0_word_23 : decode cX0_word 23 = .ok (.istore_n 3, 1) := by decide +kernel
theorem dX0_word_24 : decode cX0_word 24 = .ok (.iload_n 3, 1) := by decide +kernel
theorem dX0_word_25 : decode cX0_word 25 = .ok (.ifCond .eq 12, 3) := by decide +kernel
theorem dX0_word_28 : decode cX0_word 28 = .ok (.ldc2_w 78, 3) := by decide +kernel
theorem dX0_word_31 : decode cX0_word 31 = .ok (.iload_n 3, 1) := by decide +kernel
theorem dX0_word_32 : decode cX0_word 32 = .ok (.i2l, 1) := by decide +kernel
theorem dX0_word_33 : decode cX0_word 33 = .ok (.ladd, 1) := by decide +kernel
theorem dX0_word_34 : decode cX0_word 34 = .ok (.goto 10, 3) := by decide +kernel
theorem dX0_word_37 : decode cX0_word 37 = .ok (.aload_n 0, 1) := by decide +kernel
theorem dX0_word_38 : decode cX0_word 38 = .ok (.iload_n 1, 1) := by decide +kernel
theorem dX0_word_39 : decode cX0_word 39 = .ok (.iload_n 2, 1) := by decide +kernel
theorem dX0_word_40 : decode cX0_word 40 = .ok (.invokevirtual 58, 3) := by decide +kernel
theorem dX0_word_43 : decode cX0_word 43 = .ok (.i2l, 1) := by decide +kernel
theorem dX0_word_44 : decode cX0_word 44 = .ok (.lreturn, 1) := by decide +kernel
theorem dX0_dirty_0 : decode cX0_dirty 0 = .ok (.aload_n 0, 1) := by decide +kernel
theorem dX0_dirty_1 : decode cX0_dirty 1 = .ok (.getfield 26, 3) := by decide +kernel
theorem dX0_dirty_4 : decode cX0_dirty 4 = .ok (.ifCond .eq 10, 3) := by decide +kernel
theorem dX0_dirty_7 : decode cX0_dirty 7 = .ok (.aload_n 0, 1) := by decide +kernel
theorem dX0_dirty_8 : decode cX0_dirty 8 = .ok (.getfield 19, 3) := by decide +kernel
theorem dX0_dirty_11 : decode cX0_dirty 11 = .ok (.goto 4, 3) := by decide +kernel
theorem dX0_dirty_14 : decode cX0_dirty 14 = .ok (.iconst (-1), 1) := by decide +kernel
theorem dX0_dirty_15 : decode cX0_dirty 15 = .ok (.ireturn, 1) := by decide +kernel
set_option maxRecDepth 20000 in
theorem ggX0_disk_X0_isBlock : GoodIn wsX0_disk wsX0_isBlock := goodIn_r _ [5] (by decide +kernel) (by decide +kernel)
set_option maxRecDepth 20000 in
theorem gX0_disk_X0_isBlock : GoodIn wsX0_disk (va_wsS RX0 103 yX0_isBlock wsX0_isBlock) := goodIn_app (goodIn_of _ (by decide +kernel)) ggX0_disk_X0_isBlock
set_option maxRecDepth 20000 in
theorem ggX0_disk_X0_isInRow : GoodIn wsX0_disk wsX0_isInRow := goodIn_r _ [8] (by decide +kernel) (by decide +kernel)
set_option maxRecDepth 20000 in
theorem gX0_disk_X0_isInRow : GoodIn wsX0_disk (va_wsS RX0 40 yX0_isInRow wsX0_isInRow) := goodIn_app (goodIn_of _ (by decide +kernel)) ggX0_disk_X0_isInRow
theorem dX0_disk_0 : decode cX0_disk 0 = .ok (.iload_n 1, 1) := by decide +kernel
theorem dX0_disk_1 : decode cX0_disk 1 = .ok (.invokestatic 103, 3) := by decide +kernel
theorem dX0_disk_4 : decode cX0_disk 4 = .ok (.ifCond .eq 24, 3) := by decide +kernel
theorem dX0_disk_7 : decode cX0_disk 7 = .ok (.iload_n 2, 1) := by decide +kernel
theorem dX0_disk_8 : decode cX0_disk 8 = .ok (.invokestatic 40, 3) := by decide +kernel
theorem dX0_disk_11 : decode cX0_disk 11 = .ok (.ifCond .eq 17, 3) := by decide +kernel
theorem dX0_disk_14 : decode cX0_disk 14 = .ok (.aload_n 0, 1) := by decide +kernel
theorem dX0_disk_15 : decode cX0_disk 15 = .ok (.getfield 13, 3) := by decide +kernel
theorem dX0_disk_18 : decode cX0_disk 18 = .ok (.iload_n 1, 1) := by decide +kernel
theorem dX0_disk_19 : decode cX0_disk 19 = .ok (.bipush 8, 2) := by decide +kernel
theorem dX0_disk_21 : decode cX0_disk 21 = .ok (.imul, 1) := by decide +kernel
theorem dX0_disk_22 : decode cX0_disk 22 = .ok (.iload_n 2, 1) := by decide +kernel
theorem dX0_disk_23 : decode cX0_disk 23 = .ok (.iadd, 1) := by decide +kernel
theorem dX0_disk_24 : decode cX0_disk 24 = .ok (.iaload, 1) := by decide +kernel
theorem dX0_disk_25 : decode cX0_disk 25 = .ok (.goto 4, 3) := by decide +kernel
theorem dX0_disk_28 : decode cX0_disk 28 = .ok (.iconst 0, 1) := by decide +kernel
theorem dX0_disk_29 : decode cX0_disk 29 = .ok (.ireturn, 1) := by decide +kernel
theorem dX0_writes_0 : decode cX0_writes 0 = .ok (.aload_n 0, 1) := by decide +kernel
theorem dX0_writes_1 : decode cX0_writes 1 = .ok (.getfield 30, 3) := by decide +kernel
theorem dX0_writes_4 : decode cX0_writes 4 = .ok (.ireturn, 1) := by decide +kernel
theorem dX0_commits_0 : decode cX0_commits 0 = .ok (.aload_n 0, 1) := by decide +kernel
theorem dX0_commits_1 : decode cX0_commits 1 = .ok (.getfield 33, 3) := by decide +kernel
theorem dX0_commits_4 : decode cX0_commits 4 = .ok (.ireturn, 1) := by decide +kernel
theorem dX0_refusal_0 : decode cX0_refusal 0 = .ok (.aload_n 0, 1) := by decide +kernel
theorem dX0_refusal_1 : decode cX0_refusal 1 = .ok (.getfield 26, 3) := by decide +kernel
theorem dX0_refusal_4 : decode cX0_refusal 4 = .ok (.ifCond .ne 5, 3) := by decide +kernel
theorem dX0_refusal_7 : decode cX0_refusal 7 = .ok (.iconst (-1), 1) := by decide +kernel
theorem dX0_refusal_8 : decode cX0_refusal 8 = .ok (.ireturn, 1) := by decide +kernel
theorem dX0_refusal_9 : decode cX0_refusal 9 = .ok (.iload_n 1, 1) := by decide +kernel
theorem dX0_refusal_10 : decode cX0_refusal 10 = .ok (.ifCond .eq 7, 3) := by decide +kernel
theorem dX0_refusal_13 : decode cX0_refusal 13 = .ok (.iconst 0, 1) := by decide +kernel
theorem dX0_refusal_14 : decode cX0_refusal 14 = .ok (.goto 5, 3) := by decide +kernel
theorem dX0_refusal_17 : decode cX0_refusal 17 = .ok (.bipush (-2), 2) := by decide +kernel
theorem dX0_refusal_19 : decode cX0_refusal 19 = .ok (.ireturn, 1) := by decide +kernel
set_option maxRecDepth 20000 in
theorem ggX0_nodeRefusal_X0_isRegister : GoodIn wsX0_nodeRefusal wsX0_isRegister := goodIn_r _ [4, 5, 6, 3, 7] (by decide +kernel) (by decide +kernel)
set_option maxRecDepth 20000 in
theorem gX0_nodeRefusal_X0_isRegister : GoodIn wsX0_nodeRefusal (va_wsS RX0 80 yX0_isRegister wsX0_isRegister) := goodIn_app (goodIn_of _ (by decide +kernel)) ggX0_nodeRefusal_X0_isRegister
set_option maxRecDepth 20000 in
theorem ggX0_nodeRefusal_X0_refusal : GoodIn wsX0_nodeRefusal wsX0_refusal := goodIn_r _ [11, 12, 21, 22, 23, 24, 25, 26, 27, 28] (by decide +kernel) (by decide +kernel)
set_option maxRecDepth 20000 in
theorem gX0_nodeRefusal_X0_refusal : GoodIn wsX0_nodeRefusal (wsV RX0 46 RX0 yX0_refusal wsX0_refusal) := goodIn_app (goodIn_of _ (by decide +kernel)) ggX0_nodeRefusal_X0_refusal
set_option maxRecDepth 20000 in
theorem ggX0_nodeRefusal_X0_get : GoodIn wsX0_nodeRefusal wsX0_get := goodIn_r _ [16, 17, 21, 22, 23, 24, 25, 26, 27, 28] (by decide +kernel) (by decide +kernel)
set_option maxRecDepth 20000 in
theorem gX0_nodeRefusal_X0_get : GoodIn wsX0_nodeRefusal (wsV RX0 58 RX0 yX0_get wsX0_get) := goodIn_app (goodIn_of _ (by decide +kernel)) ggX0_nodeRefusal_X0_get
set_option maxRecDepth 20000 in
theorem ggX0_nodeRefusal_X0_isNodeKey : GoodIn wsX0_nodeRefusal wsX0_isNodeKey := goodIn_r _ [20] (by decide +kernel) (by decide +kernel)
set_option maxRecDepth 20000 in
theorem gX0_nodeRefusal_X0_isNodeKey : GoodIn wsX0_nodeRefusal (va_wsS RX0 106 yX0_isNodeKey wsX0_isNodeKey) := goodIn_app (goodIn_of _ (by decide +kernel)) ggX0_nodeRefusal_X0_isNodeKey
theorem dX0_nodeRefusal_0 : decode cX0_nodeRefusal 0 = .ok (.aload_n 0, 1) := by decide +kernel
theorem dX0_nodeRefusal_1 : decode cX0_nodeRefusal 1 = .ok (.iload_n 1, 1) := by decide +kernel
theorem dX0_nodeRefusal_2 : decode cX0_nodeRefusal 2 = .ok (.iload_n 2, 1) := by decide +kernel
theorem dX0_nodeRefusal_3 : decode cX0_nodeRefusal 3 = .ok (.invokestatic 80, 3) := by decide +kernel
theorem dX0_nodeRefusal_6 : decode cX0_nodeRefusal 6 = .ok (.ifCond .eq 11, 3) := by decide +kernel
theorem dX0_nodeRefusal_9 : decode cX0_nodeRefusal 9 = .ok (.iload_n 3, 1) := by decide +kernel
theorem dX0_nodeRefusal_10 : decode cX0_nodeRefusal 10 = .ok (.ifCond .eq 7, 3) := by decide +kernel
theorem dX0_nodeRefusal_13 : decode cX0_nodeRefusal 13 = .ok (.iconst 1, 1) := by decide +kernel
theorem dX0_nodeRefusal_14 : decode cX0_nodeRefusal 14 = .ok (.goto 4, 3) := by decide +kernel
theorem dX0_nodeRefusal_17 : decode cX0_nodeRefusal 17 = .ok (.iconst 0, 1) := by decide +kernel
theorem dX0_nodeRefusal_18 : decode cX0_nodeRefusal 18 = .ok (.invokevirtual 46, 3) := by decide +kernel
theorem dX0_nodeRefusal_21 : decode cX0_nodeRefusal 21 = .ok (.istore 4, 2) := by decide +kernel
theorem dX0_nodeRefusal_23 : decode cX0_nodeRefusal 23 = .ok (.iload 4, 2) := by decide +kernel
theorem dX0_nodeRefusal_25 : decode cX0_nodeRefusal 25 = .ok (.ifCond .eq 6, 3) := by decide +kernel
theorem dX0_nodeRefusal_28 : decode cX0_nodeRefusal 28 = .ok (.iload 4, 2) := by decide +kernel
theorem dX0_nodeRefusal_30 : decode cX0_nodeRefusal 30 = .ok (.ireturn, 1) := by decide +kernel
theorem dX0_nodeRefusal_31 : decode cX0_nodeRefusal 31 = .ok (.aload_n 0, 1) := by decide +kernel
theorem dX0_nodeRefusal_32 : decode cX0_nodeRefusal 32 = .ok (.iload_n 1, 1) := by decide +kernel
theorem dX0_nodeRefusal_33 : decode cX0_nodeRefusal 33 = .ok (.iload_n 2, 1) := by decide +kernel
theorem dX0_nodeRefusal_34 : decode cX0_nodeRefusal 34 = .ok (.invokevirtual 58, 3) := by decide +kernel
theorem dX0_nodeRefusal_37 : decode cX0_nodeRefusal 37 = .ok (.invokestatic 106, 3) := by decide +kernel
theorem dX0_nodeRefusal_40 : decode cX0_nodeRefusal 40 = .ok (.ifCond .eq 7, 3) := by decide +kernel
theorem dX0_nodeRefusal_43 : decode cX0_nodeRefusal 43 = .ok (.iconst 0, 1) := by decide +kernel
theorem dX0_nodeRefusal_44 : decode cX0_nodeRefusal 44 = .ok (.goto 5, 3) := by decide +kernel
theorem dX0_nodeRefusal_47 : decode cX0_nodeRefusal 47 = .ok (.bipush (-3), 2) := by decide +kernel
theorem dX0_nodeRefusal_49 : decode cX0_nodeRefusal 49 = .ok (.ireturn, 1) := by decide +kernel
set_option maxRecDepth 20000 in
theorem ggX0_pageRefusal_X0_isRegister : GoodIn wsX0_pageRefusal wsX0_isRegister := goodIn_r _ [4, 5, 6, 3, 7] (by decide +kernel) (by decide +kernel)
set_option maxRecDepth 20000 in
theorem gX0_pageRefusal_X0_isRegister : GoodIn wsX0_pageRefusal (va_wsS RX0 80 yX0_isRegister wsX0_isRegister) := goodIn_app (goodIn_of _ (by decide +kernel)) ggX0_pageRefusal_X0_isRegister
set_option maxRecDepth 20000 in
theorem ggX0_pageRefusal_X0_refusal : GoodIn wsX0_pageRefusal wsX0_refusal := goodIn_r _ [11, 12, 21, 22, 23, 24, 25, 26, 27, 28] (by decide +kernel) (by decide +kernel)
set_option maxRecDepth 20000 in
theorem gX0_pageRefusal_X0_refusal : GoodIn wsX0_pageRefusal (wsV RX0 46 RX0 yX0_refusal wsX0_refusal) := goodIn_app (goodIn_of _ (by decide +kernel)) ggX0_pageRefusal_X0_refusal
set_option maxRecDepth 20000 in
theorem ggX0_pageRefusal_X0_get : GoodIn wsX0_pageRefusal wsX0_get := goodIn_r _ [16, 17, 21, 22, 23, 24, 25, 26, 27, 28] (by decide +kernel) (by decide +kernel)
set_option maxRecDepth 20000 in
theorem gX0_pageRefusal_X0_get : GoodIn wsX0_pageRefusal (wsV RX0 58 RX0 yX0_get wsX0_get) := goodIn_app (goodIn_of _ (by decide +kernel)) ggX0_pageRefusal_X0_get
set_option maxRecDepth 20000 in
theorem ggX0_pageRefusal_X0_isPageKey : GoodIn wsX0_pageRefusal wsX0_isPageKey := goodIn_r _ [20] (by decide +kernel) (by decide +kernel)
set_option maxRecDepth 20000 in
theorem gX0_pageRefusal_X0_isPageKey : GoodIn wsX0_pageRefusal (va_wsS RX0 109 yX0_isPageKey wsX0_isPageKey) := goodIn_app (goodIn_of _ (by decide +kernel)) ggX0_pageRefusal_X0_isPageKey
theorem dX0_pageRefusal_0 : decode cX0_pageRefusal 0 = .ok (.aload_n 0, 1) := by decide +kernel
theorem dX0_pageRefusal_1 : decode cX0_pageRefusal 1 = .ok (.iload_n 1, 1) := by decide +kernel
theorem dX0_pageRefusal_2 : decode cX0_pageRefusal 2 = .ok (.iload_n 2, 1) := by decide +kernel
theorem dX0_pageRefusal_3 : decode cX0_pageRefusal 3 = .ok (.invokestatic 80, 3) := by decide +kernel
theorem dX0_pageRefusal_6 : decode cX0_pageRefusal 6 = .ok (.ifCond .eq 11, 3) := by decide +kernel
theorem dX0_pageRefusal_9 : decode cX0_pageRefusal 9 = .ok (.iload_n 3, 1) := by decide +kernel
theorem dX0_pageRefusal_10 : decode cX0_pageRefusal 10 = .ok (.ifCond .eq 7, 3) := by decide +kernel
theorem dX0_pageRefusal_13 : decode cX0_pageRefusal 13 = .ok (.iconst 1, 1) := by decide +kernel
theorem dX0_pageRefusal_14 : decode cX0_pageRefusal 14 = .ok (.goto 4, 3) := by decide +kernel
theorem dX0_pageRefusal_17 : decode cX0_pageRefusal 17 = .ok (.iconst 0, 1) := by decide +kernel
theorem dX0_pageRefusal_18 : decode cX0_pageRefusal 18 = .ok (.invokevirtual 46, 3) := by decide +kernel
theorem dX0_pageRefusal_21 : decode cX0_pageRefusal 21 = .ok (.istore 4, 2) := by decide +kernel
theorem dX0_pageRefusal_23 : decode cX0_pageRefusal 23 = .ok (.iload 4, 2) := by decide +kernel
theorem dX0_pageRefusal_25 : decode cX0_pageRefusal 25 = .ok (.ifCond .eq 6, 3) := by decide +kernel
theorem dX0_pageRefusal_28 : decode cX0_pageRefusal 28 = .ok (.iload 4, 2) := by decide +kernel
theorem dX0_pageRefusal_30 : decode cX0_pageRefusal 30 = .ok (.ireturn, 1) := by decide +kernel
theorem dX0_pageRefusal_31 : decode cX0_pageRefusal 31 = .ok (.aload_n 0, 1) := by decide +kernel
theorem dX0_pageRefusal_32 : decode cX0_pageRefusal 32 = .ok (.iload_n 1, 1) := by decide +kernel
theorem dX0_pageRefusal_33 : decode cX0_pageRefusal 33 = .ok (.iload_n 2, 1) := by decide +kernel
theorem dX0_pageRefusal_34 : decode cX0_pageRefusal 34 = .ok (.invokevirtual 58, 3) := by decide +kernel
theorem dX0_pageRefusal_37 : decode cX0_pageRefusal 37 = .ok (.invokestatic 109, 3) := by decide +kernel
theorem dX0_pageRefusal_40 : decode cX0_pageRefusal 40 = .ok (.ifCond .eq 7, 3) := by decide +kernel
theorem dX0_pageRefusal_43 : decode cX0_pageRefusal 43 = .ok (.iconst 0, 1) := by decide +kernel
theorem dX0_pageRefusal_44 : decode cX0_pageRefusal 44 = .ok (.goto 5, 3) := by decide +kernel
theorem dX0_pageRefusal_47 : decode cX0_pageRefusal 47 = .ok (.bipush (-3), 2) := by decide +kernel
theorem dX0_pageRefusal_49 : decode cX0_pageRefusal 49 = .ok (.ireturn, 1) := by decide +kernel
theorem dX0_isNode_0 : decode cX0_isNode 0 = .ok (.iload_n 0, 1) := by decide +kernel
theorem dX0_isNode_1 : decode cX0_isNode 1 = .ok (.ifCond .lt 13, 3) := by decide +kernel
theorem dX0_isNode_4 : decode cX0_isNode 4 = .ok (.iload_n 0, 1) := by decide +kernel
theorem dX0_isNode_5 : decode cX0_isNode 5 = .ok (.bipush 8, 2) := by decide +kernel
theorem dX0_isNode_7 : decode cX0_isNode 7 = .ok (.if_icmp .ge 7, 3) := by decide +kernel
theorem dX0_isNode_10 : decode cX0_isNode 10 = .ok (.iconst 1, 1) := by decide +kernel
theorem dX0_isNode_11 : decode cX0_isNode 11 = .ok (.goto 4, 3) := by decide +kernel
theorem dX0_isNode_14 : decode cX0_isNode 14 = .ok (.iconst 0, 1) := by decide +kernel
theorem dX0_isNode_15 : decode cX0_isNode 15 = .ok (.ireturn, 1) := by decide +kernel
theorem dX0_isPage_0 : decode cX0_isPage 0 = .ok (.iload_n 0, 1) := by decide +kernel
theorem dX0_isPage_1 : decode cX0_isPage 1 = .ok (.bipush 8, 2) := by decide +kernel
theorem dX0_isPage_3 : decode cX0_isPage 3 = .ok (.if_icmp .lt 13, 3) := by decide +kernel
theorem dX0_isPage_6 : decode cX0_isPage 6 = .ok (.iload_n 0, 1) := by decide +kernel
theorem dX0_isPage_7 : decode cX0_isPage 7 = .ok (.bipush 12, 2) := by decide +kernel
theorem dX0_isPage_9 : decode cX0_isPage 9 = .ok (.if_icmp .ge 7, 3) := by decide +kernel
theorem dX0_isPage_12 : decode cX0_isPage 12 = .ok (.iconst 1, 1) := by decide +kernel
theorem dX0_isPage_13 : decode cX0_isPage 13 = .ok (.goto 4, 3) := by decide +kernel
theorem dX0_isPage_16 : decode cX0_isPage 16 = .ok (.iconst 0, 1) := by decide +kernel
theorem dX0_isPage_17 : decode cX0_isPage 17 = .ok (.ireturn, 1) := by decide +kernel
theorem dX0_isInRow_0 : decode cX0_isInRow 0 = .ok (.iload_n 0, 1) := by decide +kernel
theorem dX0_isInRow_1 : decode cX0_isInRow 1 = .ok (.ifCond .lt 13, 3) := by decide +kernel
theorem dX0_isInRow_4 : decode cX0_isInRow 4 = .ok (.iload_n 0, 1) := by decide +kernel
theorem dX0_isInRow_5 : decode cX0_isInRow 5 = .ok (.bipush 8, 2) := by decide +kernel
theorem dX0_isInRow_7 : decode cX0_isInRow 7 = .ok (.if_icmp .ge 7, 3) := by decide +kernel
theorem dX0_isInRow_10 : decode cX0_isInRow 10 = .ok (.iconst 1, 1) := by decide +kernel
theorem dX0_isInRow_11 : decode cX0_isInRow 11 = .ok (.goto 4, 3) := by decide +kernel
theorem dX0_isInRow_14 : decode cX0_isInRow 14 = .ok (.iconst 0, 1) := by decide +kernel
theorem dX0_isInRow_15 : decode cX0_isInRow 15 = .ok (.ireturn, 1) := by decide +kernel
set_option maxRecDepth 20000 in
theorem ggX0_isRegister_X0_isInRow : GoodIn wsX0_isRegister wsX0_isInRow := goodIn_r _ [4] (by decide +kernel) (by decide +kernel)
set_option maxRecDepth 20000 in
theorem gX0_isRegister_X0_isInRow : GoodIn wsX0_isRegister (va_wsS RX0 40 yX0_isInRow wsX0_isInRow) := goodIn_app (goodIn_of _ (by decide +kernel)) ggX0_isRegister_X0_isInRow
theorem dX0_isRegister_0 : decode cX0_isRegister 0 = .ok (.iload_n 0, 1) := by decide +kernel
theorem dX0_isRegister_1 : decode cX0_isRegister 1 = .ok (.ifCond .lt 19, 3) := by decide +kernel
theorem dX0_isRegister_4 : decode cX0_isRegister 4 = .ok (.iload_n 0, 1) := by decide +kernel
theorem dX0_isRegister_5 : decode cX0_isRegister 5 = .ok (.iconst 3, 1) := by decide +kernel
theorem dX0_isRegister_6 : decode cX0_isRegister 6 = .ok (.if_icmp .ge 14, 3) := by decide +kernel
theorem dX0_isRegister_9 : decode cX0_isRegister 9 = .ok (.iload_n 1, 1) := by decide +kernel
theorem dX0_isRegister_10 : decode cX0_isRegister 10 = .ok (.invokestatic 40, 3) := by decide +kernel
theorem dX0_isRegister_13 : decode cX0_isRegister 13 = .ok (.ifCond .eq 7, 3) := by decide +kernel
theorem dX0_isRegister_16 : decode cX0_isRegister 16 = .ok (.iconst 1, 1) := by decide +kernel
theorem dX0_isRegister_17 : decode cX0_isRegister 17 = .ok (.goto 4, 3) := by decide +kernel
theorem dX0_isRegister_20 : decode cX0_isRegister 20 = .ok (.iconst 0, 1) := by decide +kernel
theorem dX0_isRegister_21 : decode cX0_isRegister 21 = .ok (.ireturn, 1) := by decide +kernel
theorem dX0_isLimits_0 : decode cX0_isLimits 0 = .ok (.iload_n 0, 1) := by decide +kernel
theorem dX0_isLimits_1 : decode cX0_isLimits 1 = .ok (.ifCond .lt 12, 3) := by decide +kernel
theorem dX0_isLimits_4 : decode cX0_isLimits 4 = .ok (.iload_n 0, 1) := by decide +kernel
theorem dX0_isLimits_5 : decode cX0_isLimits 5 = .ok (.iconst 3, 1) := by decide +kernel
theorem dX0_isLimits_6 : decode cX0_isLimits 6 = .ok (.if_icmp .gt 7, 3) := by decide +kernel
theorem dX0_isLimits_9 : decode cX0_isLimits 9 = .ok (.iconst 1, 1) := by decide +kernel
theorem dX0_isLimits_10 : decode cX0_isLimits 10 = .ok (.goto 4, 3) := by decide +kernel
theorem dX0_isLimits_13 : decode cX0_isLimits 13 = .ok (.iconst 0, 1) := by decide +kernel
theorem dX0_isLimits_14 : decode cX0_isLimits 14 = .ok (.ireturn, 1) := by decide +kernel
theorem dX0_isPower_0 : decode cX0_isPower 0 = .ok (.iload_n 0, 1) := by decide +kernel
theorem dX0_isPower_1 : decode cX0_isPower 1 = .ok (.iconst (-1), 1) := by decide +kernel
theorem dX0_isPower_2 : decode cX0_isPower 2 = .ok (.if_icmp .eq 13, 3) := by decide +kernel
theorem dX0_isPower_5 : decode cX0_isPower 5 = .ok (.iload_n 0, 1) := by decide +kernel
theorem dX0_isPower_6 : decode cX0_isPower 6 = .ok (.ifCond .lt 13, 3) := by decide +kernel
theorem dX0_isPower_9 : decode cX0_isPower 9 = .ok (.iload_n 0, 1) := by decide +kernel
theorem dX0_isPower_10 : decode cX0_isPower 10 = .ok (.bipush 63, 2) := by decide +kernel
theorem dX0_isPower_12 : decode cX0_isPower 12 = .ok (.if_icmp .gt 7, 3) := by decide +kernel
theorem dX0_isPower_15 : decode cX0_isPower 15 = .ok (.iconst 1, 1) := by decide +kernel
theorem dX0_isPower_16 : decode cX0_isPower 16 = .ok (.goto 4, 3) := by decide +kernel
theorem dX0_isPower_19 : decode cX0_isPower 19 = .ok (.iconst 0, 1) := by decide +kernel
theorem dX0_isPower_20 : decode cX0_isPower 20 = .ok (.ireturn, 1) := by decide +kernel
theorem dX0_isBlock_0 : decode cX0_isBlock 0 = .ok (.iload_n 0, 1) := by decide +kernel
theorem dX0_isBlock_1 : decode cX0_isBlock 1 = .ok (.ifCond .lt 13, 3) := by decide +kernel
theorem dX0_isBlock_4 : decode cX0_isBlock 4 = .ok (.iload_n 0, 1) := by decide +kernel
theorem dX0_isBlock_5 : decode cX0_isBlock 5 = .ok (.bipush 25, 2) := by decide +kernel
theorem dX0_isBlock_7 : decode cX0_isBlock 7 = .ok (.if_icmp .ge 7, 3) := by decide +kernel
theorem dX0_isBlock_10 : decode cX0_isBlock 10 = .ok (.iconst 1, 1) := by decide +kernel
theorem dX0_isBlock_11 : decode cX0_isBlock 11 = .ok (.goto 4, 3) := by decide +kernel
theorem dX0_isBlock_14 : decode cX0_isBlock 14 = .ok (.iconst 0, 1) := by decide +kernel
theorem dX0_isBlock_15 : decode cX0_isBlock 15 = .ok (.ireturn, 1) := by decide +kernel
theorem dX0_isKey_0 : decode cX0_isKey 0 = .ok (.iload_n 0, 1) := by decide +kernel
theorem dX0_isKey_1 : decode cX0_isKey 1 = .ok (.ifCond .lt 13, 3) := by decide +kernel
theorem dX0_isKey_4 : decode cX0_isKey 4 = .ok (.iload_n 0, 1) := by decide +kernel
theorem dX0_isKey_5 : decode cX0_isKey 5 = .ok (.bipush 48, 2) := by decide +kernel
theorem dX0_isKey_7 : decode cX0_isKey 7 = .ok (.if_icmp .gt 7, 3) := by decide +kernel
theorem dX0_isKey_10 : decode cX0_isKey 10 = .ok (.iconst 1, 1) := by decide +kernel
theorem dX0_isKey_11 : decode cX0_isKey 11 = .ok (.goto 4, 3) := by decide +kernel
theorem dX0_isKey_14 : decode cX0_isKey 14 = .ok (.iconst 0, 1) := by decide +kernel
theorem dX0_isKey_15 : decode cX0_isKey 15 = .ok (.ireturn, 1) := by decide +kernel
theorem dX0_isNodeKey_0 : decode cX0_isNodeKey 0 = .ok (.iload_n 0, 1) := by decide +kernel
theorem dX0_isNodeKey_1 : decode cX0_isNodeKey 1 = .ok (.iconst 1, 1) := by decide +kernel
theorem dX0_isNodeKey_2 : decode cX0_isNodeKey 2 = .ok (.if_icmp .lt 13, 3) := by decide +kernel
theorem dX0_isNodeKey_5 : decode cX0_isNodeKey 5 = .ok (.iload_n 0, 1) := by decide +kernel
theorem dX0_isNodeKey_6 : decode cX0_isNodeKey 6 = .ok (.bipush 33, 2) := by decide +kernel
theorem dX0_isNodeKey_8 : decode cX0_isNodeKey 8 = .ok (.if_icmp .ge 7, 3) := by decide +kernel
theorem dX0_isNodeKey_11 : decode cX0_isNodeKey 11 = .ok (.iconst 1, 1) := by decide +kernel
theorem dX0_isNodeKey_12 : decode cX0_isNodeKey 12 = .ok (.goto 4, 3) := by decide +kernel
theorem dX0_isNodeKey_15 : decode cX0_isNodeKey 15 = .ok (.iconst 0, 1) := by decide +kernel
theorem dX0_isNodeKey_16 : decode cX0_isNodeKey 16 = .ok (.ireturn, 1) := by decide +kernel
theorem dX0_isPageKey_0 : decode cX0_isPageKey 0 = .ok (.iload_n 0, 1) := by decide +kernel
theorem dX0_isPageKey_1 : decode cX0_isPageKey 1 = .ok (.bipush 33, 2) := by decide +kernel
theorem dX0_isPageKey_3 : decode cX0_isPageKey 3 = .ok (.if_icmp .lt 13, 3) := by decide +kernel
theorem dX0_isPageKey_6 : decode cX0_isPageKey 6 = .ok (.iload_n 0, 1) := by decide +kernel
theorem dX0_isPageKey_7 : decode cX0_isPageKey 7 = .ok (.bipush 48, 2) := by decide +kernel
theorem dX0_isPageKey_9 : decode cX0_isPageKey 9 = .ok (.if_icmp .gt 7, 3) := by decide +kernel
theorem dX0_isPageKey_12 : decode cX0_isPageKey 12 = .ok (.iconst 1, 1) := by decide +kernel
theorem dX0_isPageKey_13 : decode cX0_isPageKey 13 = .ok (.goto 4, 3) := by decide +kernel
theorem dX0_isPageKey_16 : decode cX0_isPageKey 16 = .ok (.iconst 0, 1) := by decide +kernel
theorem dX0_isPageKey_17 : decode cX0_isPageKey 17 = .ok (.ireturn, 1) := by decide +kernel
theorem dX0_objectOf_0 : decode cX0_objectOf 0 = .ok (.iload_n 0, 1) := by decide +kernel
theorem dX0_objectOf_1 : decode cX0_objectOf 1 = .ok (.iconst 1, 1) := by decide +kernel
theorem dX0_objectOf_2 : decode cX0_objectOf 2 = .ok (.isub, 1) := by decide +kernel
theorem dX0_objectOf_3 : decode cX0_objectOf 3 = .ok (.iconst 4, 1) := by decide +kernel
theorem dX0_objectOf_4 : decode cX0_objectOf 4 = .ok (.idiv, 1) := by decide +kernel
theorem dX0_objectOf_5 : decode cX0_objectOf 5 = .ok (.ireturn, 1) := by decide +kernel
theorem dX0_limitsOf_0 : decode cX0_limitsOf 0 = .ok (.iload_n 0, 1) := by decide +kernel
theorem dX0_limitsOf_1 : decode cX0_limitsOf 1 = .ok (.iconst 1, 1) := by decide +kernel
theorem dX0_limitsOf_2 : decode cX0_limitsOf 2 = .ok (.isub, 1) := by decide +kernel
theorem dX0_limitsOf_3 : decode cX0_limitsOf 3 = .ok (.iconst 4, 1) := by decide +kernel
theorem dX0_limitsOf_4 : decode cX0_limitsOf 4 = .ok (.irem, 1) := by decide +kernel
theorem dX0_limitsOf_5 : decode cX0_limitsOf 5 = .ok (.ireturn, 1) := by decide +kernel
set_option maxRecDepth 20000 in
theorem ggX0_isWriting_X0_limitsOf : GoodIn wsX0_isWriting wsX0_limitsOf := goodIn_r _ [4] (by decide +kernel) (by decide +kernel)
set_option maxRecDepth 20000 in
theorem gX0_isWriting_X0_limitsOf : GoodIn wsX0_isWriting (va_wsS RX0 112 yX0_limitsOf wsX0_limitsOf) := goodIn_app (goodIn_of _ (by decide +kernel)) ggX0_isWriting_X0_limitsOf
theorem dX0_isWriting_0 : decode cX0_isWriting 0 = .ok (.iload_n 0, 1) := by decide +kernel
theorem dX0_isWriting_1 : decode cX0_isWriting 1 = .ok (.invokestatic 112, 3) := by decide +kernel
theorem dX0_isWriting_4 : decode cX0_isWriting 4 = .ok (.ifCond .ne 7, 3) := by decide +kernel
theorem dX0_isWriting_7 : decode cX0_isWriting 7 = .ok (.iconst 1, 1) := by decide +kernel
theorem dX0_isWriting_8 : decode cX0_isWriting 8 = .ok (.goto 4, 3) := by decide +kernel
theorem dX0_isWriting_11 : decode cX0_isWriting 11 = .ok (.iconst 0, 1) := by decide +kernel
theorem dX0_isWriting_12 : decode cX0_isWriting 12 = .ok (.ireturn, 1) := by decide +kernel
set_option maxRecDepth 20000 in
theorem ggX0_isWeak_X0_limitsOf : GoodIn wsX0_isWeak wsX0_limitsOf := goodIn_r _ [4] (by decide +kernel) (by decide +kernel)
set_option maxRecDepth 20000 in
theorem gX0_isWeak_X0_limitsOf : GoodIn wsX0_isWeak (va_wsS RX0 112 yX0_limitsOf wsX0_limitsOf) := goodIn_app (goodIn_of _ (by decide +kernel)) ggX0_isWeak_X0_limitsOf
theorem dX0_isWeak_0 : decode cX0_isWeak 0 = .ok (.iload_n 0, 1) := by decide +kernel
theorem dX0_isWeak_1 : decode cX0_isWeak 1 = .ok (.invokestatic 112, 3) := by decide +kernel
theorem dX0_isWeak_4 : decode cX0_isWeak 4 = .ok (.iconst 2, 1) := by decide +kernel
theorem dX0_isWeak_5 : decode cX0_isWeak 5 = .ok (.iand, 1) := by decide +kernel
theorem dX0_isWeak_6 : decode cX0_isWeak 6 = .ok (.ifCond .eq 7, 3) := by decide +kernel
theorem dX0_isWeak_9 : decode cX0_isWeak 9 = .ok (.iconst 1, 1) := by decide +kernel
theorem dX0_isWeak_10 : decode cX0_isWeak 10 = .ok (.goto 4, 3) := by decide +kernel
theorem dX0_isWeak_13 : decode cX0_isWeak 13 = .ok (.iconst 0, 1) := by decide +kernel
theorem dX0_isWeak_14 : decode cX0_isWeak 14 = .ok (.ireturn, 1) := by decide +kernel
set_option maxRecDepth 20000 in
theorem ggX0_limited_X0_objectOf : GoodIn wsX0_limited wsX0_objectOf := goodIn_r _ [4] (by decide +kernel) (by decide +kernel)
set_option maxRecDepth 20000 in
theorem gX0_limited_X0_objectOf : GoodIn wsX0_limited (va_wsS RX0 62 yX0_objectOf wsX0_objectOf) := goodIn_app (goodIn_of _ (by decide +kernel)) ggX0_limited_X0_objectOf
set_option maxRecDepth 20000 in
theorem ggX0_limited_X0_limitsOf : GoodIn wsX0_limited wsX0_limitsOf := goodIn_r _ [7] (by decide +kernel) (by decide +kernel)
set_option maxRecDepth 20000 in
theorem gX0_limited_X0_limitsOf : GoodIn wsX0_limited (va_wsS RX0 112 yX0_limitsOf wsX0_limitsOf) := goodIn_app (goodIn_of _ (by decide +kernel)) ggX0_limited_X0_limitsOf
theorem dX0_limited_0 : decode cX0_limited 0 = .ok (.iload_n 0, 1) := by decide +kernel
theorem dX0_limited_1 : decode cX0_limited 1 = .ok (.ifCond .ne 5, 3) := by decide +kernel
theorem dX0_limited_4 : decode cX0_limited 4 = .ok (.iconst 0, 1) := by decide +kernel
theorem dX0_limited_5 : decode cX0_limited 5 = .ok (.ireturn, 1) := by decide +kernel
theorem dX0_limited_6 : decode cX0_limited 6 = .ok (.iconst 1, 1) := by decide +kernel
theorem dX0_limited_7 : decode cX0_limited 7 = .ok (.iconst 4, 1) := by decide +kernel
theorem dX0_limited_8 : decode cX0_limited 8 = .ok (.iload_n 0, 1) := by decide +kernel
theorem dX0_limited_9 : decode cX0_limited 9 = .ok (.invokestatic 62, 3) := by decide +kernel
theorem dX0_limited_12 : decode cX0_limited 12 = .ok (.imul, 1) := by decide +kernel
theorem dX0_limited_13 : decode cX0_limited 13 = .ok (.iadd, 1) := by decide +kernel
theorem dX0_limited_14 : decode cX0_limited 14 = .ok (.iload_n 0, 1) := by decide +kernel
theorem dX0_limited_15 : decode cX0_limited 15 = .ok (.invokestatic 112, 3) := by decide +kernel
theorem dX0_limited_18 : decode cX0_limited 18 = .ok (.iload_n 1, 1) := by decide +kernel
theorem dX0_limited_19 : decode cX0_limited 19 = .ok (.ior, 1) := by decide +kernel
theorem dX0_limited_20 : decode cX0_limited 20 = .ok (.iadd, 1) := by decide +kernel
theorem dX0_limited_21 : decode cX0_limited 21 = .ok (.ireturn, 1) := by decide +kernel
theorem dX0_get_0 : decode cX0_get 0 = .ok (.aload_n 0, 1) := by decide +kernel
theorem dX0_get_1 : decode cX0_get 1 = .ok (.getfield 9, 3) := by decide +kernel
theorem dX0_get_4 : decode cX0_get 4 = .ok (.iload_n 1, 1) := by decide +kernel
theorem dX0_get_5 : decode cX0_get 5 = .ok (.bipush 8, 2) := by decide +kernel
theorem dX0_get_7 : decode cX0_get 7 = .ok (.imul, 1) := by decide +kernel
theorem dX0_get_8 : decode cX0_get 8 = .ok (.iload_n 2, 1) := by decide +kernel
theorem dX0_get_9 : decode cX0_get 9 = .ok (.iadd, 1) := by decide +kernel
theorem dX0_get_10 : decode cX0_get 10 = .ok (.iaload, 1) := by decide +kernel
theorem dX0_get_11 : decode cX0_get 11 = .ok (.ireturn, 1) := by decide +kernel
theorem dX0_put_0 : decode cX0_put 0 = .ok (.aload_n 0, 1) := by decide +kernel
theorem dX0_put_1 : decode cX0_put 1 = .ok (.getfield 9, 3) := by decide +kernel
theorem dX0_put_4 : decode cX0_put 4 = .ok (.iload_n 1, 1) := by decide +kernel
theorem dX0_put_5 : decode cX0_put 5 = .ok (.bipush 8, 2) := by decide +kernel
theorem dX0_put_7 : decode cX0_put 7 = .ok (.imul, 1) := by decide +kernel
theorem dX0_put_8 : decode cX0_put 8 = .ok (.iload_n 2, 1) := by decide +kernel
theorem dX0_put_9 : decode cX0_put 9 = .ok (.iadd, 1) := by decide +kernel
theorem dX0_put_10 : decode cX0_put 10 = .ok (.iload_n 3, 1) := by decide +kernel
theorem dX0_put_11 : decode cX0_put 11 = .ok (.iastore, 1) := by decide +kernel
theorem dX0_put_12 : decode cX0_put 12 = .ok (.aload_n 0, 1) := by decide +kernel
theorem dX0_put_13 : decode cX0_put 13 = .ok (.dup, 1) := by decide +kernel
theorem dX0_put_14 : decode cX0_put 14 = .ok (.getfield 19, 3) := by decide +kernel
theorem dX0_put_17 : decode cX0_put 17 = .ok (.iconst 1, 1) := by decide +kernel
theorem dX0_put_18 : decode cX0_put 18 = .ok (.iload_n 1, 1) := by decide +kernel
theorem dX0_put_19 : decode cX0_put 19 = .ok (.ishl, 1) := by decide +kernel
theorem dX0_put_20 : decode cX0_put 20 = .ok (.ior, 1) := by decide +kernel
theorem dX0_put_21 : decode cX0_put 21 = .ok (.putfield 19, 3) := by decide +kernel
theorem dX0_put_24 : decode cX0_put 24 = .ok (.return_, 1) := by decide +kernel
theorem dX0_has_0 : decode cX0_has 0 = .ok (.iload_n 0, 1) := by decide +kernel
theorem dX0_has_1 : decode cX0_has 1 = .ok (.iload_n 1, 1) := by decide +kernel
theorem dX0_has_2 : decode cX0_has 2 = .ok (.ishr, 1) := by decide +kernel
theorem dX0_has_3 : decode cX0_has 3 = .ok (.iconst 1, 1) := by decide +kernel
theorem dX0_has_4 : decode cX0_has 4 = .ok (.iand, 1) := by decide +kernel
theorem dX0_has_5 : decode cX0_has 5 = .ok (.ifCond .eq 7, 3) := by decide +kernel
theorem dX0_has_8 : decode cX0_has 8 = .ok (.iconst 1, 1) := by decide +kernel
theorem dX0_has_9 : decode cX0_has 9 = .ok (.goto 4, 3) := by decide +kernel
theorem dX0_has_12 : decode cX0_has 12 = .ok (.iconst 0, 1) := by decide +kernel
theorem dX0_has_13 : decode cX0_has 13 = .ok (.ireturn, 1) := by decide +kernel
set_option maxRecDepth 20000 in
theorem ggX0_saveDirty_X0_copyRows : GoodIn wsX0_saveDirty wsX0_copyRows := goodIn_r _ [8, 9, 10, 7, 11, 12, 13, 14, 15, 16, 17, 18, 19, 20, 21, 22, 23, 29, 30, 31, 32, 33, 34, 35, 36] (by decide +kernel) (by decide +kernel)
set_option maxRecDepth 20000 in
theorem gX0_saveDirty_X0_copyRows : GoodIn wsX0_saveDirty (wsV RX0 115 RX0 yX0_copyRows wsX0_copyRows) := goodIn_app (goodIn_of _ (by decide +kernel)) ggX0_saveDirty_X0_copyRows
set_option maxRecDepth 20000 in
theorem ggX0_saveDirty_X0_writeHeader : GoodIn wsX0_saveDirty wsX0_writeHeader := goodIn_r _ [27, 28, 12, 13, 14, 7, 15, 16, 17, 18, 19, 20, 21, 22, 23, 29, 30, 31, 32, 33, 34, 35, 36] (by decide +kernel) (by decide +kernel)
set_option maxRecDepth 20000 in
theorem gX0_saveDirty_X0_writeHeader : GoodIn wsX0_saveDirty (wsV RX0 119 RX0 yX0_writeHeader wsX0_writeHeader) := goodIn_app (goodIn_of _ (by decide +kernel)) ggX0_saveDirty_X0_writeHeader
theorem dX0_saveDirty_0 : decode cX0_saveDirty 0 = .ok (.aload_n 0, 1) := by decide +kernel
theorem dX0_saveDirty_1 : decode cX0_saveDirty 1 = .ok (.getfield 19, 3) := by decide +kernel
theorem dX0_saveDirty_4 : decode cX0_saveDirty 4 = .ok (.ifCond .ne 5, 3) := by decide +kernel
theorem dX0_saveDirty_7 : decode cX0_saveDirty 7 = .ok (.iconst 1, 1) := by decide +kernel
theorem dX0_saveDirty_8 : decode cX0_saveDirty 8 = .ok (.ireturn, 1) := by decide +kernel
theorem dX0_saveDirty_9 : decode cX0_saveDirty 9 = .ok (.aload_n 0, 1) := by decide +kernel
theorem dX0_saveDirty_10 : decode cX0_saveDirty 10 = .ok (.aload_n 0, 1) := by decide +kernel
theorem dX0_saveDirty_11 : decode cX0_saveDirty 11 = .ok (.getfield 19, 3) := by decide +kernel
theorem dX0_saveDirty_14 : decode cX0_saveDirty 14 = .ok (.aload_n 0, 1) := by decide +kernel
theorem dX0_saveDirty_15 : decode cX0_saveDirty 15 = .ok (.getfield 9, 3) := by decide +kernel
theorem dX0_saveDirty_18 : decode cX0_saveDirty 18 = .ok (.iconst 0, 1) := by decide +kernel
theorem dX0_saveDirty_19 : decode cX0_saveDirty 19 = .ok (.bipush 12, 2) := by decide +kernel
theorem dX0_saveDirty_21 : decode cX0_saveDirty 21 = .ok (.invokevirtual 115, 3) := by decide +kernel
theorem dX0_saveDirty_24 : decode cX0_saveDirty 24 = .ok (.ifCond .eq 14, 3) := by decide +kernel
theorem dX0_saveDirty_27 : decode cX0_saveDirty 27 = .ok (.aload_n 0, 1) := by decide +kernel
theorem dX0_saveDirty_28 : decode cX0_saveDirty 28 = .ok (.aload_n 0, 1) := by decide +kernel
theorem dX0_saveDirty_29 : decode cX0_saveDirty 29 = .ok (.getfield 19, 3) := by decide +kernel
theorem dX0_saveDirty_32 : decode cX0_saveDirty 32 = .ok (.invokevirtual 119, 3) := by decide +kernel
theorem dX0_saveDirty_35 : decode cX0_saveDirty 35 = .ok (.ifCond .ne 5, 3) := by decide +kernel
theorem dX0_saveDirty_38 : decode cX0_saveDirty 38 = .ok (.iconst 0, 1) := by decide +kernel
theorem dX0_saveDirty_39 : decode cX0_saveDirty 39 = .ok (.ireturn, 1) := by decide +kernel
theorem dX0_saveDirty_40 : decode cX0_saveDirty 40 = .ok (.aload_n 0, 1) := by decide +kernel
theorem dX0_saveDirty_41 : decode cX0_saveDirty 41 = .ok (.dup, 1) := by decide +kernel
theorem dX0_saveDirty_42 : decode cX0_saveDirty 42 = .ok (.getfield 33, 3) := by decide +kernel
theorem dX0_saveDirty_45 : decode cX0_saveDirty 45 = .ok (.iconst 1, 1) := by decide +kernel
theorem dX0_saveDirty_46 : decode cX0_saveDirty 46 = .ok (.iadd, 1) := by decide +kernel
theorem dX0_saveDirty_47 : decode cX0_saveDirty 47 = .ok (.putfield 33, 3) := by decide +kernel
theorem dX0_saveDirty_50 : decode cX0_saveDirty 50 = .ok (.aload_n 0, 1) := by decide +kernel
theorem dX0_saveDirty_51 : decode cX0_saveDirty 51 = .ok (.aload_n 0, 1) := by decide +kernel
theorem dX0_saveDirty_52 : decode cX0_saveDirty 52 = .ok (.getfield 19, 3) := by decide +kernel
theorem dX0_saveDirty_55 : decode cX0_saveDirty 55 = .ok (.aload_n 0, 1) := by decide +kernel
theorem dX0_saveDirty_56 : decode cX0_saveDirty 56 = .ok (.getfield 9, 3) := by decide +kernel
theorem dX0_saveDirty_59 : decode cX0_saveDirty 59 = .ok (.iconst 0, 1) := by decide +kernel
theorem dX0_saveDirty_60 : decode cX0_saveDirty 60 = .ok (.iconst 0, 1) := by decide +kernel
theorem dX0_saveDirty_61 : decode cX0_saveDirty 61 = .ok (.invokevirtual 115, 3) := by decide +kernel
theorem dX0_saveDirty_64 : decode cX0_saveDirty 64 = .ok (.ifCond .eq 15, 3) := by decide +kernel
theorem dX0_saveDirty_67 : decode cX0_saveDirty 67 = .ok (.aload_n 0, 1) := by decide +kernel
theorem dX0_saveDirty_68 : decode cX0_saveDirty 68 = .ok (.iconst 0, 1) := by decide +kernel
theorem dX0_saveDirty_69 : decode cX0_saveDirty 69 = .ok (.invokevirtual 119, 3) := by decide +kernel
theorem dX0_saveDirty_72 : decode cX0_saveDirty 72 = .ok (.ifCond .eq 7, 3) := by decide +kernel
theorem dX0_saveDirty_75 : decode cX0_saveDirty 75 = .ok (.iconst 1, 1) := by decide +kernel
theorem dX0_saveDirty_76 : decode cX0_saveDirty 76 = .ok (.goto 4, 3) := by decide +kernel
theorem dX0_saveDirty_79 : decode cX0_saveDirty 79 = .ok (.iconst 0, 1) := by decide +kernel
theorem dX0_saveDirty_80 : decode cX0_saveDirty 80 = .ok (.ireturn, 1) := by decide +kernel
set_option maxRecDepth 20000 in
theorem ggX0_finishCommitted_X0_copyRows : GoodIn wsX0_finishCommitted wsX0_copyRows := goodIn_r _ [6, 7, 8, 5, 9, 10, 11, 12, 13, 14, 15, 1, 16, 17, 18, 19, 20, 26, 27, 28, 29, 30, 31, 32, 33] (by decide +kernel) (by decide +kernel)
set_option maxRecDepth 20000 in
theorem gX0_finishCommitted_X0_copyRows : GoodIn wsX0_finishCommitted (wsV RX0 115 RX0 yX0_copyRows wsX0_copyRows) := goodIn_app (goodIn_of _ (by decide +kernel)) ggX0_finishCommitted_X0_copyRows
set_option maxRecDepth 20000 in
theorem ggX0_finishCommitted_X0_writeHeader : GoodIn wsX0_finishCommitted wsX0_writeHeader := goodIn_r _ [24, 25, 10, 11, 12, 5, 13, 14, 15, 1, 16, 17, 18, 19, 20, 26, 27, 28, 29, 30, 31, 32, 33] (by decide +kernel) (by decide +kernel)
set_option maxRecDepth 20000 in
theorem gX0_finishCommitted_X0_writeHeader : GoodIn wsX0_finishCommitted (wsV RX0 119 RX0 yX0_writeHeader wsX0_writeHeader) := goodIn_app (goodIn_of _ (by decide +kernel)) ggX0_finishCommitted_X0_writeHeader
theorem dX0_finishCommitted_0 : decode cX0_finishCommitted 0 = .ok (.aload_n 0, 1) := by decide +kernel
theorem dX0_finishCommitted_1 : decode cX0_finishCommitted 1 = .ok (.getfield 13, 3) := by decide +kernel
theorem dX0_finishCommitted_4 : decode cX0_finishCommitted 4 = .ok (.sipush 192, 3) := by decide +kernel
theorem dX0_finishCommitted_7 : decode cX0_finishCommitted 7 = .ok (.iaload, 1) := by decide +kernel
theorem dX0_finishCommitted_8 : decode cX0_finishCommitted 8 = .ok (.istore_n 1, 1) := by decide +kernel
theorem dX0_finishCommitted_9 : decode cX0_finishCommitted 9 = .ok (.iload_n 1, 1) := by decide +kernel
theorem dX0_finishCommitted_10 : decode cX0_finishCommitted 10 = .ok (.ifCond .ne 5, 3) := by decide +kernel
theorem dX0_finishCommitted_13 : decode cX0_finishCommitted 13 = .ok (.iconst 1, 1) := by decide +kernel
theorem dX0_finishCommitted_14 : decode cX0_finishCommitted 14 = .ok (.ireturn, 1) := by decide +kernel
theorem dX0_finishCommitted_15 : decode cX0_finishCommitted 15 = .ok (.aload_n 0, 1) := by decide +kernel
theorem dX0_finishCommitted_16 : decode cX0_finishCommitted 16 = .ok (.iload_n 1, 1) := by decide +kernel
theorem dX0_finishCommitted_17 : decode cX0_finishCommitted 17 = .ok (.aload_n 0, 1) := by decide +kernel
theorem dX0_finishCommitted_18 : decode cX0_finishCommitted 18 = .ok (.getfield 13, 3) := by decide +kernel
theorem dX0_finishCommitted_21 : decode cX0_finishCommitted 21 = .ok (.bipush 12, 2) := by decide +kernel
theorem dX0_finishCommitted_23 : decode cX0_finishCommitted 23 = .ok (.iconst 0, 1) := by decide +kernel
theorem dX0_finishCommitted_24 : decode cX0_finishCommitted 24 = .ok (.invokevirtual 115, 3) := by decide +kernel
theorem dX0_finishCommitted_27 : decode cX0_finishCommitted 27 = .ok (.ifCond .eq 15, 3) := by decide +kernel
theorem dX0_finishCommitted_30 : decode cX0_finishCommitted 30 = .ok (.aload_n 0, 1) := by decide +kernel
theorem dX0_finishCommitted_31 : decode cX0_finishCommitted 31 = .ok (.iconst 0, 1) := by decide +kernel
theorem dX0_finishCommitted_32 : decode cX0_finishCommitted 32 = .ok (.invokevirtual 119, 3) := by decide +kernel
theorem dX0_finishCommitted_35 : decode cX0_finishCommitted 35 = .ok (.ifCond .eq 7, 3) := by decide +kernel
theorem dX0_finishCommitted_38 : decode cX0_finishCommitted 38 = .ok (.iconst 1, 1) := by decide +kernel
theorem dX0_finishCommitted_39 : decode cX0_finishCommitted 39 = .ok (.goto 4, 3) := by decide +kernel
theorem dX0_finishCommitted_42 : decode cX0_finishCommitted 42 = .ok (.iconst 0, 1) := by decide +kernel
theorem dX0_finishCommitted_43 : decode cX0_finishCommitted 43 = .ok (.ireturn, 1) := by decide +kernel
theorem dX0_loadHomes_0 : decode cX0_loadHomes 0 = .ok (.aload_n 0, 1) := by decide +kernel
theorem dX0_loadHomes_1 : decode cX0_loadHomes 1 = .ok (.getfield 13, 3) := by decide +kernel
theorem dX0_loadHomes_4 : decode cX0_loadHomes 4 = .ok (.iconst 0, 1) := by decide +kernel
theorem dX0_loadHomes_5 : decode cX0_loadHomes 5 = .ok (.aload_n 0, 1) := by decide +kernel
theorem dX0_loadHomes_6 : decode cX0_loadHomes 6 = .ok (.getfield 9, 3) := by decide +kernel
theorem dX0_loadHomes_9 : decode cX0_loadHomes 9 = .ok (.iconst 0, 1) := by decide +kernel
theorem dX0_loadHomes_10 : decode cX0_loadHomes 10 = .ok (.bipush 96, 2) := by decide +kernel
theorem dX0_loadHomes_12 : decode cX0_loadHomes 12 = .ok (.invokestatic 122, 3) := by decide +kernel
theorem dX0_loadHomes_15 : decode cX0_loadHomes 15 = .ok (.aload_n 0, 1) := by decide +kernel
theorem dX0_loadHomes_16 : decode cX0_loadHomes 16 = .ok (.iconst 0, 1) := by decide +kernel
theorem dX0_loadHomes_17 : decode cX0_loadHomes 17 = .ok (.putfield 19, 3) := by decide +kernel
theorem dX0_loadHomes_20 : decode cX0_loadHomes 20 = .ok (.return_, 1) := by decide +kernel
set_option maxRecDepth 20000 in
theorem ggX0_copyRows_X0_has : GoodIn wsX0_copyRows wsX0_has := goodIn_r _ [4] (by decide +kernel) (by decide +kernel)
set_option maxRecDepth 20000 in
theorem gX0_copyRows_X0_has : GoodIn wsX0_copyRows (va_wsS RX0 128 yX0_has wsX0_has) := goodIn_app (goodIn_of _ (by decide +kernel)) ggX0_copyRows_X0_has
set_option maxRecDepth 20000 in
theorem ggX0_copyRows_X0_writeBlock : GoodIn wsX0_copyRows wsX0_writeBlock := goodIn_r _ [8, 9, 10, 11, 12, 13, 14, 15, 16, 17, 18, 19, 20, 21, 22, 23, 24] (by decide +kernel) (by decide +kernel)
set_option maxRecDepth 20000 in
theorem gX0_copyRows_X0_writeBlock : GoodIn wsX0_copyRows (wsV RX0 131 RX0 yX0_writeBlock wsX0_writeBlock) := goodIn_app (goodIn_of _ (by decide +kernel)) ggX0_copyRows_X0_writeBlock
theorem dX0_copyRows_0 : decode cX0_copyRows 0 = .ok (.iconst 0, 1) := by decide +kernel
theorem dX0_copyRows_1 : decode cX0_copyRows 1 = .ok (.istore 5, 2) := by decide +kernel
theorem dX0_copyRows_3 : decode cX0_copyRows 3 = .ok (.iload 5, 2) := by decide +kernel
theorem dX0_copyRows_5 : decode cX0_copyRows 5 = .ok (.bipush 12, 2) := by decide +kernel
theorem dX0_copyRows_7 : decode cX0_copyRows 7 = .ok (.if_icmp .ge 37, 3) := by decide +kernel
theorem dX0_copyRows_10 : decode cX0_copyRows 10 = .ok (.iload_n 1, 1) := by decide +kernel
theorem dX0_copyRows_11 : decode cX0_copyRows 11 = .ok (.iload 5, 2) := by decide +kernel
theorem dX0_copyRows_13 : decode cX0_copyRows 13 = .ok (.invokestatic 128, 3) := by decide +kernel
theorem dX0_copyRows_16 : decode cX0_copyRows 16 = .ok (.ifCond .eq 22, 3) := by decide +kernel
theorem dX0_copyRows_19 : decode cX0_copyRows 19 = .ok (.aload_n 0, 1) := by decide +kernel
theorem dX0_copyRows_20 : decode cX0_copyRows 20 = .ok (.iload 4, 2) := by decide +kernel
theorem dX0_copyRows_22 : decode cX0_copyRows 22 = .ok (.iload 5, 2) := by decide +kernel
theorem dX0_copyRows_24 : decode cX0_copyRows 24 = .ok (.iadd, 1) := by decide +kernel
theorem dX0_copyRows_25 : decode cX0_copyRows 25 = .ok (.aload_n 2, 1) := by decide +kernel
theorem dX0_copyRows_26 : decode cX0_copyRows 26 = .ok (.iload_n 3, 1) := by decide +kernel
theorem dX0_copyRows_27 : decode cX0_copyRows 27 = .ok (.iload 5, 2) := by decide +kernel
theorem dX0_copyRows_29 : decode cX0_copyRows 29 = .ok (.iadd, 1) := by decide +kernel
theorem dX0_copyRows_30 : decode cX0_copyRows 30 = .ok (.invokevirtual 131, 3) := by decide +kernel
theorem dX0_copyRows_33 : decode cX0_copyRows 33 = .ok (.ifCond .ne 5, 3) := by decide +kernel
theorem dX0_copyRows_36 : decode cX0_copyRows 36 = .ok (.iconst 0, 1) := by decide +kernel
theorem dX0_copyRows_37 : decode cX0_copyRows 37 = .ok (.ireturn, 1) := by decide +kernel
theorem dX0_copyRows_38 : decode cX0_copyRows 38 = .ok (.iinc 5 1, 3) := by decide +kernel
theorem dX0_copyRows_41 : decode cX0_copyRows 41 = .ok (.goto (-38), 3) := by decide +kernel
theorem dX0_copyRows_44 : decode cX0_copyRows 44 = .ok (.iconst 1, 1) := by decide +kernel
theorem dX0_copyRows_45 : decode cX0_copyRows 45 = .ok (.ireturn, 1) := by decide +kernel
set_option maxRecDepth 20000 in
theorem ggX0_writeHeader_X0_writeBlock : GoodIn wsX0_writeHeader wsX0_writeBlock := goodIn_r _ [6, 7, 8, 9, 10, 11, 12, 13, 14, 15, 16, 17, 18, 19, 20, 21, 22] (by decide +kernel) (by decide +kernel)
set_option maxRecDepth 20000 in
theorem gX0_writeHeader_X0_writeBlock : GoodIn wsX0_writeHeader (wsV RX0 131 RX0 yX0_writeBlock wsX0_writeBlock) := goodIn_app (goodIn_of _ (by decide +kernel)) ggX0_writeHeader_X0_writeBlock
theorem dX0_writeHeader_0 : decode cX0_writeHeader 0 = .ok (.aload_n 0, 1) := by decide +kernel
theorem dX0_writeHeader_1 : decode cX0_writeHeader 1 = .ok (.getfield 16, 3) := by decide +kernel
theorem dX0_writeHeader_4 : decode cX0_writeHeader 4 = .ok (.iconst 0, 1) := by decide +kernel
theorem dX0_writeHeader_5 : decode cX0_writeHeader 5 = .ok (.iload_n 1, 1) := by decide +kernel
theorem dX0_writeHeader_6 : decode cX0_writeHeader 6 = .ok (.iastore, 1) := by decide +kernel
theorem dX0_writeHeader_7 : decode cX0_writeHeader 7 = .ok (.aload_n 0, 1) := by decide +kernel
theorem dX0_writeHeader_8 : decode cX0_writeHeader 8 = .ok (.bipush 24, 2) := by decide +kernel
theorem dX0_writeHeader_10 : decode cX0_writeHeader 10 = .ok (.aload_n 0, 1) := by decide +kernel
theorem dX0_writeHeader_11 : decode cX0_writeHeader 11 = .ok (.getfield 16, 3) := by decide +kernel
theorem dX0_writeHeader_14 : decode cX0_writeHeader 14 = .ok (.iconst 0, 1) := by decide +kernel
theorem dX0_writeHeader_15 : decode cX0_writeHeader 15 = .ok (.invokevirtual 131, 3) := by decide +kernel
theorem dX0_writeHeader_18 : decode cX0_writeHeader 18 = .ok (.ireturn, 1) := by decide +kernel
theorem dX0_writeBlock_0 : decode cX0_writeBlock 0 = .ok (.aload_n 0, 1) := by decide +kernel
theorem dX0_writeBlock_1 : decode cX0_writeBlock 1 = .ok (.getfield 23, 3) := by decide +kernel
theorem dX0_writeBlock_4 : decode cX0_writeBlock 4 = .ok (.ifCond .ne 10, 3) := by decide +kernel
theorem dX0_writeBlock_7 : decode cX0_writeBlock 7 = .ok (.aload_n 0, 1) := by decide +kernel
theorem dX0_writeBlock_8 : decode cX0_writeBlock 8 = .ok (.iconst 0, 1) := by decide +kernel
theorem dX0_writeBlock_9 : decode cX0_writeBlock 9 = .ok (.putfield 26, 3) := by decide +kernel
theorem dX0_writeBlock_12 : decode cX0_writeBlock 12 = .ok (.iconst 0, 1) := by decide +kernel
theorem dX0_writeBlock_13 : decode cX0_writeBlock 13 = .ok (.ireturn, 1) := by decide +kernel
theorem dX0_writeBlock_14 : decode cX0_writeBlock 14 = .ok (.aload_n 2, 1) := by decide +kernel
theorem dX0_writeBlock_15 : decode cX0_writeBlock 15 = .ok (.iload_n 3, 1) := by decide +kernel
theorem dX0_writeBlock_16 : decode cX0_writeBlock 16 = .ok (.bipush 8, 2) := by decide +kernel
theorem dX0_writeBlock_18 : decode cX0_writeBlock 18 = .ok (.imul, 1) := by decide +kernel
theorem dX0_writeBlock_19 : decode cX0_writeBlock 19 = .ok (.aload_n 0, 1) := by decide +kernel
theorem dX0_writeBlock_20 : decode cX0_writeBlock 20 = .ok (.getfield 13, 3) := by decide +kernel
theorem dX0_writeBlock_23 : decode cX0_writeBlock 23 = .ok (.iload_n 1, 1) := by decide +kernel
theorem dX0_writeBlock_24 : decode cX0_writeBlock 24 = .ok (.bipush 8, 2) := by decide +kernel
theorem dX0_writeBlock_26 : decode cX0_writeBlock 26 = .ok (.imul, 1) := by decide +kernel
theorem dX0_writeBlock_27 : decode cX0_writeBlock 27 = .ok (.bipush 8, 2) := by decide +kernel
theorem dX0_writeBlock_29 : decode cX0_writeBlock 29 = .ok (.invokestatic 122, 3) := by decide +kernel
theorem dX0_writeBlock_32 : decode cX0_writeBlock 32 = .ok (.aload_n 0, 1) := by decide +kernel
theorem dX0_writeBlock_33 : decode cX0_writeBlock 33 = .ok (.getfield 23, 3) := by decide +kernel
theorem dX0_writeBlock_36 : decode cX0_writeBlock 36 = .ok (.iconst (-1), 1) := by decide +kernel
theorem dX0_writeBlock_37 : decode cX0_writeBlock 37 = .ok (.if_icmp .eq 13, 3) := by decide +kernel
theorem dX0_writeBlock_40 : decode cX0_writeBlock 40 = .ok (.aload_n 0, 1) := by decide +kernel
theorem dX0_writeBlock_41 : decode cX0_writeBlock 41 = .ok (.dup, 1) := by decide +kernel
theorem dX0_writeBlock_42 : decode cX0_writeBlock 42 = .ok (.getfield 23, 3) := by decide +kernel
theorem dX0_writeBlock_45 : decode cX0_writeBlock 45 = .ok (.iconst 1, 1) := by decide +kernel
theorem dX0_writeBlock_46 : decode cX0_writeBlock 46 = .ok (.isub, 1) := by decide +kernel
theorem dX0_writeBlock_47 : decode cX0_writeBlock 47 = .ok (.putfield 23, 3) := by decide +kernel
theorem dX0_writeBlock_50 : decode cX0_writeBlock 50 = .ok (.aload_n 0, 1) := by decide +kernel
theorem dX0_writeBlock_51 : decode cX0_writeBlock 51 = .ok (.dup, 1) := by decide +kernel
theorem dX0_writeBlock_52 : decode cX0_writeBlock 52 = .ok (.getfield 30, 3) := by decide +kernel
theorem dX0_writeBlock_55 : decode cX0_writeBlock 55 = .ok (.iconst 1, 1) := by decide +kernel
theorem dX0_writeBlock_56 : decode cX0_writeBlock 56 = .ok (.iadd, 1) := by decide +kernel
theorem dX0_writeBlock_57 : decode cX0_writeBlock 57 = .ok (.putfield 30, 3) := by decide +kernel
theorem dX0_writeBlock_60 : decode cX0_writeBlock 60 = .ok (.iconst 1, 1) := by decide +kernel
theorem dX0_writeBlock_61 : decode cX0_writeBlock 61 = .ok (.ireturn, 1) := by decide +kernel
end
section
theorem dX1_init_0 : decode cX1_init 0 = .ok (.aload_n 0, 1) := by decide +kernel
theorem dX1_init_1 : decode cX1_init 1 = .ok (.invokespecial 1, 3) := by decide +kernel
theorem dX1_init_4 : decode cX1_init 4 = .ok (.aload_n 0, 1) := by decide +kernel
theorem dX1_init_5 : decode cX1_init 5 = .ok (.bipush 96, 2) := by decide +kernel
theorem dX1_init_7 : decode cX1_init 7 = .ok (.newarray .int, 2) := by decide +kernel
theorem dX1_init_9 : decode cX1_init 9 = .ok (.putfield 7, 3) := by decide +kernel
theorem dX1_init_12 : decode cX1_init 12 = .ok (.aload_n 0, 1) := by decide +kernel
theorem dX1_init_13 : decode cX1_init 13 = .ok (.sipush 200, 3) := by decide +kernel
theorem dX1_init_16 : decode cX1_init 16 = .ok (.newarray .int, 2) := by decide +kernel
theorem dX1_init_18 : decode cX1_init 18 = .ok (.putfield 13, 3) := by decide +kernel
theorem dX1_init_21 : decode cX1_init 21 = .ok (.aload_n 0, 1) := by decide +kernel
theorem dX1_init_22 : decode cX1_init 22 = .ok (.bipush 12, 2) := by decide +kernel
theorem dX1_init_24 : decode cX1_init 24 = .ok (.newarray .boolean, 2) := by decide +kernel
theorem dX1_init_26 : decode cX1_init 26 = .ok (.putfield 16, 3) := by decide +kernel
theorem dX1_init_29 : decode cX1_init 29 = .ok (.aload_n 0, 1) := by decide +kernel
theorem dX1_init_30 : decode cX1_init 30 = .ok (.iconst 1, 1) := by decide +kernel
theorem dX1_init_31 : decode cX1_init 31 = .ok (.putfield 20, 3) := by decide +kernel
theorem dX1_init_34 : decode cX1_init 34 = .ok (.return_, 1) := by decide +kernel
theorem dX1_eight_0 : decode cX1_eight 0 = .ok (.iload_n 0, 1) := by decide +kernel
theorem dX1_eight_1 : decode cX1_eight 1 = .ok (.ifCond .lt 13, 3) := by decide +kernel
theorem dX1_eight_4 : decode cX1_eight 4 = .ok (.iload_n 0, 1) := by decide +kernel
theorem dX1_eight_5 : decode cX1_eight 5 = .ok (.bipush 7, 2) := by decide +kernel
theorem dX1_eight_7 : decode cX1_eight 7 = .ok (.if_icmp .gt 7, 3) := by decide +kernel
theorem dX1_eight_10 : decode cX1_eight 10 = .ok (.iconst 1, 1) := by decide +kernel
theorem dX1_eight_11 : decode cX1_eight 11 = .ok (.goto 4, 3) := by decide +kernel
theorem dX1_eight_14 : decode cX1_eight 14 = .ok (.iconst 0, 1) := by decide +kernel
theorem dX1_eight_15 : decode cX1_eight 15 = .ok (.ireturn, 1) := by decide +kernel
theorem dX1_third_0 : decode cX1_third 0 = .ok (.iload_n 0, 1) := by decide +kernel
theorem dX1_third_1 : decode cX1_third 1 = .ok (.ifCond .lt 12, 3) := by decide +kernel
theorem dX1_third_4 : decode cX1_third 4 = .ok (.iload_n 0, 1) := by decide +kernel
theorem dX1_third_5 : decode cX1_third 5 = .ok (.iconst 2, 1) := by decide +kernel
theorem dX1_third_6 : decode cX1_third 6 = .ok (.if_icmp .gt 7, 3) := by decide +kernel
theorem dX1_third_9 : decode cX1_third 9 = .ok (.iconst 1, 1) := by decide +kernel
theorem dX1_third_10 : decode cX1_third 10 = .ok (.goto 4, 3) := by decide +kernel
theorem dX1_third_13 : decode cX1_third 13 = .ok (.iconst 0, 1) := by decide +kernel
theorem dX1_third_14 : decode cX1_third 14 = .ok (.ireturn, 1) := by decide +kernel
theorem dX1_object_0 : decode cX1_object 0 = .ok (.iload_n 0, 1) := by decide +kernel
theorem dX1_object_1 : decode cX1_object 1 = .ok (.ifCond .ne 8, 3) := by decide +kernel
theorem dX1_object_4 : decode cX1_object 4 = .ok (.bipush 12, 2) := by decide +kernel
theorem dX1_object_6 : decode cX1_object 6 = .ok (.goto 8, 3) := by decide +kernel
theorem dX1_object_9 : decode cX1_object 9 = .ok (.iload_n 0, 1) := by decide +kernel
theorem dX1_object_10 : decode cX1_object 10 = .ok (.iconst 1, 1) := by decide +kernel
theorem dX1_object_11 : decode cX1_object 11 = .ok (.isub, 1) := by decide +kernel
theorem dX1_object_12 : decode cX1_object 12 = .ok (.iconst 4, 1) := by decide +kernel
theorem dX1_object_13 : decode cX1_object 13 = .ok (.idiv, 1) := by decide +kernel
theorem dX1_object_14 : decode cX1_object 14 = .ok (.ireturn, 1) := by decide +kernel
theorem dX1_limits_0 : decode cX1_limits 0 = .ok (.iload_n 0, 1) := by decide +kernel
theorem dX1_limits_1 : decode cX1_limits 1 = .ok (.iconst 1, 1) := by decide +kernel
theorem dX1_limits_2 : decode cX1_limits 2 = .ok (.isub, 1) := by decide +kernel
theorem dX1_limits_3 : decode cX1_limits 3 = .ok (.iconst 4, 1) := by decide +kernel
theorem dX1_limits_4 : decode cX1_limits 4 = .ok (.irem, 1) := by decide +kernel
theorem dX1_limits_5 : decode cX1_limits 5 = .ok (.ireturn, 1) := by decide +kernel
set_option maxRecDepth 20000 in
theorem ggX1_limited_X1_limits : GoodIn wsX1_limited wsX1_limits := goodIn_r _ [4] (by decide +kernel) (by decide +kernel)
set_option maxRecDepth 20000 in
theorem gX1_limited_X1_limits : GoodIn wsX1_limited (va_wsS RX1 24 yX1_limits wsX1_limits) := goodIn_app (goodIn_of _ (by decide +kernel)) ggX1_limited_X1_limits
theorem dX1_limited_0 : decode cX1_limited 0 = .ok (.iload_n 0, 1) := by decide +kernel
theorem dX1_limited_1 : decode cX1_limited 1 = .ok (.ifCond .ne 7, 3) := by decide +kernel
theorem dX1_limited_4 : decode cX1_limited 4 = .ok (.iconst 0, 1) := by decide +kernel
theorem dX1_limited_5 : decode cX1_limited 5 = .ok (.goto 16, 3) := by decide +kernel
theorem dX1_limited_8 : decode cX1_limited 8 = .ok (.iload_n 0, 1) := by decide +kernel
theorem dX1_limited_9 : decode cX1_limited 9 = .ok (.iload_n 0, 1) := by decide +kernel
theorem dX1_limited_10 : decode cX1_limited 10 = .ok (.invokestatic 24, 3) := by decide +kernel
theorem dX1_limited_13 : decode cX1_limited 13 = .ok (.isub, 1) := by decide +kernel
theorem dX1_limited_14 : decode cX1_limited 14 = .ok (.iload_n 0, 1) := by decide +kernel
theorem dX1_limited_15 : decode cX1_limited 15 = .ok (.invokestatic 24, 3) := by decide +kernel
theorem dX1_limited_18 : decode cX1_limited 18 = .ok (.iload_n 1, 1) := by decide +kernel
theorem dX1_limited_19 : decode cX1_limited 19 = .ok (.ior, 1) := by decide +kernel
theorem dX1_limited_20 : decode cX1_limited 20 = .ok (.iadd, 1) := by decide +kernel
theorem dX1_limited_21 : decode cX1_limited 21 = .ok (.ireturn, 1) := by decide +kernel
theorem dX1_put_0 : decode cX1_put 0 = .ok (.aload_n 0, 1) := by decide +kernel
theorem dX1_put_1 : decode cX1_put 1 = .ok (.getfield 7, 3) := by decide +kernel
theorem dX1_put_4 : decode cX1_put 4 = .ok (.bipush 8, 2) := by decide +kernel
theorem dX1_put_6 : decode cX1_put 6 = .ok (.iload_n 1, 1) := by decide +kernel
theorem dX1_put_7 : decode cX1_put 7 = .ok (.imul, 1) := by decide +kernel
theorem dX1_put_8 : decode cX1_put 8 = .ok (.iload_n 2, 1) := by decide +kernel
theorem dX1_put_9 : decode cX1_put 9 = .ok (.iadd, 1) := by decide +kernel
theorem dX1_put_10 : decode cX1_put 10 = .ok (.iload_n 3, 1) := by decide +kernel
theorem dX1_put_11 : decode cX1_put 11 = .ok (.iastore, 1) := by decide +kernel
theorem dX1_put_12 : decode cX1_put 12 = .ok (.aload_n 0, 1) := by decide +kernel
theorem dX1_put_13 : decode cX1_put 13 = .ok (.getfield 16, 3) := by decide +kernel
theorem dX1_put_16 : decode cX1_put 16 = .ok (.iload_n 1, 1) := by decide +kernel
theorem dX1_put_17 : decode cX1_put 17 = .ok (.iconst 1, 1) := by decide +kernel
theorem dX1_put_18 : decode cX1_put 18 = .ok (.bastore, 1) := by decide +kernel
theorem dX1_put_19 : decode cX1_put 19 = .ok (.return_, 1) := by decide +kernel
set_option maxRecDepth 20000 in
theorem ggX1_place_X1_eight : GoodIn wsX1_place wsX1_eight := goodIn_r _ [5] (by decide +kernel) (by decide +kernel)
set_option maxRecDepth 20000 in
theorem gX1_place_X1_eight : GoodIn wsX1_place (va_wsS RX1 31 yX1_eight wsX1_eight) := goodIn_app (goodIn_of _ (by decide +kernel)) ggX1_place_X1_eight
set_option maxRecDepth 20000 in
theorem ggX1_place_X1_put : GoodIn wsX1_place wsX1_put := goodIn_r _ [9, 10, 11, 12, 13, 14, 15, 16, 17, 18, 19] (by decide +kernel) (by decide +kernel)
set_option maxRecDepth 20000 in
theorem gX1_place_X1_put : GoodIn wsX1_place (wsV RX1 35 RX1 yX1_put wsX1_put) := goodIn_app (goodIn_of _ (by decide +kernel)) ggX1_place_X1_put
theorem dX1_place_0 : decode cX1_place 0 = .ok (.aload_n 0, 1) := by decide +kernel
theorem dX1_place_1 : decode cX1_place 1 = .ok (.getfield 28, 3) := by decide +kernel
theorem dX1_place_4 : decode cX1_place 4 = .ok (.ifCond .eq 5, 3) := by decide +kernel
theorem dX1_place_7 : decode cX1_place 7 = .ok (.iconst (-1), 1) := by decide +kernel
theorem dX1_place_8 : decode cX1_place 8 = .ok (.ireturn, 1) := by decide +kernel
theorem dX1_place_9 : decode cX1_place 9 = .ok (.iload_n 1, 1) := by decide +kernel
theorem dX1_place_10 : decode cX1_place 10 = .ok (.invokestatic 31, 3) := by decide +kernel
theorem dX1_place_13 : decode cX1_place 13 = .ok (.ifCond .eq 20, 3) := by decide +kernel
theorem dX1_place_16 : decode cX1_place 16 = .ok (.iload_n 2, 1) := by decide +kernel
theorem dX1_place_17 : decode cX1_place 17 = .ok (.invokestatic 31, 3) := by decide +kernel
theorem dX1_place_20 : decode cX1_place 20 = .ok (.ifCond .eq 13, 3) := by decide +kernel
theorem dX1_place_23 : decode cX1_place 23 = .ok (.iload_n 3, 1) := by decide +kernel
theorem dX1_place_24 : decode cX1_place 24 = .ok (.ifCond .lt 9, 3) := by decide +kernel
theorem dX1_place_27 : decode cX1_place 27 = .ok (.iload_n 3, 1) := by decide +kernel
theorem dX1_place_28 : decode cX1_place 28 = .ok (.bipush 48, 2) := by decide +kernel
theorem dX1_place_30 : decode cX1_place 30 = .ok (.if_icmp .le 6, 3) := by decide +kernel
theorem dX1_place_33 : decode cX1_place 33 = .ok (.bipush (-2), 2) := by decide +kernel
theorem dX1_place_35 : decode cX1_place 35 = .ok (.ireturn, 1) := by decide +kernel
theorem dX1_place_36 : decode cX1_place 36 = .ok (.aload_n 0, 1) := by decide +kernel
theorem dX1_place_37 : decode cX1_place 37 = .ok (.iload_n 1, 1) := by decide +kernel
theorem dX1_place_38 : decode cX1_place 38 = .ok (.iload_n 2, 1) := by decide +kernel
theorem dX1_place_39 : decode cX1_place 39 = .ok (.iload_n 3, 1) := by decide +kernel
theorem dX1_place_40 : decode cX1_place 40 = .ok (.invokevirtual 35, 3) := by decide +kernel
theorem dX1_place_43 : decode cX1_place 43 = .ok (.iconst 0, 1) := by decide +kernel
theorem dX1_place_44 : decode cX1_place 44 = .ok (.ireturn, 1) := by decide +kernel
set_option maxRecDepth 20000 in
theorem ggX1_refusal_X1_third : GoodIn wsX1_refusal wsX1_third := goodIn_r _ [6] (by decide +kernel) (by decide +kernel)
set_option maxRecDepth 20000 in
theorem gX1_refusal_X1_third : GoodIn wsX1_refusal (va_wsS RX1 39 yX1_third wsX1_third) := goodIn_app (goodIn_of _ (by decide +kernel)) ggX1_refusal_X1_third
set_option maxRecDepth 20000 in
theorem ggX1_refusal_X1_eight : GoodIn wsX1_refusal wsX1_eight := goodIn_r _ [9] (by decide +kernel) (by decide +kernel)
set_option maxRecDepth 20000 in
theorem gX1_refusal_X1_eight : GoodIn wsX1_refusal (va_wsS RX1 31 yX1_eight wsX1_eight) := goodIn_app (goodIn_of _ (by decide +kernel)) ggX1_refusal_X1_eight
set_option maxRecDepth 20000 in
theorem ggX1_refusal_X1_object : GoodIn wsX1_refusal wsX1_object := goodIn_r _ [12] (by decide +kernel) (by decide +kernel)
set_option maxRecDepth 20000 in
theorem gX1_refusal_X1_object : GoodIn wsX1_refusal (va_wsS RX1 42 yX1_object wsX1_object) := goodIn_app (goodIn_of _ (by decide +kernel)) ggX1_refusal_X1_object
set_option maxRecDepth 20000 in
theorem ggX1_refusal_X1_limits : GoodIn wsX1_refusal wsX1_limits := goodIn_r _ [15] (by decide +kernel) (by decide +kernel)
set_option maxRecDepth 20000 in
theorem gX1_refusal_X1_limits : GoodIn wsX1_refusal (va_wsS RX1 24 yX1_limits wsX1_limits) := goodIn_app (goodIn_of _ (by decide +kernel)) ggX1_refusal_X1_limits
theorem dX1_refusal_0 : decode cX1_refusal 0 = .ok (.aload_n 0, 1) := by decide +kernel
theorem dX1_refusal_1 : decode cX1_refusal 1 = .ok (.getfield 28, 3) := by decide +kernel
theorem dX1_refusal_4 : decode cX1_refusal 4 = .ok (.ifCond .eq 5, 3) := by decide +kernel
theorem dX1_refusal_7 : decode cX1_refusal 7 = .ok (.iconst (-1), 1) := by decide +kernel
theorem dX1_refusal_8 : decode cX1_refusal 8 = .ok (.ireturn, 1) := by decide +kernel
theorem dX1_refusal_9 : decode cX1_refusal 9 = .ok (.iload_n 1, 1) := by decide +kernel
theorem dX1_refusal_10 : decode cX1_refusal 10 = .ok (.invokestatic 39, 3) := by decide +kernel
theorem dX1_refusal_13 : decode cX1_refusal 13 = .ok (.ifCond .eq 17, 3) := by decide +kernel
theorem dX1_refusal_16 : decode cX1_refusal 16 = .ok (.iload_n 2, 1) := by decide +kernel
theorem dX1_refusal_17 : decode cX1_refusal 17 = .ok (.invokestatic 31, 3) := by decide +kernel
theorem dX1_refusal_20 : decode cX1_refusal 20 = .ok (.ifCond .eq 10, 3) := by decide +kernel
theorem dX1_refusal_23 : decode cX1_refusal 23 = .ok (.iload_n 3, 1) := by decide +kernel
theorem dX1_refusal_24 : decode cX1_refusal 24 = .ok (.invokestatic 31, 3) := by decide +kernel
theorem dX1_refusal_27 : decode cX1_refusal 27 = .ok (.ifCond .ne 6, 3) := by decide +kernel
theorem dX1_refusal_30 : decode cX1_refusal 30 = .ok (.bipush (-2), 2) := by decide +kernel
theorem dX1_refusal_32 : decode cX1_refusal 32 = .ok (.ireturn, 1) := by decide +kernel
theorem dX1_refusal_33 : decode cX1_refusal 33 = .ok (.aload_n 0, 1) := by decide +kernel
theorem dX1_refusal_34 : decode cX1_refusal 34 = .ok (.getfield 7, 3) := by decide +kernel
theorem dX1_refusal_37 : decode cX1_refusal 37 = .ok (.bipush 8, 2) := by decide +kernel
theorem dX1_refusal_39 : decode cX1_refusal 39 = .ok (.iload_n 1, 1) := by decide +kernel
theorem dX1_refusal_40 : decode cX1_refusal 40 = .ok (.imul, 1) := by decide +kernel
theorem dX1_refusal_41 : decode cX1_refusal 41 = .ok (.iload_n 2, 1) := by decide +kernel
theorem dX1_refusal_42 : decode cX1_refusal 42 = .ok (.iadd, 1) := by decide +kernel
theorem dX1_refusal_43 : decode cX1_refusal 43 = .ok (.iaload, 1) := by decide +kernel
theorem dX1_refusal_44 : decode cX1_refusal 44 = .ok (.istore 6, 2) := by decide +kernel
theorem dX1_refusal_46 : decode cX1_refusal 46 = .ok (.iload 6, 2) := by decide +kernel
theorem dX1_refusal_48 : decode cX1_refusal 48 = .ok (.invokestatic 42, 3) := by decide +kernel
theorem dX1_refusal_51 : decode cX1_refusal 51 = .ok (.istore 7, 2) := by decide +kernel
theorem dX1_refusal_53 : decode cX1_refusal 53 = .ok (.iload 7, 2) := by decide +kernel
theorem dX1_refusal_55 : decode cX1_refusal 55 = .ok (.bipush 12, 2) := by decide +kernel
theorem dX1_refusal_57 : decode cX1_refusal 57 = .ok (.if_icmp .eq 20, 3) := by decide +kernel
theorem dX1_refusal_60 : decode cX1_refusal 60 = .ok (.iload 4, 2) := by decide +kernel
theorem dX1_refusal_62 : decode cX1_refusal 62 = .ok (.iload 7, 2) := by decide +kernel
theorem dX1_refusal_64 : decode cX1_refusal 64 = .ok (.bipush 7, 2) := by decide +kernel
theorem dX1_refusal_66 : decode cX1_refusal 66 = .ok (.if_icmp .le 7, 3) := by decide +kernel
theorem dX1_refusal_69 : decode cX1_refusal 69 = .ok (.iconst 1, 1) := by decide +kernel
theorem dX1_refusal_70 : decode cX1_refusal 70 = .ok (.goto 4, 3) := by decide +kernel
theorem dX1_refusal_73 : decode cX1_refusal 73 = .ok (.iconst 0, 1) := by decide +kernel
theorem dX1_refusal_74 : decode cX1_refusal 74 = .ok (.if_icmp .eq 6, 3) := by decide +kernel
theorem dX1_refusal_77 : decode cX1_refusal 77 = .ok (.bipush (-3), 2) := by decide +kernel
theorem dX1_refusal_79 : decode cX1_refusal 79 = .ok (.ireturn, 1) := by decide +kernel
theorem dX1_refusal_80 : decode cX1_refusal 80 = .ok (.iload 5, 2) := by decide +kernel
theorem dX1_refusal_82 : decode cX1_refusal 82 = .ok (.ifCond .eq 16, 3) := by decide +kernel
theorem dX1_refusal_85 : decode cX1_refusal 85 = .ok (.iload 6, 2) := by decide +kernel
theorem dX1_refusal_87 : decode cX1_refusal 87 = .ok (.invokestatic 24, 3) := by decide +kernel
theorem dX1_refusal_90 : decode cX1_refusal 90 = .ok (.ifCond .eq 8, 3) := by decide +kernel
theorem dX1_refusal_93 : decode cX1_refusal 93 = .ok (.bipush (-4), 2) := by decide +kernel
theorem dX1_refusal_95 : decode cX1_refusal 95 = .ok (.goto 4, 3) := by decide +kernel
theorem dX1_refusal_98 : decode cX1_refusal 98 = .ok (.iconst 0, 1) := by decide +kernel
theorem dX1_refusal_99 : decode cX1_refusal 99 = .ok (.ireturn, 1) := by decide +kernel
set_option maxRecDepth 20000 in
theorem ggX1_fetch_X1_refusal : GoodIn wsX1_fetch wsX1_refusal := goodIn_r _ [6, 7, 1, 8, 9, 5, 10, 11, 12, 13, 14, 15, 16, 17, 18, 19, 28, 29, 30, 31, 32, 33, 34, 35] (by decide +kernel) (by decide +kernel)
set_option maxRecDepth 20000 in
theorem gX1_fetch_X1_refusal : GoodIn wsX1_fetch (wsV RX1 45 RX1 yX1_refusal wsX1_refusal) := goodIn_app (goodIn_of _ (by decide +kernel)) ggX1_fetch_X1_refusal
set_option maxRecDepth 20000 in
theorem ggX1_fetch_X1_eight : GoodIn wsX1_fetch wsX1_eight := goodIn_r _ [13] (by decide +kernel) (by decide +kernel)
set_option maxRecDepth 20000 in
theorem gX1_fetch_X1_eight : GoodIn wsX1_fetch (va_wsS RX1 31 yX1_eight wsX1_eight) := goodIn_app (goodIn_of _ (by decide +kernel)) ggX1_fetch_X1_eight
set_option maxRecDepth 20000 in
theorem ggX1_fetch_X1_object : GoodIn wsX1_fetch wsX1_object := goodIn_r _ [16] (by decide +kernel) (by decide +kernel)
set_option maxRecDepth 20000 in
theorem gX1_fetch_X1_object : GoodIn wsX1_fetch (va_wsS RX1 42 yX1_object wsX1_object) := goodIn_app (goodIn_of _ (by decide +kernel)) ggX1_fetch_X1_object
set_option maxRecDepth 20000 in
theorem ggX1_fetch_X1_limits : GoodIn wsX1_fetch wsX1_limits := goodIn_r _ [19] (by decide +kernel) (by decide +kernel)
set_option maxRecDepth 20000 in
theorem gX1_fetch_X1_limits : GoodIn wsX1_fetch (va_wsS RX1 24 yX1_limits wsX1_limits) := goodIn_app (goodIn_of _ (by decide +kernel)) ggX1_fetch_X1_limits
set_option maxRecDepth 20000 in
theorem ggX1_fetch_X1_limited : GoodIn wsX1_fetch wsX1_limited := goodIn_r _ [22, 17, 18, 5, 19] (by decide +kernel) (by decide +kernel)
set_option maxRecDepth 20000 in
theorem gX1_fetch_X1_limited : GoodIn wsX1_fetch (va_wsS RX1 49 yX1_limited wsX1_limited) := goodIn_app (goodIn_of _ (by decide +kernel)) ggX1_fetch_X1_limited
set_option maxRecDepth 20000 in
theorem ggX1_fetch_X1_put : GoodIn wsX1_fetch wsX1_put := goodIn_r _ [26, 1, 27, 28, 29, 30, 31, 32, 33, 34, 35] (by decide +kernel) (by decide +kernel)
set_option maxRecDepth 20000 in
theorem gX1_fetch_X1_put : GoodIn wsX1_fetch (wsV RX1 35 RX1 yX1_put wsX1_put) := goodIn_app (goodIn_of _ (by decide +kernel)) ggX1_fetch_X1_put
theorem dX1_fetch_0 : decode cX1_fetch 0 = .ok (.aload_n 0, 1) := by decide +kernel
theorem dX1_fetch_1 : decode cX1_fetch 1 = .ok (.iload_n 1, 1) := by decide +kernel
theorem dX1_fetch_2 : decode cX1_fetch 2 = .ok (.iload_n 2, 1) := by decide +kernel
theorem dX1_fetch_3 : decode cX1_fetch 3 = .ok (.iload_n 3, 1) := by decide +kernel
theorem dX1_fetch_4 : decode cX1_fetch 4 = .ok (.iconst 0, 1) := by decide +kernel
theorem dX1_fetch_5 : decode cX1_fetch 5 = .ok (.iconst 0, 1) := by decide +kernel
theorem dX1_fetch_6 : decode cX1_fetch 6 = .ok (.invokevirtual 45, 3) := by decide +kernel
theorem dX1_fetch_9 : decode cX1_fetch 9 = .ok (.istore 5, 2) := by decide +kernel
theorem dX1_fetch_11 : decode cX1_fetch 11 = .ok (.iload 5, 2) := by decide +kernel
theorem dX1_fetch_13 : decode cX1_fetch 13 = .ok (.iconst (-1), 1) := by decide +kernel
theorem dX1_fetch_14 : decode cX1_fetch 14 = .ok (.if_icmp .eq 15, 3) := by decide +kernel
theorem dX1_fetch_17 : decode cX1_fetch 17 = .ok (.iload 4, 2) := by decide +kernel
theorem dX1_fetch_19 : decode cX1_fetch 19 = .ok (.invokestatic 31, 3) := by decide +kernel
theorem dX1_fetch_22 : decode cX1_fetch 22 = .ok (.ifCond .ne 7, 3) := by decide +kernel
theorem dX1_fetch_25 : decode cX1_fetch 25 = .ok (.bipush (-2), 2) := by decide +kernel
theorem dX1_fetch_27 : decode cX1_fetch 27 = .ok (.istore 5, 2) := by decide +kernel
theorem dX1_fetch_29 : decode cX1_fetch 29 = .ok (.iload 5, 2) := by decide +kernel
theorem dX1_fetch_31 : decode cX1_fetch 31 = .ok (.ifCond .eq 6, 3) := by decide +kernel
theorem dX1_fetch_34 : decode cX1_fetch 34 = .ok (.iload 5, 2) := by decide +kernel
theorem dX1_fetch_36 : decode cX1_fetch 36 = .ok (.ireturn, 1) := by decide +kernel
theorem dX1_fetch_37 : decode cX1_fetch 37 = .ok (.aload_n 0, 1) := by decide +kernel
theorem dX1_fetch_38 : decode cX1_fetch 38 = .ok (.getfield 7, 3) := by decide +kernel
theorem dX1_fetch_41 : decode cX1_fetch 41 = .ok (.bipush 8, 2) := by decide +kernel
theorem dX1_fetch_43 : decode cX1_fetch 43 = .ok (.iload_n 1, 1) := by decide +kernel
theorem dX1_fetch_44 : decode cX1_fetch 44 = .ok (.imul, 1) := by decide +kernel
theorem dX1_fetch_45 : decode cX1_fetch 45 = .ok (.iload_n 2, 1) := by decide +kernel
theorem dX1_fetch_46 : decode cX1_fetch 46 = .ok (.iadd, 1) := by decide +kernel
theorem dX1_fetch_47 : decode cX1_fetch 47 = .ok (.iaload, 1) := by decide +kernel
theorem dX1_fetch_48 : decode cX1_fetch 48 = .ok (.istore 6, 2) := by decide +kernel
theorem dX1_fetch_50 : decode cX1_fetch 50 = .ok (.aload_n 0, 1) := by decide +kernel
theorem dX1_fetch_51 : decode cX1_fetch 51 = .ok (.getfield 7, 3) := by decide +kernel
theorem dX1_fetch_54 : decode cX1_fetch 54 = .ok (.bipush 8, 2) := by decide +kernel
theorem dX1_fetch_56 : decode cX1_fetch 56 = .ok (.iload 6, 2) := by decide +kernel
theorem dX1_fetch_58 : decode cX1_fetch 58 = .ok (.invokestatic 42, 3) := by decide +kernel
theorem dX1_fetch_61 : decode cX1_fetch 61 = .ok (.imul, 1) := by decide +kernel
theorem dX1_fetch_62 : decode cX1_fetch 62 = .ok (.iload_n 3, 1) := by decide +kernel
theorem dX1_fetch_63 : decode cX1_fetch 63 = .ok (.iadd, 1) := by decide +kernel
theorem dX1_fetch_64 : decode cX1_fetch 64 = .ok (.iaload, 1) := by decide +kernel
theorem dX1_fetch_65 : decode cX1_fetch 65 = .ok (.istore 7, 2) := by decide +kernel
theorem dX1_fetch_67 : decode cX1_fetch 67 = .ok (.aload_n 0, 1) := by decide +kernel
theorem dX1_fetch_68 : decode cX1_fetch 68 = .ok (.iload_n 1, 1) := by decide +kernel
theorem dX1_fetch_69 : decode cX1_fetch 69 = .ok (.iload 4, 2) := by decide +kernel
theorem dX1_fetch_71 : decode cX1_fetch 71 = .ok (.iload 6, 2) := by decide +kernel
theorem dX1_fetch_73 : decode cX1_fetch 73 = .ok (.invokestatic 24, 3) := by decide +kernel
theorem dX1_fetch_76 : decode cX1_fetch 76 = .ok (.iconst 2, 1) := by decide +kernel
theorem dX1_fetch_77 : decode cX1_fetch 77 = .ok (.if_icmp .lt 12, 3) := by decide +kernel
theorem dX1_fetch_80 : decode cX1_fetch 80 = .ok (.iload 7, 2) := by decide +kernel
theorem dX1_fetch_82 : decode cX1_fetch 82 = .ok (.iconst 3, 1) := by decide +kernel
theorem dX1_fetch_83 : decode cX1_fetch 83 = .ok (.invokestatic 49, 3) := by decide +kernel
theorem dX1_fetch_86 : decode cX1_fetch 86 = .ok (.goto 5, 3) := by decide +kernel
theorem dX1_fetch_89 : decode cX1_fetch 89 = .ok (.iload 7, 2) := by decide +kernel
theorem dX1_fetch_91 : decode cX1_fetch 91 = .ok (.invokevirtual 35, 3) := by decide +kernel
theorem dX1_fetch_94 : decode cX1_fetch 94 = .ok (.iconst 0, 1) := by decide +kernel
theorem dX1_fetch_95 : decode cX1_fetch 95 = .ok (.ireturn, 1) := by decide +kernel
set_option maxRecDepth 20000 in
theorem ggX1_store_X1_refusal : GoodIn wsX1_store wsX1_refusal := goodIn_r _ [6, 7, 1, 8, 9, 5, 10, 11, 12, 13, 14, 15, 16, 17, 18, 19, 25, 26, 27, 28, 29, 30, 31, 32] (by decide +kernel) (by decide +kernel)
set_option maxRecDepth 20000 in
theorem gX1_store_X1_refusal : GoodIn wsX1_store (wsV RX1 45 RX1 yX1_refusal wsX1_refusal) := goodIn_app (goodIn_of _ (by decide +kernel)) ggX1_store_X1_refusal
set_option maxRecDepth 20000 in
theorem ggX1_store_X1_eight : GoodIn wsX1_store wsX1_eight := goodIn_r _ [13] (by decide +kernel) (by decide +kernel)
set_option maxRecDepth 20000 in
theorem gX1_store_X1_eight : GoodIn wsX1_store (va_wsS RX1 31 yX1_eight wsX1_eight) := goodIn_app (goodIn_of _ (by decide +kernel)) ggX1_store_X1_eight
set_option maxRecDepth 20000 in
theorem ggX1_store_X1_object : GoodIn wsX1_store wsX1_object := goodIn_r _ [16] (by decide +kernel) (by decide +kernel)
set_option maxRecDepth 20000 in
theorem gX1_store_X1_object : GoodIn wsX1_store (va_wsS RX1 42 yX1_object wsX1_object) := goodIn_app (goodIn_of _ (by decide +kernel)) ggX1_store_X1_object
set_option maxRecDepth 20000 in
theorem ggX1_store_X1_put : GoodIn wsX1_store wsX1_put := goodIn_r _ [23, 1, 24, 25, 26, 27, 28, 29, 30, 31, 32] (by decide +kernel) (by decide +kernel)
set_option maxRecDepth 20000 in
theorem gX1_store_X1_put : GoodIn wsX1_store (wsV RX1 35 RX1 yX1_put wsX1_put) := goodIn_app (goodIn_of _ (by decide +kernel)) ggX1_store_X1_put
theorem dX1_store_0 : decode cX1_store 0 = .ok (.aload_n 0, 1) := by decide +kernel
theorem dX1_store_1 : decode cX1_store 1 = .ok (.iload_n 1, 1) := by decide +kernel
theorem dX1_store_2 : decode cX1_store 2 = .ok (.iload_n 2, 1) := by decide +kernel
theorem dX1_store_3 : decode cX1_store 3 = .ok (.iload_n 3, 1) := by decide +kernel
theorem dX1_store_4 : decode cX1_store 4 = .ok (.iconst 0, 1) := by decide +kernel
theorem dX1_store_5 : decode cX1_store 5 = .ok (.iconst 1, 1) := by decide +kernel
theorem dX1_store_6 : decode cX1_store 6 = .ok (.invokevirtual 45, 3) := by decide +kernel
theorem dX1_store_9 : decode cX1_store 9 = .ok (.istore 5, 2) := by decide +kernel
theorem dX1_store_11 : decode cX1_store 11 = .ok (.iload 5, 2) := by decide +kernel
theorem dX1_store_13 : decode cX1_store 13 = .ok (.iconst (-1), 1) := by decide +kernel
theorem dX1_store_14 : decode cX1_store 14 = .ok (.if_icmp .eq 15, 3) := by decide +kernel
theorem dX1_store_17 : decode cX1_store 17 = .ok (.iload 4, 2) := by decide +kernel
theorem dX1_store_19 : decode cX1_store 19 = .ok (.invokestatic 31, 3) := by decide +kernel
theorem dX1_store_22 : decode cX1_store 22 = .ok (.ifCond .ne 7, 3) := by decide +kernel
theorem dX1_store_25 : decode cX1_store 25 = .ok (.bipush (-2), 2) := by decide +kernel
theorem dX1_store_27 : decode cX1_store 27 = .ok (.istore 5, 2) := by decide +kernel
theorem dX1_store_29 : decode cX1_store 29 = .ok (.iload 5, 2) := by decide +kernel
theorem dX1_store_31 : decode cX1_store 31 = .ok (.ifCond .eq 6, 3) := by decide +kernel
theorem dX1_store_34 : decode cX1_store 34 = .ok (.iload 5, 2) := by decide +kernel
theorem dX1_store_36 : decode cX1_store 36 = .ok (.ireturn, 1) := by decide +kernel
theorem dX1_store_37 : decode cX1_store 37 = .ok (.aload_n 0, 1) := by decide +kernel
theorem dX1_store_38 : decode cX1_store 38 = .ok (.aload_n 0, 1) := by decide +kernel
theorem dX1_store_39 : decode cX1_store 39 = .ok (.getfield 7, 3) := by decide +kernel
theorem dX1_store_42 : decode cX1_store 42 = .ok (.bipush 8, 2) := by decide +kernel
theorem dX1_store_44 : decode cX1_store 44 = .ok (.iload_n 1, 1) := by decide +kernel
theorem dX1_store_45 : decode cX1_store 45 = .ok (.imul, 1) := by decide +kernel
theorem dX1_store_46 : decode cX1_store 46 = .ok (.iload_n 2, 1) := by decide +kernel
theorem dX1_store_47 : decode cX1_store 47 = .ok (.iadd, 1) := by decide +kernel
theorem dX1_store_48 : decode cX1_store 48 = .ok (.iaload, 1) := by decide +kernel
theorem dX1_store_49 : decode cX1_store 49 = .ok (.invokestatic 42, 3) := by decide +kernel
theorem dX1_store_52 : decode cX1_store 52 = .ok (.iload_n 3, 1) := by decide +kernel
theorem dX1_store_53 : decode cX1_store 53 = .ok (.aload_n 0, 1) := by decide +kernel
theorem dX1_store_54 : decode cX1_store 54 = .ok (.getfield 7, 3) := by decide +kernel
theorem dX1_store_57 : decode cX1_store 57 = .ok (.bipush 8, 2) := by decide +kernel
theorem dX1_store_59 : decode cX1_store 59 = .ok (.iload_n 1, 1) := by decide +kernel
theorem dX1_store_60 : decode cX1_store 60 = .ok (.imul, 1) := by decide +kernel
theorem dX1_store_61 : decode cX1_store 61 = .ok (.iload 4, 2) := by decide +kernel
theorem dX1_store_63 : decode cX1_store 63 = .ok (.iadd, 1) := by decide +kernel
theorem dX1_store_64 : decode cX1_store 64 = .ok (.iaload, 1) := by decide +kernel
theorem dX1_store_65 : decode cX1_store 65 = .ok (.invokevirtual 35, 3) := by decide +kernel
theorem dX1_store_68 : decode cX1_store 68 = .ok (.iconst 0, 1) := by decide +kernel
theorem dX1_store_69 : decode cX1_store 69 = .ok (.ireturn, 1) := by decide +kernel
set_option maxRecDepth 20000 in
theorem ggX1_read_X1_refusal : GoodIn wsX1_read wsX1_refusal := goodIn_r _ [7, 8, 2, 9, 10, 6, 11, 12, 13, 14, 15, 16, 17, 18, 19, 20, 21, 22, 23, 24, 25, 26, 27, 28] (by decide +kernel) (by decide +kernel)
set_option maxRecDepth 20000 in
theorem gX1_read_X1_refusal : GoodIn wsX1_read (wsV RX1 45 RX1 yX1_refusal wsX1_refusal) := goodIn_app (goodIn_of _ (by decide +kernel)) ggX1_read_X1_refusal
set_option maxRecDepth 20000 in
theorem ggX1_read_X1_object : GoodIn wsX1_read wsX1_object := goodIn_r _ [17] (by decide +kernel) (by decide +kernel)
set_option maxRecDepth 20000 in
theorem gX1_read_X1_object : GoodIn wsX1_read (va_wsS RX1 42 yX1_object wsX1_object) := goodIn_app (goodIn_of _ (by decide +kernel)) ggX1_read_X1_object
theorem dX1_read_0 : decode cX1_read 0 = .ok (.aload_n 0, 1) := by decide +kernel
theorem dX1_read_1 : decode cX1_read 1 = .ok (.iload_n 1, 1) := by decide +kernel
theorem dX1_read_2 : decode cX1_read 2 = .ok (.iload_n 2, 1) := by decide +kernel
theorem dX1_read_3 : decode cX1_read 3 = .ok (.iload_n 3, 1) := by decide +kernel
theorem dX1_read_4 : decode cX1_read 4 = .ok (.iconst 1, 1) := by decide +kernel
theorem dX1_read_5 : decode cX1_read 5 = .ok (.iconst 0, 1) := by decide +kernel
theorem dX1_read_6 : decode cX1_read 6 = .ok (.invokevirtual 45, 3) := by decide +kernel
theorem dX1_read_9 : decode cX1_read 9 = .ok (.istore 4, 2) := by decide +kernel
theorem dX1_read_11 : decode cX1_read 11 = .ok (.iload 4, 2) := by decide +kernel
theorem dX1_read_13 : decode cX1_read 13 = .ok (.ifCond .eq 13, 3) := by decide +kernel
theorem dX1_read_16 : decode cX1_read 16 = .ok (.ldc2_w 53, 3) := by decide +kernel
theorem dX1_read_19 : decode cX1_read 19 = .ok (.iload 4, 2) := by decide +kernel
theorem dX1_read_21 : decode cX1_read 21 = .ok (.i2l, 1) := by decide +kernel
theorem dX1_read_22 : decode cX1_read 22 = .ok (.ladd, 1) := by decide +kernel
theorem dX1_read_23 : decode cX1_read 23 = .ok (.goto 28, 3) := by decide +kernel
theorem dX1_read_26 : decode cX1_read 26 = .ok (.aload_n 0, 1) := by decide +kernel
theorem dX1_read_27 : decode cX1_read 27 = .ok (.getfield 7, 3) := by decide +kernel
theorem dX1_read_30 : decode cX1_read 30 = .ok (.bipush 8, 2) := by decide +kernel
theorem dX1_read_32 : decode cX1_read 32 = .ok (.aload_n 0, 1) := by decide +kernel
theorem dX1_read_33 : decode cX1_read 33 = .ok (.getfield 7, 3) := by decide +kernel
theorem dX1_read_36 : decode cX1_read 36 = .ok (.bipush 8, 2) := by decide +kernel
theorem dX1_read_38 : decode cX1_read 38 = .ok (.iload_n 1, 1) := by decide +kernel
theorem dX1_read_39 : decode cX1_read 39 = .ok (.imul, 1) := by decide +kernel
theorem dX1_read_40 : decode cX1_read 40 = .ok (.iload_n 2, 1) := by decide +kernel
theorem dX1_read_41 : decode cX1_read 41 = .ok (.iadd, 1) := by decide +kernel
theorem dX1_read_42 : decode cX1_read 42 = .ok (.iaload, 1) := by decide +kernel
theorem dX1_read_43 : decode cX1_read 43 = .ok (.invokestatic 42, 3) := by decide +kernel
theorem dX1_read_46 : decode cX1_read 46 = .ok (.imul, 1) := by decide +kernel
theorem dX1_read_47 : decode cX1_read 47 = .ok (.iload_n 3, 1) := by decide +kernel
theorem dX1_read_48 : decode cX1_read 48 = .ok (.iadd, 1) := by decide +kernel
theorem dX1_read_49 : decode cX1_read 49 = .ok (.iaload, 1) := by decide +kernel
theorem dX1_read_50 : decode cX1_read 50 = .ok (.i2l, 1) := by decide +kernel
theorem dX1_read_51 : decode cX1_read 51 = .ok (.lreturn, 1) := by decide +kernel
set_option maxRecDepth 20000 in
theorem ggX1_write_X1_refusal : GoodIn wsX1_write wsX1_refusal := goodIn_r _ [6, 7, 1, 8, 9, 5, 10, 11, 12, 13, 14, 15, 16, 17, 18, 19, 25, 26, 27, 28, 29, 30, 31, 32] (by decide +kernel) (by decide +kernel)
set_option maxRecDepth 20000 in
theorem gX1_write_X1_refusal : GoodIn wsX1_write (wsV RX1 45 RX1 yX1_refusal wsX1_refusal) := goodIn_app (goodIn_of _ (by decide +kernel)) ggX1_write_X1_refusal
set_option maxRecDepth 20000 in
theorem ggX1_write_X1_object : GoodIn wsX1_write wsX1_object := goodIn_r _ [16] (by decide +kernel) (by decide +kernel)
set_option maxRecDepth 20000 in
theorem gX1_write_X1_object : GoodIn wsX1_write (va_wsS RX1 42 yX1_object wsX1_object) := goodIn_app (goodIn_of _ (by decide +kernel)) ggX1_write_X1_object
set_option maxRecDepth 20000 in
theorem ggX1_write_X1_put : GoodIn wsX1_write wsX1_put := goodIn_r _ [23, 1, 24, 25, 26, 27, 28, 29, 30, 31, 32] (by decide +kernel) (by decide +kernel)
set_option maxRecDepth 20000 in
theorem gX1_write_X1_put : GoodIn wsX1_write (wsV RX1 35 RX1 yX1_put wsX1_put) := goodIn_app (goodIn_of _ (by decide +kernel)) ggX1_write_X1_put
theorem dX1_write_0 : decode cX1_write 0 = .ok (.aload_n 0, 1) := by decide +kernel
theorem dX1_write_1 : decode cX1_write 1 = .ok (.iload_n 1, 1) := by decide +kernel
theorem dX1_write_2 : decode cX1_write 2 = .ok (.iload_n 2, 1) := by decide +kernel
theorem dX1_write_3 : decode cX1_write 3 = .ok (.iload_n 3, 1) := by decide +kernel
theorem dX1_write_4 : decode cX1_write 4 = .ok (.iconst 1, 1) := by decide +kernel
theorem dX1_write_5 : decode cX1_write 5 = .ok (.iconst 1, 1) := by decide +kernel
theorem dX1_write_6 : decode cX1_write 6 = .ok (.invokevirtual 45, 3) := by decide +kernel
theorem dX1_write_9 : decode cX1_write 9 = .ok (.istore 5, 2) := by decide +kernel
theorem dX1_write_11 : decode cX1_write 11 = .ok (.iload 5, 2) := by decide +kernel
theorem dX1_write_13 : decode cX1_write 13 = .ok (.ifCond .ne 24, 3) := by decide +kernel
theorem dX1_write_16 : decode cX1_write 16 = .ok (.aload_n 0, 1) := by decide +kernel
theorem dX1_write_17 : decode cX1_write 17 = .ok (.aload_n 0, 1) := by decide +kernel
theorem dX1_write_18 : decode cX1_write 18 = .ok (.getfield 7, 3) := by decide +kernel
theorem dX1_write_21 : decode cX1_write 21 = .ok (.bipush 8, 2) := by decide +kernel
theorem dX1_write_23 : decode cX1_write 23 = .ok (.iload_n 1, 1) := by decide +kernel
theorem dX1_write_24 : decode cX1_write 24 = .ok (.imul, 1) := by decide +kernel
theorem dX1_write_25 : decode cX1_write 25 = .ok (.iload_n 2, 1) := by decide +kernel
theorem dX1_write_26 : decode cX1_write 26 = .ok (.iadd, 1) := by decide +kernel
theorem dX1_write_27 : decode cX1_write 27 = .ok (.iaload, 1) := by decide +kernel
theorem dX1_write_28 : decode cX1_write 28 = .ok (.invokestatic 42, 3) := by decide +kernel
theorem dX1_write_31 : decode cX1_write 31 = .ok (.iload_n 3, 1) := by decide +kernel
theorem dX1_write_32 : decode cX1_write 32 = .ok (.iload 4, 2) := by decide +kernel
theorem dX1_write_34 : decode cX1_write 34 = .ok (.invokevirtual 35, 3) := by decide +kernel
theorem dX1_write_37 : decode cX1_write 37 = .ok (.iload 5, 2) := by decide +kernel
theorem dX1_write_39 : decode cX1_write 39 = .ok (.ireturn, 1) := by decide +kernel
set_option maxRecDepth 20000 in
theorem ggX1_restrict_X1_third : GoodIn wsX1_restrict wsX1_third := goodIn_r _ [6] (by decide +kernel) (by decide +kernel)
set_option maxRecDepth 20000 in
theorem gX1_restrict_X1_third : GoodIn wsX1_restrict (va_wsS RX1 39 yX1_third wsX1_third) := goodIn_app (goodIn_of _ (by decide +kernel)) ggX1_restrict_X1_third
set_option maxRecDepth 20000 in
theorem ggX1_restrict_X1_eight : GoodIn wsX1_restrict wsX1_eight := goodIn_r _ [9] (by decide +kernel) (by decide +kernel)
set_option maxRecDepth 20000 in
theorem gX1_restrict_X1_eight : GoodIn wsX1_restrict (va_wsS RX1 31 yX1_eight wsX1_eight) := goodIn_app (goodIn_of _ (by decide +kernel)) ggX1_restrict_X1_eight
set_option maxRecDepth 20000 in
theorem ggX1_restrict_X1_limited : GoodIn wsX1_restrict wsX1_limited := goodIn_r _ [12, 13, 14, 5, 15] (by decide +kernel) (by decide +kernel)
set_option maxRecDepth 20000 in
theorem gX1_restrict_X1_limited : GoodIn wsX1_restrict (va_wsS RX1 49 yX1_limited wsX1_limited) := goodIn_app (goodIn_of _ (by decide +kernel)) ggX1_restrict_X1_limited
set_option maxRecDepth 20000 in
theorem ggX1_restrict_X1_put : GoodIn wsX1_restrict wsX1_put := goodIn_r _ [19, 2, 20, 21, 22, 23, 24, 25, 26, 27, 28] (by decide +kernel) (by decide +kernel)
set_option maxRecDepth 20000 in
theorem gX1_restrict_X1_put : GoodIn wsX1_restrict (wsV RX1 35 RX1 yX1_put wsX1_put) := goodIn_app (goodIn_of _ (by decide +kernel)) ggX1_restrict_X1_put
theorem dX1_restrict_0 : decode cX1_restrict 0 = .ok (.aload_n 0, 1) := by decide +kernel
theorem dX1_restrict_1 : decode cX1_restrict 1 = .ok (.getfield 28, 3) := by decide +kernel
theorem dX1_restrict_4 : decode cX1_restrict 4 = .ok (.ifCond .eq 5, 3) := by decide +kernel
theorem dX1_restrict_7 : decode cX1_restrict 7 = .ok (.iconst (-1), 1) := by decide +kernel
theorem dX1_restrict_8 : decode cX1_restrict 8 = .ok (.ireturn, 1) := by decide +kernel
theorem dX1_restrict_9 : decode cX1_restrict 9 = .ok (.iload_n 1, 1) := by decide +kernel
theorem dX1_restrict_10 : decode cX1_restrict 10 = .ok (.invokestatic 39, 3) := by decide +kernel
theorem dX1_restrict_13 : decode cX1_restrict 13 = .ok (.ifCond .eq 27, 3) := by decide +kernel
theorem dX1_restrict_16 : decode cX1_restrict 16 = .ok (.iload_n 2, 1) := by decide +kernel
theorem dX1_restrict_17 : decode cX1_restrict 17 = .ok (.invokestatic 31, 3) := by decide +kernel
theorem dX1_restrict_20 : decode cX1_restrict 20 = .ok (.ifCond .eq 20, 3) := by decide +kernel
theorem dX1_restrict_23 : decode cX1_restrict 23 = .ok (.iload 4, 2) := by decide +kernel
theorem dX1_restrict_25 : decode cX1_restrict 25 = .ok (.invokestatic 31, 3) := by decide +kernel
theorem dX1_restrict_28 : decode cX1_restrict 28 = .ok (.ifCond .eq 12, 3) := by decide +kernel
theorem dX1_restrict_31 : decode cX1_restrict 31 = .ok (.iload_n 3, 1) := by decide +kernel
theorem dX1_restrict_32 : decode cX1_restrict 32 = .ok (.ifCond .lt 8, 3) := by decide +kernel
theorem dX1_restrict_35 : decode cX1_restrict 35 = .ok (.iload_n 3, 1) := by decide +kernel
theorem dX1_restrict_36 : decode cX1_restrict 36 = .ok (.iconst 3, 1) := by decide +kernel
theorem dX1_restrict_37 : decode cX1_restrict 37 = .ok (.if_icmp .le 6, 3) := by decide +kernel
theorem dX1_restrict_40 : decode cX1_restrict 40 = .ok (.bipush (-2), 2) := by decide +kernel
theorem dX1_restrict_42 : decode cX1_restrict 42 = .ok (.ireturn, 1) := by decide +kernel
theorem dX1_restrict_43 : decode cX1_restrict 43 = .ok (.aload_n 0, 1) := by decide +kernel
theorem dX1_restrict_44 : decode cX1_restrict 44 = .ok (.iload_n 1, 1) := by decide +kernel
theorem dX1_restrict_45 : decode cX1_restrict 45 = .ok (.iload 4, 2) := by decide +kernel
theorem dX1_restrict_47 : decode cX1_restrict 47 = .ok (.aload_n 0, 1) := by decide +kernel
theorem dX1_restrict_48 : decode cX1_restrict 48 = .ok (.getfield 7, 3) := by decide +kernel
theorem dX1_restrict_51 : decode cX1_restrict 51 = .ok (.bipush 8, 2) := by decide +kernel
theorem dX1_restrict_53 : decode cX1_restrict 53 = .ok (.iload_n 1, 1) := by decide +kernel
theorem dX1_restrict_54 : decode cX1_restrict 54 = .ok (.imul, 1) := by decide +kernel
theorem dX1_restrict_55 : decode cX1_restrict 55 = .ok (.iload_n 2, 1) := by decide +kernel
theorem dX1_restrict_56 : decode cX1_restrict 56 = .ok (.iadd, 1) := by decide +kernel
theorem dX1_restrict_57 : decode cX1_restrict 57 = .ok (.iaload, 1) := by decide +kernel
theorem dX1_restrict_58 : decode cX1_restrict 58 = .ok (.iload_n 3, 1) := by decide +kernel
theorem dX1_restrict_59 : decode cX1_restrict 59 = .ok (.invokestatic 49, 3) := by decide +kernel
theorem dX1_restrict_62 : decode cX1_restrict 62 = .ok (.invokevirtual 35, 3) := by decide +kernel
theorem dX1_restrict_65 : decode cX1_restrict 65 = .ok (.iconst 0, 1) := by decide +kernel
theorem dX1_restrict_66 : decode cX1_restrict 66 = .ok (.ireturn, 1) := by decide +kernel
set_option maxRecDepth 20000 in
theorem ggX1_clear_X1_third : GoodIn wsX1_clear wsX1_third := goodIn_r _ [5] (by decide +kernel) (by decide +kernel)
set_option maxRecDepth 20000 in
theorem gX1_clear_X1_third : GoodIn wsX1_clear (va_wsS RX1 39 yX1_third wsX1_third) := goodIn_app (goodIn_of _ (by decide +kernel)) ggX1_clear_X1_third
set_option maxRecDepth 20000 in
theorem ggX1_clear_X1_eight : GoodIn wsX1_clear wsX1_eight := goodIn_r _ [8] (by decide +kernel) (by decide +kernel)
set_option maxRecDepth 20000 in
theorem gX1_clear_X1_eight : GoodIn wsX1_clear (va_wsS RX1 31 yX1_eight wsX1_eight) := goodIn_app (goodIn_of _ (by decide +kernel)) ggX1_clear_X1_eight
set_option maxRecDepth 20000 in
theorem ggX1_clear_X1_put : GoodIn wsX1_clear wsX1_put := goodIn_r _ [12, 13, 14, 15, 16, 17, 18, 19, 20, 21, 22] (by decide +kernel) (by decide +kernel)
set_option maxRecDepth 20000 in
theorem gX1_clear_X1_put : GoodIn wsX1_clear (wsV RX1 35 RX1 yX1_put wsX1_put) := goodIn_app (goodIn_of _ (by decide +kernel)) ggX1_clear_X1_put
theorem dX1_clear_0 : decode cX1_clear 0 = .ok (.aload_n 0, 1) := by decide +kernel
theorem dX1_clear_1 : decode cX1_clear 1 = .ok (.getfield 28, 3) := by decide +kernel
theorem dX1_clear_4 : decode cX1_clear 4 = .ok (.ifCond .eq 5, 3) := by decide +kernel
theorem dX1_clear_7 : decode cX1_clear 7 = .ok (.iconst (-1), 1) := by decide +kernel
theorem dX1_clear_8 : decode cX1_clear 8 = .ok (.ireturn, 1) := by decide +kernel
theorem dX1_clear_9 : decode cX1_clear 9 = .ok (.iload_n 1, 1) := by decide +kernel
theorem dX1_clear_10 : decode cX1_clear 10 = .ok (.invokestatic 39, 3) := by decide +kernel
theorem dX1_clear_13 : decode cX1_clear 13 = .ok (.ifCond .eq 10, 3) := by decide +kernel
theorem dX1_clear_16 : decode cX1_clear 16 = .ok (.iload_n 2, 1) := by decide +kernel
theorem dX1_clear_17 : decode cX1_clear 17 = .ok (.invokestatic 31, 3) := by decide +kernel
theorem dX1_clear_20 : decode cX1_clear 20 = .ok (.ifCond .ne 6, 3) := by decide +kernel
theorem dX1_clear_23 : decode cX1_clear 23 = .ok (.bipush (-2), 2) := by decide +kernel
theorem dX1_clear_25 : decode cX1_clear 25 = .ok (.ireturn, 1) := by decide +kernel
theorem dX1_clear_26 : decode cX1_clear 26 = .ok (.aload_n 0, 1) := by decide +kernel
theorem dX1_clear_27 : decode cX1_clear 27 = .ok (.iload_n 1, 1) := by decide +kernel
theorem dX1_clear_28 : decode cX1_clear 28 = .ok (.iload_n 2, 1) := by decide +kernel
theorem dX1_clear_29 : decode cX1_clear 29 = .ok (.iconst 0, 1) := by decide +kernel
theorem dX1_clear_30 : decode cX1_clear 30 = .ok (.invokevirtual 35, 3) := by decide +kernel
theorem dX1_clear_33 : decode cX1_clear 33 = .ok (.iconst 0, 1) := by decide +kernel
theorem dX1_clear_34 : decode cX1_clear 34 = .ok (.ireturn, 1) := by decide +kernel
theorem dX1_inSet_0 : decode cX1_inSet 0 = .ok (.iconst 0, 1) := by decide +kernel
theorem dX1_inSet_1 : decode cX1_inSet 1 = .ok (.istore_n 2, 1) := by decide +kernel
theorem dX1_inSet_2 : decode cX1_inSet 2 = .ok (.iconst 0, 1) := by decide +kernel
theorem dX1_inSet_3 : decode cX1_inSet 3 = .ok (.istore_n 3, 1) := by decide +kernel
theorem dX1_inSet_4 : decode cX1_inSet 4 = .ok (.iload_n 3, 1) := by decide +kernel
theorem dX1_inSet_5 : decode cX1_inSet 5 = .ok (.bipush 12, 2) := by decide +kernel
theorem dX1_inSet_7 : decode cX1_inSet 7 = .ok (.if_icmp .ge 17, 3) := by decide +kernel
theorem dX1_inSet_10 : decode cX1_inSet 10 = .ok (.iload_n 2, 1) := by decide +kernel
theorem dX1_inSet_11 : decode cX1_inSet 11 = .ok (.iload_n 1, 1) := by decide +kernel
theorem dX1_inSet_12 : decode cX1_inSet 12 = .ok (.iload_n 3, 1) := by decide +kernel
theorem dX1_inSet_13 : decode cX1_inSet 13 = .ok (.ishr, 1) := by decide +kernel
theorem dX1_inSet_14 : decode cX1_inSet 14 = .ok (.iconst 1, 1) := by decide +kernel
theorem dX1_inSet_15 : decode cX1_inSet 15 = .ok (.iand, 1) := by decide +kernel
theorem dX1_inSet_16 : decode cX1_inSet 16 = .ok (.iadd, 1) := by decide +kernel
theorem dX1_inSet_17 : decode cX1_inSet 17 = .ok (.istore_n 2, 1) := by decide +kernel
theorem dX1_inSet_18 : decode cX1_inSet 18 = .ok (.iinc 3 1, 3) := by decide +kernel
theorem dX1_inSet_21 : decode cX1_inSet 21 = .ok (.goto (-17), 3) := by decide +kernel
theorem dX1_inSet_24 : decode cX1_inSet 24 = .ok (.iload_n 2, 1) := by decide +kernel
theorem dX1_inSet_25 : decode cX1_inSet 25 = .ok (.ireturn, 1) := by decide +kernel
theorem dX1_member_0 : decode cX1_member 0 = .ok (.iload_n 2, 1) := by decide +kernel
theorem dX1_member_1 : decode cX1_member 1 = .ok (.istore_n 3, 1) := by decide +kernel
theorem dX1_member_2 : decode cX1_member 2 = .ok (.iconst 0, 1) := by decide +kernel
theorem dX1_member_3 : decode cX1_member 3 = .ok (.istore 4, 2) := by decide +kernel
theorem dX1_member_5 : decode cX1_member 5 = .ok (.iload 4, 2) := by decide +kernel
theorem dX1_member_7 : decode cX1_member 7 = .ok (.bipush 12, 2) := by decide +kernel
theorem dX1_member_9 : decode cX1_member 9 = .ok (.if_icmp .ge 29, 3) := by decide +kernel
theorem dX1_member_12 : decode cX1_member 12 = .ok (.iload_n 1, 1) := by decide +kernel
theorem dX1_member_13 : decode cX1_member 13 = .ok (.iload 4, 2) := by decide +kernel
theorem dX1_member_15 : decode cX1_member 15 = .ok (.ishr, 1) := by decide +kernel
theorem dX1_member_16 : decode cX1_member 16 = .ok (.iconst 1, 1) := by decide +kernel
theorem dX1_member_17 : decode cX1_member 17 = .ok (.iand, 1) := by decide +kernel
theorem dX1_member_18 : decode cX1_member 18 = .ok (.iconst 1, 1) := by decide +kernel
theorem dX1_member_19 : decode cX1_member 19 = .ok (.if_icmp .ne 13, 3) := by decide +kernel
theorem dX1_member_22 : decode cX1_member 22 = .ok (.iload_n 3, 1) := by decide +kernel
theorem dX1_member_23 : decode cX1_member 23 = .ok (.ifCond .ne 6, 3) := by decide +kernel
theorem dX1_member_26 : decode cX1_member 26 = .ok (.iload 4, 2) := by decide +kernel
theorem dX1_member_28 : decode cX1_member 28 = .ok (.ireturn, 1) := by decide +kernel
theorem dX1_member_29 : decode cX1_member 29 = .ok (.iinc 3 (-1), 3) := by decide +kernel
theorem dX1_member_32 : decode cX1_member 32 = .ok (.iinc 4 1, 3) := by decide +kernel
theorem dX1_member_35 : decode cX1_member 35 = .ok (.goto (-30), 3) := by decide +kernel
theorem dX1_member_38 : decode cX1_member 38 = .ok (.iconst 0, 1) := by decide +kernel
theorem dX1_member_39 : decode cX1_member 39 = .ok (.ireturn, 1) := by decide +kernel
theorem dX1_may_0 : decode cX1_may 0 = .ok (.aload_n 0, 1) := by decide +kernel
theorem dX1_may_1 : decode cX1_may 1 = .ok (.getfield 20, 3) := by decide +kernel
theorem dX1_may_4 : decode cX1_may 4 = .ok (.ifCond .ne 17, 3) := by decide +kernel
theorem dX1_may_7 : decode cX1_may 7 = .ok (.aload_n 0, 1) := by decide +kernel
theorem dX1_may_8 : decode cX1_may 8 = .ok (.getfield 55, 3) := by decide +kernel
theorem dX1_may_11 : decode cX1_may 11 = .ok (.ifCond .ne 10, 3) := by decide +kernel
theorem dX1_may_14 : decode cX1_may 14 = .ok (.aload_n 0, 1) := by decide +kernel
theorem dX1_may_15 : decode cX1_may 15 = .ok (.iconst 1, 1) := by decide +kernel
theorem dX1_may_16 : decode cX1_may 16 = .ok (.putfield 28, 3) := by decide +kernel
theorem dX1_may_19 : decode cX1_may 19 = .ok (.iconst 0, 1) := by decide +kernel
theorem dX1_may_20 : decode cX1_may 20 = .ok (.ireturn, 1) := by decide +kernel
theorem dX1_may_21 : decode cX1_may 21 = .ok (.aload_n 0, 1) := by decide +kernel
theorem dX1_may_22 : decode cX1_may 22 = .ok (.getfield 20, 3) := by decide +kernel
theorem dX1_may_25 : decode cX1_may 25 = .ok (.ifCond .ne 13, 3) := by decide +kernel
theorem dX1_may_28 : decode cX1_may 28 = .ok (.aload_n 0, 1) := by decide +kernel
theorem dX1_may_29 : decode cX1_may 29 = .ok (.dup, 1) := by decide +kernel
theorem dX1_may_30 : decode cX1_may 30 = .ok (.getfield 55, 3) := by decide +kernel
theorem dX1_may_33 : decode cX1_may 33 = .ok (.iconst 1, 1) := by decide +kernel
theorem dX1_may_34 : decode cX1_may 34 = .ok (.isub, 1) := by decide +kernel
theorem dX1_may_35 : decode cX1_may 35 = .ok (.putfield 55, 3) := by decide +kernel
theorem dX1_may_38 : decode cX1_may 38 = .ok (.aload_n 0, 1) := by decide +kernel
theorem dX1_may_39 : decode cX1_may 39 = .ok (.dup, 1) := by decide +kernel
theorem dX1_may_40 : decode cX1_may 40 = .ok (.getfield 59, 3) := by decide +kernel
theorem dX1_may_43 : decode cX1_may 43 = .ok (.iconst 1, 1) := by decide +kernel
theorem dX1_may_44 : decode cX1_may 44 = .ok (.iadd, 1) := by decide +kernel
theorem dX1_may_45 : decode cX1_may 45 = .ok (.putfield 59, 3) := by decide +kernel
theorem dX1_may_48 : decode cX1_may 48 = .ok (.iconst 1, 1) := by decide +kernel
theorem dX1_may_49 : decode cX1_may 49 = .ok (.ireturn, 1) := by decide +kernel
theorem dX1_header_0 : decode cX1_header 0 = .ok (.aload_n 0, 1) := by decide +kernel
theorem dX1_header_1 : decode cX1_header 1 = .ok (.getfield 13, 3) := by decide +kernel
theorem dX1_header_4 : decode cX1_header 4 = .ok (.sipush 192, 3) := by decide +kernel
theorem dX1_header_7 : decode cX1_header 7 = .ok (.iload_n 1, 1) := by decide +kernel
theorem dX1_header_8 : decode cX1_header 8 = .ok (.iastore, 1) := by decide +kernel
theorem dX1_header_9 : decode cX1_header 9 = .ok (.return_, 1) := by decide +kernel
set_option maxRecDepth 20000 in
theorem ggX1_checkpoint_X1_dirty : GoodIn wsX1_checkpoint wsX1_dirty := goodIn_r _ [10, 1, 5, 30, 31, 32, 33, 34, 35, 36, 37] (by decide +kernel) (by decide +kernel)
set_option maxRecDepth 20000 in
theorem gX1_checkpoint_X1_dirty : GoodIn wsX1_checkpoint (wsV RX1 62 RX1 yX1_dirty wsX1_dirty) := goodIn_app (goodIn_of _ (by decide +kernel)) ggX1_checkpoint_X1_dirty
set_option maxRecDepth 20000 in
theorem ggX1_checkpoint_X1_inSet : GoodIn wsX1_checkpoint wsX1_inSet := goodIn_r _ [14] (by decide +kernel) (by decide +kernel)
set_option maxRecDepth 20000 in
theorem gX1_checkpoint_X1_inSet : GoodIn wsX1_checkpoint (wsV RX1 66 RX1 yX1_inSet wsX1_inSet) := goodIn_app (goodIn_of _ (by decide +kernel)) ggX1_checkpoint_X1_inSet
set_option maxRecDepth 20000 in
theorem ggX1_checkpoint_X1_may : GoodIn wsX1_checkpoint wsX1_may := goodIn_r _ [18, 19, 20, 1, 21, 30, 31, 32, 33, 34, 35, 36, 37] (by decide +kernel) (by decide +kernel)
set_option maxRecDepth 20000 in
theorem gX1_checkpoint_X1_may : GoodIn wsX1_checkpoint (wsV RX1 69 RX1 yX1_may wsX1_may) := goodIn_app (goodIn_of _ (by decide +kernel)) ggX1_checkpoint_X1_may
set_option maxRecDepth 20000 in
theorem ggX1_checkpoint_X1_header : GoodIn wsX1_checkpoint wsX1_header := goodIn_r _ [25, 3, 30, 31, 32, 33, 34, 35, 36, 37] (by decide +kernel) (by decide +kernel)
set_option maxRecDepth 20000 in
theorem gX1_checkpoint_X1_header : GoodIn wsX1_checkpoint (wsV RX1 73 RX1 yX1_header wsX1_header) := goodIn_app (goodIn_of _ (by decide +kernel)) ggX1_checkpoint_X1_header
set_option maxRecDepth 20000 in
theorem ggX1_checkpoint_X1_member : GoodIn wsX1_checkpoint wsX1_member := goodIn_r _ [29] (by decide +kernel) (by decide +kernel)
set_option maxRecDepth 20000 in
theorem gX1_checkpoint_X1_member : GoodIn wsX1_checkpoint (wsV RX1 80 RX1 yX1_member wsX1_member) := goodIn_app (goodIn_of _ (by decide +kernel)) ggX1_checkpoint_X1_member
theorem dX1_checkpoint_0 : decode cX1_checkpoint 0 = .ok (.aload_n 0, 1) := by decide +kernel
theorem dX1_checkpoint_1 : decode cX1_checkpoint 1 = .ok (.getfield 28, 3) := by decide +kernel
theorem dX1_checkpoint_4 : decode cX1_checkpoint 4 = .ok (.ifCond .eq 5, 3) := by decide +kernel
theorem dX1_checkpoint_7 : decode cX1_checkpoint 7 = .ok (.iconst (-1), 1) := by decide +kernel
theorem dX1_checkpoint_8 : decode cX1_checkpoint 8 = .ok (.ireturn, 1) := by decide +kernel
theorem dX1_checkpoint_9 : decode cX1_checkpoint 9 = .ok (.aload_n 0, 1) := by decide +kernel
theorem dX1_checkpoint_10 : decode cX1_checkpoint 10 = .ok (.invokevirtual 62, 3) := by decide +kernel
theorem dX1_checkpoint_13 : decode cX1_checkpoint 13 = .ok (.istore_n 1, 1) := by decide +kernel
theorem dX1_checkpoint_14 : decode cX1_checkpoint 14 = .ok (.aload_n 0, 1) := by decide +kernel
theorem dX1_checkpoint_15 : decode cX1_checkpoint 15 = .ok (.iload_n 1, 1) := by decide +kernel
theorem dX1_checkpoint_16 : decode cX1_checkpoint 16 = .ok (.invokevirtual 66, 3) := by decide +kernel
theorem dX1_checkpoint_19 : decode cX1_checkpoint 19 = .ok (.istore_n 2, 1) := by decide +kernel
theorem dX1_checkpoint_20 : decode cX1_checkpoint 20 = .ok (.iload_n 2, 1) := by decide +kernel
theorem dX1_checkpoint_21 : decode cX1_checkpoint 21 = .ok (.ifCond .ne 5, 3) := by decide +kernel
theorem dX1_checkpoint_24 : decode cX1_checkpoint 24 = .ok (.iconst 0, 1) := by decide +kernel
theorem dX1_checkpoint_25 : decode cX1_checkpoint 25 = .ok (.ireturn, 1) := by decide +kernel
theorem dX1_checkpoint_26 : decode cX1_checkpoint 26 = .ok (.iconst 0, 1) := by decide +kernel
theorem dX1_checkpoint_27 : decode cX1_checkpoint 27 = .ok (.istore_n 3, 1) := by decide +kernel
theorem dX1_checkpoint_28 : decode cX1_checkpoint 28 = .ok (.iload_n 3, 1) := by decide +kernel
theorem dX1_checkpoint_29 : decode cX1_checkpoint 29 = .ok (.iconst 2, 1) := by decide +kernel
theorem dX1_checkpoint_30 : decode cX1_checkpoint 30 = .ok (.iload_n 2, 1) := by decide +kernel
theorem dX1_checkpoint_31 : decode cX1_checkpoint 31 = .ok (.imul, 1) := by decide +kernel
theorem dX1_checkpoint_32 : decode cX1_checkpoint 32 = .ok (.iconst 2, 1) := by decide +kernel
theorem dX1_checkpoint_33 : decode cX1_checkpoint 33 = .ok (.iadd, 1) := by decide +kernel
theorem dX1_checkpoint_34 : decode cX1_checkpoint 34 = .ok (.if_icmp .ge 137, 3) := by decide +kernel
theorem dX1_checkpoint_37 : decode cX1_checkpoint 37 = .ok (.aload_n 0, 1) := by decide +kernel
theorem dX1_checkpoint_38 : decode cX1_checkpoint 38 = .ok (.invokevirtual 69, 3) := by decide +kernel
theorem dX1_checkpoint_41 : decode cX1_checkpoint 41 = .ok (.ifCond .ne 6, 3) := by decide +kernel
theorem dX1_checkpoint_44 : decode cX1_checkpoint 44 = .ok (.bipush (-2), 2) := by decide +kernel
theorem dX1_checkpoint_46 : decode cX1_checkpoint 46 = .ok (.ireturn, 1) := by decide +kernel
theorem dX1_checkpoint_47 : decode cX1_checkpoint 47 = .ok (.iload_n 3, 1) := by decide +kernel
theorem dX1_checkpoint_48 : decode cX1_checkpoint 48 = .ok (.iload_n 2, 1) := by decide +kernel
theorem dX1_checkpoint_49 : decode cX1_checkpoint 49 = .ok (.if_icmp .ne 21, 3) := by decide +kernel
theorem dX1_checkpoint_52 : decode cX1_checkpoint 52 = .ok (.aload_n 0, 1) := by decide +kernel
theorem dX1_checkpoint_53 : decode cX1_checkpoint 53 = .ok (.iload_n 1, 1) := by decide +kernel
theorem dX1_checkpoint_54 : decode cX1_checkpoint 54 = .ok (.invokevirtual 73, 3) := by decide +kernel
theorem dX1_checkpoint_57 : decode cX1_checkpoint 57 = .ok (.aload_n 0, 1) := by decide +kernel
theorem dX1_checkpoint_58 : decode cX1_checkpoint 58 = .ok (.dup, 1) := by decide +kernel
theorem dX1_checkpoint_59 : decode cX1_checkpoint 59 = .ok (.getfield 77, 3) := by decide +kernel
theorem dX1_checkpoint_62 : decode cX1_checkpoint 62 = .ok (.iconst 1, 1) := by decide +kernel
theorem dX1_checkpoint_63 : decode cX1_checkpoint 63 = .ok (.iadd, 1) := by decide +kernel
theorem dX1_checkpoint_64 : decode cX1_checkpoint 64 = .ok (.putfield 77, 3) := by decide +kernel
theorem dX1_checkpoint_67 : decode cX1_checkpoint 67 = .ok (.goto 98, 3) := by decide +kernel
theorem dX1_checkpoint_70 : decode cX1_checkpoint 70 = .ok (.iload_n 3, 1) := by decide +kernel
theorem dX1_checkpoint_71 : decode cX1_checkpoint 71 = .ok (.iconst 2, 1) := by decide +kernel
theorem dX1_checkpoint_72 : decode cX1_checkpoint 72 = .ok (.iload_n 2, 1) := by decide +kernel
theorem dX1_checkpoint_73 : decode cX1_checkpoint 73 = .ok (.imul, 1) := by decide +kernel
theorem dX1_checkpoint_74 : decode cX1_checkpoint 74 = .ok (.if_icmp .le 11, 3) := by decide +kernel
theorem dX1_checkpoint_77 : decode cX1_checkpoint 77 = .ok (.aload_n 0, 1) := by decide +kernel
theorem dX1_checkpoint_78 : decode cX1_checkpoint 78 = .ok (.iconst 0, 1) := by decide +kernel
theorem dX1_checkpoint_79 : decode cX1_checkpoint 79 = .ok (.invokevirtual 73, 3) := by decide +kernel
theorem dX1_checkpoint_82 : decode cX1_checkpoint 82 = .ok (.goto 83, 3) := by decide +kernel
theorem dX1_checkpoint_85 : decode cX1_checkpoint 85 = .ok (.aload_n 0, 1) := by decide +kernel
theorem dX1_checkpoint_86 : decode cX1_checkpoint 86 = .ok (.iload_n 1, 1) := by decide +kernel
theorem dX1_checkpoint_87 : decode cX1_checkpoint 87 = .ok (.iload_n 3, 1) := by decide +kernel
theorem dX1_checkpoint_88 : decode cX1_checkpoint 88 = .ok (.iload_n 2, 1) := by decide +kernel
theorem dX1_checkpoint_89 : decode cX1_checkpoint 89 = .ok (.if_icmp .ge 7, 3) := by decide +kernel
theorem dX1_checkpoint_92 : decode cX1_checkpoint 92 = .ok (.iload_n 3, 1) := by decide +kernel
theorem dX1_checkpoint_93 : decode cX1_checkpoint 93 = .ok (.goto 8, 3) := by decide +kernel
theorem dX1_checkpoint_96 : decode cX1_checkpoint 96 = .ok (.iload_n 3, 1) := by decide +kernel
theorem dX1_checkpoint_97 : decode cX1_checkpoint 97 = .ok (.iload_n 2, 1) := by decide +kernel
theorem dX1_checkpoint_98 : decode cX1_checkpoint 98 = .ok (.isub, 1) := by decide +kernel
theorem dX1_checkpoint_99 : decode cX1_checkpoint 99 = .ok (.iconst 1, 1) := by decide +kernel
theorem dX1_checkpoint_100 : decode cX1_checkpoint 100 = .ok (.isub, 1) := by decide +kernel
theorem dX1_checkpoint_101 : decode cX1_checkpoint 101 = .ok (.invokevirtual 80, 3) := by decide +kernel
theorem dX1_checkpoint_104 : decode cX1_checkpoint 104 = .ok (.istore 4, 2) := by decide +kernel
theorem dX1_checkpoint_106 : decode cX1_checkpoint 106 = .ok (.iload_n 3, 1) := by decide +kernel
theorem dX1_checkpoint_107 : decode cX1_checkpoint 107 = .ok (.iload_n 2, 1) := by decide +kernel
theorem dX1_checkpoint_108 : decode cX1_checkpoint 108 = .ok (.if_icmp .ge 11, 3) := by decide +kernel
theorem dX1_checkpoint_111 : decode cX1_checkpoint 111 = .ok (.bipush 12, 2) := by decide +kernel
theorem dX1_checkpoint_113 : decode cX1_checkpoint 113 = .ok (.iload 4, 2) := by decide +kernel
theorem dX1_checkpoint_115 : decode cX1_checkpoint 115 = .ok (.iadd, 1) := by decide +kernel
theorem dX1_checkpoint_116 : decode cX1_checkpoint 116 = .ok (.goto 5, 3) := by decide +kernel
theorem dX1_checkpoint_119 : decode cX1_checkpoint 119 = .ok (.iload 4, 2) := by decide +kernel
theorem dX1_checkpoint_121 : decode cX1_checkpoint 121 = .ok (.istore 5, 2) := by decide +kernel
theorem dX1_checkpoint_123 : decode cX1_checkpoint 123 = .ok (.iconst 0, 1) := by decide +kernel
theorem dX1_checkpoint_124 : decode cX1_checkpoint 124 = .ok (.istore 6, 2) := by decide +kernel
theorem dX1_checkpoint_126 : decode cX1_checkpoint 126 = .ok (.iload 6, 2) := by decide +kernel
theorem dX1_checkpoint_128 : decode cX1_checkpoint 128 = .ok (.bipush 8, 2) := by decide +kernel
theorem dX1_checkpoint_130 : decode cX1_checkpoint 130 = .ok (.if_icmp .ge 35, 3) := by decide +kernel
theorem dX1_checkpoint_133 : decode cX1_checkpoint 133 = .ok (.aload_n 0, 1) := by decide +kernel
theorem dX1_checkpoint_134 : decode cX1_checkpoint 134 = .ok (.getfield 13, 3) := by decide +kernel
theorem dX1_checkpoint_137 : decode cX1_checkpoint 137 = .ok (.bipush 8, 2) := by decide +kernel
theorem dX1_checkpoint_139 : decode cX1_checkpoint 139 = .ok (.iload 5, 2) := by decide +kernel
theorem dX1_checkpoint_141 : decode cX1_checkpoint 141 = .ok (.imul, 1) := by decide +kernel
theorem dX1_checkpoint_142 : decode cX1_checkpoint 142 = .ok (.iload 6, 2) := by decide +kernel
theorem dX1_checkpoint_144 : decode cX1_checkpoint 144 = .ok (.iadd, 1) := by decide +kernel
theorem dX1_checkpoint_145 : decode cX1_checkpoint 145 = .ok (.aload_n 0, 1) := by decide +kernel
theorem dX1_checkpoint_146 : decode cX1_checkpoint 146 = .ok (.getfield 7, 3) := by decide +kernel
theorem dX1_checkpoint_149 : decode cX1_checkpoint 149 = .ok (.bipush 8, 2) := by decide +kernel
theorem dX1_checkpoint_151 : decode cX1_checkpoint 151 = .ok (.iload 4, 2) := by decide +kernel
theorem dX1_checkpoint_153 : decode cX1_checkpoint 153 = .ok (.imul, 1) := by decide +kernel
theorem dX1_checkpoint_154 : decode cX1_checkpoint 154 = .ok (.iload 6, 2) := by decide +kernel
theorem dX1_checkpoint_156 : decode cX1_checkpoint 156 = .ok (.iadd, 1) := by decide +kernel
theorem dX1_checkpoint_157 : decode cX1_checkpoint 157 = .ok (.iaload, 1) := by decide +kernel
theorem dX1_checkpoint_158 : decode cX1_checkpoint 158 = .ok (.iastore, 1) := by decide +kernel
theorem dX1_checkpoint_159 : decode cX1_checkpoint 159 = .ok (.iinc 6 1, 3) := by decide +kernel
theorem dX1_checkpoint_162 : decode cX1_checkpoint 162 = .ok (.goto (-36), 3) := by decide +kernel
theorem dX1_checkpoint_165 : decode cX1_checkpoint 165 = .ok (.iinc 3 1, 3) := by decide +kernel
theorem dX1_checkpoint_168 : decode cX1_checkpoint 168 = .ok (.goto (-140), 3) := by decide +kernel
theorem dX1_checkpoint_171 : decode cX1_checkpoint 171 = .ok (.iconst 0, 1) := by decide +kernel
theorem dX1_checkpoint_172 : decode cX1_checkpoint 172 = .ok (.istore_n 3, 1) := by decide +kernel
theorem dX1_checkpoint_173 : decode cX1_checkpoint 173 = .ok (.iload_n 3, 1) := by decide +kernel
theorem dX1_checkpoint_174 : decode cX1_checkpoint 174 = .ok (.bipush 12, 2) := by decide +kernel
theorem dX1_checkpoint_176 : decode cX1_checkpoint 176 = .ok (.if_icmp .ge 16, 3) := by decide +kernel
theorem dX1_checkpoint_179 : decode cX1_checkpoint 179 = .ok (.aload_n 0, 1) := by decide +kernel
theorem dX1_checkpoint_180 : decode cX1_checkpoint 180 = .ok (.getfield 16, 3) := by decide +kernel
theorem dX1_checkpoint_183 : decode cX1_checkpoint 183 = .ok (.iload_n 3, 1) := by decide +kernel
theorem dX1_checkpoint_184 : decode cX1_checkpoint 184 = .ok (.iconst 0, 1) := by decide +kernel
theorem dX1_checkpoint_185 : decode cX1_checkpoint 185 = .ok (.bastore, 1) := by decide +kernel
theorem dX1_checkpoint_186 : decode cX1_checkpoint 186 = .ok (.iinc 3 1, 3) := by decide +kernel
theorem dX1_checkpoint_189 : decode cX1_checkpoint 189 = .ok (.goto (-16), 3) := by decide +kernel
theorem dX1_checkpoint_192 : decode cX1_checkpoint 192 = .ok (.iconst 2, 1) := by decide +kernel
theorem dX1_checkpoint_193 : decode cX1_checkpoint 193 = .ok (.iload_n 2, 1) := by decide +kernel
theorem dX1_checkpoint_194 : decode cX1_checkpoint 194 = .ok (.imul, 1) := by decide +kernel
theorem dX1_checkpoint_195 : decode cX1_checkpoint 195 = .ok (.iconst 2, 1) := by decide +kernel
theorem dX1_checkpoint_196 : decode cX1_checkpoint 196 = .ok (.iadd, 1) := by decide +kernel
theorem dX1_checkpoint_197 : decode cX1_checkpoint 197 = .ok (.ireturn, 1) := by decide +kernel
theorem dX1_power_0 : decode cX1_power 0 = .ok (.aload_n 0, 1) := by decide +kernel
theorem dX1_power_1 : decode cX1_power 1 = .ok (.getfield 28, 3) := by decide +kernel
theorem dX1_power_4 : decode cX1_power 4 = .ok (.ifCond .eq 5, 3) := by decide +kernel
theorem dX1_power_7 : decode cX1_power 7 = .ok (.iconst (-1), 1) := by decide +kernel
theorem dX1_power_8 : decode cX1_power 8 = .ok (.ireturn, 1) := by decide +kernel
theorem dX1_power_9 : decode cX1_power 9 = .ok (.iload_n 1, 1) := by decide +kernel
theorem dX1_power_10 : decode cX1_power 10 = .ok (.iconst (-1), 1) := by decide +kernel
theorem dX1_power_11 : decode cX1_power 11 = .ok (.if_icmp .lt 9, 3) := by decide +kernel
theorem dX1_power_14 : decode cX1_power 14 = .ok (.iload_n 1, 1) := by decide +kernel
theorem dX1_power_15 : decode cX1_power 15 = .ok (.bipush 63, 2) := by decide +kernel
theorem dX1_power_17 : decode cX1_power 17 = .ok (.if_icmp .le 6, 3) := by decide +kernel
theorem dX1_power_20 : decode cX1_power 20 = .ok (.bipush (-2), 2) := by decide +kernel
theorem dX1_power_22 : decode cX1_power 22 = .ok (.ireturn, 1) := by decide +kernel
theorem dX1_power_23 : decode cX1_power 23 = .ok (.aload_n 0, 1) := by decide +kernel
theorem dX1_power_24 : decode cX1_power 24 = .ok (.iload_n 1, 1) := by decide +kernel
theorem dX1_power_25 : decode cX1_power 25 = .ok (.iconst (-1), 1) := by decide +kernel
theorem dX1_power_26 : decode cX1_power 26 = .ok (.if_icmp .ne 7, 3) := by decide +kernel
theorem dX1_power_29 : decode cX1_power 29 = .ok (.iconst 1, 1) := by decide +kernel
theorem dX1_power_30 : decode cX1_power 30 = .ok (.goto 4, 3) := by decide +kernel
theorem dX1_power_33 : decode cX1_power 33 = .ok (.iconst 0, 1) := by decide +kernel
theorem dX1_power_34 : decode cX1_power 34 = .ok (.putfield 20, 3) := by decide +kernel
theorem dX1_power_37 : decode cX1_power 37 = .ok (.aload_n 0, 1) := by decide +kernel
theorem dX1_power_38 : decode cX1_power 38 = .ok (.iload_n 1, 1) := by decide +kernel
theorem dX1_power_39 : decode cX1_power 39 = .ok (.putfield 55, 3) := by decide +kernel
theorem dX1_power_42 : decode cX1_power 42 = .ok (.iconst 0, 1) := by decide +kernel
theorem dX1_power_43 : decode cX1_power 43 = .ok (.ireturn, 1) := by decide +kernel
theorem dX1_crash_0 : decode cX1_crash 0 = .ok (.aload_n 0, 1) := by decide +kernel
theorem dX1_crash_1 : decode cX1_crash 1 = .ok (.getfield 28, 3) := by decide +kernel
theorem dX1_crash_4 : decode cX1_crash 4 = .ok (.istore_n 1, 1) := by decide +kernel
theorem dX1_crash_5 : decode cX1_crash 5 = .ok (.aload_n 0, 1) := by decide +kernel
theorem dX1_crash_6 : decode cX1_crash 6 = .ok (.iconst 1, 1) := by decide +kernel
theorem dX1_crash_7 : decode cX1_crash 7 = .ok (.putfield 28, 3) := by decide +kernel
theorem dX1_crash_10 : decode cX1_crash 10 = .ok (.iload_n 1, 1) := by decide +kernel
theorem dX1_crash_11 : decode cX1_crash 11 = .ok (.ifCond .ne 7, 3) := by decide +kernel
theorem dX1_crash_14 : decode cX1_crash 14 = .ok (.iconst 1, 1) := by decide +kernel
theorem dX1_crash_15 : decode cX1_crash 15 = .ok (.goto 4, 3) := by decide +kernel
theorem dX1_crash_18 : decode cX1_crash 18 = .ok (.iconst 0, 1) := by decide +kernel
theorem dX1_crash_19 : decode cX1_crash 19 = .ok (.ireturn, 1) := by decide +kernel
set_option maxRecDepth 20000 in
theorem ggX1_start_X1_inSet : GoodIn wsX1_start wsX1_inSet := goodIn_r _ [11] (by decide +kernel) (by decide +kernel)
set_option maxRecDepth 20000 in
theorem gX1_start_X1_inSet : GoodIn wsX1_start (wsV RX1 66 RX1 yX1_inSet wsX1_inSet) := goodIn_app (goodIn_of _ (by decide +kernel)) ggX1_start_X1_inSet
set_option maxRecDepth 20000 in
theorem ggX1_start_X1_may : GoodIn wsX1_start wsX1_may := goodIn_r _ [15, 2, 3, 1, 16, 25, 26, 27, 28, 29, 30, 31, 32] (by decide +kernel) (by decide +kernel)
set_option maxRecDepth 20000 in
theorem gX1_start_X1_may : GoodIn wsX1_start (wsV RX1 69 RX1 yX1_may wsX1_may) := goodIn_app (goodIn_of _ (by decide +kernel)) ggX1_start_X1_may
set_option maxRecDepth 20000 in
theorem ggX1_start_X1_header : GoodIn wsX1_start wsX1_header := goodIn_r _ [20, 4, 25, 26, 27, 28, 29, 30, 31, 32] (by decide +kernel) (by decide +kernel)
set_option maxRecDepth 20000 in
theorem gX1_start_X1_header : GoodIn wsX1_start (wsV RX1 73 RX1 yX1_header wsX1_header) := goodIn_app (goodIn_of _ (by decide +kernel)) ggX1_start_X1_header
set_option maxRecDepth 20000 in
theorem ggX1_start_X1_member : GoodIn wsX1_start wsX1_member := goodIn_r _ [24] (by decide +kernel) (by decide +kernel)
set_option maxRecDepth 20000 in
theorem gX1_start_X1_member : GoodIn wsX1_start (wsV RX1 80 RX1 yX1_member wsX1_member) := goodIn_app (goodIn_of _ (by decide +kernel)) ggX1_start_X1_member
theorem dX1_start_0 : decode cX1_start 0 = .ok (.aload_n 0, 1) := by decide +kernel
theorem dX1_start_1 : decode cX1_start 1 = .ok (.getfield 28, 3) := by decide +kernel
theorem dX1_start_4 : decode cX1_start 4 = .ok (.ifCond .ne 5, 3) := by decide +kernel
theorem dX1_start_7 : decode cX1_start 7 = .ok (.iconst (-1), 1) := by decide +kernel
theorem dX1_start_8 : decode cX1_start 8 = .ok (.ireturn, 1) := by decide +kernel
theorem dX1_start_9 : decode cX1_start 9 = .ok (.iload_n 1, 1) := by decide +kernel
theorem dX1_start_10 : decode cX1_start 10 = .ok (.iconst (-1), 1) := by decide +kernel
theorem dX1_start_11 : decode cX1_start 11 = .ok (.if_icmp .lt 9, 3) := by decide +kernel
theorem dX1_start_14 : decode cX1_start 14 = .ok (.iload_n 1, 1) := by decide +kernel
theorem dX1_start_15 : decode cX1_start 15 = .ok (.bipush 63, 2) := by decide +kernel
theorem dX1_start_17 : decode cX1_start 17 = .ok (.if_icmp .le 6, 3) := by decide +kernel
theorem dX1_start_20 : decode cX1_start 20 = .ok (.bipush (-2), 2) := by decide +kernel
theorem dX1_start_22 : decode cX1_start 22 = .ok (.ireturn, 1) := by decide +kernel
theorem dX1_start_23 : decode cX1_start 23 = .ok (.aload_n 0, 1) := by decide +kernel
theorem dX1_start_24 : decode cX1_start 24 = .ok (.iload_n 1, 1) := by decide +kernel
theorem dX1_start_25 : decode cX1_start 25 = .ok (.iconst (-1), 1) := by decide +kernel
theorem dX1_start_26 : decode cX1_start 26 = .ok (.if_icmp .ne 7, 3) := by decide +kernel
theorem dX1_start_29 : decode cX1_start 29 = .ok (.iconst 1, 1) := by decide +kernel
theorem dX1_start_30 : decode cX1_start 30 = .ok (.goto 4, 3) := by decide +kernel
theorem dX1_start_33 : decode cX1_start 33 = .ok (.iconst 0, 1) := by decide +kernel
theorem dX1_start_34 : decode cX1_start 34 = .ok (.putfield 20, 3) := by decide +kernel
theorem dX1_start_37 : decode cX1_start 37 = .ok (.aload_n 0, 1) := by decide +kernel
theorem dX1_start_38 : decode cX1_start 38 = .ok (.iload_n 1, 1) := by decide +kernel
theorem dX1_start_39 : decode cX1_start 39 = .ok (.putfield 55, 3) := by decide +kernel
theorem dX1_start_42 : decode cX1_start 42 = .ok (.aload_n 0, 1) := by decide +kernel
theorem dX1_start_43 : decode cX1_start 43 = .ok (.getfield 13, 3) := by decide +kernel
theorem dX1_start_46 : decode cX1_start 46 = .ok (.sipush 192, 3) := by decide +kernel
theorem dX1_start_49 : decode cX1_start 49 = .ok (.iaload, 1) := by decide +kernel
theorem dX1_start_50 : decode cX1_start 50 = .ok (.istore_n 2, 1) := by decide +kernel
theorem dX1_start_51 : decode cX1_start 51 = .ok (.iload_n 2, 1) := by decide +kernel
theorem dX1_start_52 : decode cX1_start 52 = .ok (.ifCond .ne 7, 3) := by decide +kernel
theorem dX1_start_55 : decode cX1_start 55 = .ok (.iconst 0, 1) := by decide +kernel
theorem dX1_start_56 : decode cX1_start 56 = .ok (.goto 10, 3) := by decide +kernel
theorem dX1_start_59 : decode cX1_start 59 = .ok (.aload_n 0, 1) := by decide +kernel
theorem dX1_start_60 : decode cX1_start 60 = .ok (.iload_n 2, 1) := by decide +kernel
theorem dX1_start_61 : decode cX1_start 61 = .ok (.invokevirtual 66, 3) := by decide +kernel
theorem dX1_start_64 : decode cX1_start 64 = .ok (.iconst 1, 1) := by decide +kernel
theorem dX1_start_65 : decode cX1_start 65 = .ok (.iadd, 1) := by decide +kernel
theorem dX1_start_66 : decode cX1_start 66 = .ok (.istore_n 3, 1) := by decide +kernel
theorem dX1_start_67 : decode cX1_start 67 = .ok (.iconst 0, 1) := by decide +kernel
theorem dX1_start_68 : decode cX1_start 68 = .ok (.istore 4, 2) := by decide +kernel
theorem dX1_start_70 : decode cX1_start 70 = .ok (.iload 4, 2) := by decide +kernel
theorem dX1_start_72 : decode cX1_start 72 = .ok (.iload_n 3, 1) := by decide +kernel
theorem dX1_start_73 : decode cX1_start 73 = .ok (.if_icmp .ge 89, 3) := by decide +kernel
theorem dX1_start_76 : decode cX1_start 76 = .ok (.aload_n 0, 1) := by decide +kernel
theorem dX1_start_77 : decode cX1_start 77 = .ok (.invokevirtual 69, 3) := by decide +kernel
theorem dX1_start_80 : decode cX1_start 80 = .ok (.ifCond .ne 6, 3) := by decide +kernel
theorem dX1_start_83 : decode cX1_start 83 = .ok (.bipush (-3), 2) := by decide +kernel
theorem dX1_start_85 : decode cX1_start 85 = .ok (.ireturn, 1) := by decide +kernel
theorem dX1_start_86 : decode cX1_start 86 = .ok (.iload 4, 2) := by decide +kernel
theorem dX1_start_88 : decode cX1_start 88 = .ok (.iload_n 3, 1) := by decide +kernel
theorem dX1_start_89 : decode cX1_start 89 = .ok (.iconst 1, 1) := by decide +kernel
theorem dX1_start_90 : decode cX1_start 90 = .ok (.isub, 1) := by decide +kernel
theorem dX1_start_91 : decode cX1_start 91 = .ok (.if_icmp .ne 11, 3) := by decide +kernel
theorem dX1_start_94 : decode cX1_start 94 = .ok (.aload_n 0, 1) := by decide +kernel
theorem dX1_start_95 : decode cX1_start 95 = .ok (.iconst 0, 1) := by decide +kernel
theorem dX1_start_96 : decode cX1_start 96 = .ok (.invokevirtual 73, 3) := by decide +kernel
theorem dX1_start_99 : decode cX1_start 99 = .ok (.goto 57, 3) := by decide +kernel
theorem dX1_start_102 : decode cX1_start 102 = .ok (.aload_n 0, 1) := by decide +kernel
theorem dX1_start_103 : decode cX1_start 103 = .ok (.iload_n 2, 1) := by decide +kernel
theorem dX1_start_104 : decode cX1_start 104 = .ok (.iload 4, 2) := by decide +kernel
theorem dX1_start_106 : decode cX1_start 106 = .ok (.invokevirtual 80, 3) := by decide +kernel
theorem dX1_start_109 : decode cX1_start 109 = .ok (.istore 5, 2) := by decide +kernel
theorem dX1_start_111 : decode cX1_start 111 = .ok (.iconst 0, 1) := by decide +kernel
theorem dX1_start_112 : decode cX1_start 112 = .ok (.istore 6, 2) := by decide +kernel
theorem dX1_start_114 : decode cX1_start 114 = .ok (.iload 6, 2) := by decide +kernel
theorem dX1_start_116 : decode cX1_start 116 = .ok (.bipush 8, 2) := by decide +kernel
theorem dX1_start_118 : decode cX1_start 118 = .ok (.if_icmp .ge 38, 3) := by decide +kernel
theorem dX1_start_121 : decode cX1_start 121 = .ok (.aload_n 0, 1) := by decide +kernel
theorem dX1_start_122 : decode cX1_start 122 = .ok (.getfield 13, 3) := by decide +kernel
theorem dX1_start_125 : decode cX1_start 125 = .ok (.bipush 8, 2) := by decide +kernel
theorem dX1_start_127 : decode cX1_start 127 = .ok (.iload 5, 2) := by decide +kernel
theorem dX1_start_129 : decode cX1_start 129 = .ok (.imul, 1) := by decide +kernel
theorem dX1_start_130 : decode cX1_start 130 = .ok (.iload 6, 2) := by decide +kernel
theorem dX1_start_132 : decode cX1_start 132 = .ok (.iadd, 1) := by decide +kernel
theorem dX1_start_133 : decode cX1_start 133 = .ok (.aload_n 0, 1) := by decide +kernel
theorem dX1_start_134 : decode cX1_start 134 = .ok (.getfield 13, 3) := by decide +kernel
theorem dX1_start_137 : decode cX1_start 137 = .ok (.bipush 96, 2) := by decide +kernel
theorem dX1_start_139 : decode cX1_start 139 = .ok (.bipush 8, 2) := by decide +kernel
theorem dX1_start_141 : decode cX1_start 141 = .ok (.iload 5, 2) := by decide +kernel
theorem dX1_start_143 : decode cX1_start 143 = .ok (.imul, 1) := by decide +kernel
theorem dX1_start_144 : decode cX1_start 144 = .ok (.iadd, 1) := by decide +kernel
theorem dX1_start_145 : decode cX1_start 145 = .ok (.iload 6, 2) := by decide +kernel
theorem dX1_start_147 : decode cX1_start 147 = .ok (.iadd, 1) := by decide +kernel
theorem dX1_start_148 : decode cX1_start 148 = .ok (.iaload, 1) := by decide +kernel
theorem dX1_start_149 : decode cX1_start 149 = .ok (.iastore, 1) := by decide +kernel
theorem dX1_start_150 : decode cX1_start 150 = .ok (.iinc 6 1, 3) := by decide +kernel
theorem dX1_start_153 : decode cX1_start 153 = .ok (.goto (-39), 3) := by decide +kernel
theorem dX1_start_156 : decode cX1_start 156 = .ok (.iinc 4 1, 3) := by decide +kernel
theorem dX1_start_159 : decode cX1_start 159 = .ok (.goto (-89), 3) := by decide +kernel
theorem dX1_start_162 : decode cX1_start 162 = .ok (.iconst 0, 1) := by decide +kernel
theorem dX1_start_163 : decode cX1_start 163 = .ok (.istore 4, 2) := by decide +kernel
theorem dX1_start_165 : decode cX1_start 165 = .ok (.iload 4, 2) := by decide +kernel
theorem dX1_start_167 : decode cX1_start 167 = .ok (.bipush 96, 2) := by decide +kernel
theorem dX1_start_169 : decode cX1_start 169 = .ok (.if_icmp .ge 23, 3) := by decide +kernel
theorem dX1_start_172 : decode cX1_start 172 = .ok (.aload_n 0, 1) := by decide +kernel
theorem dX1_start_173 : decode cX1_start 173 = .ok (.getfield 7, 3) := by decide +kernel
theorem dX1_start_176 : decode cX1_start 176 = .ok (.iload 4, 2) := by decide +kernel
theorem dX1_start_178 : decode cX1_start 178 = .ok (.aload_n 0, 1) := by decide +kernel
theorem dX1_start_179 : decode cX1_start 179 = .ok (.getfield 13, 3) := by decide +kernel
theorem dX1_start_182 : decode cX1_start 182 = .ok (.iload 4, 2) := by decide +kernel
theorem dX1_start_184 : decode cX1_start 184 = .ok (.iaload, 1) := by decide +kernel
theorem dX1_start_185 : decode cX1_start 185 = .ok (.iastore, 1) := by decide +kernel
theorem dX1_start_186 : decode cX1_start 186 = .ok (.iinc 4 1, 3) := by decide +kernel
theorem dX1_start_189 : decode cX1_start 189 = .ok (.goto (-24), 3) := by decide +kernel
theorem dX1_start_192 : decode cX1_start 192 = .ok (.iconst 0, 1) := by decide +kernel
theorem dX1_start_193 : decode cX1_start 193 = .ok (.istore 4, 2) := by decide +kernel
theorem dX1_start_195 : decode cX1_start 195 = .ok (.iload 4, 2) := by decide +kernel
theorem dX1_start_197 : decode cX1_start 197 = .ok (.bipush 12, 2) := by decide +kernel
theorem dX1_start_199 : decode cX1_start 199 = .ok (.if_icmp .ge 17, 3) := by decide +kernel
theorem dX1_start_202 : decode cX1_start 202 = .ok (.aload_n 0, 1) := by decide +kernel
theorem dX1_start_203 : decode cX1_start 203 = .ok (.getfield 16, 3) := by decide +kernel
theorem dX1_start_206 : decode cX1_start 206 = .ok (.iload 4, 2) := by decide +kernel
theorem dX1_start_208 : decode cX1_start 208 = .ok (.iconst 0, 1) := by decide +kernel
theorem dX1_start_209 : decode cX1_start 209 = .ok (.bastore, 1) := by decide +kernel
theorem dX1_start_210 : decode cX1_start 210 = .ok (.iinc 4 1, 3) := by decide +kernel
theorem dX1_start_213 : decode cX1_start 213 = .ok (.goto (-18), 3) := by decide +kernel
theorem dX1_start_216 : decode cX1_start 216 = .ok (.aload_n 0, 1) := by decide +kernel
theorem dX1_start_217 : decode cX1_start 217 = .ok (.iconst 0, 1) := by decide +kernel
theorem dX1_start_218 : decode cX1_start 218 = .ok (.putfield 28, 3) := by decide +kernel
theorem dX1_start_221 : decode cX1_start 221 = .ok (.iload_n 3, 1) := by decide +kernel
theorem dX1_start_222 : decode cX1_start 222 = .ok (.ireturn, 1) := by decide +kernel
theorem dX1_isUp_0 : decode cX1_isUp 0 = .ok (.aload_n 0, 1) := by decide +kernel
theorem dX1_isUp_1 : decode cX1_isUp 1 = .ok (.getfield 28, 3) := by decide +kernel
theorem dX1_isUp_4 : decode cX1_isUp 4 = .ok (.ifCond .ne 7, 3) := by decide +kernel
theorem dX1_isUp_7 : decode cX1_isUp 7 = .ok (.iconst 1, 1) := by decide +kernel
theorem dX1_isUp_8 : decode cX1_isUp 8 = .ok (.goto 4, 3) := by decide +kernel
theorem dX1_isUp_11 : decode cX1_isUp 11 = .ok (.iconst 0, 1) := by decide +kernel
theorem dX1_isUp_12 : decode cX1_isUp 12 = .ok (.ireturn, 1) := by decide +kernel
set_option maxRecDepth 20000 in
theorem ggX1_key_X1_eight : GoodIn wsX1_key wsX1_eight := goodIn_r _ [6] (by decide +kernel) (by decide +kernel)
set_option maxRecDepth 20000 in
theorem gX1_key_X1_eight : GoodIn wsX1_key (va_wsS RX1 31 yX1_eight wsX1_eight) := goodIn_app (goodIn_of _ (by decide +kernel)) ggX1_key_X1_eight
theorem dX1_key_0 : decode cX1_key 0 = .ok (.aload_n 0, 1) := by decide +kernel
theorem dX1_key_1 : decode cX1_key 1 = .ok (.getfield 28, 3) := by decide +kernel
theorem dX1_key_4 : decode cX1_key 4 = .ok (.ifCond .eq 5, 3) := by decide +kernel
theorem dX1_key_7 : decode cX1_key 7 = .ok (.iconst (-1), 1) := by decide +kernel
theorem dX1_key_8 : decode cX1_key 8 = .ok (.ireturn, 1) := by decide +kernel
theorem dX1_key_9 : decode cX1_key 9 = .ok (.iload_n 1, 1) := by decide +kernel
theorem dX1_key_10 : decode cX1_key 10 = .ok (.invokestatic 31, 3) := by decide +kernel
theorem dX1_key_13 : decode cX1_key 13 = .ok (.ifCond .eq 24, 3) := by decide +kernel
theorem dX1_key_16 : decode cX1_key 16 = .ok (.iload_n 2, 1) := by decide +kernel
theorem dX1_key_17 : decode cX1_key 17 = .ok (.invokestatic 31, 3) := by decide +kernel
theorem dX1_key_20 : decode cX1_key 20 = .ok (.ifCond .eq 17, 3) := by decide +kernel
theorem dX1_key_23 : decode cX1_key 23 = .ok (.aload_n 0, 1) := by decide +kernel
theorem dX1_key_24 : decode cX1_key 24 = .ok (.getfield 7, 3) := by decide +kernel
theorem dX1_key_27 : decode cX1_key 27 = .ok (.bipush 8, 2) := by decide +kernel
theorem dX1_key_29 : decode cX1_key 29 = .ok (.iload_n 1, 1) := by decide +kernel
theorem dX1_key_30 : decode cX1_key 30 = .ok (.imul, 1) := by decide +kernel
theorem dX1_key_31 : decode cX1_key 31 = .ok (.iload_n 2, 1) := by decide +kernel
theorem dX1_key_32 : decode cX1_key 32 = .ok (.iadd, 1) := by decide +kernel
theorem dX1_key_33 : decode cX1_key 33 = .ok (.iaload, 1) := by decide +kernel
theorem dX1_key_34 : decode cX1_key 34 = .ok (.goto 5, 3) := by decide +kernel
theorem dX1_key_37 : decode cX1_key 37 = .ok (.bipush (-2), 2) := by decide +kernel
theorem dX1_key_39 : decode cX1_key 39 = .ok (.ireturn, 1) := by decide +kernel
set_option maxRecDepth 20000 in
theorem ggX1_word_X1_eight : GoodIn wsX1_word wsX1_eight := goodIn_r _ [8] (by decide +kernel) (by decide +kernel)
set_option maxRecDepth 20000 in
theorem gX1_word_X1_eight : GoodIn wsX1_word (va_wsS RX1 31 yX1_eight wsX1_eight) := goodIn_app (goodIn_of _ (by decide +kernel)) ggX1_word_X1_eight
theorem dX1_word_0 : decode cX1_word 0 = .ok (.aload_n 0, 1) := by decide +kernel
theorem dX1_word_1 : decode cX1_word 1 = .ok (.getfield 28, 3) := by decide +kernel
theorem dX1_word_4 : decode cX1_word 4 = .ok (.ifCond .eq 7, 3) := by decide +kernel
theorem dX1_word_7 : decode cX1_word 7 = .ok (.ldc2_w 83, 3) := by decide +kernel
theorem dX1_word_10 : decode cX1_word 10 = .ok (.lreturn, 1) := by decide +kernel
theorem dX1_word_11 : decode cX1_word 11 = .ok (.iload_n 1, 1) := by decide +kernel
theorem dX1_word_12 : decode cX1_word 12 = .ok (.bipush 8, 2) := by decide +kernel
theorem dX1_word_14 : decode cX1_word 14 = .ok (.if_icmp .lt 31, 3) := by decide +kernel
theorem dX1_word_17 : decode cX1_word 17 = .ok (.iload_n 1, 1) := by decide +kernel
theorem dX1_word_18 : decode cX1_word 18 = .ok (.bipush 11, 2) := by decide +kernel
theorem dX1_word_20 : decode cX1_word 20 = .ok (.if_icmp .gt 25, 3) := by decide +kernel
theorem dX1_word_23 : decode cX1_word 23 = .ok (.iload_n 2, 1) := by decide +kernel
theorem dX1_word_24 : decode cX1_word 24 = .ok (.invokestatic 31, 3) := by decide +kernel
theorem dX1_word_27 : decode cX1_word 27 = .ok (.ifCond .eq 18, 3) := by decide +kernel
theorem dX1_word_30 : decode cX1_word 30 = .ok (.aload_n 0, 1) := by decide +kernel
theorem dX1_word_31 : decode cX1_word 31 = .ok (.getfield 7, 3) := by decide +kernel
theorem dX1_word_34 : decode cX1_word 34 = .ok (.bipush 8, 2) := by decide +kernel
theorem dX1_word_36 : decode cX1_word 36 = .ok (.iload_n 1, 1) := by decide +kernel
theorem dX1_word_37 : decode cX1_word 37 = .ok (.imul, 1) := by decide +kernel
theorem dX1_word_38 : decode cX1_word 38 = .ok (.iload_n 2, 1) := by decide +kernel
theorem dX1_word_39 : decode cX1_word 39 = .ok (.iadd, 1) := by decide +kernel
theorem dX1_word_40 : decode cX1_word 40 = .ok (.iaload, 1) := by decide +kernel
theorem dX1_word_41 : decode cX1_word 41 = .ok (.i2l, 1) := by decide +kernel
theorem dX1_word_42 : decode cX1_word 42 = .ok (.goto 6, 3) := by decide +kernel
theorem dX1_word_45 : decode cX1_word 45 = .ok (.ldc2_w 85, 3) := by decide +kernel
theorem dX1_word_48 : decode cX1_word 48 = .ok (.lreturn, 1) := by decide +kernel
theorem dX1_dirty_0 : decode cX1_dirty 0 = .ok (.aload_n 0, 1) := by decide +kernel
theorem dX1_dirty_1 : decode cX1_dirty 1 = .ok (.getfield 28, 3) := by decide +kernel
theorem dX1_dirty_4 : decode cX1_dirty 4 = .ok (.ifCond .eq 5, 3) := by decide +kernel
theorem dX1_dirty_7 : decode cX1_dirty 7 = .ok (.iconst (-1), 1) := by decide +kernel
theorem dX1_dirty_8 : decode cX1_dirty 8 = .ok (.ireturn, 1) := by decide +kernel
theorem dX1_dirty_9 : decode cX1_dirty 9 = .ok (.iconst 0, 1) := by decide +kernel
theorem dX1_dirty_10 : decode cX1_dirty 10 = .ok (.istore_n 1, 1) := by decide +kernel
theorem dX1_dirty_11 : decode cX1_dirty 11 = .ok (.iconst 0, 1) := by decide +kernel
theorem dX1_dirty_12 : decode cX1_dirty 12 = .ok (.istore_n 2, 1) := by decide +kernel
theorem dX1_dirty_13 : decode cX1_dirty 13 = .ok (.iload_n 2, 1) := by decide +kernel
theorem dX1_dirty_14 : decode cX1_dirty 14 = .ok (.bipush 12, 2) := by decide +kernel
theorem dX1_dirty_16 : decode cX1_dirty 16 = .ok (.if_icmp .ge 24, 3) := by decide +kernel
theorem dX1_dirty_19 : decode cX1_dirty 19 = .ok (.aload_n 0, 1) := by decide +kernel
theorem dX1_dirty_20 : decode cX1_dirty 20 = .ok (.getfield 16, 3) := by decide +kernel
theorem dX1_dirty_23 : decode cX1_dirty 23 = .ok (.iload_n 2, 1) := by decide +kernel
theorem dX1_dirty_24 : decode cX1_dirty 24 = .ok (.baload, 1) := by decide +kernel
theorem dX1_dirty_25 : decode cX1_dirty 25 = .ok (.ifCond .eq 9, 3) := by decide +kernel
theorem dX1_dirty_28 : decode cX1_dirty 28 = .ok (.iload_n 1, 1) := by decide +kernel
theorem dX1_dirty_29 : decode cX1_dirty 29 = .ok (.iconst 1, 1) := by decide +kernel
theorem dX1_dirty_30 : decode cX1_dirty 30 = .ok (.iload_n 2, 1) := by decide +kernel
theorem dX1_dirty_31 : decode cX1_dirty 31 = .ok (.ishl, 1) := by decide +kernel
theorem dX1_dirty_32 : decode cX1_dirty 32 = .ok (.iadd, 1) := by decide +kernel
theorem dX1_dirty_33 : decode cX1_dirty 33 = .ok (.istore_n 1, 1) := by decide +kernel
theorem dX1_dirty_34 : decode cX1_dirty 34 = .ok (.iinc 2 1, 3) := by decide +kernel
theorem dX1_dirty_37 : decode cX1_dirty 37 = .ok (.goto (-24), 3) := by decide +kernel
theorem dX1_dirty_40 : decode cX1_dirty 40 = .ok (.iload_n 1, 1) := by decide +kernel
theorem dX1_dirty_41 : decode cX1_dirty 41 = .ok (.ireturn, 1) := by decide +kernel
set_option maxRecDepth 20000 in
theorem ggX1_disk_X1_eight : GoodIn wsX1_disk wsX1_eight := goodIn_r _ [5] (by decide +kernel) (by decide +kernel)
set_option maxRecDepth 20000 in
theorem gX1_disk_X1_eight : GoodIn wsX1_disk (va_wsS RX1 31 yX1_eight wsX1_eight) := goodIn_app (goodIn_of _ (by decide +kernel)) ggX1_disk_X1_eight
theorem dX1_disk_0 : decode cX1_disk 0 = .ok (.iload_n 1, 1) := by decide +kernel
theorem dX1_disk_1 : decode cX1_disk 1 = .ok (.ifCond .lt 30, 3) := by decide +kernel
theorem dX1_disk_4 : decode cX1_disk 4 = .ok (.iload_n 1, 1) := by decide +kernel
theorem dX1_disk_5 : decode cX1_disk 5 = .ok (.bipush 24, 2) := by decide +kernel
theorem dX1_disk_7 : decode cX1_disk 7 = .ok (.if_icmp .gt 24, 3) := by decide +kernel
theorem dX1_disk_10 : decode cX1_disk 10 = .ok (.iload_n 2, 1) := by decide +kernel
theorem dX1_disk_11 : decode cX1_disk 11 = .ok (.invokestatic 31, 3) := by decide +kernel
theorem dX1_disk_14 : decode cX1_disk 14 = .ok (.ifCond .eq 17, 3) := by decide +kernel
theorem dX1_disk_17 : decode cX1_disk 17 = .ok (.aload_n 0, 1) := by decide +kernel
theorem dX1_disk_18 : decode cX1_disk 18 = .ok (.getfield 13, 3) := by decide +kernel
theorem dX1_disk_21 : decode cX1_disk 21 = .ok (.bipush 8, 2) := by decide +kernel
theorem dX1_disk_23 : decode cX1_disk 23 = .ok (.iload_n 1, 1) := by decide +kernel
theorem dX1_disk_24 : decode cX1_disk 24 = .ok (.imul, 1) := by decide +kernel
theorem dX1_disk_25 : decode cX1_disk 25 = .ok (.iload_n 2, 1) := by decide +kernel
theorem dX1_disk_26 : decode cX1_disk 26 = .ok (.iadd, 1) := by decide +kernel
theorem dX1_disk_27 : decode cX1_disk 27 = .ok (.iaload, 1) := by decide +kernel
theorem dX1_disk_28 : decode cX1_disk 28 = .ok (.goto 4, 3) := by decide +kernel
theorem dX1_disk_31 : decode cX1_disk 31 = .ok (.iconst 0, 1) := by decide +kernel
theorem dX1_disk_32 : decode cX1_disk 32 = .ok (.ireturn, 1) := by decide +kernel
theorem dX1_writes_0 : decode cX1_writes 0 = .ok (.aload_n 0, 1) := by decide +kernel
theorem dX1_writes_1 : decode cX1_writes 1 = .ok (.getfield 59, 3) := by decide +kernel
theorem dX1_writes_4 : decode cX1_writes 4 = .ok (.ireturn, 1) := by decide +kernel
theorem dX1_commits_0 : decode cX1_commits 0 = .ok (.aload_n 0, 1) := by decide +kernel
theorem dX1_commits_1 : decode cX1_commits 1 = .ok (.getfield 77, 3) := by decide +kernel
theorem dX1_commits_4 : decode cX1_commits 4 = .ok (.ireturn, 1) := by decide +kernel
end
section
set_option maxRecDepth 20000 in
theorem ggL_law_X0_init : GoodIn wsL_law wsX0_init := goodIn_r _ [8, 9, 10, 11, 12, 13, 14, 15, 16, 17, 18, 19, 20, 318, 319, 320, 321, 322, 323, 324, 325] (by decide +kernel) (by decide +kernel)
set_option maxRecDepth 20000 in
theorem gL_law_X0_init : GoodIn wsL_law (wsX0_init) := ggL_law_X0_init
set_option maxRecDepth 20000 in
theorem ggL_law_X1_init : GoodIn wsL_law wsX1_init := goodIn_r _ [23, 24, 10, 11, 12, 25, 26, 27, 28, 29, 326, 327, 328, 329, 330, 331, 332, 333] (by decide +kernel) (by decide +kernel)
set_option maxRecDepth 20000 in
theorem gL_law_X1_init : GoodIn wsL_law (wsX1_init) := ggL_law_X1_init
set_option maxRecDepth 20000 in
theorem ggL_law_X0_place : GoodIn wsL_law wsX0_place := goodIn_r _ [33, 34, 35, 2, 36, 37, 38, 39, 40, 41, 42, 43, 44, 45, 46, 18, 47, 48, 49, 50, 13, 16, 318, 319, 320, 321, 322, 323, 324, 325] (by decide +kernel) (by decide +kernel)
set_option maxRecDepth 20000 in
theorem gL_law_X0_place : GoodIn wsL_law (wsV RL 13 RX0 yX0_place wsX0_place) := goodIn_app (goodIn_of _ (by decide +kernel)) ggL_law_X0_place
set_option maxRecDepth 20000 in
theorem ggL_law_X1_place : GoodIn wsL_law wsX1_place := goodIn_r _ [54, 55, 56, 57, 5, 58, 59, 60, 61, 62, 25, 28, 326, 327, 328, 329, 330, 331, 332, 333] (by decide +kernel) (by decide +kernel)
set_option maxRecDepth 20000 in
theorem gL_law_X1_place : GoodIn wsL_law (wsV RL 17 RX1 yX1_place wsX1_place) := goodIn_app (goodIn_of _ (by decide +kernel)) ggL_law_X1_place
set_option maxRecDepth 20000 in
theorem ggL_law_X0_fetch : GoodIn wsL_law wsX0_fetch := goodIn_r _ [66, 37, 38, 2, 39, 67, 68, 69, 70, 71, 72, 73, 43, 44, 45, 46, 18, 74, 75, 76, 77, 13, 78, 79, 80, 81, 82, 83, 84, 85, 86, 87, 88, 89, 90, 91, 92, 47, 48, 49, 50, 16, 318, 319, 320, 321, 322, 323, 324, 325] (by decide +kernel) (by decide +kernel)
set_option maxRecDepth 20000 in
theorem gL_law_X0_fetch : GoodIn wsL_law (wsV RL 18 RX0 yX0_fetch wsX0_fetch) := goodIn_app (goodIn_of _ (by decide +kernel)) ggL_law_X0_fetch
set_option maxRecDepth 20000 in
theorem ggL_law_X1_fetch : GoodIn wsL_law wsX1_fetch := goodIn_r _ [96, 25, 97, 98, 99, 5, 100, 55, 101, 102, 103, 56, 57, 58, 104, 105, 106, 107, 108, 109, 110, 111, 112, 59, 60, 61, 62, 28, 326, 327, 328, 329, 330, 331, 332, 333] (by decide +kernel) (by decide +kernel)
set_option maxRecDepth 20000 in
theorem gL_law_X1_fetch : GoodIn wsL_law (wsV RL 22 RX1 yX1_fetch wsX1_fetch) := goodIn_app (goodIn_of _ (by decide +kernel)) ggL_law_X1_fetch
set_option maxRecDepth 20000 in
theorem ggL_law_X0_store : GoodIn wsL_law wsX0_store := goodIn_r _ [116, 37, 38, 2, 39, 67, 68, 69, 70, 71, 72, 73, 43, 44, 45, 46, 18, 74, 75, 76, 77, 13, 78, 79, 80, 117, 118, 119, 87, 88, 89, 81, 82, 83, 47, 48, 49, 50, 16, 318, 319, 320, 321, 322, 323, 324, 325] (by decide +kernel) (by decide +kernel)
set_option maxRecDepth 20000 in
theorem gL_law_X0_store : GoodIn wsL_law (wsV RL 23 RX0 yX0_store wsX0_store) := goodIn_app (goodIn_of _ (by decide +kernel)) ggL_law_X0_store
set_option maxRecDepth 20000 in
theorem ggL_law_X1_store : GoodIn wsL_law wsX1_store := goodIn_r _ [123, 25, 97, 98, 99, 5, 100, 55, 101, 102, 103, 56, 57, 58, 104, 105, 106, 107, 108, 109, 59, 60, 61, 62, 28, 326, 327, 328, 329, 330, 331, 332, 333] (by decide +kernel) (by decide +kernel)
set_option maxRecDepth 20000 in
theorem gL_law_X1_store : GoodIn wsL_law (wsV RL 26 RX1 yX1_store wsX1_store) := goodIn_app (goodIn_of _ (by decide +kernel)) ggL_law_X1_store
set_option maxRecDepth 20000 in
theorem ggL_law_X0_read : GoodIn wsL_law wsX0_read := goodIn_r _ [127, 128, 37, 38, 2, 39, 129, 130, 131, 132, 71, 72, 73, 43, 44, 45, 46, 18, 74, 75, 76, 77, 13, 133, 134, 135, 81, 82, 83, 318, 319, 320, 321, 322, 323, 324, 325] (by decide +kernel) (by decide +kernel)
set_option maxRecDepth 20000 in
theorem gL_law_X0_read : GoodIn wsL_law (wsV RL 27 RX0 yX0_read wsX0_read) := goodIn_app (goodIn_of _ (by decide +kernel)) ggL_law_X0_read
set_option maxRecDepth 20000 in
theorem ggL_law_X1_read : GoodIn wsL_law wsX1_read := goodIn_r _ [139, 140, 25, 97, 98, 99, 5, 100, 55, 101, 102, 103, 56, 57, 58, 104, 105, 106, 107, 108, 109, 326, 327, 328, 329, 330, 331, 332, 333] (by decide +kernel) (by decide +kernel)
set_option maxRecDepth 20000 in
theorem gL_law_X1_read : GoodIn wsL_law (wsV RL 31 RX1 yX1_read wsX1_read) := goodIn_app (goodIn_of _ (by decide +kernel)) ggL_law_X1_read
set_option maxRecDepth 20000 in
theorem ggL_law_X0_write : GoodIn wsL_law wsX0_write := goodIn_r _ [144, 37, 38, 2, 39, 129, 130, 131, 132, 71, 72, 73, 43, 44, 45, 46, 18, 74, 75, 76, 77, 13, 133, 134, 135, 117, 118, 119, 87, 88, 89, 81, 82, 83, 47, 48, 49, 50, 16, 318, 319, 320, 321, 322, 323, 324, 325] (by decide +kernel) (by decide +kernel)
set_option maxRecDepth 20000 in
theorem gL_law_X0_write : GoodIn wsL_law (wsV RL 32 RX0 yX0_write wsX0_write) := goodIn_app (goodIn_of _ (by decide +kernel)) ggL_law_X0_write
set_option maxRecDepth 20000 in
theorem ggL_law_X1_write : GoodIn wsL_law wsX1_write := goodIn_r _ [148, 25, 97, 98, 99, 5, 100, 55, 101, 102, 103, 56, 57, 58, 104, 105, 106, 107, 108, 109, 59, 60, 61, 62, 28, 326, 327, 328, 329, 330, 331, 332, 333] (by decide +kernel) (by decide +kernel)
set_option maxRecDepth 20000 in
theorem gL_law_X1_write : GoodIn wsL_law (wsV RL 35 RX1 yX1_write wsX1_write) := goodIn_app (goodIn_of _ (by decide +kernel)) ggL_law_X1_write
set_option maxRecDepth 20000 in
theorem ggL_law_X0_restrict : GoodIn wsL_law wsX0_restrict := goodIn_r _ [152, 71, 72, 2, 73, 37, 38, 39, 153, 154, 155, 43, 44, 45, 46, 18, 74, 75, 76, 77, 13, 90, 91, 92, 81, 82, 83, 87, 88, 89, 47, 48, 49, 50, 16, 318, 319, 320, 321, 322, 323, 324, 325] (by decide +kernel) (by decide +kernel)
set_option maxRecDepth 20000 in
theorem gL_law_X0_restrict : GoodIn wsL_law (wsV RL 36 RX0 yX0_restrict wsX0_restrict) := goodIn_app (goodIn_of _ (by decide +kernel)) ggL_law_X0_restrict
set_option maxRecDepth 20000 in
theorem ggL_law_X1_restrict : GoodIn wsL_law wsX1_restrict := goodIn_r _ [159, 55, 25, 101, 102, 5, 103, 56, 57, 58, 110, 111, 112, 107, 108, 109, 59, 60, 61, 62, 28, 326, 327, 328, 329, 330, 331, 332, 333] (by decide +kernel) (by decide +kernel)
set_option maxRecDepth 20000 in
theorem gL_law_X1_restrict : GoodIn wsL_law (wsV RL 39 RX1 yX1_restrict wsX1_restrict) := goodIn_app (goodIn_of _ (by decide +kernel)) ggL_law_X1_restrict
set_option maxRecDepth 20000 in
theorem ggL_law_X0_clear : GoodIn wsL_law wsX0_clear := goodIn_r _ [163, 71, 72, 2, 73, 37, 38, 39, 43, 44, 45, 46, 18, 47, 48, 49, 50, 13, 16, 318, 319, 320, 321, 322, 323, 324, 325] (by decide +kernel) (by decide +kernel)
set_option maxRecDepth 20000 in
theorem gL_law_X0_clear : GoodIn wsL_law (wsV RL 40 RX0 yX0_clear wsX0_clear) := goodIn_app (goodIn_of _ (by decide +kernel)) ggL_law_X0_clear
set_option maxRecDepth 20000 in
theorem ggL_law_X1_clear : GoodIn wsL_law wsX1_clear := goodIn_r _ [167, 55, 101, 102, 5, 103, 56, 57, 58, 59, 60, 61, 62, 25, 28, 326, 327, 328, 329, 330, 331, 332, 333] (by decide +kernel) (by decide +kernel)
set_option maxRecDepth 20000 in
theorem gL_law_X1_clear : GoodIn wsL_law (wsV RL 44 RX1 yX1_clear wsX1_clear) := goodIn_app (goodIn_of _ (by decide +kernel)) ggL_law_X1_clear
set_option maxRecDepth 20000 in
theorem ggL_law_X0_checkpoint : GoodIn wsL_law wsX0_checkpoint := goodIn_r _ [171, 18, 19, 16, 172, 173, 174, 2, 175, 13, 20, 176, 177, 178, 179, 180, 181, 182, 183, 184, 185, 186, 17, 14, 187, 188, 189, 190, 191, 192, 193, 194, 15, 318, 319, 320, 321, 322, 323, 324, 325] (by decide +kernel) (by decide +kernel)
set_option maxRecDepth 20000 in
theorem gL_law_X0_checkpoint : GoodIn wsL_law (wsV RL 45 RX0 yX0_checkpoint wsX0_checkpoint) := goodIn_app (goodIn_of _ (by decide +kernel)) ggL_law_X0_checkpoint
set_option maxRecDepth 20000 in
theorem ggL_law_X1_checkpoint : GoodIn wsL_law wsX1_checkpoint := goodIn_r _ [198, 55, 199, 26, 25, 28, 200, 201, 202, 5, 203, 204, 205, 206, 207, 208, 209, 210, 211, 29, 212, 213, 214, 215, 216, 217, 218, 219, 220, 221, 326, 327, 328, 329, 330, 331, 332, 333] (by decide +kernel) (by decide +kernel)
set_option maxRecDepth 20000 in
theorem gL_law_X1_checkpoint : GoodIn wsL_law (wsV RL 49 RX1 yX1_checkpoint wsX1_checkpoint) := goodIn_app (goodIn_of _ (by decide +kernel)) ggL_law_X1_checkpoint
set_option maxRecDepth 20000 in
theorem ggL_law_X0_power : GoodIn wsL_law wsX0_power := goodIn_r _ [225, 17, 226, 227, 2, 228, 43, 44, 45, 46, 18, 318, 319, 320, 321, 322, 323, 324, 325] (by decide +kernel) (by decide +kernel)
set_option maxRecDepth 20000 in
theorem gL_law_X0_power : GoodIn wsL_law (wsV RL 50 RX0 yX0_power wsX0_power) := goodIn_app (goodIn_of _ (by decide +kernel)) ggL_law_X0_power
set_option maxRecDepth 20000 in
theorem ggL_law_X1_power : GoodIn wsL_law wsX1_power := goodIn_r _ [232, 55, 29, 212, 326, 327, 328, 329, 330, 331, 332, 333] (by decide +kernel) (by decide +kernel)
set_option maxRecDepth 20000 in
theorem gL_law_X1_power : GoodIn wsL_law (wsV RL 54 RX1 yX1_power wsX1_power) := goodIn_app (goodIn_of _ (by decide +kernel)) ggL_law_X1_power
set_option maxRecDepth 20000 in
theorem ggL_law_X0_crash : GoodIn wsL_law wsX0_crash := goodIn_r _ [236, 18, 318, 319, 320, 321, 322, 323, 324, 325] (by decide +kernel) (by decide +kernel)
set_option maxRecDepth 20000 in
theorem gL_law_X0_crash : GoodIn wsL_law (wsV RL 55 RX0 yX0_crash wsX0_crash) := goodIn_app (goodIn_of _ (by decide +kernel)) ggL_law_X0_crash
set_option maxRecDepth 20000 in
theorem ggL_law_X1_crash : GoodIn wsL_law wsX1_crash := goodIn_r _ [240, 55, 326, 327, 328, 329, 330, 331, 332, 333] (by decide +kernel) (by decide +kernel)
set_option maxRecDepth 20000 in
theorem gL_law_X1_crash : GoodIn wsL_law (wsV RL 59 RX1 yX1_crash wsX1_crash) := goodIn_app (goodIn_of _ (by decide +kernel)) ggL_law_X1_crash
set_option maxRecDepth 20000 in
theorem ggL_law_X0_start : GoodIn wsL_law wsX0_start := goodIn_r _ [244, 18, 17, 19, 226, 227, 2, 228, 245, 246, 247, 248, 14, 176, 177, 178, 179, 180, 181, 182, 183, 184, 185, 186, 187, 188, 189, 190, 191, 192, 193, 194, 15, 249, 250, 251, 252, 13, 16, 318, 319, 320, 321, 322, 323, 324, 325] (by decide +kernel) (by decide +kernel)
set_option maxRecDepth 20000 in
theorem gL_law_X0_start : GoodIn wsL_law (wsV RL 60 RX0 yX0_start wsX0_start) := goodIn_app (goodIn_of _ (by decide +kernel)) ggL_law_X0_start
set_option maxRecDepth 20000 in
theorem ggL_law_X1_start : GoodIn wsL_law wsX1_start := goodIn_r _ [256, 55, 29, 212, 26, 25, 28, 204, 205, 206, 5, 207, 208, 209, 210, 211, 213, 214, 215, 216, 217, 218, 219, 220, 221, 326, 327, 328, 329, 330, 331, 332, 333] (by decide +kernel) (by decide +kernel)
set_option maxRecDepth 20000 in
theorem gL_law_X1_start : GoodIn wsL_law (wsV RL 63 RX1 yX1_start wsX1_start) := goodIn_app (goodIn_of _ (by decide +kernel)) ggL_law_X1_start
set_option maxRecDepth 20000 in
theorem ggL_law_X0_isUp : GoodIn wsL_law wsX0_isUp := goodIn_r _ [260, 18, 318, 319, 320, 321, 322, 323, 324, 325] (by decide +kernel) (by decide +kernel)
set_option maxRecDepth 20000 in
theorem gL_law_X0_isUp : GoodIn wsL_law (wsV RL 64 RX0 yX0_isUp wsX0_isUp) := goodIn_app (goodIn_of _ (by decide +kernel)) ggL_law_X0_isUp
set_option maxRecDepth 20000 in
theorem ggL_law_X1_isUp : GoodIn wsL_law wsX1_isUp := goodIn_r _ [264, 55, 326, 327, 328, 329, 330, 331, 332, 333] (by decide +kernel) (by decide +kernel)
set_option maxRecDepth 20000 in
theorem gL_law_X1_isUp : GoodIn wsL_law (wsV RL 67 RX1 yX1_isUp wsX1_isUp) := goodIn_app (goodIn_of _ (by decide +kernel)) ggL_law_X1_isUp
set_option maxRecDepth 20000 in
theorem ggL_law_X0_key : GoodIn wsL_law wsX0_key := goodIn_r _ [268, 34, 35, 2, 36, 37, 38, 39, 43, 44, 45, 46, 18, 74, 75, 76, 77, 13, 318, 319, 320, 321, 322, 323, 324, 325] (by decide +kernel) (by decide +kernel)
set_option maxRecDepth 20000 in
theorem gL_law_X0_key : GoodIn wsL_law (wsV RL 68 RX0 yX0_key wsX0_key) := goodIn_app (goodIn_of _ (by decide +kernel)) ggL_law_X0_key
set_option maxRecDepth 20000 in
theorem ggL_law_X1_key : GoodIn wsL_law wsX1_key := goodIn_r _ [272, 55, 25, 56, 57, 5, 58, 326, 327, 328, 329, 330, 331, 332, 333] (by decide +kernel) (by decide +kernel)
set_option maxRecDepth 20000 in
theorem gL_law_X1_key : GoodIn wsL_law (wsV RL 71 RX1 yX1_key wsX1_key) := goodIn_app (goodIn_of _ (by decide +kernel)) ggL_law_X1_key
set_option maxRecDepth 20000 in
theorem ggL_law_X0_word : GoodIn wsL_law wsX0_word := goodIn_r _ [276, 128, 277, 278, 2, 279, 37, 38, 39, 43, 44, 45, 46, 18, 74, 75, 76, 77, 13, 318, 319, 320, 321, 322, 323, 324, 325] (by decide +kernel) (by decide +kernel)
set_option maxRecDepth 20000 in
theorem gL_law_X0_word : GoodIn wsL_law (wsV RL 72 RX0 yX0_word wsX0_word) := goodIn_app (goodIn_of _ (by decide +kernel)) ggL_law_X0_word
set_option maxRecDepth 20000 in
theorem ggL_law_X1_word : GoodIn wsL_law wsX1_word := goodIn_r _ [283, 55, 284, 25, 285, 56, 57, 5, 58, 326, 327, 328, 329, 330, 331, 332, 333] (by decide +kernel) (by decide +kernel)
set_option maxRecDepth 20000 in
theorem gL_law_X1_word : GoodIn wsL_law (wsV RL 76 RX1 yX1_word wsX1_word) := goodIn_app (goodIn_of _ (by decide +kernel)) ggL_law_X1_word
set_option maxRecDepth 20000 in
theorem ggL_law_X0_dirty : GoodIn wsL_law wsX0_dirty := goodIn_r _ [289, 18, 16, 318, 319, 320, 321, 322, 323, 324, 325] (by decide +kernel) (by decide +kernel)
set_option maxRecDepth 20000 in
theorem gL_law_X0_dirty : GoodIn wsL_law (wsV RL 77 RX0 yX0_dirty wsX0_dirty) := goodIn_app (goodIn_of _ (by decide +kernel)) ggL_law_X0_dirty
set_option maxRecDepth 20000 in
theorem ggL_law_X1_dirty : GoodIn wsL_law wsX1_dirty := goodIn_r _ [203, 55, 28, 326, 327, 328, 329, 330, 331, 332, 333] (by decide +kernel) (by decide +kernel)
set_option maxRecDepth 20000 in
theorem gL_law_X1_dirty : GoodIn wsL_law (wsV RL 80 RX1 yX1_dirty wsX1_dirty) := goodIn_app (goodIn_of _ (by decide +kernel)) ggL_law_X1_dirty
set_option maxRecDepth 20000 in
theorem ggL_law_X0_disk : GoodIn wsL_law wsX0_disk := goodIn_r _ [294, 14, 295, 296, 2, 297, 37, 38, 39, 318, 319, 320, 321, 322, 323, 324, 325] (by decide +kernel) (by decide +kernel)
set_option maxRecDepth 20000 in
theorem gL_law_X0_disk : GoodIn wsL_law (wsV RL 81 RX0 yX0_disk wsX0_disk) := goodIn_app (goodIn_of _ (by decide +kernel)) ggL_law_X0_disk
set_option maxRecDepth 20000 in
theorem ggL_law_X1_disk : GoodIn wsL_law wsX1_disk := goodIn_r _ [301, 26, 56, 57, 5, 58, 326, 327, 328, 329, 330, 331, 332, 333] (by decide +kernel) (by decide +kernel)
set_option maxRecDepth 20000 in
theorem gL_law_X1_disk : GoodIn wsL_law (wsV RL 84 RX1 yX1_disk wsX1_disk) := goodIn_app (goodIn_of _ (by decide +kernel)) ggL_law_X1_disk
set_option maxRecDepth 20000 in
theorem ggL_law_X0_writes : GoodIn wsL_law wsX0_writes := goodIn_r _ [305, 19, 318, 319, 320, 321, 322, 323, 324, 325] (by decide +kernel) (by decide +kernel)
set_option maxRecDepth 20000 in
theorem gL_law_X0_writes : GoodIn wsL_law (wsV RL 85 RX0 yX0_writes wsX0_writes) := goodIn_app (goodIn_of _ (by decide +kernel)) ggL_law_X0_writes
set_option maxRecDepth 20000 in
theorem ggL_law_X1_writes : GoodIn wsL_law wsX1_writes := goodIn_r _ [309, 213, 326, 327, 328, 329, 330, 331, 332, 333] (by decide +kernel) (by decide +kernel)
set_option maxRecDepth 20000 in
theorem gL_law_X1_writes : GoodIn wsL_law (wsV RL 88 RX1 yX1_writes wsX1_writes) := goodIn_app (goodIn_of _ (by decide +kernel)) ggL_law_X1_writes
set_option maxRecDepth 20000 in
theorem ggL_law_X0_commits : GoodIn wsL_law wsX0_commits := goodIn_r _ [313, 20, 318, 319, 320, 321, 322, 323, 324, 325] (by decide +kernel) (by decide +kernel)
set_option maxRecDepth 20000 in
theorem gL_law_X0_commits : GoodIn wsL_law (wsV RL 89 RX0 yX0_commits wsX0_commits) := goodIn_app (goodIn_of _ (by decide +kernel)) ggL_law_X0_commits
set_option maxRecDepth 20000 in
theorem ggL_law_X1_commits : GoodIn wsL_law wsX1_commits := goodIn_r _ [317, 199, 326, 327, 328, 329, 330, 331, 332, 333] (by decide +kernel) (by decide +kernel)
set_option maxRecDepth 20000 in
theorem gL_law_X1_commits : GoodIn wsL_law (wsV RL 92 RX1 yX1_commits wsX1_commits) := goodIn_app (goodIn_of _ (by decide +kernel)) ggL_law_X1_commits
theorem dL_law_0 : decode cL_law 0 = .ok (.new 7, 3) := by decide +kernel
theorem dL_law_3 : decode cL_law 3 = .ok (.dup, 1) := by decide +kernel
theorem dL_law_4 : decode cL_law 4 = .ok (.invokespecial 9, 3) := by decide +kernel
theorem dL_law_7 : decode cL_law 7 = .ok (.astore_n 1, 1) := by decide +kernel
theorem dL_law_8 : decode cL_law 8 = .ok (.new 10, 3) := by decide +kernel
theorem dL_law_11 : decode cL_law 11 = .ok (.dup, 1) := by decide +kernel
theorem dL_law_12 : decode cL_law 12 = .ok (.invokespecial 12, 3) := by decide +kernel
theorem dL_law_15 : decode cL_law 15 = .ok (.astore_n 2, 1) := by decide +kernel
theorem dL_law_16 : decode cL_law 16 = .ok (.iconst 0, 1) := by decide +kernel
theorem dL_law_17 : decode cL_law 17 = .ok (.istore_n 3, 1) := by decide +kernel
theorem dL_law_18 : decode cL_law 18 = .ok (.iload_n 3, 1) := by decide +kernel
theorem dL_law_19 : decode cL_law 19 = .ok (.aload_n 0, 1) := by decide +kernel
theorem dL_law_20 : decode cL_law 20 = .ok (.arraylength, 1) := by decide +kernel
theorem dL_law_21 : decode cL_law 21 = .ok (.iconst 5, 1) := by decide +kernel
theorem dL_law_22 : decode cL_law 22 = .ok (.isub, 1) := by decide +kernel
theorem dL_law_23 : decode cL_law 23 = .ok (.if_icmp .gt 659, 3) := by decide +kernel
theorem dL_law_26 : decode cL_law 26 = .ok (.aload_n 0, 1) := by decide +kernel
theorem dL_law_27 : decode cL_law 27 = .ok (.iload_n 3, 1) := by decide +kernel
theorem dL_law_28 : decode cL_law 28 = .ok (.iaload, 1) := by decide +kernel
theorem dL_law_29 : decode cL_law 29 = .ok (.bipush 31, 2) := by decide +kernel
theorem dL_law_31 : decode cL_law 31 = .ok (.iand, 1) := by decide +kernel
theorem dL_law_32 : decode cL_law 32 = .ok (.tableswitch 644 0 17 #[88, 131, 184, 237, 281, 334, 387, 420, 433, 456, 469, 492, 505, 538, 572, 585, 618, 631], 88) := by decide +kernel
theorem dL_law_120 : decode cL_law 120 = .ok (.aload_n 1, 1) := by decide +kernel
theorem dL_law_121 : decode cL_law 121 = .ok (.aload_n 0, 1) := by decide +kernel
theorem dL_law_122 : decode cL_law 122 = .ok (.iload_n 3, 1) := by decide +kernel
theorem dL_law_123 : decode cL_law 123 = .ok (.iconst 1, 1) := by decide +kernel
theorem dL_law_124 : decode cL_law 124 = .ok (.iadd, 1) := by decide +kernel
theorem dL_law_125 : decode cL_law 125 = .ok (.iaload, 1) := by decide +kernel
theorem dL_law_126 : decode cL_law 126 = .ok (.aload_n 0, 1) := by decide +kernel
theorem dL_law_127 : decode cL_law 127 = .ok (.iload_n 3, 1) := by decide +kernel
theorem dL_law_128 : decode cL_law 128 = .ok (.iconst 2, 1) := by decide +kernel
theorem dL_law_129 : decode cL_law 129 = .ok (.iadd, 1) := by decide +kernel
theorem dL_law_130 : decode cL_law 130 = .ok (.iaload, 1) := by decide +kernel
theorem dL_law_131 : decode cL_law 131 = .ok (.aload_n 0, 1) := by decide +kernel
theorem dL_law_132 : decode cL_law 132 = .ok (.iload_n 3, 1) := by decide +kernel
theorem dL_law_133 : decode cL_law 133 = .ok (.iconst 3, 1) := by decide +kernel
theorem dL_law_134 : decode cL_law 134 = .ok (.iadd, 1) := by decide +kernel
theorem dL_law_135 : decode cL_law 135 = .ok (.iaload, 1) := by decide +kernel
theorem dL_law_136 : decode cL_law 136 = .ok (.invokevirtual 13, 3) := by decide +kernel
theorem dL_law_139 : decode cL_law 139 = .ok (.aload_n 2, 1) := by decide +kernel
theorem dL_law_140 : decode cL_law 140 = .ok (.aload_n 0, 1) := by decide +kernel
theorem dL_law_141 : decode cL_law 141 = .ok (.iload_n 3, 1) := by decide +kernel
theorem dL_law_142 : decode cL_law 142 = .ok (.iconst 1, 1) := by decide +kernel
theorem dL_law_143 : decode cL_law 143 = .ok (.iadd, 1) := by decide +kernel
theorem dL_law_144 : decode cL_law 144 = .ok (.iaload, 1) := by decide +kernel
theorem dL_law_145 : decode cL_law 145 = .ok (.aload_n 0, 1) := by decide +kernel
theorem dL_law_146 : decode cL_law 146 = .ok (.iload_n 3, 1) := by decide +kernel
theorem dL_law_147 : decode cL_law 147 = .ok (.iconst 2, 1) := by decide +kernel
theorem dL_law_148 : decode cL_law 148 = .ok (.iadd, 1) := by decide +kernel
theorem dL_law_149 : decode cL_law 149 = .ok (.iaload, 1) := by decide +kernel
theorem dL_law_150 : decode cL_law 150 = .ok (.aload_n 0, 1) := by decide +kernel
theorem dL_law_151 : decode cL_law 151 = .ok (.iload_n 3, 1) := by decide +kernel
theorem dL_law_152 : decode cL_law 152 = .ok (.iconst 3, 1) := by decide +kernel
theorem dL_law_153 : decode cL_law 153 = .ok (.iadd, 1) := by decide +kernel
theorem dL_law_154 : decode cL_law 154 = .ok (.iaload, 1) := by decide +kernel
theorem dL_law_155 : decode cL_law 155 = .ok (.invokevirtual 17, 3) := by decide +kernel
theorem dL_law_158 : decode cL_law 158 = .ok (.if_icmp .eq 518, 3) := by decide +kernel
theorem dL_law_161 : decode cL_law 161 = .ok (.iconst 0, 1) := by decide +kernel
theorem dL_law_162 : decode cL_law 162 = .ok (.ireturn, 1) := by decide +kernel
theorem dL_law_163 : decode cL_law 163 = .ok (.aload_n 1, 1) := by decide +kernel
theorem dL_law_164 : decode cL_law 164 = .ok (.aload_n 0, 1) := by decide +kernel
theorem dL_law_165 : decode cL_law 165 = .ok (.iload_n 3, 1) := by decide +kernel
theorem dL_law_166 : decode cL_law 166 = .ok (.iconst 1, 1) := by decide +kernel
theorem dL_law_167 : decode cL_law 167 = .ok (.iadd, 1) := by decide +kernel
theorem dL_law_168 : decode cL_law 168 = .ok (.iaload, 1) := by decide +kernel
theorem dL_law_169 : decode cL_law 169 = .ok (.aload_n 0, 1) := by decide +kernel
theorem dL_law_170 : decode cL_law 170 = .ok (.iload_n 3, 1) := by decide +kernel
theorem dL_law_171 : decode cL_law 171 = .ok (.iconst 2, 1) := by decide +kernel
theorem dL_law_172 : decode cL_law 172 = .ok (.iadd, 1) := by decide +kernel
theorem dL_law_173 : decode cL_law 173 = .ok (.iaload, 1) := by decide +kernel
theorem dL_law_174 : decode cL_law 174 = .ok (.aload_n 0, 1) := by decide +kernel
theorem dL_law_175 : decode cL_law 175 = .ok (.iload_n 3, 1) := by decide +kernel
theorem dL_law_176 : decode cL_law 176 = .ok (.iconst 3, 1) := by decide +kernel
theorem dL_law_177 : decode cL_law 177 = .ok (.iadd, 1) := by decide +kernel
theorem dL_law_178 : decode cL_law 178 = .ok (.iaload, 1) := by decide +kernel
theorem dL_law_179 : decode cL_law 179 = .ok (.aload_n 0, 1) := by decide +kernel
theorem dL_law_180 : decode cL_law 180 = .ok (.iload_n 3, 1) := by decide +kernel
theorem dL_law_181 : decode cL_law 181 = .ok (.iconst 4, 1) := by decide +kernel
theorem dL_law_182 : decode cL_law 182 = .ok (.iadd, 1) := by decide +kernel
theorem dL_law_183 : decode cL_law 183 = .ok (.iaload, 1) := by decide +kernel
theorem dL_law_184 : decode cL_law 184 = .ok (.invokevirtual 18, 3) := by decide +kernel
theorem dL_law_187 : decode cL_law 187 = .ok (.aload_n 2, 1) := by decide +kernel
theorem dL_law_188 : decode cL_law 188 = .ok (.aload_n 0, 1) := by decide +kernel
theorem dL_law_189 : decode cL_law 189 = .ok (.iload_n 3, 1) := by decide +kernel
theorem dL_law_190 : decode cL_law 190 = .ok (.iconst 1, 1) := by decide +kernel
theorem dL_law_191 : decode cL_law 191 = .ok (.iadd, 1) := by decide +kernel
theorem dL_law_192 : decode cL_law 192 = .ok (.iaload, 1) := by decide +kernel
theorem dL_law_193 : decode cL_law 193 = .ok (.aload_n 0, 1) := by decide +kernel
theorem dL_law_194 : decode cL_law 194 = .ok (.iload_n 3, 1) := by decide +kernel
theorem dL_law_195 : decode cL_law 195 = .ok (.iconst 2, 1) := by decide +kernel
theorem dL_law_196 : decode cL_law 196 = .ok (.iadd, 1) := by decide +kernel
theorem dL_law_197 : decode cL_law 197 = .ok (.iaload, 1) := by decide +kernel
theorem dL_law_198 : decode cL_law 198 = .ok (.aload_n 0, 1) := by decide +kernel
theorem dL_law_199 : decode cL_law 199 = .ok (.iload_n 3, 1) := by decide +kernel
theorem dL_law_200 : decode cL_law 200 = .ok (.iconst 3, 1) := by decide +kernel
theorem dL_law_201 : decode cL_law 201 = .ok (.iadd, 1) := by decide +kernel
theorem dL_law_202 : decode cL_law 202 = .ok (.iaload, 1) := by decide +kernel
theorem dL_law_203 : decode cL_law 203 = .ok (.aload_n 0, 1) := by decide +kernel
theorem dL_law_204 : decode cL_law 204 = .ok (.iload_n 3, 1) := by decide +kernel
theorem dL_law_205 : decode cL_law 205 = .ok (.iconst 4, 1) := by decide +kernel
theorem dL_law_206 : decode cL_law 206 = .ok (.iadd, 1) := by decide +kernel
theorem dL_law_207 : decode cL_law 207 = .ok (.iaload, 1) := by decide +kernel
theorem dL_law_208 : decode cL_law 208 = .ok (.invokevirtual 22, 3) := by decide +kernel
theorem dL_law_211 : decode cL_law 211 = .ok (.if_icmp .eq 465, 3) := by decide +kernel
theorem dL_law_214 : decode cL_law 214 = .ok (.iconst 0, 1) := by decide +kernel
theorem dL_law_215 : decode cL_law 215 = .ok (.ireturn, 1) := by decide +kernel
theorem dL_law_216 : decode cL_law 216 = .ok (.aload_n 1, 1) := by decide +kernel
theorem dL_law_217 : decode cL_law 217 = .ok (.aload_n 0, 1) := by decide +kernel
theorem dL_law_218 : decode cL_law 218 = .ok (.iload_n 3, 1) := by decide +kernel
theorem dL_law_219 : decode cL_law 219 = .ok (.iconst 1, 1) := by decide +kernel
theorem dL_law_220 : decode cL_law 220 = .ok (.iadd, 1) := by decide +kernel
theorem dL_law_221 : decode cL_law 221 = .ok (.iaload, 1) := by decide +kernel
theorem dL_law_222 : decode cL_law 222 = .ok (.aload_n 0, 1) := by decide +kernel
theorem dL_law_223 : decode cL_law 223 = .ok (.iload_n 3, 1) := by decide +kernel
theorem dL_law_224 : decode cL_law 224 = .ok (.iconst 2, 1) := by decide +kernel
theorem dL_law_225 : decode cL_law 225 = .ok (.iadd, 1) := by decide +kernel
theorem dL_law_226 : decode cL_law 226 = .ok (.iaload, 1) := by decide +kernel
theorem dL_law_227 : decode cL_law 227 = .ok (.aload_n 0, 1) := by decide +kernel
theorem dL_law_228 : decode cL_law 228 = .ok (.iload_n 3, 1) := by decide +kernel
theorem dL_law_229 : decode cL_law 229 = .ok (.iconst 3, 1) := by decide +kernel
theorem dL_law_230 : decode cL_law 230 = .ok (.iadd, 1) := by decide +kernel
theorem dL_law_231 : decode cL_law 231 = .ok (.iaload, 1) := by decide +kernel
theorem dL_law_232 : decode cL_law 232 = .ok (.aload_n 0, 1) := by decide +kernel
theorem dL_law_233 : decode cL_law 233 = .ok (.iload_n 3, 1) := by decide +kernel
theorem dL_law_234 : decode cL_law 234 = .ok (.iconst 4, 1) := by decide +kernel
theorem dL_law_235 : decode cL_law 235 = .ok (.iadd, 1) := by decide +kernel
theorem dL_law_236 : decode cL_law 236 = .ok (.iaload, 1) := by decide +kernel
theorem dL_law_237 : decode cL_law 237 = .ok (.invokevirtual 23, 3) := by decide +kernel
theorem dL_law_240 : decode cL_law 240 = .ok (.aload_n 2, 1) := by decide +kernel
theorem dL_law_241 : decode cL_law 241 = .ok (.aload_n 0, 1) := by decide +kernel
theorem dL_law_242 : decode cL_law 242 = .ok (.iload_n 3, 1) := by decide +kernel
theorem dL_law_243 : decode cL_law 243 = .ok (.iconst 1, 1) := by decide +kernel
theorem dL_law_244 : decode cL_law 244 = .ok (.iadd, 1) := by decide +kernel
theorem dL_law_245 : decode cL_law 245 = .ok (.iaload, 1) := by decide +kernel
theorem dL_law_246 : decode cL_law 246 = .ok (.aload_n 0, 1) := by decide +kernel
theorem dL_law_247 : decode cL_law 247 = .ok (.iload_n 3, 1) := by decide +kernel
theorem dL_law_248 : decode cL_law 248 = .ok (.iconst 2, 1) := by decide +kernel
theorem dL_law_249 : decode cL_law 249 = .ok (.iadd, 1) := by decide +kernel
theorem dL_law_250 : decode cL_law 250 = .ok (.iaload, 1) := by decide +kernel
theorem dL_law_251 : decode cL_law 251 = .ok (.aload_n 0, 1) := by decide +kernel
theorem dL_law_252 : decode cL_law 252 = .ok (.iload_n 3, 1) := by decide +kernel
theorem dL_law_253 : decode cL_law 253 = .ok (.iconst 3, 1) := by decide +kernel
theorem dL_law_254 : decode cL_law 254 = .ok (.iadd, 1) := by decide +kernel
theorem dL_law_255 : decode cL_law 255 = .ok (.iaload, 1) := by decide +kernel
theorem dL_law_256 : decode cL_law 256 = .ok (.aload_n 0, 1) := by decide +kernel
theorem dL_law_257 : decode cL_law 257 = .ok (.iload_n 3, 1) := by decide +kernel
theorem dL_law_258 : decode cL_law 258 = .ok (.iconst 4, 1) := by decide +kernel
theorem dL_law_259 : decode cL_law 259 = .ok (.iadd, 1) := by decide +kernel
theorem dL_law_260 : decode cL_law 260 = .ok (.iaload, 1) := by decide +kernel
theorem dL_law_261 : decode cL_law 261 = .ok (.invokevirtual 26, 3) := by decide +kernel
theorem dL_law_264 : decode cL_law 264 = .ok (.if_icmp .eq 412, 3) := by decide +kernel
theorem dL_law_267 : decode cL_law 267 = .ok (.iconst 0, 1) := by decide +kernel
theorem dL_law_268 : decode cL_law 268 = .ok (.ireturn, 1) := by decide +kernel
theorem dL_law_269 : decode cL_law 269 = .ok (.aload_n 1, 1) := by decide +kernel
theorem dL_law_270 : decode cL_law 270 = .ok (.aload_n 0, 1) := by decide +kernel
theorem dL_law_271 : decode cL_law 271 = .ok (.iload_n 3, 1) := by decide +kernel
theorem dL_law_272 : decode cL_law 272 = .ok (.iconst 1, 1) := by decide +kernel
theorem dL_law_273 : decode cL_law 273 = .ok (.iadd, 1) := by decide +kernel
theorem dL_law_274 : decode cL_law 274 = .ok (.iaload, 1) := by decide +kernel
theorem dL_law_275 : decode cL_law 275 = .ok (.aload_n 0, 1) := by decide +kernel
theorem dL_law_276 : decode cL_law 276 = .ok (.iload_n 3, 1) := by decide +kernel
theorem dL_law_277 : decode cL_law 277 = .ok (.iconst 2, 1) := by decide +kernel
theorem dL_law_278 : decode cL_law 278 = .ok (.iadd, 1) := by decide +kernel
theorem dL_law_279 : decode cL_law 279 = .ok (.iaload, 1) := by decide +kernel
theorem dL_law_280 : decode cL_law 280 = .ok (.aload_n 0, 1) := by decide +kernel
theorem dL_law_281 : decode cL_law 281 = .ok (.iload_n 3, 1) := by decide +kernel
theorem dL_law_282 : decode cL_law 282 = .ok (.iconst 3, 1) := by decide +kernel
theorem dL_law_283 : decode cL_law 283 = .ok (.iadd, 1) := by decide +kernel
theorem dL_law_284 : decode cL_law 284 = .ok (.iaload, 1) := by decide +kernel
theorem dL_law_285 : decode cL_law 285 = .ok (.invokevirtual 27, 3) := by decide +kernel
theorem dL_law_288 : decode cL_law 288 = .ok (.aload_n 2, 1) := by decide +kernel
theorem dL_law_289 : decode cL_law 289 = .ok (.aload_n 0, 1) := by decide +kernel
theorem dL_law_290 : decode cL_law 290 = .ok (.iload_n 3, 1) := by decide +kernel
theorem dL_law_291 : decode cL_law 291 = .ok (.iconst 1, 1) := by decide +kernel
theorem dL_law_292 : decode cL_law 292 = .ok (.iadd, 1) := by decide +kernel
theorem dL_law_293 : decode cL_law 293 = .ok (.iaload, 1) := by decide +kernel
theorem dL_law_294 : decode cL_law 294 = .ok (.aload_n 0, 1) := by decide +kernel
theorem dL_law_295 : decode cL_law 295 = .ok (.iload_n 3, 1) := by decide +kernel
theorem dL_law_296 : decode cL_law 296 = .ok (.iconst 2, 1) := by decide +kernel
theorem dL_law_297 : decode cL_law 297 = .ok (.iadd, 1) := by decide +kernel
theorem dL_law_298 : decode cL_law 298 = .ok (.iaload, 1) := by decide +kernel
theorem dL_law_299 : decode cL_law 299 = .ok (.aload_n 0, 1) := by decide +kernel
theorem dL_law_300 : decode cL_law 300 = .ok (.iload_n 3, 1) := by decide +kernel
theorem dL_law_301 : decode cL_law 301 = .ok (.iconst 3, 1) := by decide +kernel
theorem dL_law_302 : decode cL_law 302 = .ok (.iadd, 1) := by decide +kernel
theorem dL_law_303 : decode cL_law 303 = .ok (.iaload, 1) := by decide +kernel
theorem dL_law_304 : decode cL_law 304 = .ok (.invokevirtual 31, 3) := by decide +kernel
theorem dL_law_307 : decode cL_law 307 = .ok (.lcmp, 1) := by decide +kernel
theorem dL_law_308 : decode cL_law 308 = .ok (.ifCond .eq 368, 3) := by decide +kernel
theorem dL_law_311 : decode cL_law 311 = .ok (.iconst 0, 1) := by decide +kernel
theorem dL_law_312 : decode cL_law 312 = .ok (.ireturn, 1) := by decide +kernel
theorem dL_law_313 : decode cL_law 313 = .ok (.aload_n 1, 1) := by decide +kernel
theorem dL_law_314 : decode cL_law 314 = .ok (.aload_n 0, 1) := by decide +kernel
theorem dL_law_315 : decode cL_law 315 = .ok (.iload_n 3, 1) := by decide +kernel
theorem dL_law_316 : decode cL_law 316 = .ok (.iconst 1, 1) := by decide +kernel
theorem dL_law_317 : decode cL_law 317 = .ok (.iadd, 1) := by decide +kernel
theorem dL_law_318 : decode cL_law 318 = .ok (.iaload, 1) := by decide +kernel
theorem dL_law_319 : decode cL_law 319 = .ok (.aload_n 0, 1) := by decide +kernel
theorem dL_law_320 : decode cL_law 320 = .ok (.iload_n 3, 1) := by decide +kernel
theorem dL_law_321 : decode cL_law 321 = .ok (.iconst 2, 1) := by decide +kernel
theorem dL_law_322 : decode cL_law 322 = .ok (.iadd, 1) := by decide +kernel
theorem dL_law_323 : decode cL_law 323 = .ok (.iaload, 1) := by decide +kernel
theorem dL_law_324 : decode cL_law 324 = .ok (.aload_n 0, 1) := by decide +kernel
theorem dL_law_325 : decode cL_law 325 = .ok (.iload_n 3, 1) := by decide +kernel
theorem dL_law_326 : decode cL_law 326 = .ok (.iconst 3, 1) := by decide +kernel
theorem dL_law_327 : decode cL_law 327 = .ok (.iadd, 1) := by decide +kernel
theorem dL_law_328 : decode cL_law 328 = .ok (.iaload, 1) := by decide +kernel
theorem dL_law_329 : decode cL_law 329 = .ok (.aload_n 0, 1) := by decide +kernel
theorem dL_law_330 : decode cL_law 330 = .ok (.iload_n 3, 1) := by decide +kernel
theorem dL_law_331 : decode cL_law 331 = .ok (.iconst 4, 1) := by decide +kernel
theorem dL_law_332 : decode cL_law 332 = .ok (.iadd, 1) := by decide +kernel
theorem dL_law_333 : decode cL_law 333 = .ok (.iaload, 1) := by decide +kernel
theorem dL_law_334 : decode cL_law 334 = .ok (.invokevirtual 32, 3) := by decide +kernel
theorem dL_law_337 : decode cL_law 337 = .ok (.aload_n 2, 1) := by decide +kernel
theorem dL_law_338 : decode cL_law 338 = .ok (.aload_n 0, 1) := by decide +kernel
theorem dL_law_339 : decode cL_law 339 = .ok (.iload_n 3, 1) := by decide +kernel
theorem dL_law_340 : decode cL_law 340 = .ok (.iconst 1, 1) := by decide +kernel
theorem dL_law_341 : decode cL_law 341 = .ok (.iadd, 1) := by decide +kernel
theorem dL_law_342 : decode cL_law 342 = .ok (.iaload, 1) := by decide +kernel
theorem dL_law_343 : decode cL_law 343 = .ok (.aload_n 0, 1) := by decide +kernel
theorem dL_law_344 : decode cL_law 344 = .ok (.iload_n 3, 1) := by decide +kernel
theorem dL_law_345 : decode cL_law 345 = .ok (.iconst 2, 1) := by decide +kernel
theorem dL_law_346 : decode cL_law 346 = .ok (.iadd, 1) := by decide +kernel
theorem dL_law_347 : decode cL_law 347 = .ok (.iaload, 1) := by decide +kernel
theorem dL_law_348 : decode cL_law 348 = .ok (.aload_n 0, 1) := by decide +kernel
theorem dL_law_349 : decode cL_law 349 = .ok (.iload_n 3, 1) := by decide +kernel
theorem dL_law_350 : decode cL_law 350 = .ok (.iconst 3, 1) := by decide +kernel
theorem dL_law_351 : decode cL_law 351 = .ok (.iadd, 1) := by decide +kernel
theorem dL_law_352 : decode cL_law 352 = .ok (.iaload, 1) := by decide +kernel
theorem dL_law_353 : decode cL_law 353 = .ok (.aload_n 0, 1) := by decide +kernel
theorem dL_law_354 : decode cL_law 354 = .ok (.iload_n 3, 1) := by decide +kernel
theorem dL_law_355 : decode cL_law 355 = .ok (.iconst 4, 1) := by decide +kernel
theorem dL_law_356 : decode cL_law 356 = .ok (.iadd, 1) := by decide +kernel
theorem dL_law_357 : decode cL_law 357 = .ok (.iaload, 1) := by decide +kernel
theorem dL_law_358 : decode cL_law 358 = .ok (.invokevirtual 35, 3) := by decide +kernel
theorem dL_law_361 : decode cL_law 361 = .ok (.if_icmp .eq 315, 3) := by decide +kernel
theorem dL_law_364 : decode cL_law 364 = .ok (.iconst 0, 1) := by decide +kernel
theorem dL_law_365 : decode cL_law 365 = .ok (.ireturn, 1) := by decide +kernel
theorem dL_law_366 : decode cL_law 366 = .ok (.aload_n 1, 1) := by decide +kernel
theorem dL_law_367 : decode cL_law 367 = .ok (.aload_n 0, 1) := by decide +kernel
theorem dL_law_368 : decode cL_law 368 = .ok (.iload_n 3, 1) := by decide +kernel
theorem dL_law_369 : decode cL_law 369 = .ok (.iconst 1, 1) := by decide +kernel
theorem dL_law_370 : decode cL_law 370 = .ok (.iadd, 1) := by decide +kernel
theorem dL_law_371 : decode cL_law 371 = .ok (.iaload, 1) := by decide +kernel
theorem dL_law_372 : decode cL_law 372 = .ok (.aload_n 0, 1) := by decide +kernel
theorem dL_law_373 : decode cL_law 373 = .ok (.iload_n 3, 1) := by decide +kernel
theorem dL_law_374 : decode cL_law 374 = .ok (.iconst 2, 1) := by decide +kernel
theorem dL_law_375 : decode cL_law 375 = .ok (.iadd, 1) := by decide +kernel
theorem dL_law_376 : decode cL_law 376 = .ok (.iaload, 1) := by decide +kernel
theorem dL_law_377 : decode cL_law 377 = .ok (.aload_n 0, 1) := by decide +kernel
theorem dL_law_378 : decode cL_law 378 = .ok (.iload_n 3, 1) := by decide +kernel
theorem dL_law_379 : decode cL_law 379 = .ok (.iconst 3, 1) := by decide +kernel
theorem dL_law_380 : decode cL_law 380 = .ok (.iadd, 1) := by decide +kernel
theorem dL_law_381 : decode cL_law 381 = .ok (.iaload, 1) := by decide +kernel
theorem dL_law_382 : decode cL_law 382 = .ok (.aload_n 0, 1) := by decide +kernel
theorem dL_law_383 : decode cL_law 383 = .ok (.iload_n 3, 1) := by decide +kernel
theorem dL_law_384 : decode cL_law 384 = .ok (.iconst 4, 1) := by decide +kernel
theorem dL_law_385 : decode cL_law 385 = .ok (.iadd, 1) := by decide +kernel
theorem dL_law_386 : decode cL_law 386 = .ok (.iaload, 1) := by decide +kernel
theorem dL_law_387 : decode cL_law 387 = .ok (.invokevirtual 36, 3) := by decide +kernel
theorem dL_law_390 : decode cL_law 390 = .ok (.aload_n 2, 1) := by decide +kernel
theorem dL_law_391 : decode cL_law 391 = .ok (.aload_n 0, 1) := by decide +kernel
theorem dL_law_392 : decode cL_law 392 = .ok (.iload_n 3, 1) := by decide +kernel
theorem dL_law_393 : decode cL_law 393 = .ok (.iconst 1, 1) := by decide +kernel
theorem dL_law_394 : decode cL_law 394 = .ok (.iadd, 1) := by decide +kernel
theorem dL_law_395 : decode cL_law 395 = .ok (.iaload, 1) := by decide +kernel
theorem dL_law_396 : decode cL_law 396 = .ok (.aload_n 0, 1) := by decide +kernel
theorem dL_law_397 : decode cL_law 397 = .ok (.iload_n 3, 1) := by decide +kernel
theorem dL_law_398 : decode cL_law 398 = .ok (.iconst 2, 1) := by decide +kernel
theorem dL_law_399 : decode cL_law 399 = .ok (.iadd, 1) := by decide +kernel
theorem dL_law_400 : decode cL_law 400 = .ok (.iaload, 1) := by decide +kernel
theorem dL_law_401 : decode cL_law 401 = .ok (.aload_n 0, 1) := by decide +kernel
theorem dL_law_402 : decode cL_law 402 = .ok (.iload_n 3, 1) := by decide +kernel
theorem dL_law_403 : decode cL_law 403 = .ok (.iconst 3, 1) := by decide +kernel
theorem dL_law_404 : decode cL_law 404 = .ok (.iadd, 1) := by decide +kernel
theorem dL_law_405 : decode cL_law 405 = .ok (.iaload, 1) := by decide +kernel
theorem dL_law_406 : decode cL_law 406 = .ok (.aload_n 0, 1) := by decide +kernel
theorem dL_law_407 : decode cL_law 407 = .ok (.iload_n 3, 1) := by decide +kernel
theorem dL_law_408 : decode cL_law 408 = .ok (.iconst 4, 1) := by decide +kernel
theorem dL_law_409 : decode cL_law 409 = .ok (.iadd, 1) := by decide +kernel
theorem dL_law_410 : decode cL_law 410 = .ok (.iaload, 1) := by decide +kernel
theorem dL_law_411 : decode cL_law 411 = .ok (.invokevirtual 39, 3) := by decide +kernel
theorem dL_law_414 : decode cL_law 414 = .ok (.if_icmp .eq 262, 3) := by decide +kernel
theorem dL_law_417 : decode cL_law 417 = .ok (.iconst 0, 1) := by decide +kernel
theorem dL_law_418 : decode cL_law 418 = .ok (.ireturn, 1) := by decide +kernel
theorem dL_law_419 : decode cL_law 419 = .ok (.aload_n 1, 1) := by decide +kernel
theorem dL_law_420 : decode cL_law 420 = .ok (.aload_n 0, 1) := by decide +kernel
theorem dL_law_421 : decode cL_law 421 = .ok (.iload_n 3, 1) := by decide +kernel
theorem dL_law_422 : decode cL_law 422 = .ok (.iconst 1, 1) := by decide +kernel
theorem dL_law_423 : decode cL_law 423 = .ok (.iadd, 1) := by decide +kernel
theorem dL_law_424 : decode cL_law 424 = .ok (.iaload, 1) := by decide +kernel
theorem dL_law_425 : decode cL_law 425 = .ok (.aload_n 0, 1) := by decide +kernel
theorem dL_law_426 : decode cL_law 426 = .ok (.iload_n 3, 1) := by decide +kernel
theorem dL_law_427 : decode cL_law 427 = .ok (.iconst 2, 1) := by decide +kernel
theorem dL_law_428 : decode cL_law 428 = .ok (.iadd, 1) := by decide +kernel
theorem dL_law_429 : decode cL_law 429 = .ok (.iaload, 1) := by decide +kernel
theorem dL_law_430 : decode cL_law 430 = .ok (.invokevirtual 40, 3) := by decide +kernel
theorem dL_law_433 : decode cL_law 433 = .ok (.aload_n 2, 1) := by decide +kernel
theorem dL_law_434 : decode cL_law 434 = .ok (.aload_n 0, 1) := by decide +kernel
theorem dL_law_435 : decode cL_law 435 = .ok (.iload_n 3, 1) := by decide +kernel
theorem dL_law_436 : decode cL_law 436 = .ok (.iconst 1, 1) := by decide +kernel
theorem dL_law_437 : decode cL_law 437 = .ok (.iadd, 1) := by decide +kernel
theorem dL_law_438 : decode cL_law 438 = .ok (.iaload, 1) := by decide +kernel
theorem dL_law_439 : decode cL_law 439 = .ok (.aload_n 0, 1) := by decide +kernel
theorem dL_law_440 : decode cL_law 440 = .ok (.iload_n 3, 1) := by decide +kernel
theorem dL_law_441 : decode cL_law 441 = .ok (.iconst 2, 1) := by decide +kernel
theorem dL_law_442 : decode cL_law 442 = .ok (.iadd, 1) := by decide +kernel
theorem dL_law_443 : decode cL_law 443 = .ok (.iaload, 1) := by decide +kernel
theorem dL_law_444 : decode cL_law 444 = .ok (.invokevirtual 44, 3) := by decide +kernel
theorem dL_law_447 : decode cL_law 447 = .ok (.if_icmp .eq 229, 3) := by decide +kernel
theorem dL_law_450 : decode cL_law 450 = .ok (.iconst 0, 1) := by decide +kernel
theorem dL_law_451 : decode cL_law 451 = .ok (.ireturn, 1) := by decide +kernel
theorem dL_law_452 : decode cL_law 452 = .ok (.aload_n 1, 1) := by decide +kernel
theorem dL_law_453 : decode cL_law 453 = .ok (.invokevirtual 45, 3) := by decide +kernel
theorem dL_law_456 : decode cL_law 456 = .ok (.aload_n 2, 1) := by decide +kernel
theorem dL_law_457 : decode cL_law 457 = .ok (.invokevirtual 49, 3) := by decide +kernel
theorem dL_law_460 : decode cL_law 460 = .ok (.if_icmp .eq 216, 3) := by decide +kernel
theorem dL_law_463 : decode cL_law 463 = .ok (.iconst 0, 1) := by decide +kernel
theorem dL_law_464 : decode cL_law 464 = .ok (.ireturn, 1) := by decide +kernel
theorem dL_law_465 : decode cL_law 465 = .ok (.aload_n 1, 1) := by decide +kernel
theorem dL_law_466 : decode cL_law 466 = .ok (.aload_n 0, 1) := by decide +kernel
theorem dL_law_467 : decode cL_law 467 = .ok (.iload_n 3, 1) := by decide +kernel
theorem dL_law_468 : decode cL_law 468 = .ok (.iconst 1, 1) := by decide +kernel
theorem dL_law_469 : decode cL_law 469 = .ok (.iadd, 1) := by decide +kernel
theorem dL_law_470 : decode cL_law 470 = .ok (.iaload, 1) := by decide +kernel
theorem dL_law_471 : decode cL_law 471 = .ok (.invokevirtual 50, 3) := by decide +kernel
theorem dL_law_474 : decode cL_law 474 = .ok (.aload_n 2, 1) := by decide +kernel
theorem dL_law_475 : decode cL_law 475 = .ok (.aload_n 0, 1) := by decide +kernel
theorem dL_law_476 : decode cL_law 476 = .ok (.iload_n 3, 1) := by decide +kernel
theorem dL_law_477 : decode cL_law 477 = .ok (.iconst 1, 1) := by decide +kernel
theorem dL_law_478 : decode cL_law 478 = .ok (.iadd, 1) := by decide +kernel
theorem dL_law_479 : decode cL_law 479 = .ok (.iaload, 1) := by decide +kernel
theorem dL_law_480 : decode cL_law 480 = .ok (.invokevirtual 54, 3) := by decide +kernel
theorem dL_law_483 : decode cL_law 483 = .ok (.if_icmp .eq 193, 3) := by decide +kernel
theorem dL_law_486 : decode cL_law 486 = .ok (.iconst 0, 1) := by decide +kernel
theorem dL_law_487 : decode cL_law 487 = .ok (.ireturn, 1) := by decide +kernel
theorem dL_law_488 : decode cL_law 488 = .ok (.aload_n 1, 1) := by decide +kernel
theorem dL_law_489 : decode cL_law 489 = .ok (.invokevirtual 55, 3) := by decide +kernel
theorem dL_law_492 : decode cL_law 492 = .ok (.aload_n 2, 1) := by decide +kernel
theorem dL_law_493 : decode cL_law 493 = .ok (.invokevirtual 59, 3) := by decide +kernel
theorem dL_law_496 : decode cL_law 496 = .ok (.if_icmp .eq 180, 3) := by decide +kernel
theorem dL_law_499 : decode cL_law 499 = .ok (.iconst 0, 1) := by decide +kernel
theorem dL_law_500 : decode cL_law 500 = .ok (.ireturn, 1) := by decide +kernel
theorem dL_law_501 : decode cL_law 501 = .ok (.aload_n 1, 1) := by decide +kernel
theorem dL_law_502 : decode cL_law 502 = .ok (.aload_n 0, 1) := by decide +kernel
theorem dL_law_503 : decode cL_law 503 = .ok (.iload_n 3, 1) := by decide +kernel
theorem dL_law_504 : decode cL_law 504 = .ok (.iconst 1, 1) := by decide +kernel
theorem dL_law_505 : decode cL_law 505 = .ok (.iadd, 1) := by decide +kernel
theorem dL_law_506 : decode cL_law 506 = .ok (.iaload, 1) := by decide +kernel
theorem dL_law_507 : decode cL_law 507 = .ok (.invokevirtual 60, 3) := by decide +kernel
theorem dL_law_510 : decode cL_law 510 = .ok (.aload_n 2, 1) := by decide +kernel
theorem dL_law_511 : decode cL_law 511 = .ok (.aload_n 0, 1) := by decide +kernel
theorem dL_law_512 : decode cL_law 512 = .ok (.iload_n 3, 1) := by decide +kernel
theorem dL_law_513 : decode cL_law 513 = .ok (.iconst 1, 1) := by decide +kernel
theorem dL_law_514 : decode cL_law 514 = .ok (.iadd, 1) := by decide +kernel
theorem dL_law_515 : decode cL_law 515 = .ok (.iaload, 1) := by decide +kernel
theorem dL_law_516 : decode cL_law 516 = .ok (.invokevirtual 63, 3) := by decide +kernel
theorem dL_law_519 : decode cL_law 519 = .ok (.if_icmp .eq 157, 3) := by decide +kernel
theorem dL_law_522 : decode cL_law 522 = .ok (.iconst 0, 1) := by decide +kernel
theorem dL_law_523 : decode cL_law 523 = .ok (.ireturn, 1) := by decide +kernel
theorem dL_law_524 : decode cL_law 524 = .ok (.aload_n 1, 1) := by decide +kernel
theorem dL_law_525 : decode cL_law 525 = .ok (.invokevirtual 64, 3) := by decide +kernel
theorem dL_law_528 : decode cL_law 528 = .ok (.aload_n 2, 1) := by decide +kernel
theorem dL_law_529 : decode cL_law 529 = .ok (.invokevirtual 67, 3) := by decide +kernel
theorem dL_law_532 : decode cL_law 532 = .ok (.if_icmp .eq 144, 3) := by decide +kernel
theorem dL_law_535 : decode cL_law 535 = .ok (.iconst 0, 1) := by decide +kernel
theorem dL_law_536 : decode cL_law 536 = .ok (.ireturn, 1) := by decide +kernel
theorem dL_law_537 : decode cL_law 537 = .ok (.aload_n 1, 1) := by decide +kernel
theorem dL_law_538 : decode cL_law 538 = .ok (.aload_n 0, 1) := by decide +kernel
theorem dL_law_539 : decode cL_law 539 = .ok (.iload_n 3, 1) := by decide +kernel
theorem dL_law_540 : decode cL_law 540 = .ok (.iconst 1, 1) := by decide +kernel
theorem dL_law_541 : decode cL_law 541 = .ok (.iadd, 1) := by decide +kernel
theorem dL_law_542 : decode cL_law 542 = .ok (.iaload, 1) := by decide +kernel
theorem dL_law_543 : decode cL_law 543 = .ok (.aload_n 0, 1) := by decide +kernel
theorem dL_law_544 : decode cL_law 544 = .ok (.iload_n 3, 1) := by decide +kernel
theorem dL_law_545 : decode cL_law 545 = .ok (.iconst 2, 1) := by decide +kernel
theorem dL_law_546 : decode cL_law 546 = .ok (.iadd, 1) := by decide +kernel
theorem dL_law_547 : decode cL_law 547 = .ok (.iaload, 1) := by decide +kernel
theorem dL_law_548 : decode cL_law 548 = .ok (.invokevirtual 68, 3) := by decide +kernel
theorem dL_law_551 : decode cL_law 551 = .ok (.aload_n 2, 1) := by decide +kernel
theorem dL_law_552 : decode cL_law 552 = .ok (.aload_n 0, 1) := by decide +kernel
theorem dL_law_553 : decode cL_law 553 = .ok (.iload_n 3, 1) := by decide +kernel
theorem dL_law_554 : decode cL_law 554 = .ok (.iconst 1, 1) := by decide +kernel
theorem dL_law_555 : decode cL_law 555 = .ok (.iadd, 1) := by decide +kernel
theorem dL_law_556 : decode cL_law 556 = .ok (.iaload, 1) := by decide +kernel
theorem dL_law_557 : decode cL_law 557 = .ok (.aload_n 0, 1) := by decide +kernel
theorem dL_law_558 : decode cL_law 558 = .ok (.iload_n 3, 1) := by decide +kernel
theorem dL_law_559 : decode cL_law 559 = .ok (.iconst 2, 1) := by decide +kernel
theorem dL_law_560 : decode cL_law 560 = .ok (.iadd, 1) := by decide +kernel
theorem dL_law_561 : decode cL_law 561 = .ok (.iaload, 1) := by decide +kernel
theorem dL_law_562 : decode cL_law 562 = .ok (.invokevirtual 71, 3) := by decide +kernel
theorem dL_law_565 : decode cL_law 565 = .ok (.if_icmp .eq 111, 3) := by decide +kernel
theorem dL_law_568 : decode cL_law 568 = .ok (.iconst 0, 1) := by decide +kernel
theorem dL_law_569 : decode cL_law 569 = .ok (.ireturn, 1) := by decide +kernel
theorem dL_law_570 : decode cL_law 570 = .ok (.aload_n 1, 1) := by decide +kernel
theorem dL_law_571 : decode cL_law 571 = .ok (.aload_n 0, 1) := by decide +kernel
theorem dL_law_572 : decode cL_law 572 = .ok (.iload_n 3, 1) := by decide +kernel
theorem dL_law_573 : decode cL_law 573 = .ok (.iconst 1, 1) := by decide +kernel
theorem dL_law_574 : decode cL_law 574 = .ok (.iadd, 1) := by decide +kernel
theorem dL_law_575 : decode cL_law 575 = .ok (.iaload, 1) := by decide +kernel
theorem dL_law_576 : decode cL_law 576 = .ok (.aload_n 0, 1) := by decide +kernel
theorem dL_law_577 : decode cL_law 577 = .ok (.iload_n 3, 1) := by decide +kernel
theorem dL_law_578 : decode cL_law 578 = .ok (.iconst 2, 1) := by decide +kernel
theorem dL_law_579 : decode cL_law 579 = .ok (.iadd, 1) := by decide +kernel
theorem dL_law_580 : decode cL_law 580 = .ok (.iaload, 1) := by decide +kernel
theorem dL_law_581 : decode cL_law 581 = .ok (.invokevirtual 72, 3) := by decide +kernel
theorem dL_law_584 : decode cL_law 584 = .ok (.aload_n 2, 1) := by decide +kernel
theorem dL_law_585 : decode cL_law 585 = .ok (.aload_n 0, 1) := by decide +kernel
theorem dL_law_586 : decode cL_law 586 = .ok (.iload_n 3, 1) := by decide +kernel
theorem dL_law_587 : decode cL_law 587 = .ok (.iconst 1, 1) := by decide +kernel
theorem dL_law_588 : decode cL_law 588 = .ok (.iadd, 1) := by decide +kernel
theorem dL_law_589 : decode cL_law 589 = .ok (.iaload, 1) := by decide +kernel
theorem dL_law_590 : decode cL_law 590 = .ok (.aload_n 0, 1) := by decide +kernel
theorem dL_law_591 : decode cL_law 591 = .ok (.iload_n 3, 1) := by decide +kernel
theorem dL_law_592 : decode cL_law 592 = .ok (.iconst 2, 1) := by decide +kernel
theorem dL_law_593 : decode cL_law 593 = .ok (.iadd, 1) := by decide +kernel
theorem dL_law_594 : decode cL_law 594 = .ok (.iaload, 1) := by decide +kernel
theorem dL_law_595 : decode cL_law 595 = .ok (.invokevirtual 76, 3) := by decide +kernel
theorem dL_law_598 : decode cL_law 598 = .ok (.lcmp, 1) := by decide +kernel
theorem dL_law_599 : decode cL_law 599 = .ok (.ifCond .eq 77, 3) := by decide +kernel
theorem dL_law_602 : decode cL_law 602 = .ok (.iconst 0, 1) := by decide +kernel
theorem dL_law_603 : decode cL_law 603 = .ok (.ireturn, 1) := by decide +kernel
theorem dL_law_604 : decode cL_law 604 = .ok (.aload_n 1, 1) := by decide +kernel
theorem dL_law_605 : decode cL_law 605 = .ok (.invokevirtual 77, 3) := by decide +kernel
theorem dL_law_608 : decode cL_law 608 = .ok (.aload_n 2, 1) := by decide +kernel
theorem dL_law_609 : decode cL_law 609 = .ok (.invokevirtual 80, 3) := by decide +kernel
theorem dL_law_612 : decode cL_law 612 = .ok (.if_icmp .eq 64, 3) := by decide +kernel
theorem dL_law_615 : decode cL_law 615 = .ok (.iconst 0, 1) := by decide +kernel
theorem dL_law_616 : decode cL_law 616 = .ok (.ireturn, 1) := by decide +kernel
theorem dL_law_617 : decode cL_law 617 = .ok (.aload_n 1, 1) := by decide +kernel
theorem dL_law_618 : decode cL_law 618 = .ok (.aload_n 0, 1) := by decide +kernel
theorem dL_law_619 : decode cL_law 619 = .ok (.iload_n 3, 1) := by decide +kernel
theorem dL_law_620 : decode cL_law 620 = .ok (.iconst 1, 1) := by decide +kernel
theorem dL_law_621 : decode cL_law 621 = .ok (.iadd, 1) := by decide +kernel
theorem dL_law_622 : decode cL_law 622 = .ok (.iaload, 1) := by decide +kernel
theorem dL_law_623 : decode cL_law 623 = .ok (.aload_n 0, 1) := by decide +kernel
theorem dL_law_624 : decode cL_law 624 = .ok (.iload_n 3, 1) := by decide +kernel
theorem dL_law_625 : decode cL_law 625 = .ok (.iconst 2, 1) := by decide +kernel
theorem dL_law_626 : decode cL_law 626 = .ok (.iadd, 1) := by decide +kernel
theorem dL_law_627 : decode cL_law 627 = .ok (.iaload, 1) := by decide +kernel
theorem dL_law_628 : decode cL_law 628 = .ok (.invokevirtual 81, 3) := by decide +kernel
theorem dL_law_631 : decode cL_law 631 = .ok (.aload_n 2, 1) := by decide +kernel
theorem dL_law_632 : decode cL_law 632 = .ok (.aload_n 0, 1) := by decide +kernel
theorem dL_law_633 : decode cL_law 633 = .ok (.iload_n 3, 1) := by decide +kernel
theorem dL_law_634 : decode cL_law 634 = .ok (.iconst 1, 1) := by decide +kernel
theorem dL_law_635 : decode cL_law 635 = .ok (.iadd, 1) := by decide +kernel
theorem dL_law_636 : decode cL_law 636 = .ok (.iaload, 1) := by decide +kernel
theorem dL_law_637 : decode cL_law 637 = .ok (.aload_n 0, 1) := by decide +kernel
theorem dL_law_638 : decode cL_law 638 = .ok (.iload_n 3, 1) := by decide +kernel
theorem dL_law_639 : decode cL_law 639 = .ok (.iconst 2, 1) := by decide +kernel
theorem dL_law_640 : decode cL_law 640 = .ok (.iadd, 1) := by decide +kernel
theorem dL_law_641 : decode cL_law 641 = .ok (.iaload, 1) := by decide +kernel
theorem dL_law_642 : decode cL_law 642 = .ok (.invokevirtual 84, 3) := by decide +kernel
theorem dL_law_645 : decode cL_law 645 = .ok (.if_icmp .eq 31, 3) := by decide +kernel
theorem dL_law_648 : decode cL_law 648 = .ok (.iconst 0, 1) := by decide +kernel
theorem dL_law_649 : decode cL_law 649 = .ok (.ireturn, 1) := by decide +kernel
theorem dL_law_650 : decode cL_law 650 = .ok (.aload_n 1, 1) := by decide +kernel
theorem dL_law_651 : decode cL_law 651 = .ok (.invokevirtual 85, 3) := by decide +kernel
theorem dL_law_654 : decode cL_law 654 = .ok (.aload_n 2, 1) := by decide +kernel
theorem dL_law_655 : decode cL_law 655 = .ok (.invokevirtual 88, 3) := by decide +kernel
theorem dL_law_658 : decode cL_law 658 = .ok (.if_icmp .eq 18, 3) := by decide +kernel
theorem dL_law_661 : decode cL_law 661 = .ok (.iconst 0, 1) := by decide +kernel
theorem dL_law_662 : decode cL_law 662 = .ok (.ireturn, 1) := by decide +kernel
theorem dL_law_663 : decode cL_law 663 = .ok (.aload_n 1, 1) := by decide +kernel
theorem dL_law_664 : decode cL_law 664 = .ok (.invokevirtual 89, 3) := by decide +kernel
theorem dL_law_667 : decode cL_law 667 = .ok (.aload_n 2, 1) := by decide +kernel
theorem dL_law_668 : decode cL_law 668 = .ok (.invokevirtual 92, 3) := by decide +kernel
theorem dL_law_671 : decode cL_law 671 = .ok (.if_icmp .eq 5, 3) := by decide +kernel
theorem dL_law_674 : decode cL_law 674 = .ok (.iconst 0, 1) := by decide +kernel
theorem dL_law_675 : decode cL_law 675 = .ok (.ireturn, 1) := by decide +kernel
theorem dL_law_676 : decode cL_law 676 = .ok (.iinc 3 5, 3) := by decide +kernel
theorem dL_law_679 : decode cL_law 679 = .ok (.goto (-661), 3) := by decide +kernel
theorem dL_law_682 : decode cL_law 682 = .ok (.iconst 1, 1) := by decide +kernel
theorem dL_law_683 : decode cL_law 683 = .ok (.ireturn, 1) := by decide +kernel
end
section
/-! TOOLS: the shapes of contracts here, and the calls by them -/
section TOOLS
variable {p : Program} {l : Launch} {e : Env} {R : Room} {s : State} {m : MethodId} {args : Array Value} {below : List Frame} {meth : Method} {c : Code} {H : Heap} {locs : List Loc} {cells slots : Nat} {Q : State → Prop}
variable {cc : ByteArray} {pc : Nat} {ls : Array Slot} {rest st0 : List Value} {D : va_G} {A : Nat → Prop} {H0 : Heap}
/-- a method of numbers alone -/
abbrev pcP (av : List Value) : Array Value → State → Prop := fun v _ => v = av.toArray
/-- a method that reads the cells w -/
def pcR (D : va_G) (k : List (ClassId × FieldType)) (w : va_W) (av : List Value) : Array Value → State → Prop := va_Pc av (fun U => va_P D vwCl w U.heap ∧ va_K D vwCl k U)
/-- a method that writes among the cells w -/
def pcW (D : va_G) (k : List (ClassId × FieldType)) (w : va_W) (sz : Nat) (av : List Value) : Array Value → State → Prop := va_Pc av (fun U => U.heap.size = sz ∧ va_P D vwCl w U.heap ∧ va_K D vwCl k U ∧ va_D (fun _ => True) w)
def qcB (D : va_G) (k : List (ClassId × FieldType)) (w w' : va_W) (sz : Nat) : Unit → State → Prop := fun _ t => va_P D vwCl w' t.heap ∧ va_K D vwCl k t ∧ va_D (va_A w sz) w'
def qcWi (D : va_G) (k : List (ClassId × FieldType)) (w w' : va_W) (sz : Nat) (r0 : Int32) : Array Value → State → Outcome → State → Prop := va_Qi (fun r (_ : Unit) => r = r0) (qcB D k w w' sz) (va_A w sz)
def qcWv (D : va_G) (k : List (ClassId × FieldType)) (w w' : va_W) (sz : Nat) : Array Value → State → Outcome → State → Prop := va_Qv (fun (_ : Unit) => True) (qcB D k w w' sz) (va_A w sz)
theorem pcR_blind {k : List (ClassId × FieldType)} {w : va_W} {av : List Value} : FrameBlind (pcR D k w av) := fun a U g mk q => ⟨q.1, q.2.1, va_K.moved (u := U) (U := U.calling g mk a) (Vm.Alike.refl U.vm) q.2.2⟩
theorem pcW_blind {k : List (ClassId × FieldType)} {w : va_W} {sz : Nat} {av : List Value} : FrameBlind (pcW D k w sz av) := fun a U g mk q => ⟨q.1, q.2.1, q.2.2.1, va_K.moved (u := U) (U := U.calling g mk a) (Vm.Alike.refl U.vm) q.2.2.2.1, q.2.2.2.2⟩
/-- two ways that meet again with one number more on the stack -/
theorem w_cut {st : List Value} (pc2 : Nat) (st2 : List Value) (E : Int32) (hk : ∀ z : Int32, z = E → W p l e R s m args below meth c H locs cells slots Q (F0 m pc2 ls (.int z :: st2))) (hj : (∀ z : Int32, z = E → W p l e R s m args below meth c H locs cells slots Q (F0 m pc2 ls (.int z :: st2))) → W p l e R s m args below meth c H locs cells slots Q (F0 m pc ls st)) : W p l e R s m args below meth c H locs cells slots Q (F0 m pc ls st) := hj hk
variable {Ts wsl ws' : List Cond} {bytes : ByteArray} {nL maxL index n : Nat} {own C : String} {y : MethodName} {ret : Option FieldType} {rm : Room} {b : Nat} {As : List Value}
/-- a call of a static method of numbers -/
theorem callSi {r : Int32} (hM : Met l y wsl rm (pcP As) (QcRead r) 0 0 (fun _ => False)) (S : CallFix p m c cc nL s args Ts own) (cw : CallB R s args own index y bytes maxL ret wsl rm 0 0 n ∧ (Cond.static y).before args s = true)
    (hn : As.length = n) (hsize : ls.size = nL) (hst : st0 = As.reverse ++ rest) (hW : (rest.map fun v => v.category).sum ≤ 8) (hdg : decode cc pc = .ok (.invokestatic index, 3)) (hf : cells ≤ R.cells ∧ slots ≤ R.slots)
    (kk : W p l e R s m args below meth c H locs cells slots Q (F0 m (pc + 3) ls (.int r :: rest))) : W p l e R s m args below meth c H locs cells slots Q (F0 m pc ls st0) :=
  W.callR (W.runS S hM cw ⟨fun _ _ _ _ q => q, fun _ _ _ => rfl⟩ rfl hn hsize hst (lv_room hW) hdg hf) kk
/-- a call of a method that reads -/
theorem callRi {r : Int32} {k : List (ClassId × FieldType)} {w : va_W} {q : vw_C} {ci q0 : Nat} {fs : List Value} (hM : Met l y wsl rm (pcR D k w (.ref b :: As)) (QcRead r) 0 0 (fun _ => False)) (S : CallFix p m c cc nL s args Ts own) (cw : CallW R s args own q.1 index y bytes maxL ret wsl rm 0 0 n)
    (hK : va_K D vwCl k s) (hP : va_P D vwCl w H) (hc : vwCl[ci]? = some q) (he : w[q0]? = some (b, .inr (ci, fs)))
    (hn : As.length = n) (hsize : ls.size = nL) (hst : st0 = As.reverse ++ .ref b :: rest) (hW : (rest.map fun v => v.category).sum ≤ 8) (hdg : decode cc pc = .ok (.invokevirtual index, 3)) (hf : cells ≤ R.cells ∧ slots ≤ R.slots)
    (kk : W p l e R s m args below meth c H locs cells slots Q (F0 m (pc + 3) ls (.int r :: rest))) : W p l e R s m args below meth c H locs cells slots Q (F0 m pc ls st0) :=
  W.callR (W.runV S hM cw ⟨pcR_blind, va_recv hK hP hc he, fun U hU hW => ⟨rfl, by rw [hU]; exact hP, va_K.moved hW.alike hK⟩⟩ rfl hn hsize hst (lv_room hW) hdg hf) kk
theorem callRv {r : Value} {k : List (ClassId × FieldType)} {w : va_W} {q : vw_C} {ci q0 : Nat} {fs : List Value} (hM : Met l y wsl rm (pcR D k w (.ref b :: As)) (k2_QcV r) 0 0 (fun _ => False)) (S : CallFix p m c cc nL s args Ts own) (cw : CallW R s args own q.1 index y bytes maxL ret wsl rm 0 0 n)
    (hK : va_K D vwCl k s) (hP : va_P D vwCl w H) (hc : vwCl[ci]? = some q) (he : w[q0]? = some (b, .inr (ci, fs)))
    (hn : As.length = n) (hsize : ls.size = nL) (hst : st0 = As.reverse ++ .ref b :: rest) (hW : (rest.map fun v => v.category).sum ≤ 8) (hdg : decode cc pc = .ok (.invokevirtual index, 3)) (hf : cells ≤ R.cells ∧ slots ≤ R.slots)
    (kk : W p l e R s m args below meth c H locs cells slots Q (F0 m (pc + 3) ls (r :: rest))) : W p l e R s m args below meth c H locs cells slots Q (F0 m pc ls st0) :=
  W.callV (W.runV S hM cw ⟨pcR_blind, va_recv hK hP hc he, fun U hU hW => ⟨rfl, by rw [hU]; exact hP, va_K.moved hW.alike hK⟩⟩ rfl hn hsize hst (lv_room hW) hdg hf) kk
/-- a call of a method that writes among its cells wc; the rest wr stays -/
theorem callWi {r : Int32} {k : List (ClassId × FieldType)} {ws wc wr w1 : va_W} {q : vw_C} {ci q0 : Nat} {fs : List Value} (hM : Met l y wsl rm (pcW D k wc H.size (.ref b :: As)) (qcWi D k wc w1 H.size r) 0 0 (va_A wc H.size)) (S : CallFix p m c cc nL s args Ts own) (cw : CallW R s args own q.1 index y bytes maxL ret wsl rm 0 0 n)
    (hK : va_K D vwCl k s) (hP : va_P D vwCl ws H) (hD : va_D A ws) (hS : va_S A H0 H locs) (hA : ∀ q, H0.size ≤ q → A q) (hc : vwCl[ci]? = some q) (he : wc[q0]? = some (b, .inr (ci, fs)))
    (isC isR : List Nat) (hC0 : isC.filterMap (fun i => ws[i]?) = wc) (hC : isC.map (fun i => ws[i]?) = wc.map some) (hR : isR.map (fun i => ws[i]?) = wr.map some) (hnC : va_nd isC = true) (hnR : va_nd isR = true) (hdis : ∀ i ∈ isR, i ∉ isC)
    (hn : As.length = n) (hsize : ls.size = nL) (hst : st0 = As.reverse ++ .ref b :: rest) (hW : (rest.map fun v => v.category).sum ≤ 8) (hdg : decode cc pc = .ok (.invokevirtual index, 3)) (hf : cells ≤ R.cells ∧ slots ≤ R.slots)
    (kk : ∀ (H1 : Heap) (locs1 : List Loc), va_P D vwCl (wr ++ w1) H1 → va_D A (wr ++ w1) → va_S A H0 H1 locs1 → W p l e R s m args below meth c H1 locs1 cells slots Q (F0 m (pc + 3) ls (.int r :: rest))) : W p l e R s m args below meth c H locs cells slots Q (F0 m pc ls st0) := by
  have hPc := hP.sub (ws' := wc) isC hC0
  have hDc := hD.sub (ws' := wc) isC hnC hC
  have hFc := va_free (wc := wc) hD hS hA isC hC
  refine va_calli (va_runV (As := As) (rest := rest) S hM cw ⟨pcW_blind, va_recv hK hPc hc he, fun U hU hW => ⟨rfl, by rw [hU], by rw [hU]; exact hPc, va_K.moved hW.alike hK, hDc.weaken (fun _ _ _ _ => trivial)⟩⟩ rfl hn hsize hst (lv_room hW) hdg hf) hS (fun q _ h => hFc q h) hFc (fun r1 u t H1 locs1 ht hvm hw hB hz1 hk1 hS1 => ?_)
  obtain ⟨hP1, hK1, hD1⟩ := hB
  rw [ht] at hP1
  have hw : r1 = r := hw
  subst hw
  obtain ⟨hP2, hD2⟩ := va_join (wr := wr) (w1 := w1) hP hD isC isR hC hR hnR hdis hk1 hFc hP1 hD1
  exact kk H1 locs1 hP2 hD2 hS1
theorem callWv {k : List (ClassId × FieldType)} {ws wc wr w1 : va_W} {q : vw_C} {ci q0 : Nat} {fs : List Value} (hM : Met l y wsl rm (pcW D k wc H.size (.ref b :: As)) (qcWv D k wc w1 H.size) 0 0 (va_A wc H.size)) (S : CallFix p m c cc nL s args Ts own) (cw : CallW R s args own q.1 index y bytes maxL ret wsl rm 0 0 n)
    (hK : va_K D vwCl k s) (hP : va_P D vwCl ws H) (hD : va_D A ws) (hS : va_S A H0 H locs) (hA : ∀ q, H0.size ≤ q → A q) (hc : vwCl[ci]? = some q) (he : wc[q0]? = some (b, .inr (ci, fs)))
    (isC isR : List Nat) (hC0 : isC.filterMap (fun i => ws[i]?) = wc) (hC : isC.map (fun i => ws[i]?) = wc.map some) (hR : isR.map (fun i => ws[i]?) = wr.map some) (hnC : va_nd isC = true) (hnR : va_nd isR = true) (hdis : ∀ i ∈ isR, i ∉ isC)
    (hn : As.length = n) (hsize : ls.size = nL) (hst : st0 = As.reverse ++ .ref b :: rest) (hW : (rest.map fun v => v.category).sum ≤ 8) (hdg : decode cc pc = .ok (.invokevirtual index, 3)) (hf : cells ≤ R.cells ∧ slots ≤ R.slots)
    (kk : ∀ (H1 : Heap) (locs1 : List Loc), va_P D vwCl (wr ++ w1) H1 → va_D A (wr ++ w1) → va_S A H0 H1 locs1 → W p l e R s m args below meth c H1 locs1 cells slots Q (F0 m (pc + 3) ls rest)) : W p l e R s m args below meth c H locs cells slots Q (F0 m pc ls st0) := by
  have hPc := hP.sub (ws' := wc) isC hC0
  have hDc := hD.sub (ws' := wc) isC hnC hC
  have hFc := va_free (wc := wc) hD hS hA isC hC
  refine va_callv (va_runV (As := As) (rest := rest) S hM cw ⟨pcW_blind, va_recv hK hPc hc he, fun U hU hW => ⟨rfl, by rw [hU], by rw [hU]; exact hPc, va_K.moved hW.alike hK, hDc.weaken (fun _ _ _ _ => trivial)⟩⟩ rfl hn hsize hst (lv_room hW) hdg hf) hS (fun q _ h => hFc q h) hFc (fun u t H1 locs1 ht hvm hw hB hz1 hk1 hS1 => ?_)
  obtain ⟨hP1, hK1, hD1⟩ := hB
  rw [ht] at hP1
  obtain ⟨hP2, hD2⟩ := va_join (wr := wr) (w1 := w1) hP hD isC isR hC hR hnR hdis hk1 hFc hP1 hD1
  exact kk H1 locs1 hP2 hD2 hS1
/-- the ends -/
theorem retP {r v : Int32} {ty : FieldType} (hx : p.tables.exec = Jvm.exec) (hb : c.code = cc) (hr : meth.sig.returnType = some ty) (hlocks : meth.locks = false) (hn : narrow ty (.int v) = .int v) (he : v = r) (hH : H = s.heap) (hdg : decode cc pc = .ok (.ireturn, 1)) :
    W p l e R s m args below meth c H [] cells slots (MQ below (QcRead r) args s cells slots (fun _ => False)) (F0 m pc ls [.int v]) := by
  subst he
  exact W.zret hx hb hr hn (fun t ht hW => ⟨rfl, ht.trans hH⟩) (fun _ h => by cases h) hdg
theorem retL {r v : Int64} (hx : p.tables.exec = Jvm.exec) (hb : c.code = cc) (hr : meth.sig.returnType = some .long) (hlocks : meth.locks = false) (he : v = r) (hH : H = s.heap) (hdg : decode cc pc = .ok (.lreturn, 1)) :
    W p l e R s m args below meth c H [] cells slots (MQ below (k2_QcV (.long r)) args s cells slots (fun _ => False)) (F0 m pc ls [.long v]) := by
  subst he
  exact W.lret hx hb hr (fun t ht hW => ⟨rfl, ht.trans hH⟩) (fun _ h => by cases h) hdg
theorem retWi {r v : Int32} {ty : FieldType} {k : List (ClassId × FieldType)} {w w2 w' : va_W} (hx : p.tables.exec = Jvm.exec) (hb : c.code = cc) (hr : meth.sig.returnType = some ty) (hlocks : meth.locks = false) (hn : narrow ty (.int v) = .int v) (he : v = r) (hw : w2 = w') (hK : va_K D vwCl k s) (hP : va_P D vwCl w2 H) (hD : va_D (va_A w s.heap.size) w2) (hS : va_S (va_A w s.heap.size) s.heap H locs) (hdg : decode cc pc = .ok (.ireturn, 1)) :
    W p l e R s m args below meth c H locs cells slots (MQ below (qcWi D k w w' s.heap.size r) args s cells slots (va_A w s.heap.size)) (F0 m pc ls [.int v]) := by
  subst he; subst hw
  exact W.zret hx hb hr hn (fun t ht hW => ⟨⟨v, (), rfl, rfl, by rw [ht]; exact hP, va_K.moved hW.alike hK, hD⟩, hS.F ht⟩) hS.2.2 hdg
theorem retWv {k : List (ClassId × FieldType)} {w w2 w' : va_W} (hx : p.tables.exec = Jvm.exec) (hb : c.code = cc) (hr : meth.sig.returnType = none) (hlocks : meth.locks = false) (hw : w2 = w') (hK : va_K D vwCl k s) (hP : va_P D vwCl w2 H) (hD : va_D (va_A w s.heap.size) w2) (hS : va_S (va_A w s.heap.size) s.heap H locs) (hdg : decode cc pc = .ok (.return_, 1)) :
    W p l e R s m args below meth c H locs cells slots (MQ below (qcWv D k w w' s.heap.size) args s cells slots (va_A w s.heap.size)) (F0 m pc ls []) := by
  subst hw
  exact W.vret hx hb hr (fun t ht hW => ⟨⟨(), rfl, trivial, by rw [ht]; exact hP, va_K.moved hW.alike hK, hD⟩, hS.F ht⟩) hS.2.2 hdg
end TOOLS
/-! the states -/
abbrev S0 : Type := (Nat → Int32) × (Nat → Int32) × (Nat → Int32) × Int32 × Int32 × Int32 × Int32 × Int32
abbrev k0 (c1 c2 c3 : ClassId) : List (ClassId × FieldType) := [(c1, .int), (c2, .int), (c3, .int)]
abbrev w0 (h0 h1 h2 h3 : Nat) (c1 c2 c3 : ClassId) (u : S0) : va_W := [(h0, .inr (0, [.ref h1, .ref h2, .ref h3, .int u.2.2.2.1, .int u.2.2.2.2.1, .int u.2.2.2.2.2.1, .int u.2.2.2.2.2.2.1, .int u.2.2.2.2.2.2.2])), (h1, .inl (c1, 96, .inl u.1)), (h2, .inl (c2, 200, .inl u.2.1)), (h3, .inl (c3, 8, .inl u.2.2.1))]
abbrev k1 (c1 c2 c3 : ClassId) : List (ClassId × FieldType) := [(c1, .int), (c2, .int), (c3, .boolean)]
abbrev w1 (h0 h1 h2 h3 : Nat) (c1 c2 c3 : ClassId) (u : S0) : va_W := [(h0, .inr (1, [.ref h1, .ref h2, .ref h3, .int u.2.2.2.1, .int u.2.2.2.2.1, .int u.2.2.2.2.2.1, .int u.2.2.2.2.2.2.1, .int u.2.2.2.2.2.2.2])), (h1, .inl (c1, 96, .inl u.1)), (h2, .inl (c2, 200, .inl u.2.1)), (h3, .inl (c3, 12, .inl u.2.2.1))]
end
section
def f0_isNode (x0 : Int32) : Int32 := (if x0 < 0 then 0 else (if 8 ≤ x0 then 0 else 1))
def f0_isPage (x0 : Int32) : Int32 := (if x0 < 8 then 0 else (if 12 ≤ x0 then 0 else 1))
def f0_isInRow (x0 : Int32) : Int32 := (if x0 < 0 then 0 else (if 8 ≤ x0 then 0 else 1))
def f0_isRegister (x0 : Int32) (x1 : Int32) : Int32 := (if x0 < 0 then 0 else (if 3 ≤ x0 then 0 else (if (f0_isInRow x1) = 0 then 0 else 1)))
def f0_isLimits (x0 : Int32) : Int32 := (if x0 < 0 then 0 else (if 3 < x0 then 0 else 1))
def f0_isPower (x0 : Int32) : Int32 := (if x0 = (-1) then 1 else (if x0 < 0 then 0 else (if 63 < x0 then 0 else 1)))
def f0_isBlock (x0 : Int32) : Int32 := (if x0 < 0 then 0 else (if 25 ≤ x0 then 0 else 1))
def f0_isKey (x0 : Int32) : Int32 := (if x0 < 0 then 0 else (if 48 < x0 then 0 else 1))
def f0_isNodeKey (x0 : Int32) : Int32 := (if x0 < 1 then 0 else (if 33 ≤ x0 then 0 else 1))
def f0_isPageKey (x0 : Int32) : Int32 := (if x0 < 33 then 0 else (if 48 < x0 then 0 else 1))
def f0_objectOf (x0 : Int32) : Int32 := ((x0 - 1) / 4)
def f0_limitsOf (x0 : Int32) : Int32 := ((x0 - 1) - (x0 - 1) / 4 * 4)
def f0_isWriting (x0 : Int32) : Int32 := (if (f0_limitsOf x0) = 0 then 1 else 0)
def f0_isWeak (x0 : Int32) : Int32 := (if ((f0_limitsOf x0) &&& 2) = 0 then 0 else 1)
def f0_limited (x0 : Int32) (x1 : Int32) : Int32 := (if x0 = 0 then 0 else ((1 + (4 * (f0_objectOf x0))) + ((f0_limitsOf x0) ||| x1)))
def f0_has (x0 : Int32) (x1 : Int32) : Int32 := (if ((x0 >>> (x1 &&& 31)) &&& 1) = 0 then 0 else 1)
def f1_eight (x0 : Int32) : Int32 := (if x0 < 0 then 0 else (if 7 < x0 then 0 else 1))
def f1_third (x0 : Int32) : Int32 := (if x0 < 0 then 0 else (if 2 < x0 then 0 else 1))
def f1_object (x0 : Int32) : Int32 := (if x0 = 0 then 12 else ((x0 - 1) / 4))
def f1_limits (x0 : Int32) : Int32 := ((x0 - 1) - (x0 - 1) / 4 * 4)
def f1_limited (x0 : Int32) (x1 : Int32) : Int32 := (if x0 = 0 then 0 else ((x0 - (f1_limits x0)) + ((f1_limits x0) ||| x1)))
set_option maxHeartbeats 4000000 in
set_option maxRecDepth 100000 in
theorem m0_isNode (l : Launch) (x0 : Int32) : Met l yX0_isNode wsX0_isNode ({ frames := 0, cells := 0, slots := 0, locals := 0 }) (pcP [.int x0]) (QcRead (f0_isNode x0)) 0 0 (fun _ => False) := by
  refine Met.ofW (cc := cX0_isNode) (maxL := 1) (ret := (some .boolean)) (by decide) rfl ?_
  intro p e s m args below meth c s₁ B hml hv
  obtain rfl := hv
  have hx := B.exec
  have hb := B.bytes
  have hr := B.returns
  have hts := atoms_spec (ws := wsX0_isNode) B.pre
  have hown : s.vm.findClass RX0 = some m.cls := findClass_of_methodNamed B.named
  have hlocks := B.notSynchronized
  have hl := lv_entry ([.int x0]) (n := 1) (Nat.le_of_ble_eq_true rfl)
  rw [lg_entry_eq]
  generalize (lg_sl ([.int x0]) ++ List.replicate (1 - (lg_sl ([.int x0])).length) Slot.unset).toArray = ls at hl ⊢
  have hl : lv_has ls 1 [(0, .int x0)] := hl
  refine lv_iload_n hx hb dX0_isNode_0 rfl (lv_at hl 0 rfl) ?_
  refine lv_if_lt (tgt := 14) hx hb dX0_isNode_1 (by decide) (fun c_1 => ?_) (fun c_1 => ?_)
  · skip
    refine lv_iconst (v := 0) hx hb dX0_isNode_14 (by decide) ?_
    exact retP hx hb hr hlocks rfl (by unfold f0_isNode; rw [if_pos c_1]) rfl dX0_isNode_15
  · skip
    refine lv_iload_n hx hb dX0_isNode_4 rfl (lv_at hl 0 rfl) ?_
    refine lv_bipush (v := 8) hx hb dX0_isNode_5 (by decide) ?_
    refine lv_icmp_ge (tgt := 14) hx hb dX0_isNode_7 (by decide) (fun c_7 => ?_) (fun c_7 => ?_)
    · skip
      refine lv_iconst (v := 0) hx hb dX0_isNode_14 (by decide) ?_
      exact retP hx hb hr hlocks rfl (by unfold f0_isNode; rw [if_neg c_1, if_pos c_7]) rfl dX0_isNode_15
    · skip
      refine lv_iconst (v := 1) hx hb dX0_isNode_10 (by decide) ?_
      refine lv_goto (tgt := 15) hx hb dX0_isNode_11 (by decide) ?_
      exact retP hx hb hr hlocks rfl (by unfold f0_isNode; rw [if_neg c_1, if_neg c_7]) rfl dX0_isNode_15
set_option maxHeartbeats 4000000 in
set_option maxRecDepth 100000 in
theorem m0_isPage (l : Launch) (x0 : Int32) : Met l yX0_isPage wsX0_isPage ({ frames := 0, cells := 0, slots := 0, locals := 0 }) (pcP [.int x0]) (QcRead (f0_isPage x0)) 0 0 (fun _ => False) := by
  refine Met.ofW (cc := cX0_isPage) (maxL := 1) (ret := (some .boolean)) (by decide) rfl ?_
  intro p e s m args below meth c s₁ B hml hv
  obtain rfl := hv
  have hx := B.exec
  have hb := B.bytes
  have hr := B.returns
  have hts := atoms_spec (ws := wsX0_isPage) B.pre
  have hown : s.vm.findClass RX0 = some m.cls := findClass_of_methodNamed B.named
  have hlocks := B.notSynchronized
  have hl := lv_entry ([.int x0]) (n := 1) (Nat.le_of_ble_eq_true rfl)
  rw [lg_entry_eq]
  generalize (lg_sl ([.int x0]) ++ List.replicate (1 - (lg_sl ([.int x0])).length) Slot.unset).toArray = ls at hl ⊢
  have hl : lv_has ls 1 [(0, .int x0)] := hl
  refine lv_iload_n hx hb dX0_isPage_0 rfl (lv_at hl 0 rfl) ?_
  refine lv_bipush (v := 8) hx hb dX0_isPage_1 (by decide) ?_
  refine lv_icmp_lt (tgt := 16) hx hb dX0_isPage_3 (by decide) (fun c_3 => ?_) (fun c_3 => ?_)
  · skip
    refine lv_iconst (v := 0) hx hb dX0_isPage_16 (by decide) ?_
    exact retP hx hb hr hlocks rfl (by unfold f0_isPage; rw [if_pos c_3]) rfl dX0_isPage_17
  · skip
    refine lv_iload_n hx hb dX0_isPage_6 rfl (lv_at hl 0 rfl) ?_
    refine lv_bipush (v := 12) hx hb dX0_isPage_7 (by decide) ?_
    refine lv_icmp_ge (tgt := 16) hx hb dX0_isPage_9 (by decide) (fun c_9 => ?_) (fun c_9 => ?_)
    · skip
      refine lv_iconst (v := 0) hx hb dX0_isPage_16 (by decide) ?_
      exact retP hx hb hr hlocks rfl (by unfold f0_isPage; rw [if_neg c_3, if_pos c_9]) rfl dX0_isPage_17
    · skip
      refine lv_iconst (v := 1) hx hb dX0_isPage_12 (by decide) ?_
      refine lv_goto (tgt := 17) hx hb dX0_isPage_13 (by decide) ?_
      exact retP hx hb hr hlocks rfl (by unfold f0_isPage; rw [if_neg c_3, if_neg c_9]) rfl dX0_isPage_17
set_option maxHeartbeats 4000000 in
set_option maxRecDepth 100000 in
theorem m0_isInRow (l : Launch) (x0 : Int32) : Met l yX0_isInRow wsX0_isInRow ({ frames := 0, cells := 0, slots := 0, locals := 0 }) (pcP [.int x0]) (QcRead (f0_isInRow x0)) 0 0 (fun _ => False) := by
  refine Met.ofW (cc := cX0_isInRow) (maxL := 1) (ret := (some .boolean)) (by decide) rfl ?_
  intro p e s m args below meth c s₁ B hml hv
  obtain rfl := hv
  have hx := B.exec
  have hb := B.bytes
  have hr := B.returns
  have hts := atoms_spec (ws := wsX0_isInRow) B.pre
  have hown : s.vm.findClass RX0 = some m.cls := findClass_of_methodNamed B.named
  have hlocks := B.notSynchronized
  have hl := lv_entry ([.int x0]) (n := 1) (Nat.le_of_ble_eq_true rfl)
  rw [lg_entry_eq]
  generalize (lg_sl ([.int x0]) ++ List.replicate (1 - (lg_sl ([.int x0])).length) Slot.unset).toArray = ls at hl ⊢
  have hl : lv_has ls 1 [(0, .int x0)] := hl
  refine lv_iload_n hx hb dX0_isInRow_0 rfl (lv_at hl 0 rfl) ?_
  refine lv_if_lt (tgt := 14) hx hb dX0_isInRow_1 (by decide) (fun c_1 => ?_) (fun c_1 => ?_)
  · skip
    refine lv_iconst (v := 0) hx hb dX0_isInRow_14 (by decide) ?_
    exact retP hx hb hr hlocks rfl (by unfold f0_isInRow; rw [if_pos c_1]) rfl dX0_isInRow_15
  · skip
    refine lv_iload_n hx hb dX0_isInRow_4 rfl (lv_at hl 0 rfl) ?_
    refine lv_bipush (v := 8) hx hb dX0_isInRow_5 (by decide) ?_
    refine lv_icmp_ge (tgt := 14) hx hb dX0_isInRow_7 (by decide) (fun c_7 => ?_) (fun c_7 => ?_)
    · skip
      refine lv_iconst (v := 0) hx hb dX0_isInRow_14 (by decide) ?_
      exact retP hx hb hr hlocks rfl (by unfold f0_isInRow; rw [if_neg c_1, if_pos c_7]) rfl dX0_isInRow_15
    · skip
      refine lv_iconst (v := 1) hx hb dX0_isInRow_10 (by decide) ?_
      refine lv_goto (tgt := 15) hx hb dX0_isInRow_11 (by decide) ?_
      exact retP hx hb hr hlocks rfl (by unfold f0_isInRow; rw [if_neg c_1, if_neg c_7]) rfl dX0_isInRow_15
set_option maxHeartbeats 4000000 in
set_option maxRecDepth 100000 in
theorem m0_isRegister (l : Launch) (x0 : Int32) (x1 : Int32) : Met l yX0_isRegister wsX0_isRegister ({ frames := 1, cells := 0, slots := 0, locals := 20 }) (pcP [.int x0, .int x1]) (QcRead (f0_isRegister x0 x1)) 0 0 (fun _ => False) := by
  refine Met.ofW (cc := cX0_isRegister) (maxL := 2) (ret := (some .boolean)) (by decide) rfl ?_
  intro p e s m args below meth c s₁ B hml hv
  obtain rfl := hv
  have hx := B.exec
  have hb := B.bytes
  have hr := B.returns
  have hts := atoms_spec (ws := wsX0_isRegister) B.pre
  have hown : s.vm.findClass RX0 = some m.cls := findClass_of_methodNamed B.named
  have hlocks := B.notSynchronized
  have hl := lv_entry ([.int x0, .int x1]) (n := 2) (Nat.le_of_ble_eq_true rfl)
  rw [lg_entry_eq]
  generalize (lg_sl ([.int x0, .int x1]) ++ List.replicate (2 - (lg_sl ([.int x0, .int x1])).length) Slot.unset).toArray = ls at hl ⊢
  have hl : lv_has ls 2 [(0, .int x0), (1, .int x1)] := hl
  refine lv_iload_n hx hb dX0_isRegister_0 rfl (lv_at hl 0 rfl) ?_
  refine lv_if_lt (tgt := 20) hx hb dX0_isRegister_1 (by decide) (fun c_1 => ?_) (fun c_1 => ?_)
  · skip
    refine lv_iconst (v := 0) hx hb dX0_isRegister_20 (by decide) ?_
    exact retP hx hb hr hlocks rfl (by unfold f0_isRegister; rw [if_pos c_1]) rfl dX0_isRegister_21
  · skip
    refine lv_iload_n hx hb dX0_isRegister_4 rfl (lv_at hl 0 rfl) ?_
    refine lv_iconst (v := 3) hx hb dX0_isRegister_5 (by decide) ?_
    refine lv_icmp_ge (tgt := 20) hx hb dX0_isRegister_6 (by decide) (fun c_6 => ?_) (fun c_6 => ?_)
    · skip
      refine lv_iconst (v := 0) hx hb dX0_isRegister_20 (by decide) ?_
      exact retP hx hb hr hlocks rfl (by unfold f0_isRegister; rw [if_neg c_1, if_pos c_6]) rfl dX0_isRegister_21
    · skip
      refine lv_iload_n hx hb dX0_isRegister_9 rfl (lv_at hl 1 rfl) ?_
      refine callSi (As := [.int x1]) (rest := []) (m0_isInRow l x1) ⟨hx, hb, hml, hown, hts⟩ (va_cwS 1 hts gX0_isRegister_X0_isInRow rfl rfl rfl (by decide +kernel) ⟨Nat.le_of_ble_eq_true rfl, Nat.le_of_ble_eq_true rfl⟩) rfl hl.1 rfl (Nat.le_of_ble_eq_true rfl) dX0_isRegister_10 ⟨Nat.zero_le _, Nat.zero_le _⟩ ?_
      refine lv_if_eq (tgt := 20) hx hb dX0_isRegister_13 (by decide) (fun c_13 => ?_) (fun c_13 => ?_)
      · skip
        refine lv_iconst (v := 0) hx hb dX0_isRegister_20 (by decide) ?_
        exact retP hx hb hr hlocks rfl (by unfold f0_isRegister; rw [if_neg c_1, if_neg c_6, if_pos c_13]) rfl dX0_isRegister_21
      · skip
        refine lv_iconst (v := 1) hx hb dX0_isRegister_16 (by decide) ?_
        refine lv_goto (tgt := 21) hx hb dX0_isRegister_17 (by decide) ?_
        exact retP hx hb hr hlocks rfl (by unfold f0_isRegister; rw [if_neg c_1, if_neg c_6, if_neg c_13]) rfl dX0_isRegister_21
set_option maxHeartbeats 4000000 in
set_option maxRecDepth 100000 in
theorem m0_isLimits (l : Launch) (x0 : Int32) : Met l yX0_isLimits wsX0_isLimits ({ frames := 0, cells := 0, slots := 0, locals := 0 }) (pcP [.int x0]) (QcRead (f0_isLimits x0)) 0 0 (fun _ => False) := by
  refine Met.ofW (cc := cX0_isLimits) (maxL := 1) (ret := (some .boolean)) (by decide) rfl ?_
  intro p e s m args below meth c s₁ B hml hv
  obtain rfl := hv
  have hx := B.exec
  have hb := B.bytes
  have hr := B.returns
  have hts := atoms_spec (ws := wsX0_isLimits) B.pre
  have hown : s.vm.findClass RX0 = some m.cls := findClass_of_methodNamed B.named
  have hlocks := B.notSynchronized
  have hl := lv_entry ([.int x0]) (n := 1) (Nat.le_of_ble_eq_true rfl)
  rw [lg_entry_eq]
  generalize (lg_sl ([.int x0]) ++ List.replicate (1 - (lg_sl ([.int x0])).length) Slot.unset).toArray = ls at hl ⊢
  have hl : lv_has ls 1 [(0, .int x0)] := hl
  refine lv_iload_n hx hb dX0_isLimits_0 rfl (lv_at hl 0 rfl) ?_
  refine lv_if_lt (tgt := 13) hx hb dX0_isLimits_1 (by decide) (fun c_1 => ?_) (fun c_1 => ?_)
  · skip
    refine lv_iconst (v := 0) hx hb dX0_isLimits_13 (by decide) ?_
    exact retP hx hb hr hlocks rfl (by unfold f0_isLimits; rw [if_pos c_1]) rfl dX0_isLimits_14
  · skip
    refine lv_iload_n hx hb dX0_isLimits_4 rfl (lv_at hl 0 rfl) ?_
    refine lv_iconst (v := 3) hx hb dX0_isLimits_5 (by decide) ?_
    refine lv_icmp_gt (tgt := 13) hx hb dX0_isLimits_6 (by decide) (fun c_6 => ?_) (fun c_6 => ?_)
    · skip
      refine lv_iconst (v := 0) hx hb dX0_isLimits_13 (by decide) ?_
      exact retP hx hb hr hlocks rfl (by unfold f0_isLimits; rw [if_neg c_1, if_pos c_6]) rfl dX0_isLimits_14
    · skip
      refine lv_iconst (v := 1) hx hb dX0_isLimits_9 (by decide) ?_
      refine lv_goto (tgt := 14) hx hb dX0_isLimits_10 (by decide) ?_
      exact retP hx hb hr hlocks rfl (by unfold f0_isLimits; rw [if_neg c_1, if_neg c_6]) rfl dX0_isLimits_14
set_option maxHeartbeats 4000000 in
set_option maxRecDepth 100000 in
theorem m0_isPower (l : Launch) (x0 : Int32) : Met l yX0_isPower wsX0_isPower ({ frames := 0, cells := 0, slots := 0, locals := 0 }) (pcP [.int x0]) (QcRead (f0_isPower x0)) 0 0 (fun _ => False) := by
  refine Met.ofW (cc := cX0_isPower) (maxL := 1) (ret := (some .boolean)) (by decide) rfl ?_
  intro p e s m args below meth c s₁ B hml hv
  obtain rfl := hv
  have hx := B.exec
  have hb := B.bytes
  have hr := B.returns
  have hts := atoms_spec (ws := wsX0_isPower) B.pre
  have hown : s.vm.findClass RX0 = some m.cls := findClass_of_methodNamed B.named
  have hlocks := B.notSynchronized
  have hl := lv_entry ([.int x0]) (n := 1) (Nat.le_of_ble_eq_true rfl)
  rw [lg_entry_eq]
  generalize (lg_sl ([.int x0]) ++ List.replicate (1 - (lg_sl ([.int x0])).length) Slot.unset).toArray = ls at hl ⊢
  have hl : lv_has ls 1 [(0, .int x0)] := hl
  refine lv_iload_n hx hb dX0_isPower_0 rfl (lv_at hl 0 rfl) ?_
  refine lv_iconst (v := (-1)) hx hb dX0_isPower_1 (by decide) ?_
  refine lv_icmp_eq (tgt := 15) hx hb dX0_isPower_2 (by decide) (fun c_2 => ?_) (fun c_2 => ?_)
  · skip
    refine lv_iconst (v := 1) hx hb dX0_isPower_15 (by decide) ?_
    refine lv_goto (tgt := 20) hx hb dX0_isPower_16 (by decide) ?_
    exact retP hx hb hr hlocks rfl (by unfold f0_isPower; rw [if_pos c_2]) rfl dX0_isPower_20
  · skip
    refine lv_iload_n hx hb dX0_isPower_5 rfl (lv_at hl 0 rfl) ?_
    refine lv_if_lt (tgt := 19) hx hb dX0_isPower_6 (by decide) (fun c_6 => ?_) (fun c_6 => ?_)
    · skip
      refine lv_iconst (v := 0) hx hb dX0_isPower_19 (by decide) ?_
      exact retP hx hb hr hlocks rfl (by unfold f0_isPower; rw [if_neg c_2, if_pos c_6]) rfl dX0_isPower_20
    · skip
      refine lv_iload_n hx hb dX0_isPower_9 rfl (lv_at hl 0 rfl) ?_
      refine lv_bipush (v := 63) hx hb dX0_isPower_10 (by decide) ?_
      refine lv_icmp_gt (tgt := 19) hx hb dX0_isPower_12 (by decide) (fun c_12 => ?_) (fun c_12 => ?_)
      · skip
        refine lv_iconst (v := 0) hx hb dX0_isPower_19 (by decide) ?_
        exact retP hx hb hr hlocks rfl (by unfold f0_isPower; rw [if_neg c_2, if_neg c_6, if_pos c_12]) rfl dX0_isPower_20
      · skip
        refine lv_iconst (v := 1) hx hb dX0_isPower_15 (by decide) ?_
        refine lv_goto (tgt := 20) hx hb dX0_isPower_16 (by decide) ?_
        exact retP hx hb hr hlocks rfl (by unfold f0_isPower; rw [if_neg c_2, if_neg c_6, if_neg c_12]) rfl dX0_isPower_20
set_option maxHeartbeats 4000000 in
set_option maxRecDepth 100000 in
theorem m0_isBlock (l : Launch) (x0 : Int32) : Met l yX0_isBlock wsX0_isBlock ({ frames := 0, cells := 0, slots := 0, locals := 0 }) (pcP [.int x0]) (QcRead (f0_isBlock x0)) 0 0 (fun _ => False) := by
  refine Met.ofW (cc := cX0_isBlock) (maxL := 1) (ret := (some .boolean)) (by decide) rfl ?_
  intro p e s m args below meth c s₁ B hml hv
  obtain rfl := hv
  have hx := B.exec
  have hb := B.bytes
  have hr := B.returns
  have hts := atoms_spec (ws := wsX0_isBlock) B.pre
  have hown : s.vm.findClass RX0 = some m.cls := findClass_of_methodNamed B.named
  have hlocks := B.notSynchronized
  have hl := lv_entry ([.int x0]) (n := 1) (Nat.le_of_ble_eq_true rfl)
  rw [lg_entry_eq]
  generalize (lg_sl ([.int x0]) ++ List.replicate (1 - (lg_sl ([.int x0])).length) Slot.unset).toArray = ls at hl ⊢
  have hl : lv_has ls 1 [(0, .int x0)] := hl
  refine lv_iload_n hx hb dX0_isBlock_0 rfl (lv_at hl 0 rfl) ?_
  refine lv_if_lt (tgt := 14) hx hb dX0_isBlock_1 (by decide) (fun c_1 => ?_) (fun c_1 => ?_)
  · skip
    refine lv_iconst (v := 0) hx hb dX0_isBlock_14 (by decide) ?_
    exact retP hx hb hr hlocks rfl (by unfold f0_isBlock; rw [if_pos c_1]) rfl dX0_isBlock_15
  · skip
    refine lv_iload_n hx hb dX0_isBlock_4 rfl (lv_at hl 0 rfl) ?_
    refine lv_bipush (v := 25) hx hb dX0_isBlock_5 (by decide) ?_
    refine lv_icmp_ge (tgt := 14) hx hb dX0_isBlock_7 (by decide) (fun c_7 => ?_) (fun c_7 => ?_)
    · skip
      refine lv_iconst (v := 0) hx hb dX0_isBlock_14 (by decide) ?_
      exact retP hx hb hr hlocks rfl (by unfold f0_isBlock; rw [if_neg c_1, if_pos c_7]) rfl dX0_isBlock_15
    · skip
      refine lv_iconst (v := 1) hx hb dX0_isBlock_10 (by decide) ?_
      refine lv_goto (tgt := 15) hx hb dX0_isBlock_11 (by decide) ?_
      exact retP hx hb hr hlocks rfl (by unfold f0_isBlock; rw [if_neg c_1, if_neg c_7]) rfl dX0_isBlock_15
set_option maxHeartbeats 4000000 in
set_option maxRecDepth 100000 in
theorem m0_isKey (l : Launch) (x0 : Int32) : Met l yX0_isKey wsX0_isKey ({ frames := 0, cells := 0, slots := 0, locals := 0 }) (pcP [.int x0]) (QcRead (f0_isKey x0)) 0 0 (fun _ => False) := by
  refine Met.ofW (cc := cX0_isKey) (maxL := 1) (ret := (some .boolean)) (by decide) rfl ?_
  intro p e s m args below meth c s₁ B hml hv
  obtain rfl := hv
  have hx := B.exec
  have hb := B.bytes
  have hr := B.returns
  have hts := atoms_spec (ws := wsX0_isKey) B.pre
  have hown : s.vm.findClass RX0 = some m.cls := findClass_of_methodNamed B.named
  have hlocks := B.notSynchronized
  have hl := lv_entry ([.int x0]) (n := 1) (Nat.le_of_ble_eq_true rfl)
  rw [lg_entry_eq]
  generalize (lg_sl ([.int x0]) ++ List.replicate (1 - (lg_sl ([.int x0])).length) Slot.unset).toArray = ls at hl ⊢
  have hl : lv_has ls 1 [(0, .int x0)] := hl
  refine lv_iload_n hx hb dX0_isKey_0 rfl (lv_at hl 0 rfl) ?_
  refine lv_if_lt (tgt := 14) hx hb dX0_isKey_1 (by decide) (fun c_1 => ?_) (fun c_1 => ?_)
  · skip
    refine lv_iconst (v := 0) hx hb dX0_isKey_14 (by decide) ?_
    exact retP hx hb hr hlocks rfl (by unfold f0_isKey; rw [if_pos c_1]) rfl dX0_isKey_15
  · skip
    refine lv_iload_n hx hb dX0_isKey_4 rfl (lv_at hl 0 rfl) ?_
    refine lv_bipush (v := 48) hx hb dX0_isKey_5 (by decide) ?_
    refine lv_icmp_gt (tgt := 14) hx hb dX0_isKey_7 (by decide) (fun c_7 => ?_) (fun c_7 => ?_)
    · skip
      refine lv_iconst (v := 0) hx hb dX0_isKey_14 (by decide) ?_
      exact retP hx hb hr hlocks rfl (by unfold f0_isKey; rw [if_neg c_1, if_pos c_7]) rfl dX0_isKey_15
    · skip
      refine lv_iconst (v := 1) hx hb dX0_isKey_10 (by decide) ?_
      refine lv_goto (tgt := 15) hx hb dX0_isKey_11 (by decide) ?_
      exact retP hx hb hr hlocks rfl (by unfold f0_isKey; rw [if_neg c_1, if_neg c_7]) rfl dX0_isKey_15
set_option maxHeartbeats 4000000 in
set_option maxRecDepth 100000 in
theorem m0_isNodeKey (l : Launch) (x0 : Int32) : Met l yX0_isNodeKey wsX0_isNodeKey ({ frames := 0, cells := 0, slots := 0, locals := 0 }) (pcP [.int x0]) (QcRead (f0_isNodeKey x0)) 0 0 (fun _ => False) := by
  refine Met.ofW (cc := cX0_isNodeKey) (maxL := 1) (ret := (some .boolean)) (by decide) rfl ?_
  intro p e s m args below meth c s₁ B hml hv
  obtain rfl := hv
  have hx := B.exec
  have hb := B.bytes
  have hr := B.returns
  have hts := atoms_spec (ws := wsX0_isNodeKey) B.pre
  have hown : s.vm.findClass RX0 = some m.cls := findClass_of_methodNamed B.named
  have hlocks := B.notSynchronized
  have hl := lv_entry ([.int x0]) (n := 1) (Nat.le_of_ble_eq_true rfl)
  rw [lg_entry_eq]
  generalize (lg_sl ([.int x0]) ++ List.replicate (1 - (lg_sl ([.int x0])).length) Slot.unset).toArray = ls at hl ⊢
  have hl : lv_has ls 1 [(0, .int x0)] := hl
  refine lv_iload_n hx hb dX0_isNodeKey_0 rfl (lv_at hl 0 rfl) ?_
  refine lv_iconst (v := 1) hx hb dX0_isNodeKey_1 (by decide) ?_
  refine lv_icmp_lt (tgt := 15) hx hb dX0_isNodeKey_2 (by decide) (fun c_2 => ?_) (fun c_2 => ?_)
  · skip
    refine lv_iconst (v := 0) hx hb dX0_isNodeKey_15 (by decide) ?_
    exact retP hx hb hr hlocks rfl (by unfold f0_isNodeKey; rw [if_pos c_2]) rfl dX0_isNodeKey_16
  · skip
    refine lv_iload_n hx hb dX0_isNodeKey_5 rfl (lv_at hl 0 rfl) ?_
    refine lv_bipush (v := 33) hx hb dX0_isNodeKey_6 (by decide) ?_
    refine lv_icmp_ge (tgt := 15) hx hb dX0_isNodeKey_8 (by decide) (fun c_8 => ?_) (fun c_8 => ?_)
    · skip
      refine lv_iconst (v := 0) hx hb dX0_isNodeKey_15 (by decide) ?_
      exact retP hx hb hr hlocks rfl (by unfold f0_isNodeKey; rw [if_neg c_2, if_pos c_8]) rfl dX0_isNodeKey_16
    · skip
      refine lv_iconst (v := 1) hx hb dX0_isNodeKey_11 (by decide) ?_
      refine lv_goto (tgt := 16) hx hb dX0_isNodeKey_12 (by decide) ?_
      exact retP hx hb hr hlocks rfl (by unfold f0_isNodeKey; rw [if_neg c_2, if_neg c_8]) rfl dX0_isNodeKey_16
set_option maxHeartbeats 4000000 in
set_option maxRecDepth 100000 in
theorem m0_isPageKey (l : Launch) (x0 : Int32) : Met l yX0_isPageKey wsX0_isPageKey ({ frames := 0, cells := 0, slots := 0, locals := 0 }) (pcP [.int x0]) (QcRead (f0_isPageKey x0)) 0 0 (fun _ => False) := by
  refine Met.ofW (cc := cX0_isPageKey) (maxL := 1) (ret := (some .boolean)) (by decide) rfl ?_
  intro p e s m args below meth c s₁ B hml hv
  obtain rfl := hv
  have hx := B.exec
  have hb := B.bytes
  have hr := B.returns
  have hts := atoms_spec (ws := wsX0_isPageKey) B.pre
  have hown : s.vm.findClass RX0 = some m.cls := findClass_of_methodNamed B.named
  have hlocks := B.notSynchronized
  have hl := lv_entry ([.int x0]) (n := 1) (Nat.le_of_ble_eq_true rfl)
  rw [lg_entry_eq]
  generalize (lg_sl ([.int x0]) ++ List.replicate (1 - (lg_sl ([.int x0])).length) Slot.unset).toArray = ls at hl ⊢
  have hl : lv_has ls 1 [(0, .int x0)] := hl
  refine lv_iload_n hx hb dX0_isPageKey_0 rfl (lv_at hl 0 rfl) ?_
  refine lv_bipush (v := 33) hx hb dX0_isPageKey_1 (by decide) ?_
  refine lv_icmp_lt (tgt := 16) hx hb dX0_isPageKey_3 (by decide) (fun c_3 => ?_) (fun c_3 => ?_)
  · skip
    refine lv_iconst (v := 0) hx hb dX0_isPageKey_16 (by decide) ?_
    exact retP hx hb hr hlocks rfl (by unfold f0_isPageKey; rw [if_pos c_3]) rfl dX0_isPageKey_17
  · skip
    refine lv_iload_n hx hb dX0_isPageKey_6 rfl (lv_at hl 0 rfl) ?_
    refine lv_bipush (v := 48) hx hb dX0_isPageKey_7 (by decide) ?_
    refine lv_icmp_gt (tgt := 16) hx hb dX0_isPageKey_9 (by decide) (fun c_9 => ?_) (fun c_9 => ?_)
    · skip
      refine lv_iconst (v := 0) hx hb dX0_isPageKey_16 (by decide) ?_
      exact retP hx hb hr hlocks rfl (by unfold f0_isPageKey; rw [if_neg c_3, if_pos c_9]) rfl dX0_isPageKey_17
    · skip
      refine lv_iconst (v := 1) hx hb dX0_isPageKey_12 (by decide) ?_
      refine lv_goto (tgt := 17) hx hb dX0_isPageKey_13 (by decide) ?_
      exact retP hx hb hr hlocks rfl (by unfold f0_isPageKey; rw [if_neg c_3, if_neg c_9]) rfl dX0_isPageKey_17
set_option maxHeartbeats 4000000 in
set_option maxRecDepth 100000 in
theorem m0_objectOf (l : Launch) (x0 : Int32) : Met l yX0_objectOf wsX0_objectOf ({ frames := 0, cells := 0, slots := 0, locals := 0 }) (pcP [.int x0]) (QcRead (f0_objectOf x0)) 0 0 (fun _ => False) := by
  refine Met.ofW (cc := cX0_objectOf) (maxL := 1) (ret := (some .int)) (by decide) rfl ?_
  intro p e s m args below meth c s₁ B hml hv
  obtain rfl := hv
  have hx := B.exec
  have hb := B.bytes
  have hr := B.returns
  have hts := atoms_spec (ws := wsX0_objectOf) B.pre
  have hown : s.vm.findClass RX0 = some m.cls := findClass_of_methodNamed B.named
  have hlocks := B.notSynchronized
  have hl := lv_entry ([.int x0]) (n := 1) (Nat.le_of_ble_eq_true rfl)
  rw [lg_entry_eq]
  generalize (lg_sl ([.int x0]) ++ List.replicate (1 - (lg_sl ([.int x0])).length) Slot.unset).toArray = ls at hl ⊢
  have hl : lv_has ls 1 [(0, .int x0)] := hl
  refine lv_iload_n hx hb dX0_objectOf_0 rfl (lv_at hl 0 rfl) ?_
  refine lv_iconst (v := 1) hx hb dX0_objectOf_1 (by decide) ?_
  refine lv_isub hx hb dX0_objectOf_2 ?_
  refine lv_iconst (v := 4) hx hb dX0_objectOf_3 (by decide) ?_
  refine lv_idiv hx hb dX0_objectOf_4 (by decide) ?_
  exact retP hx hb hr hlocks rfl (rfl) rfl dX0_objectOf_5
set_option maxHeartbeats 4000000 in
set_option maxRecDepth 100000 in
theorem m0_limitsOf (l : Launch) (x0 : Int32) : Met l yX0_limitsOf wsX0_limitsOf ({ frames := 0, cells := 0, slots := 0, locals := 0 }) (pcP [.int x0]) (QcRead (f0_limitsOf x0)) 0 0 (fun _ => False) := by
  refine Met.ofW (cc := cX0_limitsOf) (maxL := 1) (ret := (some .int)) (by decide) rfl ?_
  intro p e s m args below meth c s₁ B hml hv
  obtain rfl := hv
  have hx := B.exec
  have hb := B.bytes
  have hr := B.returns
  have hts := atoms_spec (ws := wsX0_limitsOf) B.pre
  have hown : s.vm.findClass RX0 = some m.cls := findClass_of_methodNamed B.named
  have hlocks := B.notSynchronized
  have hl := lv_entry ([.int x0]) (n := 1) (Nat.le_of_ble_eq_true rfl)
  rw [lg_entry_eq]
  generalize (lg_sl ([.int x0]) ++ List.replicate (1 - (lg_sl ([.int x0])).length) Slot.unset).toArray = ls at hl ⊢
  have hl : lv_has ls 1 [(0, .int x0)] := hl
  refine lv_iload_n hx hb dX0_limitsOf_0 rfl (lv_at hl 0 rfl) ?_
  refine lv_iconst (v := 1) hx hb dX0_limitsOf_1 (by decide) ?_
  refine lv_isub hx hb dX0_limitsOf_2 ?_
  refine lv_iconst (v := 4) hx hb dX0_limitsOf_3 (by decide) ?_
  refine lv_irem hx hb dX0_limitsOf_4 (by decide) ?_
  exact retP hx hb hr hlocks rfl (rfl) rfl dX0_limitsOf_5
set_option maxHeartbeats 4000000 in
set_option maxRecDepth 100000 in
theorem m0_isWriting (l : Launch) (x0 : Int32) : Met l yX0_isWriting wsX0_isWriting ({ frames := 1, cells := 0, slots := 0, locals := 20 }) (pcP [.int x0]) (QcRead (f0_isWriting x0)) 0 0 (fun _ => False) := by
  refine Met.ofW (cc := cX0_isWriting) (maxL := 1) (ret := (some .boolean)) (by decide) rfl ?_
  intro p e s m args below meth c s₁ B hml hv
  obtain rfl := hv
  have hx := B.exec
  have hb := B.bytes
  have hr := B.returns
  have hts := atoms_spec (ws := wsX0_isWriting) B.pre
  have hown : s.vm.findClass RX0 = some m.cls := findClass_of_methodNamed B.named
  have hlocks := B.notSynchronized
  have hl := lv_entry ([.int x0]) (n := 1) (Nat.le_of_ble_eq_true rfl)
  rw [lg_entry_eq]
  generalize (lg_sl ([.int x0]) ++ List.replicate (1 - (lg_sl ([.int x0])).length) Slot.unset).toArray = ls at hl ⊢
  have hl : lv_has ls 1 [(0, .int x0)] := hl
  refine lv_iload_n hx hb dX0_isWriting_0 rfl (lv_at hl 0 rfl) ?_
  refine callSi (As := [.int x0]) (rest := []) (m0_limitsOf l x0) ⟨hx, hb, hml, hown, hts⟩ (va_cwS 1 hts gX0_isWriting_X0_limitsOf rfl rfl rfl (by decide +kernel) ⟨Nat.le_of_ble_eq_true rfl, Nat.le_of_ble_eq_true rfl⟩) rfl hl.1 rfl (Nat.le_of_ble_eq_true rfl) dX0_isWriting_1 ⟨Nat.zero_le _, Nat.zero_le _⟩ ?_
  refine lv_if_ne (tgt := 11) hx hb dX0_isWriting_4 (by decide) (fun c_4 => ?_) (fun c_4 => ?_)
  · skip
    refine lv_iconst (v := 0) hx hb dX0_isWriting_11 (by decide) ?_
    exact retP hx hb hr hlocks rfl (by unfold f0_isWriting; rw [if_neg c_4]) rfl dX0_isWriting_12
  · skip
    refine lv_iconst (v := 1) hx hb dX0_isWriting_7 (by decide) ?_
    refine lv_goto (tgt := 12) hx hb dX0_isWriting_8 (by decide) ?_
    exact retP hx hb hr hlocks rfl (by unfold f0_isWriting; rw [if_pos c_4]) rfl dX0_isWriting_12
set_option maxHeartbeats 4000000 in
set_option maxRecDepth 100000 in
theorem m0_isWeak (l : Launch) (x0 : Int32) : Met l yX0_isWeak wsX0_isWeak ({ frames := 1, cells := 0, slots := 0, locals := 20 }) (pcP [.int x0]) (QcRead (f0_isWeak x0)) 0 0 (fun _ => False) := by
  refine Met.ofW (cc := cX0_isWeak) (maxL := 1) (ret := (some .boolean)) (by decide) rfl ?_
  intro p e s m args below meth c s₁ B hml hv
  obtain rfl := hv
  have hx := B.exec
  have hb := B.bytes
  have hr := B.returns
  have hts := atoms_spec (ws := wsX0_isWeak) B.pre
  have hown : s.vm.findClass RX0 = some m.cls := findClass_of_methodNamed B.named
  have hlocks := B.notSynchronized
  have hl := lv_entry ([.int x0]) (n := 1) (Nat.le_of_ble_eq_true rfl)
  rw [lg_entry_eq]
  generalize (lg_sl ([.int x0]) ++ List.replicate (1 - (lg_sl ([.int x0])).length) Slot.unset).toArray = ls at hl ⊢
  have hl : lv_has ls 1 [(0, .int x0)] := hl
  refine lv_iload_n hx hb dX0_isWeak_0 rfl (lv_at hl 0 rfl) ?_
  refine callSi (As := [.int x0]) (rest := []) (m0_limitsOf l x0) ⟨hx, hb, hml, hown, hts⟩ (va_cwS 1 hts gX0_isWeak_X0_limitsOf rfl rfl rfl (by decide +kernel) ⟨Nat.le_of_ble_eq_true rfl, Nat.le_of_ble_eq_true rfl⟩) rfl hl.1 rfl (Nat.le_of_ble_eq_true rfl) dX0_isWeak_1 ⟨Nat.zero_le _, Nat.zero_le _⟩ ?_
  refine lv_iconst (v := 2) hx hb dX0_isWeak_4 (by decide) ?_
  refine lv_iand hx hb dX0_isWeak_5 ?_
  refine lv_if_eq (tgt := 13) hx hb dX0_isWeak_6 (by decide) (fun c_6 => ?_) (fun c_6 => ?_)
  · skip
    refine lv_iconst (v := 0) hx hb dX0_isWeak_13 (by decide) ?_
    exact retP hx hb hr hlocks rfl (by unfold f0_isWeak; rw [if_pos c_6]) rfl dX0_isWeak_14
  · skip
    refine lv_iconst (v := 1) hx hb dX0_isWeak_9 (by decide) ?_
    refine lv_goto (tgt := 14) hx hb dX0_isWeak_10 (by decide) ?_
    exact retP hx hb hr hlocks rfl (by unfold f0_isWeak; rw [if_neg c_6]) rfl dX0_isWeak_14
set_option maxHeartbeats 4000000 in
set_option maxRecDepth 100000 in
theorem m0_limited (l : Launch) (x0 : Int32) (x1 : Int32) : Met l yX0_limited wsX0_limited ({ frames := 1, cells := 0, slots := 0, locals := 20 }) (pcP [.int x0, .int x1]) (QcRead (f0_limited x0 x1)) 0 0 (fun _ => False) := by
  refine Met.ofW (cc := cX0_limited) (maxL := 2) (ret := (some .int)) (by decide) rfl ?_
  intro p e s m args below meth c s₁ B hml hv
  obtain rfl := hv
  have hx := B.exec
  have hb := B.bytes
  have hr := B.returns
  have hts := atoms_spec (ws := wsX0_limited) B.pre
  have hown : s.vm.findClass RX0 = some m.cls := findClass_of_methodNamed B.named
  have hlocks := B.notSynchronized
  have hl := lv_entry ([.int x0, .int x1]) (n := 2) (Nat.le_of_ble_eq_true rfl)
  rw [lg_entry_eq]
  generalize (lg_sl ([.int x0, .int x1]) ++ List.replicate (2 - (lg_sl ([.int x0, .int x1])).length) Slot.unset).toArray = ls at hl ⊢
  have hl : lv_has ls 2 [(0, .int x0), (1, .int x1)] := hl
  refine lv_iload_n hx hb dX0_limited_0 rfl (lv_at hl 0 rfl) ?_
  refine lv_if_ne (tgt := 6) hx hb dX0_limited_1 (by decide) (fun c_1 => ?_) (fun c_1 => ?_)
  · skip
    refine lv_iconst (v := 1) hx hb dX0_limited_6 (by decide) ?_
    refine lv_iconst (v := 4) hx hb dX0_limited_7 (by decide) ?_
    refine lv_iload_n hx hb dX0_limited_8 rfl (lv_at hl 0 rfl) ?_
    refine callSi (As := [.int x0]) (rest := [.int 4, .int 1]) (m0_objectOf l x0) ⟨hx, hb, hml, hown, hts⟩ (va_cwS 1 hts gX0_limited_X0_objectOf rfl rfl rfl (by decide +kernel) ⟨Nat.le_of_ble_eq_true rfl, Nat.le_of_ble_eq_true rfl⟩) rfl hl.1 rfl (Nat.le_of_ble_eq_true rfl) dX0_limited_9 ⟨Nat.zero_le _, Nat.zero_le _⟩ ?_
    refine lv_imul hx hb dX0_limited_12 ?_
    refine lv_iadd hx hb dX0_limited_13 ?_
    refine lv_iload_n hx hb dX0_limited_14 rfl (lv_at hl 0 rfl) ?_
    refine callSi (As := [.int x0]) (rest := [.int (1 + (4 * (f0_objectOf x0)))]) (m0_limitsOf l x0) ⟨hx, hb, hml, hown, hts⟩ (va_cwS 1 hts gX0_limited_X0_limitsOf rfl rfl rfl (by decide +kernel) ⟨Nat.le_of_ble_eq_true rfl, Nat.le_of_ble_eq_true rfl⟩) rfl hl.1 rfl (Nat.le_of_ble_eq_true rfl) dX0_limited_15 ⟨Nat.zero_le _, Nat.zero_le _⟩ ?_
    refine lv_iload_n hx hb dX0_limited_18 rfl (lv_at hl 1 rfl) ?_
    refine lv_ior hx hb dX0_limited_19 ?_
    refine lv_iadd hx hb dX0_limited_20 ?_
    exact retP hx hb hr hlocks rfl (by unfold f0_limited; rw [if_neg c_1]) rfl dX0_limited_21
  · skip
    refine lv_iconst (v := 0) hx hb dX0_limited_4 (by decide) ?_
    exact retP hx hb hr hlocks rfl (by unfold f0_limited; rw [if_pos c_1]) rfl dX0_limited_5
set_option maxHeartbeats 4000000 in
set_option maxRecDepth 100000 in
theorem m0_has (l : Launch) (x0 : Int32) (x1 : Int32) : Met l yX0_has wsX0_has ({ frames := 0, cells := 0, slots := 0, locals := 0 }) (pcP [.int x0, .int x1]) (QcRead (f0_has x0 x1)) 0 0 (fun _ => False) := by
  refine Met.ofW (cc := cX0_has) (maxL := 2) (ret := (some .boolean)) (by decide) rfl ?_
  intro p e s m args below meth c s₁ B hml hv
  obtain rfl := hv
  have hx := B.exec
  have hb := B.bytes
  have hr := B.returns
  have hts := atoms_spec (ws := wsX0_has) B.pre
  have hown : s.vm.findClass RX0 = some m.cls := findClass_of_methodNamed B.named
  have hlocks := B.notSynchronized
  have hl := lv_entry ([.int x0, .int x1]) (n := 2) (Nat.le_of_ble_eq_true rfl)
  rw [lg_entry_eq]
  generalize (lg_sl ([.int x0, .int x1]) ++ List.replicate (2 - (lg_sl ([.int x0, .int x1])).length) Slot.unset).toArray = ls at hl ⊢
  have hl : lv_has ls 2 [(0, .int x0), (1, .int x1)] := hl
  refine lv_iload_n hx hb dX0_has_0 rfl (lv_at hl 0 rfl) ?_
  refine lv_iload_n hx hb dX0_has_1 rfl (lv_at hl 1 rfl) ?_
  refine lv_ishr hx hb dX0_has_2 ?_
  refine lv_iconst (v := 1) hx hb dX0_has_3 (by decide) ?_
  refine lv_iand hx hb dX0_has_4 ?_
  refine lv_if_eq (tgt := 12) hx hb dX0_has_5 (by decide) (fun c_5 => ?_) (fun c_5 => ?_)
  · skip
    refine lv_iconst (v := 0) hx hb dX0_has_12 (by decide) ?_
    exact retP hx hb hr hlocks rfl (by unfold f0_has; rw [if_pos c_5]) rfl dX0_has_13
  · skip
    refine lv_iconst (v := 1) hx hb dX0_has_8 (by decide) ?_
    refine lv_goto (tgt := 13) hx hb dX0_has_9 (by decide) ?_
    exact retP hx hb hr hlocks rfl (by unfold f0_has; rw [if_neg c_5]) rfl dX0_has_13
set_option maxHeartbeats 4000000 in
set_option maxRecDepth 100000 in
theorem m1_eight (l : Launch) (x0 : Int32) : Met l yX1_eight wsX1_eight ({ frames := 0, cells := 0, slots := 0, locals := 0 }) (pcP [.int x0]) (QcRead (f1_eight x0)) 0 0 (fun _ => False) := by
  refine Met.ofW (cc := cX1_eight) (maxL := 1) (ret := (some .boolean)) (by decide) rfl ?_
  intro p e s m args below meth c s₁ B hml hv
  obtain rfl := hv
  have hx := B.exec
  have hb := B.bytes
  have hr := B.returns
  have hts := atoms_spec (ws := wsX1_eight) B.pre
  have hown : s.vm.findClass RX1 = some m.cls := findClass_of_methodNamed B.named
  have hlocks := B.notSynchronized
  have hl := lv_entry ([.int x0]) (n := 1) (Nat.le_of_ble_eq_true rfl)
  rw [lg_entry_eq]
  generalize (lg_sl ([.int x0]) ++ List.replicate (1 - (lg_sl ([.int x0])).length) Slot.unset).toArray = ls at hl ⊢
  have hl : lv_has ls 1 [(0, .int x0)] := hl
  refine lv_iload_n hx hb dX1_eight_0 rfl (lv_at hl 0 rfl) ?_
  refine lv_if_lt (tgt := 14) hx hb dX1_eight_1 (by decide) (fun c_1 => ?_) (fun c_1 => ?_)
  · skip
    refine lv_iconst (v := 0) hx hb dX1_eight_14 (by decide) ?_
    exact retP hx hb hr hlocks rfl (by unfold f1_eight; rw [if_pos c_1]) rfl dX1_eight_15
  · skip
    refine lv_iload_n hx hb dX1_eight_4 rfl (lv_at hl 0 rfl) ?_
    refine lv_bipush (v := 7) hx hb dX1_eight_5 (by decide) ?_
    refine lv_icmp_gt (tgt := 14) hx hb dX1_eight_7 (by decide) (fun c_7 => ?_) (fun c_7 => ?_)
    · skip
      refine lv_iconst (v := 0) hx hb dX1_eight_14 (by decide) ?_
      exact retP hx hb hr hlocks rfl (by unfold f1_eight; rw [if_neg c_1, if_pos c_7]) rfl dX1_eight_15
    · skip
      refine lv_iconst (v := 1) hx hb dX1_eight_10 (by decide) ?_
      refine lv_goto (tgt := 15) hx hb dX1_eight_11 (by decide) ?_
      exact retP hx hb hr hlocks rfl (by unfold f1_eight; rw [if_neg c_1, if_neg c_7]) rfl dX1_eight_15
set_option maxHeartbeats 4000000 in
set_option maxRecDepth 100000 in
theorem m1_third (l : Launch) (x0 : Int32) : Met l yX1_third wsX1_third ({ frames := 0, cells := 0, slots := 0, locals := 0 }) (pcP [.int x0]) (QcRead (f1_third x0)) 0 0 (fun _ => False) := by
  refine Met.ofW (cc := cX1_third) (maxL := 1) (ret := (some .boolean)) (by decide) rfl ?_
  intro p e s m args below meth c s₁ B hml hv
  obtain rfl := hv
  have hx := B.exec
  have hb := B.bytes
  have hr := B.returns
  have hts := atoms_spec (ws := wsX1_third) B.pre
  have hown : s.vm.findClass RX1 = some m.cls := findClass_of_methodNamed B.named
  have hlocks := B.notSynchronized
  have hl := lv_entry ([.int x0]) (n := 1) (Nat.le_of_ble_eq_true rfl)
  rw [lg_entry_eq]
  generalize (lg_sl ([.int x0]) ++ List.replicate (1 - (lg_sl ([.int x0])).length) Slot.unset).toArray = ls at hl ⊢
  have hl : lv_has ls 1 [(0, .int x0)] := hl
  refine lv_iload_n hx hb dX1_third_0 rfl (lv_at hl 0 rfl) ?_
  refine lv_if_lt (tgt := 13) hx hb dX1_third_1 (by decide) (fun c_1 => ?_) (fun c_1 => ?_)
  · skip
    refine lv_iconst (v := 0) hx hb dX1_third_13 (by decide) ?_
    exact retP hx hb hr hlocks rfl (by unfold f1_third; rw [if_pos c_1]) rfl dX1_third_14
  · skip
    refine lv_iload_n hx hb dX1_third_4 rfl (lv_at hl 0 rfl) ?_
    refine lv_iconst (v := 2) hx hb dX1_third_5 (by decide) ?_
    refine lv_icmp_gt (tgt := 13) hx hb dX1_third_6 (by decide) (fun c_6 => ?_) (fun c_6 => ?_)
    · skip
      refine lv_iconst (v := 0) hx hb dX1_third_13 (by decide) ?_
      exact retP hx hb hr hlocks rfl (by unfold f1_third; rw [if_neg c_1, if_pos c_6]) rfl dX1_third_14
    · skip
      refine lv_iconst (v := 1) hx hb dX1_third_9 (by decide) ?_
      refine lv_goto (tgt := 14) hx hb dX1_third_10 (by decide) ?_
      exact retP hx hb hr hlocks rfl (by unfold f1_third; rw [if_neg c_1, if_neg c_6]) rfl dX1_third_14
set_option maxHeartbeats 4000000 in
set_option maxRecDepth 100000 in
theorem m1_object (l : Launch) (x0 : Int32) : Met l yX1_object wsX1_object ({ frames := 0, cells := 0, slots := 0, locals := 0 }) (pcP [.int x0]) (QcRead (f1_object x0)) 0 0 (fun _ => False) := by
  refine Met.ofW (cc := cX1_object) (maxL := 1) (ret := (some .int)) (by decide) rfl ?_
  intro p e s m args below meth c s₁ B hml hv
  obtain rfl := hv
  have hx := B.exec
  have hb := B.bytes
  have hr := B.returns
  have hts := atoms_spec (ws := wsX1_object) B.pre
  have hown : s.vm.findClass RX1 = some m.cls := findClass_of_methodNamed B.named
  have hlocks := B.notSynchronized
  have hl := lv_entry ([.int x0]) (n := 1) (Nat.le_of_ble_eq_true rfl)
  rw [lg_entry_eq]
  generalize (lg_sl ([.int x0]) ++ List.replicate (1 - (lg_sl ([.int x0])).length) Slot.unset).toArray = ls at hl ⊢
  have hl : lv_has ls 1 [(0, .int x0)] := hl
  refine lv_iload_n hx hb dX1_object_0 rfl (lv_at hl 0 rfl) ?_
  refine lv_if_ne (tgt := 9) hx hb dX1_object_1 (by decide) (fun c_1 => ?_) (fun c_1 => ?_)
  · skip
    refine lv_iload_n hx hb dX1_object_9 rfl (lv_at hl 0 rfl) ?_
    refine lv_iconst (v := 1) hx hb dX1_object_10 (by decide) ?_
    refine lv_isub hx hb dX1_object_11 ?_
    refine lv_iconst (v := 4) hx hb dX1_object_12 (by decide) ?_
    refine lv_idiv hx hb dX1_object_13 (by decide) ?_
    exact retP hx hb hr hlocks rfl (by unfold f1_object; rw [if_neg c_1]) rfl dX1_object_14
  · skip
    refine lv_bipush (v := 12) hx hb dX1_object_4 (by decide) ?_
    refine lv_goto (tgt := 14) hx hb dX1_object_6 (by decide) ?_
    exact retP hx hb hr hlocks rfl (by unfold f1_object; rw [if_pos c_1]) rfl dX1_object_14
set_option maxHeartbeats 4000000 in
set_option maxRecDepth 100000 in
theorem m1_limits (l : Launch) (x0 : Int32) : Met l yX1_limits wsX1_limits ({ frames := 0, cells := 0, slots := 0, locals := 0 }) (pcP [.int x0]) (QcRead (f1_limits x0)) 0 0 (fun _ => False) := by
  refine Met.ofW (cc := cX1_limits) (maxL := 1) (ret := (some .int)) (by decide) rfl ?_
  intro p e s m args below meth c s₁ B hml hv
  obtain rfl := hv
  have hx := B.exec
  have hb := B.bytes
  have hr := B.returns
  have hts := atoms_spec (ws := wsX1_limits) B.pre
  have hown : s.vm.findClass RX1 = some m.cls := findClass_of_methodNamed B.named
  have hlocks := B.notSynchronized
  have hl := lv_entry ([.int x0]) (n := 1) (Nat.le_of_ble_eq_true rfl)
  rw [lg_entry_eq]
  generalize (lg_sl ([.int x0]) ++ List.replicate (1 - (lg_sl ([.int x0])).length) Slot.unset).toArray = ls at hl ⊢
  have hl : lv_has ls 1 [(0, .int x0)] := hl
  refine lv_iload_n hx hb dX1_limits_0 rfl (lv_at hl 0 rfl) ?_
  refine lv_iconst (v := 1) hx hb dX1_limits_1 (by decide) ?_
  refine lv_isub hx hb dX1_limits_2 ?_
  refine lv_iconst (v := 4) hx hb dX1_limits_3 (by decide) ?_
  refine lv_irem hx hb dX1_limits_4 (by decide) ?_
  exact retP hx hb hr hlocks rfl (rfl) rfl dX1_limits_5
set_option maxHeartbeats 4000000 in
set_option maxRecDepth 100000 in
theorem m1_limited (l : Launch) (x0 : Int32) (x1 : Int32) : Met l yX1_limited wsX1_limited ({ frames := 1, cells := 0, slots := 0, locals := 20 }) (pcP [.int x0, .int x1]) (QcRead (f1_limited x0 x1)) 0 0 (fun _ => False) := by
  refine Met.ofW (cc := cX1_limited) (maxL := 2) (ret := (some .int)) (by decide) rfl ?_
  intro p e s m args below meth c s₁ B hml hv
  obtain rfl := hv
  have hx := B.exec
  have hb := B.bytes
  have hr := B.returns
  have hts := atoms_spec (ws := wsX1_limited) B.pre
  have hown : s.vm.findClass RX1 = some m.cls := findClass_of_methodNamed B.named
  have hlocks := B.notSynchronized
  have hl := lv_entry ([.int x0, .int x1]) (n := 2) (Nat.le_of_ble_eq_true rfl)
  rw [lg_entry_eq]
  generalize (lg_sl ([.int x0, .int x1]) ++ List.replicate (2 - (lg_sl ([.int x0, .int x1])).length) Slot.unset).toArray = ls at hl ⊢
  have hl : lv_has ls 2 [(0, .int x0), (1, .int x1)] := hl
  refine lv_iload_n hx hb dX1_limited_0 rfl (lv_at hl 0 rfl) ?_
  refine lv_if_ne (tgt := 8) hx hb dX1_limited_1 (by decide) (fun c_1 => ?_) (fun c_1 => ?_)
  · skip
    refine lv_iload_n hx hb dX1_limited_8 rfl (lv_at hl 0 rfl) ?_
    refine lv_iload_n hx hb dX1_limited_9 rfl (lv_at hl 0 rfl) ?_
    refine callSi (As := [.int x0]) (rest := [.int x0]) (m1_limits l x0) ⟨hx, hb, hml, hown, hts⟩ (va_cwS 1 hts gX1_limited_X1_limits rfl rfl rfl (by decide +kernel) ⟨Nat.le_of_ble_eq_true rfl, Nat.le_of_ble_eq_true rfl⟩) rfl hl.1 rfl (Nat.le_of_ble_eq_true rfl) dX1_limited_10 ⟨Nat.zero_le _, Nat.zero_le _⟩ ?_
    refine lv_isub hx hb dX1_limited_13 ?_
    refine lv_iload_n hx hb dX1_limited_14 rfl (lv_at hl 0 rfl) ?_
    refine callSi (As := [.int x0]) (rest := [.int (x0 - (f1_limits x0))]) (m1_limits l x0) ⟨hx, hb, hml, hown, hts⟩ (va_cwS 1 hts gX1_limited_X1_limits rfl rfl rfl (by decide +kernel) ⟨Nat.le_of_ble_eq_true rfl, Nat.le_of_ble_eq_true rfl⟩) rfl hl.1 rfl (Nat.le_of_ble_eq_true rfl) dX1_limited_15 ⟨Nat.zero_le _, Nat.zero_le _⟩ ?_
    refine lv_iload_n hx hb dX1_limited_18 rfl (lv_at hl 1 rfl) ?_
    refine lv_ior hx hb dX1_limited_19 ?_
    refine lv_iadd hx hb dX1_limited_20 ?_
    exact retP hx hb hr hlocks rfl (by unfold f1_limited; rw [if_neg c_1]) rfl dX1_limited_21
  · skip
    refine lv_iconst (v := 0) hx hb dX1_limited_4 (by decide) ?_
    refine lv_goto (tgt := 21) hx hb dX1_limited_5 (by decide) ?_
    exact retP hx hb hr hlocks rfl (by unfold f1_limited; rw [if_pos c_1]) rfl dX1_limited_21
end
section
def f0_refusal (mem blk hdr : Nat → Int32) (ds pw rn wr cm : Int32) (x0 : Int32) : Int32 := (if rn = 0 then (-1) else (if x0 = 0 then (-2) else 0))
def f0_get (mem blk hdr : Nat → Int32) (ds pw rn wr cm : Int32) (x0 : Int32) (x1 : Int32) : Int32 := (mem ((x0 * 8) + x1).toNatClampNeg)
def z0_nodeRefusal_18 (x0 : Int32) (x1 : Int32) (x2 : Int32) : Int32 := (if (f0_isRegister x0 x1) = 0 then 0 else (if x2 = 0 then 0 else 1))
def f0_nodeRefusal (mem blk hdr : Nat → Int32) (ds pw rn wr cm : Int32) (x0 : Int32) (x1 : Int32) (x2 : Int32) : Int32 := (if (f0_refusal mem blk hdr ds pw rn wr cm (z0_nodeRefusal_18 x0 x1 x2)) = 0 then (if (f0_isNodeKey (f0_get mem blk hdr ds pw rn wr cm x0 x1)) = 0 then (-3) else 0) else (f0_refusal mem blk hdr ds pw rn wr cm (z0_nodeRefusal_18 x0 x1 x2)))
def z0_pageRefusal_18 (x0 : Int32) (x1 : Int32) (x2 : Int32) : Int32 := (if (f0_isRegister x0 x1) = 0 then 0 else (if x2 = 0 then 0 else 1))
def f0_pageRefusal (mem blk hdr : Nat → Int32) (ds pw rn wr cm : Int32) (x0 : Int32) (x1 : Int32) (x2 : Int32) : Int32 := (if (f0_refusal mem blk hdr ds pw rn wr cm (z0_pageRefusal_18 x0 x1 x2)) = 0 then (if (f0_isPageKey (f0_get mem blk hdr ds pw rn wr cm x0 x1)) = 0 then (-3) else 0) else (f0_refusal mem blk hdr ds pw rn wr cm (z0_pageRefusal_18 x0 x1 x2)))
def f0_read (mem blk hdr : Nat → Int32) (ds pw rn wr cm : Int32) (x0 : Int32) (x1 : Int32) (x2 : Int32) : Int64 := (if (f0_pageRefusal mem blk hdr ds pw rn wr cm x0 x1 (f0_isInRow x2)) = 0 then (f0_get mem blk hdr ds pw rn wr cm (f0_objectOf (f0_get mem blk hdr ds pw rn wr cm x0 x1)) x2).toInt64 else (4294967296 + (f0_pageRefusal mem blk hdr ds pw rn wr cm x0 x1 (f0_isInRow x2)).toInt64))
def f0_isUp (mem blk hdr : Nat → Int32) (ds pw rn wr cm : Int32) : Int32 := rn
def z0_key_20 (x0 : Int32) (x1 : Int32) : Int32 := (if (f0_isNode x0) = 0 then 0 else (if (f0_isInRow x1) = 0 then 0 else 1))
def f0_key (mem blk hdr : Nat → Int32) (ds pw rn wr cm : Int32) (x0 : Int32) (x1 : Int32) : Int32 := (if (f0_refusal mem blk hdr ds pw rn wr cm (z0_key_20 x0 x1)) = 0 then (f0_get mem blk hdr ds pw rn wr cm x0 x1) else (f0_refusal mem blk hdr ds pw rn wr cm (z0_key_20 x0 x1)))
def z0_word_20 (x0 : Int32) (x1 : Int32) : Int32 := (if (f0_isPage x0) = 0 then 0 else (if (f0_isInRow x1) = 0 then 0 else 1))
def f0_word (mem blk hdr : Nat → Int32) (ds pw rn wr cm : Int32) (x0 : Int32) (x1 : Int32) : Int64 := (if (f0_refusal mem blk hdr ds pw rn wr cm (z0_word_20 x0 x1)) = 0 then (f0_get mem blk hdr ds pw rn wr cm x0 x1).toInt64 else (4294967296 + (f0_refusal mem blk hdr ds pw rn wr cm (z0_word_20 x0 x1)).toInt64))
def f0_dirty (mem blk hdr : Nat → Int32) (ds pw rn wr cm : Int32) : Int32 := (if rn = 0 then (-1) else ds)
def f0_writes (mem blk hdr : Nat → Int32) (ds pw rn wr cm : Int32) : Int32 := wr
def f0_commits (mem blk hdr : Nat → Int32) (ds pw rn wr cm : Int32) : Int32 := cm
def f0_disk (mem blk hdr : Nat → Int32) (ds pw rn wr cm : Int32) (x0 : Int32) (x1 : Int32) : Int32 := (if (f0_isBlock x0) = 0 then 0 else (if (f0_isInRow x1) = 0 then 0 else (blk ((x0 * 8) + x1).toNatClampNeg)))
def F0_put (mem blk hdr : Nat → Int32) (ds pw rn wr cm : Int32) (x0 : Int32) (x1 : Int32) (x2 : Int32) : S0 := ((upd mem ((x0 * 8) + x1).toNatClampNeg x2), blk, hdr, (ds ||| ((1 : Int32) <<< (x0 &&& 31))), pw, rn, wr, cm)
def z0_place_27 (x0 : Int32) (x1 : Int32) (x2 : Int32) : Int32 := (if (f0_isNode x0) = 0 then 0 else (if (f0_isInRow x1) = 0 then 0 else (if (f0_isKey x2) = 0 then 0 else 1)))
def F0_place (mem blk hdr : Nat → Int32) (ds pw rn wr cm : Int32) (x0 : Int32) (x1 : Int32) (x2 : Int32) : Int32 × S0 := (if (f0_refusal mem blk hdr ds pw rn wr cm (z0_place_27 x0 x1 x2)) = 0 then (0, (upd mem (x0 * 8 + x1).toNatClampNeg x2), blk, hdr, (ds ||| ((1 : Int32) <<< (x0 &&& 31))), pw, rn, wr, cm) else ((f0_refusal mem blk hdr ds pw rn wr cm (z0_place_27 x0 x1 x2)), mem, blk, hdr, ds, pw, rn, wr, cm))
def z0_fetch_23 (x2 : Int32) (x3 : Int32) : Int32 := (if (f0_isInRow x2) = 0 then 0 else (if (f0_isInRow x3) = 0 then 0 else 1))
def z0_fetch_79 (mem : Nat → Int32) (blk : Nat → Int32) (hdr : Nat → Int32) (ds : Int32) (pw : Int32) (rn : Int32) (wr : Int32) (cm : Int32) (x0 : Int32) (x1 : Int32) (x2 : Int32) : Int32 := (if (f0_isWeak (f0_get mem blk hdr ds pw rn wr cm x0 x1)) = 0 then (f0_get mem blk hdr ds pw rn wr cm (f0_objectOf (f0_get mem blk hdr ds pw rn wr cm x0 x1)) x2) else (f0_limited (f0_get mem blk hdr ds pw rn wr cm (f0_objectOf (f0_get mem blk hdr ds pw rn wr cm x0 x1)) x2) 3))
def F0_fetch (mem blk hdr : Nat → Int32) (ds pw rn wr cm : Int32) (x0 : Int32) (x1 : Int32) (x2 : Int32) (x3 : Int32) : Int32 × S0 := (if (f0_nodeRefusal mem blk hdr ds pw rn wr cm x0 x1 (z0_fetch_23 x2 x3)) = 0 then (0, (upd mem (x0 * 8 + x3).toNatClampNeg (z0_fetch_79 mem blk hdr ds pw rn wr cm x0 x1 x2)), blk, hdr, (ds ||| ((1 : Int32) <<< (x0 &&& 31))), pw, rn, wr, cm) else ((f0_nodeRefusal mem blk hdr ds pw rn wr cm x0 x1 (z0_fetch_23 x2 x3)), mem, blk, hdr, ds, pw, rn, wr, cm))
def z0_store_23 (x2 : Int32) (x3 : Int32) : Int32 := (if (f0_isInRow x2) = 0 then 0 else (if (f0_isInRow x3) = 0 then 0 else 1))
def F0_store (mem blk hdr : Nat → Int32) (ds pw rn wr cm : Int32) (x0 : Int32) (x1 : Int32) (x2 : Int32) (x3 : Int32) : Int32 × S0 := (if (f0_nodeRefusal mem blk hdr ds pw rn wr cm x0 x1 (z0_store_23 x2 x3)) = 0 then (if (f0_isWriting (f0_get mem blk hdr ds pw rn wr cm x0 x1)) = 0 then ((-4), mem, blk, hdr, ds, pw, rn, wr, cm) else (0, (upd mem ((f0_objectOf (f0_get mem blk hdr ds pw rn wr cm x0 x1)) * 8 + x2).toNatClampNeg (f0_get mem blk hdr ds pw rn wr cm x0 x3)), blk, hdr, (ds ||| ((1 : Int32) <<< ((f0_objectOf (f0_get mem blk hdr ds pw rn wr cm x0 x1)) &&& 31))), pw, rn, wr, cm)) else ((f0_nodeRefusal mem blk hdr ds pw rn wr cm x0 x1 (z0_store_23 x2 x3)), mem, blk, hdr, ds, pw, rn, wr, cm))
def F0_write (mem blk hdr : Nat → Int32) (ds pw rn wr cm : Int32) (x0 : Int32) (x1 : Int32) (x2 : Int32) (x3 : Int32) : Int32 × S0 := (if (f0_pageRefusal mem blk hdr ds pw rn wr cm x0 x1 (f0_isInRow x2)) = 0 then (if (f0_isWriting (f0_get mem blk hdr ds pw rn wr cm x0 x1)) = 0 then ((-4), mem, blk, hdr, ds, pw, rn, wr, cm) else (0, (upd mem ((f0_objectOf (f0_get mem blk hdr ds pw rn wr cm x0 x1)) * 8 + x2).toNatClampNeg x3), blk, hdr, (ds ||| ((1 : Int32) <<< ((f0_objectOf (f0_get mem blk hdr ds pw rn wr cm x0 x1)) &&& 31))), pw, rn, wr, cm)) else ((f0_pageRefusal mem blk hdr ds pw rn wr cm x0 x1 (f0_isInRow x2)), mem, blk, hdr, ds, pw, rn, wr, cm))
def z0_restrict_29 (x0 : Int32) (x1 : Int32) (x2 : Int32) (x3 : Int32) : Int32 := (if (f0_isRegister x0 x1) = 0 then 0 else (if (f0_isLimits x2) = 0 then 0 else (if (f0_isInRow x3) = 0 then 0 else 1)))
def F0_restrict (mem blk hdr : Nat → Int32) (ds pw rn wr cm : Int32) (x0 : Int32) (x1 : Int32) (x2 : Int32) (x3 : Int32) : Int32 × S0 := (if (f0_refusal mem blk hdr ds pw rn wr cm (z0_restrict_29 x0 x1 x2 x3)) = 0 then (0, (upd mem (x0 * 8 + x3).toNatClampNeg (f0_limited (f0_get mem blk hdr ds pw rn wr cm x0 x1) x2)), blk, hdr, (ds ||| ((1 : Int32) <<< (x0 &&& 31))), pw, rn, wr, cm) else ((f0_refusal mem blk hdr ds pw rn wr cm (z0_restrict_29 x0 x1 x2 x3)), mem, blk, hdr, ds, pw, rn, wr, cm))
def F0_clear (mem blk hdr : Nat → Int32) (ds pw rn wr cm : Int32) (x0 : Int32) (x1 : Int32) : Int32 × S0 := (if (f0_refusal mem blk hdr ds pw rn wr cm (f0_isRegister x0 x1)) = 0 then (0, (upd mem (x0 * 8 + x1).toNatClampNeg 0), blk, hdr, (ds ||| ((1 : Int32) <<< (x0 &&& 31))), pw, rn, wr, cm) else ((f0_refusal mem blk hdr ds pw rn wr cm (f0_isRegister x0 x1)), mem, blk, hdr, ds, pw, rn, wr, cm))
def F0_power (mem blk hdr : Nat → Int32) (ds pw rn wr cm : Int32) (x0 : Int32) : Int32 × S0 := (if (f0_refusal mem blk hdr ds pw rn wr cm (f0_isPower x0)) = 0 then (0, mem, blk, hdr, ds, x0, rn, wr, cm) else ((f0_refusal mem blk hdr ds pw rn wr cm (f0_isPower x0)), mem, blk, hdr, ds, pw, rn, wr, cm))
def F0_crash (mem blk hdr : Nat → Int32) (ds pw rn wr cm : Int32) : Int32 × S0 := (rn, mem, blk, hdr, ds, pw, 0, wr, cm)
end
section
/-! numbers in their ranges, and what the refusals of CapStore say -/
theorem rg_0 {x N : Int32} (n : Nat) (hN : N = nI n) (hn : n < 2 ^ 31) (c1 : ¬ x < 0) (c2 : ¬ N ≤ x) : ∃ j : Nat, j < n ∧ x = nI j := by
  rcases pk_ix x (n := n) hn with q | q | q
  · exact absurd q c1
  · exact absurd (by rw [hN]; exact q) c2
  · exact q
theorem rg_le {x N : Int32} (n : Nat) (hN : N = nI n) (hn : n < 2 ^ 31) (c1 : ¬ x < 0) (c2 : ¬ N < x) : ∃ j : Nat, j < n + 1 ∧ x = nI j := by
  obtain ⟨j, hj, rfl⟩ := nI_of c1
  refine ⟨j, ?_, rfl⟩
  rcases Nat.lt_or_ge j (n + 1) with q | q
  · exact q
  · exact absurd (by rw [hN]; exact nI_lt (by omega) hj) c2
theorem rg_lo {x K : Int32} {j k : Nat} (hK : K = nI k) (hj : j < 2 ^ 31) (hk : k < 2 ^ 31) (hx : x = nI j) (c : ¬ x < K) : k ≤ j := by
  rcases Nat.lt_or_ge j k with q | q
  · exact absurd (by rw [hx, hK]; exact nI_lt q hk) c
  · exact q
theorem rg_nn {x K : Int32} {k : Nat} (hK : K = nI k) (hk : k < 2 ^ 31) (c : ¬ x < K) : ¬ x < 0 := by
  intro q
  apply c
  rw [Int32.lt_iff_toInt_lt] at q ⊢
  rw [hK, nI_toInt hk]
  have : (0 : Int32).toInt = 0 := by decide
  omega
theorem ix_in {N : Nat} (hN : N < 2 ^ 31) {a b : Nat} (h : a * 8 + b < N) : vp_in (nI a * 8 + nI b) N := by
  rw [show (8 : Int32) = nI 8 from rfl, pk_mul, nI_add]
  exact vp_in_nI h hN
theorem ix_at {a b : Nat} (h : a * 8 + b < 2 ^ 31) : (nI a * 8 + nI b).toNatClampNeg = a * 8 + b := by
  rw [show (8 : Int32) = nI 8 from rfl, pk_mul, nI_add]
  exact nI_clamp h
theorem ro_row {x : Int32} (h : ¬ f0_isInRow x = 0) : ∃ j : Nat, j < 8 ∧ x = nI j := by
  unfold f0_isInRow at h
  by_cases c1 : x < 0
  · rw [if_pos c1] at h; exact absurd rfl h
  · by_cases c2 : 8 ≤ x
    · rw [if_neg c1, if_pos c2] at h; exact absurd rfl h
    · exact rg_0 8 rfl (by decide) c1 c2
theorem ro_node {x : Int32} (h : ¬ f0_isNode x = 0) : ∃ j : Nat, j < 8 ∧ x = nI j := ro_row h
theorem ro_block {x : Int32} (h : ¬ f0_isBlock x = 0) : ∃ j : Nat, j < 25 ∧ x = nI j := by
  unfold f0_isBlock at h
  by_cases c1 : x < 0
  · rw [if_pos c1] at h; exact absurd rfl h
  · by_cases c2 : 25 ≤ x
    · rw [if_neg c1, if_pos c2] at h; exact absurd rfl h
    · exact rg_0 25 rfl (by decide) c1 c2
theorem ro_page {x : Int32} (h : ¬ f0_isPage x = 0) : ∃ j : Nat, 8 ≤ j ∧ j < 12 ∧ x = nI j := by
  unfold f0_isPage at h
  by_cases c1 : x < 8
  · rw [if_pos c1] at h; exact absurd rfl h
  · by_cases c2 : 12 ≤ x
    · rw [if_neg c1, if_pos c2] at h; exact absurd rfl h
    · obtain ⟨j, hj, e⟩ := rg_0 12 rfl (by decide) (rg_nn (k := 8) rfl (by decide) c1) c2
      exact ⟨j, rg_lo (k := 8) rfl (by omega) (by decide) e c1, hj, e⟩
theorem ro_reg {x y : Int32} (h : ¬ f0_isRegister x y = 0) : ∃ i j : Nat, i < 3 ∧ j < 8 ∧ x = nI i ∧ y = nI j := by
  unfold f0_isRegister at h
  by_cases c1 : x < 0
  · rw [if_pos c1] at h; exact absurd rfl h
  · by_cases c2 : 3 ≤ x
    · rw [if_neg c1, if_pos c2] at h; exact absurd rfl h
    · by_cases c3 : f0_isInRow y = 0
      · rw [if_neg c1, if_neg c2, if_pos c3] at h; exact absurd rfl h
      · obtain ⟨i, hi, ei⟩ := rg_0 3 rfl (by decide) c1 c2
        obtain ⟨j, hj, ej⟩ := ro_row c3
        exact ⟨i, j, hi, hj, ei, ej⟩
theorem ro_nkey {x : Int32} (h : ¬ f0_isNodeKey x = 0) : ∃ j : Nat, j < 32 ∧ x = nI (j + 1) := by
  unfold f0_isNodeKey at h
  by_cases c1 : x < 1
  · rw [if_pos c1] at h; exact absurd rfl h
  · by_cases c2 : 33 ≤ x
    · rw [if_neg c1, if_pos c2] at h; exact absurd rfl h
    · obtain ⟨j, hj, e⟩ := rg_0 33 rfl (by decide) (rg_nn (k := 1) rfl (by decide) c1) c2
      have := rg_lo (k := 1) rfl (by omega) (by decide) e c1
      exact ⟨j - 1, by omega, by rw [e]; congr 1; omega⟩
theorem ro_pkey {x : Int32} (h : ¬ f0_isPageKey x = 0) : ∃ j : Nat, 32 ≤ j ∧ j < 48 ∧ x = nI (j + 1) := by
  unfold f0_isPageKey at h
  by_cases c1 : x < 33
  · rw [if_pos c1] at h; exact absurd rfl h
  · by_cases c2 : 48 < x
    · rw [if_neg c1, if_pos c2] at h; exact absurd rfl h
    · obtain ⟨j, hj, e⟩ := rg_le 48 rfl (by decide) (rg_nn (k := 33) rfl (by decide) c1) c2
      have := rg_lo (k := 33) rfl (by omega) (by decide) e c1
      exact ⟨j - 1, by omega, by omega, by rw [e]; congr 1; omega⟩
theorem ob_0 {j : Nat} (h : j < 2 ^ 30) : f0_objectOf (nI (j + 1)) = nI (j / 4) := by
  unfold f0_objectOf
  rw [nI_pred, show (4 : Int32) = nI 4 from rfl, pk_div (by omega) (by decide) (by decide)]
theorem li_0 {j : Nat} (h : j < 2 ^ 30) : f0_limitsOf (nI (j + 1)) = nI (j % 4) := by
  unfold f0_limitsOf
  rw [nI_pred, show (4 : Int32) = nI 4 from rfl, pk_rem (by omega) (by decide) (by decide)]
section SD
variable {mem blk hdr : Nat → Int32} {ds pw rn wr cm : Int32} {x0 x1 x2 x3 : Int32}
theorem rf_0 (h : f0_refusal mem blk hdr ds pw rn wr cm x0 = 0) : ¬ rn = 0 ∧ ¬ x0 = 0 := by
  unfold f0_refusal at h
  by_cases c1 : rn = 0
  · rw [if_pos c1] at h; exact absurd h (by decide)
  · by_cases c2 : x0 = 0
    · rw [if_neg c1, if_pos c2] at h; exact absurd h (by decide)
    · exact ⟨c1, c2⟩
theorem ite2 {P Q : Prop} [Decidable P] [Decidable Q] (h : ¬ (if P then (0 : Int32) else (if Q then 0 else 1)) = 0) : ¬ P ∧ ¬ Q := by
  by_cases c1 : P
  · rw [if_pos c1] at h; exact absurd rfl h
  · by_cases c2 : Q
    · rw [if_neg c1, if_pos c2] at h; exact absurd rfl h
    · exact ⟨c1, c2⟩
theorem ite3 {P Q T : Prop} [Decidable P] [Decidable Q] [Decidable T] (h : ¬ (if P then (0 : Int32) else (if Q then 0 else (if T then 0 else 1))) = 0) : ¬ P ∧ ¬ Q ∧ ¬ T := by
  by_cases c1 : P
  · rw [if_pos c1] at h; exact absurd rfl h
  · rw [if_neg c1] at h; exact ⟨c1, ite2 h⟩
theorem nr_0 (h : f0_nodeRefusal mem blk hdr ds pw rn wr cm x0 x1 x2 = 0) : ∃ i j n : Nat, i < 3 ∧ j < 8 ∧ x0 = nI i ∧ x1 = nI j ∧ ¬ x2 = 0 ∧ n < 32 ∧ mem (i * 8 + j) = nI (n + 1) ∧ ¬ rn = 0 := by
  unfold f0_nodeRefusal at h
  by_cases c1 : f0_refusal mem blk hdr ds pw rn wr cm (z0_nodeRefusal_18 x0 x1 x2) = 0
  · rw [if_pos c1] at h
    by_cases c2 : f0_isNodeKey (f0_get mem blk hdr ds pw rn wr cm x0 x1) = 0
    · rw [if_pos c2] at h; exact absurd h (by decide)
    · obtain ⟨h1, h2⟩ := rf_0 c1
      obtain ⟨h3, h4⟩ := ite2 h2
      obtain ⟨i, j, hi, hj, rfl, rfl⟩ := ro_reg h3
      obtain ⟨n, hn, e⟩ := ro_nkey c2
      unfold f0_get at e
      rw [ix_at (by omega)] at e
      exact ⟨i, j, n, hi, hj, rfl, rfl, h4, hn, e, h1⟩
  · rw [if_neg c1] at h; exact absurd h c1
theorem pr_0 (h : f0_pageRefusal mem blk hdr ds pw rn wr cm x0 x1 x2 = 0) : ∃ i j n : Nat, i < 3 ∧ j < 8 ∧ x0 = nI i ∧ x1 = nI j ∧ ¬ x2 = 0 ∧ 32 ≤ n ∧ n < 48 ∧ mem (i * 8 + j) = nI (n + 1) ∧ ¬ rn = 0 := by
  unfold f0_pageRefusal at h
  by_cases c1 : f0_refusal mem blk hdr ds pw rn wr cm (z0_pageRefusal_18 x0 x1 x2) = 0
  · rw [if_pos c1] at h
    by_cases c2 : f0_isPageKey (f0_get mem blk hdr ds pw rn wr cm x0 x1) = 0
    · rw [if_pos c2] at h; exact absurd h (by decide)
    · obtain ⟨h1, h2⟩ := rf_0 c1
      obtain ⟨h3, h4⟩ := ite2 h2
      obtain ⟨i, j, hi, hj, rfl, rfl⟩ := ro_reg h3
      obtain ⟨n, hn1, hn, e⟩ := ro_pkey c2
      unfold f0_get at e
      rw [ix_at (by omega)] at e
      exact ⟨i, j, n, hi, hj, rfl, rfl, h4, hn1, hn, e, h1⟩
  · rw [if_neg c1] at h; exact absurd h c1
theorem sd0_nodeRefusal (h : f0_refusal mem blk hdr ds pw rn wr cm (z0_nodeRefusal_18 x0 x1 x2) = 0) : vp_in (x0 * 8 + x1) 96 := by
  obtain ⟨i, j, hi, hj, rfl, rfl⟩ := ro_reg (ite2 (rf_0 h).2).1
  exact ix_in (by decide) (by omega)
theorem sd0_pageRefusal (h : f0_refusal mem blk hdr ds pw rn wr cm (z0_pageRefusal_18 x0 x1 x2) = 0) : vp_in (x0 * 8 + x1) 96 := by
  obtain ⟨i, j, hi, hj, rfl, rfl⟩ := ro_reg (ite2 (rf_0 h).2).1
  exact ix_in (by decide) (by omega)
theorem sd0_key (h : f0_refusal mem blk hdr ds pw rn wr cm (z0_key_20 x0 x1) = 0) : vp_in (x0 * 8 + x1) 96 := by
  obtain ⟨h1, h2⟩ := ite2 (rf_0 h).2
  obtain ⟨i, hi, rfl⟩ := ro_node h1
  obtain ⟨j, hj, rfl⟩ := ro_row h2
  exact ix_in (by decide) (by omega)
theorem sd0_word (h : f0_refusal mem blk hdr ds pw rn wr cm (z0_word_20 x0 x1) = 0) : vp_in (x0 * 8 + x1) 96 := by
  obtain ⟨h1, h2⟩ := ite2 (rf_0 h).2
  obtain ⟨i, hi0, hi, rfl⟩ := ro_page h1
  obtain ⟨j, hj, rfl⟩ := ro_row h2
  exact ix_in (by decide) (by omega)
theorem sd0_disk (h1 : ¬ f0_isBlock x0 = 0) (h2 : ¬ f0_isInRow x1 = 0) : vp_in (x0 * 8 + x1) 200 := by
  obtain ⟨i, hi, rfl⟩ := ro_block h1
  obtain ⟨j, hj, rfl⟩ := ro_row h2
  exact ix_in (by decide) (by omega)
theorem sd0_place (h : f0_refusal mem blk hdr ds pw rn wr cm (z0_place_27 x0 x1 x2) = 0) : vp_in (x0 * 8 + x1) 96 := by
  obtain ⟨h1, h2, h3⟩ := ite3 (rf_0 h).2
  obtain ⟨i, hi, rfl⟩ := ro_node h1
  obtain ⟨j, hj, rfl⟩ := ro_row h2
  exact ix_in (by decide) (by omega)
theorem sd0_restrict1 (h : f0_refusal mem blk hdr ds pw rn wr cm (z0_restrict_29 x0 x1 x2 x3) = 0) : vp_in (x0 * 8 + x1) 96 := by
  obtain ⟨h1, h2, h3⟩ := ite3 (rf_0 h).2
  obtain ⟨i, j, hi, hj, rfl, rfl⟩ := ro_reg h1
  exact ix_in (by decide) (by omega)
theorem sd0_restrict2 (h : f0_refusal mem blk hdr ds pw rn wr cm (z0_restrict_29 x0 x1 x2 x3) = 0) : vp_in (x0 * 8 + x3) 96 := by
  obtain ⟨h1, h2, h3⟩ := ite3 (rf_0 h).2
  obtain ⟨i, j, hi, hj, rfl, rfl⟩ := ro_reg h1
  obtain ⟨j, hj, rfl⟩ := ro_row h3
  exact ix_in (by decide) (by omega)
theorem sd0_clear (h : f0_refusal mem blk hdr ds pw rn wr cm (f0_isRegister x0 x1) = 0) : vp_in (x0 * 8 + x1) 96 := by
  obtain ⟨i, j, hi, hj, rfl, rfl⟩ := ro_reg (rf_0 h).2
  exact ix_in (by decide) (by omega)
theorem sd0_fetch1 (h : f0_nodeRefusal mem blk hdr ds pw rn wr cm x0 x1 x2 = 0) : vp_in (x0 * 8 + x1) 96 := by
  obtain ⟨i, j, n, hi, hj, rfl, rfl, -⟩ := nr_0 h
  exact ix_in (by decide) (by omega)
theorem sd0_fetch2 (h : f0_nodeRefusal mem blk hdr ds pw rn wr cm x0 x1 (z0_fetch_23 x2 x3) = 0) : vp_in (f0_objectOf (f0_get mem blk hdr ds pw rn wr cm x0 x1) * 8 + x2) 96 := by
  obtain ⟨i, j, n, hi, hj, rfl, rfl, hz, hn, e, -⟩ := nr_0 h
  obtain ⟨b, hb, rfl⟩ := ro_row (ite2 hz).1
  unfold f0_get
  rw [ix_at (by omega), e, ob_0 (by omega)]
  exact ix_in (by decide) (by omega)
theorem sd0_fetch3 (h : f0_nodeRefusal mem blk hdr ds pw rn wr cm x0 x1 (z0_fetch_23 x2 x3) = 0) : vp_in (x0 * 8 + x3) 96 := by
  obtain ⟨i, j, n, hi, hj, rfl, rfl, hz, hn, e, -⟩ := nr_0 h
  obtain ⟨b, hb, rfl⟩ := ro_row (ite2 hz).2
  exact ix_in (by decide) (by omega)
theorem sd0_store1 (h : f0_nodeRefusal mem blk hdr ds pw rn wr cm x0 x1 x2 = 0) : vp_in (x0 * 8 + x1) 96 := sd0_fetch1 h
theorem sd0_store2 (h : f0_nodeRefusal mem blk hdr ds pw rn wr cm x0 x1 (z0_store_23 x2 x3) = 0) : vp_in (f0_objectOf (f0_get mem blk hdr ds pw rn wr cm x0 x1) * 8 + x2) 96 := sd0_fetch2 h
theorem sd0_store3 (h : f0_nodeRefusal mem blk hdr ds pw rn wr cm x0 x1 (z0_store_23 x2 x3) = 0) : vp_in (x0 * 8 + x3) 96 := sd0_fetch3 h
theorem sd0_read1 (h : f0_pageRefusal mem blk hdr ds pw rn wr cm x0 x1 x2 = 0) : vp_in (x0 * 8 + x1) 96 := by
  obtain ⟨i, j, n, hi, hj, rfl, rfl, -⟩ := pr_0 h
  exact ix_in (by decide) (by omega)
theorem sd0_read2 (h : f0_pageRefusal mem blk hdr ds pw rn wr cm x0 x1 (f0_isInRow x2) = 0) : vp_in (f0_objectOf (f0_get mem blk hdr ds pw rn wr cm x0 x1) * 8 + x2) 96 := by
  obtain ⟨i, j, n, hi, hj, rfl, rfl, hz, hn1, hn, e, -⟩ := pr_0 h
  obtain ⟨b, hb, rfl⟩ := ro_row hz
  unfold f0_get
  rw [ix_at (by omega), e, ob_0 (by omega)]
  exact ix_in (by decide) (by omega)
end SD
end
section
set_option maxHeartbeats 4000000 in
set_option maxRecDepth 100000 in
theorem m0_refusal (l : Launch) (dC : Nat → ClassId) (dI : Nat → Nat → Nat) (h0 h1 h2 h3 : Nat) (c1 c2 c3 : ClassId) (mem blk hdr : Nat → Int32) (ds pw rn wr cm : Int32) (x0 : Int32) : Met l yX0_refusal wsX0_refusal ({ frames := 0, cells := 0, slots := 0, locals := 0 }) (pcR (dC, dI) (k0 c1 c2 c3) (w0 h0 h1 h2 h3 c1 c2 c3 (mem, blk, hdr, ds, pw, rn, wr, cm)) [.ref h0, .int x0]) (QcRead (f0_refusal mem blk hdr ds pw rn wr cm x0)) 0 0 (fun _ => False) := by
  refine Met.ofW (cc := cX0_refusal) (maxL := 2) (ret := (some .int)) (by decide) rfl ?_
  intro p e s m args below meth c s₁ B hml hv
  obtain ⟨rfl, hP, hK⟩ := hv
  have hx := B.exec
  have hb := B.bytes
  have hr := B.returns
  have hts := atoms_spec (ws := wsX0_refusal) B.pre
  have hown : s.vm.findClass RX0 = some m.cls := findClass_of_methodNamed B.named
  have hlocks := B.notSynchronized
  have hin : ∀ w ∈ wsX00, w ∈ wsX0_refusal := fun _ h => List.mem_cons_of_mem _ (List.mem_append_right _ h)
  have hP : va_P (dC, dI) vwCl [(h0, .inr (0, [.ref h1, .ref h2, .ref h3, .int ds, .int pw, .int rn, .int wr, .int cm])), (h1, .inl (c1, 96, .inl mem)), (h2, .inl (c2, 200, .inl blk)), (h3, .inl (c3, 8, .inl hdr))] s.heap := hP
  have hl := lv_entry ([.ref h0, .int x0]) (n := 2) (Nat.le_of_ble_eq_true rfl)
  rw [lg_entry_eq]
  generalize (lg_sl ([.ref h0, .int x0]) ++ List.replicate (2 - (lg_sl ([.ref h0, .int x0])).length) Slot.unset).toArray = ls at hl ⊢
  have hl : lv_has ls 2 [(0, .ref h0), (1, .int x0)] := hl
  refine lv_aload_n hx hb dX0_refusal_0 rfl (lv_at hl 0 rfl) ?_
  refine va_get (D := (dC, dI)) (ci := 0) (v := .int rn) (C := RX0) (T := TX0) (N := 8) hx hb hts hin hown hK hP 0 rfl rfl 5 (by decide) (hts (.fieldLink RX0 26 "CapStore" "running" "Z") (by decide +kernel)) (fun _ h9 => h9) rfl dX0_refusal_1 ?_
  refine lv_if_ne (tgt := 9) hx hb dX0_refusal_4 (by decide) (fun c_4 => ?_) (fun c_4 => ?_)
  · skip
    refine lv_iload_n hx hb dX0_refusal_9 rfl (lv_at hl 1 rfl) ?_
    refine lv_if_eq (tgt := 17) hx hb dX0_refusal_10 (by decide) (fun c_10 => ?_) (fun c_10 => ?_)
    · skip
      refine lv_bipush (v := (-2)) hx hb dX0_refusal_17 (by decide) ?_
      exact retP hx hb hr hlocks rfl (by unfold f0_refusal; rw [if_neg c_4, if_pos c_10]) rfl dX0_refusal_19
    · skip
      refine lv_iconst (v := 0) hx hb dX0_refusal_13 (by decide) ?_
      refine lv_goto (tgt := 19) hx hb dX0_refusal_14 (by decide) ?_
      exact retP hx hb hr hlocks rfl (by unfold f0_refusal; rw [if_neg c_4, if_neg c_10]) rfl dX0_refusal_19
  · skip
    refine lv_iconst (v := (-1)) hx hb dX0_refusal_7 (by decide) ?_
    exact retP hx hb hr hlocks rfl (by unfold f0_refusal; rw [if_pos c_4]) rfl dX0_refusal_8
set_option maxHeartbeats 4000000 in
set_option maxRecDepth 100000 in
theorem m0_get (l : Launch) (dC : Nat → ClassId) (dI : Nat → Nat → Nat) (h0 h1 h2 h3 : Nat) (c1 c2 c3 : ClassId) (mem blk hdr : Nat → Int32) (ds pw rn wr cm : Int32) (x0 : Int32) (x1 : Int32) (hi : vp_in (x0 * 8 + x1) 96) : Met l yX0_get wsX0_get ({ frames := 0, cells := 0, slots := 0, locals := 0 }) (pcR (dC, dI) (k0 c1 c2 c3) (w0 h0 h1 h2 h3 c1 c2 c3 (mem, blk, hdr, ds, pw, rn, wr, cm)) [.ref h0, .int x0, .int x1]) (QcRead (f0_get mem blk hdr ds pw rn wr cm x0 x1)) 0 0 (fun _ => False) := by
  refine Met.ofW (cc := cX0_get) (maxL := 3) (ret := (some .int)) (by decide) rfl ?_
  intro p e s m args below meth c s₁ B hml hv
  obtain ⟨rfl, hP, hK⟩ := hv
  have hx := B.exec
  have hb := B.bytes
  have hr := B.returns
  have hts := atoms_spec (ws := wsX0_get) B.pre
  have hown : s.vm.findClass RX0 = some m.cls := findClass_of_methodNamed B.named
  have hlocks := B.notSynchronized
  have hin : ∀ w ∈ wsX00, w ∈ wsX0_get := fun _ h => List.mem_cons_of_mem _ (List.mem_append_right _ h)
  have hP : va_P (dC, dI) vwCl [(h0, .inr (0, [.ref h1, .ref h2, .ref h3, .int ds, .int pw, .int rn, .int wr, .int cm])), (h1, .inl (c1, 96, .inl mem)), (h2, .inl (c2, 200, .inl blk)), (h3, .inl (c3, 8, .inl hdr))] s.heap := hP
  have hl := lv_entry ([.ref h0, .int x0, .int x1]) (n := 3) (Nat.le_of_ble_eq_true rfl)
  rw [lg_entry_eq]
  generalize (lg_sl ([.ref h0, .int x0, .int x1]) ++ List.replicate (3 - (lg_sl ([.ref h0, .int x0, .int x1])).length) Slot.unset).toArray = ls at hl ⊢
  have hl : lv_has ls 3 [(0, .ref h0), (1, .int x0), (2, .int x1)] := hl
  refine lv_aload_n hx hb dX0_get_0 rfl (lv_at hl 0 rfl) ?_
  refine va_get (D := (dC, dI)) (ci := 0) (v := .ref h1) (C := RX0) (T := TX0) (N := 8) hx hb hts hin hown hK hP 0 rfl rfl 0 (by decide) (hts (.fieldLink RX0 9 "CapStore" "memory" "[I") (by decide +kernel)) (fun _ h9 => h9) rfl dX0_get_1 ?_
  refine lv_iload_n hx hb dX0_get_4 rfl (lv_at hl 1 rfl) ?_
  refine lv_bipush (v := 8) hx hb dX0_get_5 (by decide) ?_
  refine lv_imul hx hb dX0_get_7 ?_
  refine lv_iload_n hx hb dX0_get_8 rfl (lv_at hl 2 rfl) ?_
  refine lv_iadd hx hb dX0_get_9 ?_
  refine va_iald hx hb hK hP 1 0 rfl rfl hi dX0_get_10 ?_
  exact retP hx hb hr hlocks rfl (rfl) rfl dX0_get_11
set_option maxHeartbeats 4000000 in
set_option maxRecDepth 100000 in
theorem m0_nodeRefusal (l : Launch) (dC : Nat → ClassId) (dI : Nat → Nat → Nat) (h0 h1 h2 h3 : Nat) (c1 c2 c3 : ClassId) (mem blk hdr : Nat → Int32) (ds pw rn wr cm : Int32) (x0 : Int32) (x1 : Int32) (x2 : Int32) : Met l yX0_nodeRefusal wsX0_nodeRefusal ({ frames := 2, cells := 0, slots := 0, locals := 41 }) (pcR (dC, dI) (k0 c1 c2 c3) (w0 h0 h1 h2 h3 c1 c2 c3 (mem, blk, hdr, ds, pw, rn, wr, cm)) [.ref h0, .int x0, .int x1, .int x2]) (QcRead (f0_nodeRefusal mem blk hdr ds pw rn wr cm x0 x1 x2)) 0 0 (fun _ => False) := by
  refine Met.ofW (cc := cX0_nodeRefusal) (maxL := 5) (ret := (some .int)) (by decide) rfl ?_
  intro p e s m args below meth c s₁ B hml hv
  obtain ⟨rfl, hP, hK⟩ := hv
  have hx := B.exec
  have hb := B.bytes
  have hr := B.returns
  have hts := atoms_spec (ws := wsX0_nodeRefusal) B.pre
  have hown : s.vm.findClass RX0 = some m.cls := findClass_of_methodNamed B.named
  have hlocks := B.notSynchronized
  have hP : va_P (dC, dI) vwCl [(h0, .inr (0, [.ref h1, .ref h2, .ref h3, .int ds, .int pw, .int rn, .int wr, .int cm])), (h1, .inl (c1, 96, .inl mem)), (h2, .inl (c2, 200, .inl blk)), (h3, .inl (c3, 8, .inl hdr))] s.heap := hP
  have hl := lv_entry ([.ref h0, .int x0, .int x1, .int x2]) (n := 5) (Nat.le_of_ble_eq_true rfl)
  rw [lg_entry_eq]
  generalize (lg_sl ([.ref h0, .int x0, .int x1, .int x2]) ++ List.replicate (5 - (lg_sl ([.ref h0, .int x0, .int x1, .int x2])).length) Slot.unset).toArray = ls at hl ⊢
  have hl : lv_has ls 5 [(0, .ref h0), (1, .int x0), (2, .int x1), (3, .int x2)] := hl
  refine w_cut 18 [.ref h0] (z0_nodeRefusal_18 x0 x1 x2) (fun z ez => ?_) (fun K => ?_)
  · subst ez
    refine callRi (q := (RX0, TX0, 8)) (ci := 0) (q0 := 0) (As := [.int (z0_nodeRefusal_18 x0 x1 x2)]) (rest := []) (m0_refusal l dC dI h0 h1 h2 h3 c1 c2 c3 mem blk hdr ds pw rn wr cm (z0_nodeRefusal_18 x0 x1 x2) ) ⟨hx, hb, hml, hown, hts⟩ (cwV 1 hts gX0_nodeRefusal_X0_refusal rfl rfl rfl (by decide +kernel) ⟨Nat.le_of_ble_eq_true rfl, Nat.le_of_ble_eq_true rfl⟩) hK hP rfl rfl rfl hl.1 rfl (Nat.le_of_ble_eq_true rfl) dX0_nodeRefusal_18 ⟨Nat.zero_le _, Nat.zero_le _⟩ ?_
    refine lv_istore (lv' := [(4, .int (f0_refusal mem blk hdr ds pw rn wr cm (z0_nodeRefusal_18 x0 x1 x2))), (0, .ref h0), (1, .int x0), (2, .int x1), (3, .int x2)]) hx hb dX0_nodeRefusal_21 hl (by decide) rfl (fun ls hl => ?_)
    refine lv_iload hx hb dX0_nodeRefusal_23 (lv_at hl 0 rfl) ?_
    refine lv_if_eq (tgt := 31) hx hb dX0_nodeRefusal_25 (by decide) (fun c_25 => ?_) (fun c_25 => ?_)
    · skip
      refine lv_aload_n hx hb dX0_nodeRefusal_31 rfl (lv_at hl 1 rfl) ?_
      refine lv_iload_n hx hb dX0_nodeRefusal_32 rfl (lv_at hl 2 rfl) ?_
      refine lv_iload_n hx hb dX0_nodeRefusal_33 rfl (lv_at hl 3 rfl) ?_
      refine callRi (q := (RX0, TX0, 8)) (ci := 0) (q0 := 0) (As := [.int x0, .int x1]) (rest := []) (m0_get l dC dI h0 h1 h2 h3 c1 c2 c3 mem blk hdr ds pw rn wr cm x0 x1 (sd0_nodeRefusal c_25)) ⟨hx, hb, hml, hown, hts⟩ (cwV 2 hts gX0_nodeRefusal_X0_get rfl rfl rfl (by decide +kernel) ⟨Nat.le_of_ble_eq_true rfl, Nat.le_of_ble_eq_true rfl⟩) hK hP rfl rfl rfl hl.1 rfl (Nat.le_of_ble_eq_true rfl) dX0_nodeRefusal_34 ⟨Nat.zero_le _, Nat.zero_le _⟩ ?_
      refine callSi (As := [.int (f0_get mem blk hdr ds pw rn wr cm x0 x1)]) (rest := []) (m0_isNodeKey l (f0_get mem blk hdr ds pw rn wr cm x0 x1)) ⟨hx, hb, hml, hown, hts⟩ (va_cwS 1 hts gX0_nodeRefusal_X0_isNodeKey rfl rfl rfl (by decide +kernel) ⟨Nat.le_of_ble_eq_true rfl, Nat.le_of_ble_eq_true rfl⟩) rfl hl.1 rfl (Nat.le_of_ble_eq_true rfl) dX0_nodeRefusal_37 ⟨Nat.zero_le _, Nat.zero_le _⟩ ?_
      refine lv_if_eq (tgt := 47) hx hb dX0_nodeRefusal_40 (by decide) (fun c_40 => ?_) (fun c_40 => ?_)
      · skip
        refine lv_bipush (v := (-3)) hx hb dX0_nodeRefusal_47 (by decide) ?_
        exact retP hx hb hr hlocks rfl (by unfold f0_nodeRefusal; rw [if_pos c_25, if_pos c_40]) rfl dX0_nodeRefusal_49
      · skip
        refine lv_iconst (v := 0) hx hb dX0_nodeRefusal_43 (by decide) ?_
        refine lv_goto (tgt := 49) hx hb dX0_nodeRefusal_44 (by decide) ?_
        exact retP hx hb hr hlocks rfl (by unfold f0_nodeRefusal; rw [if_pos c_25, if_neg c_40]) rfl dX0_nodeRefusal_49
    · skip
      refine lv_iload hx hb dX0_nodeRefusal_28 (lv_at hl 0 rfl) ?_
      exact retP hx hb hr hlocks rfl (by unfold f0_nodeRefusal; rw [if_neg c_25]) rfl dX0_nodeRefusal_30
  · skip
    refine lv_aload_n hx hb dX0_nodeRefusal_0 rfl (lv_at hl 0 rfl) ?_
    refine lv_iload_n hx hb dX0_nodeRefusal_1 rfl (lv_at hl 1 rfl) ?_
    refine lv_iload_n hx hb dX0_nodeRefusal_2 rfl (lv_at hl 2 rfl) ?_
    refine callSi (As := [.int x0, .int x1]) (rest := [.ref h0]) (m0_isRegister l x0 x1) ⟨hx, hb, hml, hown, hts⟩ (va_cwS 2 hts gX0_nodeRefusal_X0_isRegister rfl rfl rfl (by decide +kernel) ⟨Nat.le_of_ble_eq_true rfl, Nat.le_of_ble_eq_true rfl⟩) rfl hl.1 rfl (Nat.le_of_ble_eq_true rfl) dX0_nodeRefusal_3 ⟨Nat.zero_le _, Nat.zero_le _⟩ ?_
    refine lv_if_eq (tgt := 17) hx hb dX0_nodeRefusal_6 (by decide) (fun c_6 => ?_) (fun c_6 => ?_)
    · skip
      refine lv_iconst (v := 0) hx hb dX0_nodeRefusal_17 (by decide) ?_
      exact K 0 (by unfold z0_nodeRefusal_18; rw [if_pos c_6])
    · skip
      refine lv_iload_n hx hb dX0_nodeRefusal_9 rfl (lv_at hl 3 rfl) ?_
      refine lv_if_eq (tgt := 17) hx hb dX0_nodeRefusal_10 (by decide) (fun c_10 => ?_) (fun c_10 => ?_)
      · skip
        refine lv_iconst (v := 0) hx hb dX0_nodeRefusal_17 (by decide) ?_
        exact K 0 (by unfold z0_nodeRefusal_18; rw [if_neg c_6, if_pos c_10])
      · skip
        refine lv_iconst (v := 1) hx hb dX0_nodeRefusal_13 (by decide) ?_
        refine lv_goto (tgt := 18) hx hb dX0_nodeRefusal_14 (by decide) ?_
        exact K 1 (by unfold z0_nodeRefusal_18; rw [if_neg c_6, if_neg c_10])
set_option maxHeartbeats 4000000 in
set_option maxRecDepth 100000 in
theorem m0_pageRefusal (l : Launch) (dC : Nat → ClassId) (dI : Nat → Nat → Nat) (h0 h1 h2 h3 : Nat) (c1 c2 c3 : ClassId) (mem blk hdr : Nat → Int32) (ds pw rn wr cm : Int32) (x0 : Int32) (x1 : Int32) (x2 : Int32) : Met l yX0_pageRefusal wsX0_pageRefusal ({ frames := 2, cells := 0, slots := 0, locals := 41 }) (pcR (dC, dI) (k0 c1 c2 c3) (w0 h0 h1 h2 h3 c1 c2 c3 (mem, blk, hdr, ds, pw, rn, wr, cm)) [.ref h0, .int x0, .int x1, .int x2]) (QcRead (f0_pageRefusal mem blk hdr ds pw rn wr cm x0 x1 x2)) 0 0 (fun _ => False) := by
  refine Met.ofW (cc := cX0_pageRefusal) (maxL := 5) (ret := (some .int)) (by decide) rfl ?_
  intro p e s m args below meth c s₁ B hml hv
  obtain ⟨rfl, hP, hK⟩ := hv
  have hx := B.exec
  have hb := B.bytes
  have hr := B.returns
  have hts := atoms_spec (ws := wsX0_pageRefusal) B.pre
  have hown : s.vm.findClass RX0 = some m.cls := findClass_of_methodNamed B.named
  have hlocks := B.notSynchronized
  have hP : va_P (dC, dI) vwCl [(h0, .inr (0, [.ref h1, .ref h2, .ref h3, .int ds, .int pw, .int rn, .int wr, .int cm])), (h1, .inl (c1, 96, .inl mem)), (h2, .inl (c2, 200, .inl blk)), (h3, .inl (c3, 8, .inl hdr))] s.heap := hP
  have hl := lv_entry ([.ref h0, .int x0, .int x1, .int x2]) (n := 5) (Nat.le_of_ble_eq_true rfl)
  rw [lg_entry_eq]
  generalize (lg_sl ([.ref h0, .int x0, .int x1, .int x2]) ++ List.replicate (5 - (lg_sl ([.ref h0, .int x0, .int x1, .int x2])).length) Slot.unset).toArray = ls at hl ⊢
  have hl : lv_has ls 5 [(0, .ref h0), (1, .int x0), (2, .int x1), (3, .int x2)] := hl
  refine w_cut 18 [.ref h0] (z0_pageRefusal_18 x0 x1 x2) (fun z ez => ?_) (fun K => ?_)
  · subst ez
    refine callRi (q := (RX0, TX0, 8)) (ci := 0) (q0 := 0) (As := [.int (z0_pageRefusal_18 x0 x1 x2)]) (rest := []) (m0_refusal l dC dI h0 h1 h2 h3 c1 c2 c3 mem blk hdr ds pw rn wr cm (z0_pageRefusal_18 x0 x1 x2) ) ⟨hx, hb, hml, hown, hts⟩ (cwV 1 hts gX0_pageRefusal_X0_refusal rfl rfl rfl (by decide +kernel) ⟨Nat.le_of_ble_eq_true rfl, Nat.le_of_ble_eq_true rfl⟩) hK hP rfl rfl rfl hl.1 rfl (Nat.le_of_ble_eq_true rfl) dX0_pageRefusal_18 ⟨Nat.zero_le _, Nat.zero_le _⟩ ?_
    refine lv_istore (lv' := [(4, .int (f0_refusal mem blk hdr ds pw rn wr cm (z0_pageRefusal_18 x0 x1 x2))), (0, .ref h0), (1, .int x0), (2, .int x1), (3, .int x2)]) hx hb dX0_pageRefusal_21 hl (by decide) rfl (fun ls hl => ?_)
    refine lv_iload hx hb dX0_pageRefusal_23 (lv_at hl 0 rfl) ?_
    refine lv_if_eq (tgt := 31) hx hb dX0_pageRefusal_25 (by decide) (fun c_25 => ?_) (fun c_25 => ?_)
    · skip
      refine lv_aload_n hx hb dX0_pageRefusal_31 rfl (lv_at hl 1 rfl) ?_
      refine lv_iload_n hx hb dX0_pageRefusal_32 rfl (lv_at hl 2 rfl) ?_
      refine lv_iload_n hx hb dX0_pageRefusal_33 rfl (lv_at hl 3 rfl) ?_
      refine callRi (q := (RX0, TX0, 8)) (ci := 0) (q0 := 0) (As := [.int x0, .int x1]) (rest := []) (m0_get l dC dI h0 h1 h2 h3 c1 c2 c3 mem blk hdr ds pw rn wr cm x0 x1 (sd0_pageRefusal c_25)) ⟨hx, hb, hml, hown, hts⟩ (cwV 2 hts gX0_pageRefusal_X0_get rfl rfl rfl (by decide +kernel) ⟨Nat.le_of_ble_eq_true rfl, Nat.le_of_ble_eq_true rfl⟩) hK hP rfl rfl rfl hl.1 rfl (Nat.le_of_ble_eq_true rfl) dX0_pageRefusal_34 ⟨Nat.zero_le _, Nat.zero_le _⟩ ?_
      refine callSi (As := [.int (f0_get mem blk hdr ds pw rn wr cm x0 x1)]) (rest := []) (m0_isPageKey l (f0_get mem blk hdr ds pw rn wr cm x0 x1)) ⟨hx, hb, hml, hown, hts⟩ (va_cwS 1 hts gX0_pageRefusal_X0_isPageKey rfl rfl rfl (by decide +kernel) ⟨Nat.le_of_ble_eq_true rfl, Nat.le_of_ble_eq_true rfl⟩) rfl hl.1 rfl (Nat.le_of_ble_eq_true rfl) dX0_pageRefusal_37 ⟨Nat.zero_le _, Nat.zero_le _⟩ ?_
      refine lv_if_eq (tgt := 47) hx hb dX0_pageRefusal_40 (by decide) (fun c_40 => ?_) (fun c_40 => ?_)
      · skip
        refine lv_bipush (v := (-3)) hx hb dX0_pageRefusal_47 (by decide) ?_
        exact retP hx hb hr hlocks rfl (by unfold f0_pageRefusal; rw [if_pos c_25, if_pos c_40]) rfl dX0_pageRefusal_49
      · skip
        refine lv_iconst (v := 0) hx hb dX0_pageRefusal_43 (by decide) ?_
        refine lv_goto (tgt := 49) hx hb dX0_pageRefusal_44 (by decide) ?_
        exact retP hx hb hr hlocks rfl (by unfold f0_pageRefusal; rw [if_pos c_25, if_neg c_40]) rfl dX0_pageRefusal_49
    · skip
      refine lv_iload hx hb dX0_pageRefusal_28 (lv_at hl 0 rfl) ?_
      exact retP hx hb hr hlocks rfl (by unfold f0_pageRefusal; rw [if_neg c_25]) rfl dX0_pageRefusal_30
  · skip
    refine lv_aload_n hx hb dX0_pageRefusal_0 rfl (lv_at hl 0 rfl) ?_
    refine lv_iload_n hx hb dX0_pageRefusal_1 rfl (lv_at hl 1 rfl) ?_
    refine lv_iload_n hx hb dX0_pageRefusal_2 rfl (lv_at hl 2 rfl) ?_
    refine callSi (As := [.int x0, .int x1]) (rest := [.ref h0]) (m0_isRegister l x0 x1) ⟨hx, hb, hml, hown, hts⟩ (va_cwS 2 hts gX0_pageRefusal_X0_isRegister rfl rfl rfl (by decide +kernel) ⟨Nat.le_of_ble_eq_true rfl, Nat.le_of_ble_eq_true rfl⟩) rfl hl.1 rfl (Nat.le_of_ble_eq_true rfl) dX0_pageRefusal_3 ⟨Nat.zero_le _, Nat.zero_le _⟩ ?_
    refine lv_if_eq (tgt := 17) hx hb dX0_pageRefusal_6 (by decide) (fun c_6 => ?_) (fun c_6 => ?_)
    · skip
      refine lv_iconst (v := 0) hx hb dX0_pageRefusal_17 (by decide) ?_
      exact K 0 (by unfold z0_pageRefusal_18; rw [if_pos c_6])
    · skip
      refine lv_iload_n hx hb dX0_pageRefusal_9 rfl (lv_at hl 3 rfl) ?_
      refine lv_if_eq (tgt := 17) hx hb dX0_pageRefusal_10 (by decide) (fun c_10 => ?_) (fun c_10 => ?_)
      · skip
        refine lv_iconst (v := 0) hx hb dX0_pageRefusal_17 (by decide) ?_
        exact K 0 (by unfold z0_pageRefusal_18; rw [if_neg c_6, if_pos c_10])
      · skip
        refine lv_iconst (v := 1) hx hb dX0_pageRefusal_13 (by decide) ?_
        refine lv_goto (tgt := 18) hx hb dX0_pageRefusal_14 (by decide) ?_
        exact K 1 (by unfold z0_pageRefusal_18; rw [if_neg c_6, if_neg c_10])
set_option maxHeartbeats 4000000 in
set_option maxRecDepth 100000 in
theorem m0_read (l : Launch) (dC : Nat → ClassId) (dI : Nat → Nat → Nat) (h0 h1 h2 h3 : Nat) (c1 c2 c3 : ClassId) (mem blk hdr : Nat → Int32) (ds pw rn wr cm : Int32) (x0 : Int32) (x1 : Int32) (x2 : Int32) : Met l yX0_read wsX0_read ({ frames := 3, cells := 0, slots := 0, locals := 65 }) (pcR (dC, dI) (k0 c1 c2 c3) (w0 h0 h1 h2 h3 c1 c2 c3 (mem, blk, hdr, ds, pw, rn, wr, cm)) [.ref h0, .int x0, .int x1, .int x2]) (k2_QcV (.long (f0_read mem blk hdr ds pw rn wr cm x0 x1 x2))) 0 0 (fun _ => False) := by
  refine Met.ofW (cc := cX0_read) (maxL := 5) (ret := (some .long)) (by decide) rfl ?_
  intro p e s m args below meth c s₁ B hml hv
  obtain ⟨rfl, hP, hK⟩ := hv
  have hx := B.exec
  have hb := B.bytes
  have hr := B.returns
  have hts := atoms_spec (ws := wsX0_read) B.pre
  have hown : s.vm.findClass RX0 = some m.cls := findClass_of_methodNamed B.named
  have hlocks := B.notSynchronized
  have hP : va_P (dC, dI) vwCl [(h0, .inr (0, [.ref h1, .ref h2, .ref h3, .int ds, .int pw, .int rn, .int wr, .int cm])), (h1, .inl (c1, 96, .inl mem)), (h2, .inl (c2, 200, .inl blk)), (h3, .inl (c3, 8, .inl hdr))] s.heap := hP
  have hl := lv_entry ([.ref h0, .int x0, .int x1, .int x2]) (n := 5) (Nat.le_of_ble_eq_true rfl)
  rw [lg_entry_eq]
  generalize (lg_sl ([.ref h0, .int x0, .int x1, .int x2]) ++ List.replicate (5 - (lg_sl ([.ref h0, .int x0, .int x1, .int x2])).length) Slot.unset).toArray = ls at hl ⊢
  have hl : lv_has ls 5 [(0, .ref h0), (1, .int x0), (2, .int x1), (3, .int x2)] := hl
  refine lv_aload_n hx hb dX0_read_0 rfl (lv_at hl 0 rfl) ?_
  refine lv_iload_n hx hb dX0_read_1 rfl (lv_at hl 1 rfl) ?_
  refine lv_iload_n hx hb dX0_read_2 rfl (lv_at hl 2 rfl) ?_
  refine lv_iload_n hx hb dX0_read_3 rfl (lv_at hl 3 rfl) ?_
  refine callSi (As := [.int x2]) (rest := [.int x1, .int x0, .ref h0]) (m0_isInRow l x2) ⟨hx, hb, hml, hown, hts⟩ (va_cwS 1 hts gX0_read_X0_isInRow rfl rfl rfl (by decide +kernel) ⟨Nat.le_of_ble_eq_true rfl, Nat.le_of_ble_eq_true rfl⟩) rfl hl.1 rfl (Nat.le_of_ble_eq_true rfl) dX0_read_4 ⟨Nat.zero_le _, Nat.zero_le _⟩ ?_
  refine callRi (q := (RX0, TX0, 8)) (ci := 0) (q0 := 0) (As := [.int x0, .int x1, .int (f0_isInRow x2)]) (rest := []) (m0_pageRefusal l dC dI h0 h1 h2 h3 c1 c2 c3 mem blk hdr ds pw rn wr cm x0 x1 (f0_isInRow x2) ) ⟨hx, hb, hml, hown, hts⟩ (cwV 3 hts gX0_read_X0_pageRefusal rfl rfl rfl (by decide +kernel) ⟨Nat.le_of_ble_eq_true rfl, Nat.le_of_ble_eq_true rfl⟩) hK hP rfl rfl rfl hl.1 rfl (Nat.le_of_ble_eq_true rfl) dX0_read_7 ⟨Nat.zero_le _, Nat.zero_le _⟩ ?_
  refine lv_istore (lv' := [(4, .int (f0_pageRefusal mem blk hdr ds pw rn wr cm x0 x1 (f0_isInRow x2))), (0, .ref h0), (1, .int x0), (2, .int x1), (3, .int x2)]) hx hb dX0_read_10 hl (by decide) rfl (fun ls hl => ?_)
  refine lv_iload hx hb dX0_read_12 (lv_at hl 0 rfl) ?_
  refine lv_if_eq (tgt := 25) hx hb dX0_read_14 (by decide) (fun c_14 => ?_) (fun c_14 => ?_)
  · skip
    refine lv_aload_n hx hb dX0_read_25 rfl (lv_at hl 1 rfl) ?_
    refine lv_aload_n hx hb dX0_read_26 rfl (lv_at hl 1 rfl) ?_
    refine lv_iload_n hx hb dX0_read_27 rfl (lv_at hl 2 rfl) ?_
    refine lv_iload_n hx hb dX0_read_28 rfl (lv_at hl 3 rfl) ?_
    refine callRi (q := (RX0, TX0, 8)) (ci := 0) (q0 := 0) (As := [.int x0, .int x1]) (rest := [.ref h0]) (m0_get l dC dI h0 h1 h2 h3 c1 c2 c3 mem blk hdr ds pw rn wr cm x0 x1 (sd0_read1 c_14)) ⟨hx, hb, hml, hown, hts⟩ (cwV 2 hts gX0_read_X0_get rfl rfl rfl (by decide +kernel) ⟨Nat.le_of_ble_eq_true rfl, Nat.le_of_ble_eq_true rfl⟩) hK hP rfl rfl rfl hl.1 rfl (Nat.le_of_ble_eq_true rfl) dX0_read_29 ⟨Nat.zero_le _, Nat.zero_le _⟩ ?_
    refine callSi (As := [.int (f0_get mem blk hdr ds pw rn wr cm x0 x1)]) (rest := [.ref h0]) (m0_objectOf l (f0_get mem blk hdr ds pw rn wr cm x0 x1)) ⟨hx, hb, hml, hown, hts⟩ (va_cwS 1 hts gX0_read_X0_objectOf rfl rfl rfl (by decide +kernel) ⟨Nat.le_of_ble_eq_true rfl, Nat.le_of_ble_eq_true rfl⟩) rfl hl.1 rfl (Nat.le_of_ble_eq_true rfl) dX0_read_32 ⟨Nat.zero_le _, Nat.zero_le _⟩ ?_
    refine lv_iload_n hx hb dX0_read_35 rfl (lv_at hl 4 rfl) ?_
    refine callRi (q := (RX0, TX0, 8)) (ci := 0) (q0 := 0) (As := [.int (f0_objectOf (f0_get mem blk hdr ds pw rn wr cm x0 x1)), .int x2]) (rest := []) (m0_get l dC dI h0 h1 h2 h3 c1 c2 c3 mem blk hdr ds pw rn wr cm (f0_objectOf (f0_get mem blk hdr ds pw rn wr cm x0 x1)) x2 (sd0_read2 c_14)) ⟨hx, hb, hml, hown, hts⟩ (cwV 2 hts gX0_read_X0_get rfl rfl rfl (by decide +kernel) ⟨Nat.le_of_ble_eq_true rfl, Nat.le_of_ble_eq_true rfl⟩) hK hP rfl rfl rfl hl.1 rfl (Nat.le_of_ble_eq_true rfl) dX0_read_36 ⟨Nat.zero_le _, Nat.zero_le _⟩ ?_
    refine lv_i2l (v := (f0_get mem blk hdr ds pw rn wr cm (f0_objectOf (f0_get mem blk hdr ds pw rn wr cm x0 x1)) x2).toInt64) hx hb dX0_read_39 rfl ?_
    exact retL hx hb hr hlocks (by unfold f0_read; rw [if_pos c_14]) rfl dX0_read_40
  · skip
    refine lv_ldc2 (v := 4294967296) hx hb hown (hts (.constantLong RX0 78 4294967296) (by decide +kernel)) dX0_read_17 ?_
    refine lv_iload hx hb dX0_read_20 (lv_at hl 0 rfl) ?_
    refine lv_i2l (v := (f0_pageRefusal mem blk hdr ds pw rn wr cm x0 x1 (f0_isInRow x2)).toInt64) hx hb dX0_read_22 rfl ?_
    refine lv_ladd hx hb dX0_read_23 ?_
    exact retL hx hb hr hlocks (by unfold f0_read; rw [if_neg c_14]) rfl dX0_read_24
set_option maxHeartbeats 4000000 in
set_option maxRecDepth 100000 in
theorem m0_isUp (l : Launch) (dC : Nat → ClassId) (dI : Nat → Nat → Nat) (h0 h1 h2 h3 : Nat) (c1 c2 c3 : ClassId) (mem blk hdr : Nat → Int32) (ds pw rn wr cm : Int32) (hrn : rn = 0 ∨ rn = 1) : Met l yX0_isUp wsX0_isUp ({ frames := 0, cells := 0, slots := 0, locals := 0 }) (pcR (dC, dI) (k0 c1 c2 c3) (w0 h0 h1 h2 h3 c1 c2 c3 (mem, blk, hdr, ds, pw, rn, wr, cm)) [.ref h0]) (QcRead (f0_isUp mem blk hdr ds pw rn wr cm)) 0 0 (fun _ => False) := by
  refine Met.ofW (cc := cX0_isUp) (maxL := 1) (ret := (some .boolean)) (by decide) rfl ?_
  intro p e s m args below meth c s₁ B hml hv
  obtain ⟨rfl, hP, hK⟩ := hv
  have hx := B.exec
  have hb := B.bytes
  have hr := B.returns
  have hts := atoms_spec (ws := wsX0_isUp) B.pre
  have hown : s.vm.findClass RX0 = some m.cls := findClass_of_methodNamed B.named
  have hlocks := B.notSynchronized
  have hin : ∀ w ∈ wsX00, w ∈ wsX0_isUp := fun _ h => List.mem_cons_of_mem _ (List.mem_append_right _ h)
  have hP : va_P (dC, dI) vwCl [(h0, .inr (0, [.ref h1, .ref h2, .ref h3, .int ds, .int pw, .int rn, .int wr, .int cm])), (h1, .inl (c1, 96, .inl mem)), (h2, .inl (c2, 200, .inl blk)), (h3, .inl (c3, 8, .inl hdr))] s.heap := hP
  have hl := lv_entry ([.ref h0]) (n := 1) (Nat.le_of_ble_eq_true rfl)
  rw [lg_entry_eq]
  generalize (lg_sl ([.ref h0]) ++ List.replicate (1 - (lg_sl ([.ref h0])).length) Slot.unset).toArray = ls at hl ⊢
  have hl : lv_has ls 1 [(0, .ref h0)] := hl
  refine lv_aload_n hx hb dX0_isUp_0 rfl (lv_at hl 0 rfl) ?_
  refine va_get (D := (dC, dI)) (ci := 0) (v := .int rn) (C := RX0) (T := TX0) (N := 8) hx hb hts hin hown hK hP 0 rfl rfl 5 (by decide) (hts (.fieldLink RX0 26 "CapStore" "running" "Z") (by decide +kernel)) (fun _ h9 => h9) rfl dX0_isUp_1 ?_
  exact retP hx hb hr hlocks (by rcases hrn with rfl | rfl <;> rfl) (rfl) rfl dX0_isUp_4
set_option maxHeartbeats 4000000 in
set_option maxRecDepth 100000 in
theorem m0_key (l : Launch) (dC : Nat → ClassId) (dI : Nat → Nat → Nat) (h0 h1 h2 h3 : Nat) (c1 c2 c3 : ClassId) (mem blk hdr : Nat → Int32) (ds pw rn wr cm : Int32) (x0 : Int32) (x1 : Int32) : Met l yX0_key wsX0_key ({ frames := 1, cells := 0, slots := 0, locals := 22 }) (pcR (dC, dI) (k0 c1 c2 c3) (w0 h0 h1 h2 h3 c1 c2 c3 (mem, blk, hdr, ds, pw, rn, wr, cm)) [.ref h0, .int x0, .int x1]) (QcRead (f0_key mem blk hdr ds pw rn wr cm x0 x1)) 0 0 (fun _ => False) := by
  refine Met.ofW (cc := cX0_key) (maxL := 4) (ret := (some .int)) (by decide) rfl ?_
  intro p e s m args below meth c s₁ B hml hv
  obtain ⟨rfl, hP, hK⟩ := hv
  have hx := B.exec
  have hb := B.bytes
  have hr := B.returns
  have hts := atoms_spec (ws := wsX0_key) B.pre
  have hown : s.vm.findClass RX0 = some m.cls := findClass_of_methodNamed B.named
  have hlocks := B.notSynchronized
  have hP : va_P (dC, dI) vwCl [(h0, .inr (0, [.ref h1, .ref h2, .ref h3, .int ds, .int pw, .int rn, .int wr, .int cm])), (h1, .inl (c1, 96, .inl mem)), (h2, .inl (c2, 200, .inl blk)), (h3, .inl (c3, 8, .inl hdr))] s.heap := hP
  have hl := lv_entry ([.ref h0, .int x0, .int x1]) (n := 4) (Nat.le_of_ble_eq_true rfl)
  rw [lg_entry_eq]
  generalize (lg_sl ([.ref h0, .int x0, .int x1]) ++ List.replicate (4 - (lg_sl ([.ref h0, .int x0, .int x1])).length) Slot.unset).toArray = ls at hl ⊢
  have hl : lv_has ls 4 [(0, .ref h0), (1, .int x0), (2, .int x1)] := hl
  refine w_cut 20 [.ref h0] (z0_key_20 x0 x1) (fun z ez => ?_) (fun K => ?_)
  · subst ez
    refine callRi (q := (RX0, TX0, 8)) (ci := 0) (q0 := 0) (As := [.int (z0_key_20 x0 x1)]) (rest := []) (m0_refusal l dC dI h0 h1 h2 h3 c1 c2 c3 mem blk hdr ds pw rn wr cm (z0_key_20 x0 x1) ) ⟨hx, hb, hml, hown, hts⟩ (cwV 1 hts gX0_key_X0_refusal rfl rfl rfl (by decide +kernel) ⟨Nat.le_of_ble_eq_true rfl, Nat.le_of_ble_eq_true rfl⟩) hK hP rfl rfl rfl hl.1 rfl (Nat.le_of_ble_eq_true rfl) dX0_key_20 ⟨Nat.zero_le _, Nat.zero_le _⟩ ?_
    refine lv_istore_n (lv' := [(3, .int (f0_refusal mem blk hdr ds pw rn wr cm (z0_key_20 x0 x1))), (0, .ref h0), (1, .int x0), (2, .int x1)]) hx hb dX0_key_23 rfl hl (by decide) rfl (fun ls hl => ?_)
    refine lv_iload_n hx hb dX0_key_24 rfl (lv_at hl 0 rfl) ?_
    refine lv_if_eq (tgt := 32) hx hb dX0_key_25 (by decide) (fun c_25 => ?_) (fun c_25 => ?_)
    · skip
      refine lv_aload_n hx hb dX0_key_32 rfl (lv_at hl 1 rfl) ?_
      refine lv_iload_n hx hb dX0_key_33 rfl (lv_at hl 2 rfl) ?_
      refine lv_iload_n hx hb dX0_key_34 rfl (lv_at hl 3 rfl) ?_
      refine callRi (q := (RX0, TX0, 8)) (ci := 0) (q0 := 0) (As := [.int x0, .int x1]) (rest := []) (m0_get l dC dI h0 h1 h2 h3 c1 c2 c3 mem blk hdr ds pw rn wr cm x0 x1 (sd0_key c_25)) ⟨hx, hb, hml, hown, hts⟩ (cwV 2 hts gX0_key_X0_get rfl rfl rfl (by decide +kernel) ⟨Nat.le_of_ble_eq_true rfl, Nat.le_of_ble_eq_true rfl⟩) hK hP rfl rfl rfl hl.1 rfl (Nat.le_of_ble_eq_true rfl) dX0_key_35 ⟨Nat.zero_le _, Nat.zero_le _⟩ ?_
      exact retP hx hb hr hlocks rfl (by unfold f0_key; rw [if_pos c_25]) rfl dX0_key_38
    · skip
      refine lv_iload_n hx hb dX0_key_28 rfl (lv_at hl 0 rfl) ?_
      refine lv_goto (tgt := 38) hx hb dX0_key_29 (by decide) ?_
      exact retP hx hb hr hlocks rfl (by unfold f0_key; rw [if_neg c_25]) rfl dX0_key_38
  · skip
    refine lv_aload_n hx hb dX0_key_0 rfl (lv_at hl 0 rfl) ?_
    refine lv_iload_n hx hb dX0_key_1 rfl (lv_at hl 1 rfl) ?_
    refine callSi (As := [.int x0]) (rest := [.ref h0]) (m0_isNode l x0) ⟨hx, hb, hml, hown, hts⟩ (va_cwS 1 hts gX0_key_X0_isNode rfl rfl rfl (by decide +kernel) ⟨Nat.le_of_ble_eq_true rfl, Nat.le_of_ble_eq_true rfl⟩) rfl hl.1 rfl (Nat.le_of_ble_eq_true rfl) dX0_key_2 ⟨Nat.zero_le _, Nat.zero_le _⟩ ?_
    refine lv_if_eq (tgt := 19) hx hb dX0_key_5 (by decide) (fun c_5 => ?_) (fun c_5 => ?_)
    · skip
      refine lv_iconst (v := 0) hx hb dX0_key_19 (by decide) ?_
      exact K 0 (by unfold z0_key_20; rw [if_pos c_5])
    · skip
      refine lv_iload_n hx hb dX0_key_8 rfl (lv_at hl 2 rfl) ?_
      refine callSi (As := [.int x1]) (rest := [.ref h0]) (m0_isInRow l x1) ⟨hx, hb, hml, hown, hts⟩ (va_cwS 1 hts gX0_key_X0_isInRow rfl rfl rfl (by decide +kernel) ⟨Nat.le_of_ble_eq_true rfl, Nat.le_of_ble_eq_true rfl⟩) rfl hl.1 rfl (Nat.le_of_ble_eq_true rfl) dX0_key_9 ⟨Nat.zero_le _, Nat.zero_le _⟩ ?_
      refine lv_if_eq (tgt := 19) hx hb dX0_key_12 (by decide) (fun c_12 => ?_) (fun c_12 => ?_)
      · skip
        refine lv_iconst (v := 0) hx hb dX0_key_19 (by decide) ?_
        exact K 0 (by unfold z0_key_20; rw [if_neg c_5, if_pos c_12])
      · skip
        refine lv_iconst (v := 1) hx hb dX0_key_15 (by decide) ?_
        refine lv_goto (tgt := 20) hx hb dX0_key_16 (by decide) ?_
        exact K 1 (by unfold z0_key_20; rw [if_neg c_5, if_neg c_12])
set_option maxHeartbeats 4000000 in
set_option maxRecDepth 100000 in
theorem m0_word (l : Launch) (dC : Nat → ClassId) (dI : Nat → Nat → Nat) (h0 h1 h2 h3 : Nat) (c1 c2 c3 : ClassId) (mem blk hdr : Nat → Int32) (ds pw rn wr cm : Int32) (x0 : Int32) (x1 : Int32) : Met l yX0_word wsX0_word ({ frames := 1, cells := 0, slots := 0, locals := 22 }) (pcR (dC, dI) (k0 c1 c2 c3) (w0 h0 h1 h2 h3 c1 c2 c3 (mem, blk, hdr, ds, pw, rn, wr, cm)) [.ref h0, .int x0, .int x1]) (k2_QcV (.long (f0_word mem blk hdr ds pw rn wr cm x0 x1))) 0 0 (fun _ => False) := by
  refine Met.ofW (cc := cX0_word) (maxL := 4) (ret := (some .long)) (by decide) rfl ?_
  intro p e s m args below meth c s₁ B hml hv
  obtain ⟨rfl, hP, hK⟩ := hv
  have hx := B.exec
  have hb := B.bytes
  have hr := B.returns
  have hts := atoms_spec (ws := wsX0_word) B.pre
  have hown : s.vm.findClass RX0 = some m.cls := findClass_of_methodNamed B.named
  have hlocks := B.notSynchronized
  have hP : va_P (dC, dI) vwCl [(h0, .inr (0, [.ref h1, .ref h2, .ref h3, .int ds, .int pw, .int rn, .int wr, .int cm])), (h1, .inl (c1, 96, .inl mem)), (h2, .inl (c2, 200, .inl blk)), (h3, .inl (c3, 8, .inl hdr))] s.heap := hP
  have hl := lv_entry ([.ref h0, .int x0, .int x1]) (n := 4) (Nat.le_of_ble_eq_true rfl)
  rw [lg_entry_eq]
  generalize (lg_sl ([.ref h0, .int x0, .int x1]) ++ List.replicate (4 - (lg_sl ([.ref h0, .int x0, .int x1])).length) Slot.unset).toArray = ls at hl ⊢
  have hl : lv_has ls 4 [(0, .ref h0), (1, .int x0), (2, .int x1)] := hl
  refine w_cut 20 [.ref h0] (z0_word_20 x0 x1) (fun z ez => ?_) (fun K => ?_)
  · subst ez
    refine callRi (q := (RX0, TX0, 8)) (ci := 0) (q0 := 0) (As := [.int (z0_word_20 x0 x1)]) (rest := []) (m0_refusal l dC dI h0 h1 h2 h3 c1 c2 c3 mem blk hdr ds pw rn wr cm (z0_word_20 x0 x1) ) ⟨hx, hb, hml, hown, hts⟩ (cwV 1 hts gX0_word_X0_refusal rfl rfl rfl (by decide +kernel) ⟨Nat.le_of_ble_eq_true rfl, Nat.le_of_ble_eq_true rfl⟩) hK hP rfl rfl rfl hl.1 rfl (Nat.le_of_ble_eq_true rfl) dX0_word_20 ⟨Nat.zero_le _, Nat.zero_le _⟩ ?_
    refine lv_istore_n (lv' := [(3, .int (f0_refusal mem blk hdr ds pw rn wr cm (z0_word_20 x0 x1))), (0, .ref h0), (1, .int x0), (2, .int x1)]) hx hb dX0_word_23 rfl hl (by decide) rfl (fun ls hl => ?_)
    refine lv_iload_n hx hb dX0_word_24 rfl (lv_at hl 0 rfl) ?_
    refine lv_if_eq (tgt := 37) hx hb dX0_word_25 (by decide) (fun c_25 => ?_) (fun c_25 => ?_)
    · skip
      refine lv_aload_n hx hb dX0_word_37 rfl (lv_at hl 1 rfl) ?_
      refine lv_iload_n hx hb dX0_word_38 rfl (lv_at hl 2 rfl) ?_
      refine lv_iload_n hx hb dX0_word_39 rfl (lv_at hl 3 rfl) ?_
      refine callRi (q := (RX0, TX0, 8)) (ci := 0) (q0 := 0) (As := [.int x0, .int x1]) (rest := []) (m0_get l dC dI h0 h1 h2 h3 c1 c2 c3 mem blk hdr ds pw rn wr cm x0 x1 (sd0_word c_25)) ⟨hx, hb, hml, hown, hts⟩ (cwV 2 hts gX0_word_X0_get rfl rfl rfl (by decide +kernel) ⟨Nat.le_of_ble_eq_true rfl, Nat.le_of_ble_eq_true rfl⟩) hK hP rfl rfl rfl hl.1 rfl (Nat.le_of_ble_eq_true rfl) dX0_word_40 ⟨Nat.zero_le _, Nat.zero_le _⟩ ?_
      refine lv_i2l (v := (f0_get mem blk hdr ds pw rn wr cm x0 x1).toInt64) hx hb dX0_word_43 rfl ?_
      exact retL hx hb hr hlocks (by unfold f0_word; rw [if_pos c_25]) rfl dX0_word_44
    · skip
      refine lv_ldc2 (v := 4294967296) hx hb hown (hts (.constantLong RX0 78 4294967296) (by decide +kernel)) dX0_word_28 ?_
      refine lv_iload_n hx hb dX0_word_31 rfl (lv_at hl 0 rfl) ?_
      refine lv_i2l (v := (f0_refusal mem blk hdr ds pw rn wr cm (z0_word_20 x0 x1)).toInt64) hx hb dX0_word_32 rfl ?_
      refine lv_ladd hx hb dX0_word_33 ?_
      refine lv_goto (tgt := 44) hx hb dX0_word_34 (by decide) ?_
      exact retL hx hb hr hlocks (by unfold f0_word; rw [if_neg c_25]) rfl dX0_word_44
  · skip
    refine lv_aload_n hx hb dX0_word_0 rfl (lv_at hl 0 rfl) ?_
    refine lv_iload_n hx hb dX0_word_1 rfl (lv_at hl 1 rfl) ?_
    refine callSi (As := [.int x0]) (rest := [.ref h0]) (m0_isPage l x0) ⟨hx, hb, hml, hown, hts⟩ (va_cwS 1 hts gX0_word_X0_isPage rfl rfl rfl (by decide +kernel) ⟨Nat.le_of_ble_eq_true rfl, Nat.le_of_ble_eq_true rfl⟩) rfl hl.1 rfl (Nat.le_of_ble_eq_true rfl) dX0_word_2 ⟨Nat.zero_le _, Nat.zero_le _⟩ ?_
    refine lv_if_eq (tgt := 19) hx hb dX0_word_5 (by decide) (fun c_5 => ?_) (fun c_5 => ?_)
    · skip
      refine lv_iconst (v := 0) hx hb dX0_word_19 (by decide) ?_
      exact K 0 (by unfold z0_word_20; rw [if_pos c_5])
    · skip
      refine lv_iload_n hx hb dX0_word_8 rfl (lv_at hl 2 rfl) ?_
      refine callSi (As := [.int x1]) (rest := [.ref h0]) (m0_isInRow l x1) ⟨hx, hb, hml, hown, hts⟩ (va_cwS 1 hts gX0_word_X0_isInRow rfl rfl rfl (by decide +kernel) ⟨Nat.le_of_ble_eq_true rfl, Nat.le_of_ble_eq_true rfl⟩) rfl hl.1 rfl (Nat.le_of_ble_eq_true rfl) dX0_word_9 ⟨Nat.zero_le _, Nat.zero_le _⟩ ?_
      refine lv_if_eq (tgt := 19) hx hb dX0_word_12 (by decide) (fun c_12 => ?_) (fun c_12 => ?_)
      · skip
        refine lv_iconst (v := 0) hx hb dX0_word_19 (by decide) ?_
        exact K 0 (by unfold z0_word_20; rw [if_neg c_5, if_pos c_12])
      · skip
        refine lv_iconst (v := 1) hx hb dX0_word_15 (by decide) ?_
        refine lv_goto (tgt := 20) hx hb dX0_word_16 (by decide) ?_
        exact K 1 (by unfold z0_word_20; rw [if_neg c_5, if_neg c_12])
set_option maxHeartbeats 4000000 in
set_option maxRecDepth 100000 in
theorem m0_dirty (l : Launch) (dC : Nat → ClassId) (dI : Nat → Nat → Nat) (h0 h1 h2 h3 : Nat) (c1 c2 c3 : ClassId) (mem blk hdr : Nat → Int32) (ds pw rn wr cm : Int32) : Met l yX0_dirty wsX0_dirty ({ frames := 0, cells := 0, slots := 0, locals := 0 }) (pcR (dC, dI) (k0 c1 c2 c3) (w0 h0 h1 h2 h3 c1 c2 c3 (mem, blk, hdr, ds, pw, rn, wr, cm)) [.ref h0]) (QcRead (f0_dirty mem blk hdr ds pw rn wr cm)) 0 0 (fun _ => False) := by
  refine Met.ofW (cc := cX0_dirty) (maxL := 1) (ret := (some .int)) (by decide) rfl ?_
  intro p e s m args below meth c s₁ B hml hv
  obtain ⟨rfl, hP, hK⟩ := hv
  have hx := B.exec
  have hb := B.bytes
  have hr := B.returns
  have hts := atoms_spec (ws := wsX0_dirty) B.pre
  have hown : s.vm.findClass RX0 = some m.cls := findClass_of_methodNamed B.named
  have hlocks := B.notSynchronized
  have hin : ∀ w ∈ wsX00, w ∈ wsX0_dirty := fun _ h => List.mem_cons_of_mem _ (List.mem_append_right _ h)
  have hP : va_P (dC, dI) vwCl [(h0, .inr (0, [.ref h1, .ref h2, .ref h3, .int ds, .int pw, .int rn, .int wr, .int cm])), (h1, .inl (c1, 96, .inl mem)), (h2, .inl (c2, 200, .inl blk)), (h3, .inl (c3, 8, .inl hdr))] s.heap := hP
  have hl := lv_entry ([.ref h0]) (n := 1) (Nat.le_of_ble_eq_true rfl)
  rw [lg_entry_eq]
  generalize (lg_sl ([.ref h0]) ++ List.replicate (1 - (lg_sl ([.ref h0])).length) Slot.unset).toArray = ls at hl ⊢
  have hl : lv_has ls 1 [(0, .ref h0)] := hl
  refine lv_aload_n hx hb dX0_dirty_0 rfl (lv_at hl 0 rfl) ?_
  refine va_get (D := (dC, dI)) (ci := 0) (v := .int rn) (C := RX0) (T := TX0) (N := 8) hx hb hts hin hown hK hP 0 rfl rfl 5 (by decide) (hts (.fieldLink RX0 26 "CapStore" "running" "Z") (by decide +kernel)) (fun _ h9 => h9) rfl dX0_dirty_1 ?_
  refine lv_if_eq (tgt := 14) hx hb dX0_dirty_4 (by decide) (fun c_4 => ?_) (fun c_4 => ?_)
  · skip
    refine lv_iconst (v := (-1)) hx hb dX0_dirty_14 (by decide) ?_
    exact retP hx hb hr hlocks rfl (by unfold f0_dirty; rw [if_pos c_4]) rfl dX0_dirty_15
  · skip
    refine lv_aload_n hx hb dX0_dirty_7 rfl (lv_at hl 0 rfl) ?_
    refine va_get (D := (dC, dI)) (ci := 0) (v := .int ds) (C := RX0) (T := TX0) (N := 8) hx hb hts hin hown hK hP 0 rfl rfl 3 (by decide) (hts (.fieldLink RX0 19 "CapStore" "dirtySet" "I") (by decide +kernel)) (fun _ h9 => h9) rfl dX0_dirty_8 ?_
    refine lv_goto (tgt := 15) hx hb dX0_dirty_11 (by decide) ?_
    exact retP hx hb hr hlocks rfl (by unfold f0_dirty; rw [if_neg c_4]) rfl dX0_dirty_15
set_option maxHeartbeats 4000000 in
set_option maxRecDepth 100000 in
theorem m0_writes (l : Launch) (dC : Nat → ClassId) (dI : Nat → Nat → Nat) (h0 h1 h2 h3 : Nat) (c1 c2 c3 : ClassId) (mem blk hdr : Nat → Int32) (ds pw rn wr cm : Int32) : Met l yX0_writes wsX0_writes ({ frames := 0, cells := 0, slots := 0, locals := 0 }) (pcR (dC, dI) (k0 c1 c2 c3) (w0 h0 h1 h2 h3 c1 c2 c3 (mem, blk, hdr, ds, pw, rn, wr, cm)) [.ref h0]) (QcRead (f0_writes mem blk hdr ds pw rn wr cm)) 0 0 (fun _ => False) := by
  refine Met.ofW (cc := cX0_writes) (maxL := 1) (ret := (some .int)) (by decide) rfl ?_
  intro p e s m args below meth c s₁ B hml hv
  obtain ⟨rfl, hP, hK⟩ := hv
  have hx := B.exec
  have hb := B.bytes
  have hr := B.returns
  have hts := atoms_spec (ws := wsX0_writes) B.pre
  have hown : s.vm.findClass RX0 = some m.cls := findClass_of_methodNamed B.named
  have hlocks := B.notSynchronized
  have hin : ∀ w ∈ wsX00, w ∈ wsX0_writes := fun _ h => List.mem_cons_of_mem _ (List.mem_append_right _ h)
  have hP : va_P (dC, dI) vwCl [(h0, .inr (0, [.ref h1, .ref h2, .ref h3, .int ds, .int pw, .int rn, .int wr, .int cm])), (h1, .inl (c1, 96, .inl mem)), (h2, .inl (c2, 200, .inl blk)), (h3, .inl (c3, 8, .inl hdr))] s.heap := hP
  have hl := lv_entry ([.ref h0]) (n := 1) (Nat.le_of_ble_eq_true rfl)
  rw [lg_entry_eq]
  generalize (lg_sl ([.ref h0]) ++ List.replicate (1 - (lg_sl ([.ref h0])).length) Slot.unset).toArray = ls at hl ⊢
  have hl : lv_has ls 1 [(0, .ref h0)] := hl
  refine lv_aload_n hx hb dX0_writes_0 rfl (lv_at hl 0 rfl) ?_
  refine va_get (D := (dC, dI)) (ci := 0) (v := .int wr) (C := RX0) (T := TX0) (N := 8) hx hb hts hin hown hK hP 0 rfl rfl 6 (by decide) (hts (.fieldLink RX0 30 "CapStore" "written" "I") (by decide +kernel)) (fun _ h9 => h9) rfl dX0_writes_1 ?_
  exact retP hx hb hr hlocks rfl (rfl) rfl dX0_writes_4
set_option maxHeartbeats 4000000 in
set_option maxRecDepth 100000 in
theorem m0_commits (l : Launch) (dC : Nat → ClassId) (dI : Nat → Nat → Nat) (h0 h1 h2 h3 : Nat) (c1 c2 c3 : ClassId) (mem blk hdr : Nat → Int32) (ds pw rn wr cm : Int32) : Met l yX0_commits wsX0_commits ({ frames := 0, cells := 0, slots := 0, locals := 0 }) (pcR (dC, dI) (k0 c1 c2 c3) (w0 h0 h1 h2 h3 c1 c2 c3 (mem, blk, hdr, ds, pw, rn, wr, cm)) [.ref h0]) (QcRead (f0_commits mem blk hdr ds pw rn wr cm)) 0 0 (fun _ => False) := by
  refine Met.ofW (cc := cX0_commits) (maxL := 1) (ret := (some .int)) (by decide) rfl ?_
  intro p e s m args below meth c s₁ B hml hv
  obtain ⟨rfl, hP, hK⟩ := hv
  have hx := B.exec
  have hb := B.bytes
  have hr := B.returns
  have hts := atoms_spec (ws := wsX0_commits) B.pre
  have hown : s.vm.findClass RX0 = some m.cls := findClass_of_methodNamed B.named
  have hlocks := B.notSynchronized
  have hin : ∀ w ∈ wsX00, w ∈ wsX0_commits := fun _ h => List.mem_cons_of_mem _ (List.mem_append_right _ h)
  have hP : va_P (dC, dI) vwCl [(h0, .inr (0, [.ref h1, .ref h2, .ref h3, .int ds, .int pw, .int rn, .int wr, .int cm])), (h1, .inl (c1, 96, .inl mem)), (h2, .inl (c2, 200, .inl blk)), (h3, .inl (c3, 8, .inl hdr))] s.heap := hP
  have hl := lv_entry ([.ref h0]) (n := 1) (Nat.le_of_ble_eq_true rfl)
  rw [lg_entry_eq]
  generalize (lg_sl ([.ref h0]) ++ List.replicate (1 - (lg_sl ([.ref h0])).length) Slot.unset).toArray = ls at hl ⊢
  have hl : lv_has ls 1 [(0, .ref h0)] := hl
  refine lv_aload_n hx hb dX0_commits_0 rfl (lv_at hl 0 rfl) ?_
  refine va_get (D := (dC, dI)) (ci := 0) (v := .int cm) (C := RX0) (T := TX0) (N := 8) hx hb hts hin hown hK hP 0 rfl rfl 7 (by decide) (hts (.fieldLink RX0 33 "CapStore" "committed" "I") (by decide +kernel)) (fun _ h9 => h9) rfl dX0_commits_1 ?_
  exact retP hx hb hr hlocks rfl (rfl) rfl dX0_commits_4
set_option maxHeartbeats 4000000 in
set_option maxRecDepth 100000 in
theorem m0_disk (l : Launch) (dC : Nat → ClassId) (dI : Nat → Nat → Nat) (h0 h1 h2 h3 : Nat) (c1 c2 c3 : ClassId) (mem blk hdr : Nat → Int32) (ds pw rn wr cm : Int32) (x0 : Int32) (x1 : Int32) : Met l yX0_disk wsX0_disk ({ frames := 1, cells := 0, slots := 0, locals := 20 }) (pcR (dC, dI) (k0 c1 c2 c3) (w0 h0 h1 h2 h3 c1 c2 c3 (mem, blk, hdr, ds, pw, rn, wr, cm)) [.ref h0, .int x0, .int x1]) (QcRead (f0_disk mem blk hdr ds pw rn wr cm x0 x1)) 0 0 (fun _ => False) := by
  refine Met.ofW (cc := cX0_disk) (maxL := 3) (ret := (some .int)) (by decide) rfl ?_
  intro p e s m args below meth c s₁ B hml hv
  obtain ⟨rfl, hP, hK⟩ := hv
  have hx := B.exec
  have hb := B.bytes
  have hr := B.returns
  have hts := atoms_spec (ws := wsX0_disk) B.pre
  have hown : s.vm.findClass RX0 = some m.cls := findClass_of_methodNamed B.named
  have hlocks := B.notSynchronized
  have hin : ∀ w ∈ wsX00, w ∈ wsX0_disk := fun _ h => List.mem_cons_of_mem _ (List.mem_append_right _ h)
  have hP : va_P (dC, dI) vwCl [(h0, .inr (0, [.ref h1, .ref h2, .ref h3, .int ds, .int pw, .int rn, .int wr, .int cm])), (h1, .inl (c1, 96, .inl mem)), (h2, .inl (c2, 200, .inl blk)), (h3, .inl (c3, 8, .inl hdr))] s.heap := hP
  have hl := lv_entry ([.ref h0, .int x0, .int x1]) (n := 3) (Nat.le_of_ble_eq_true rfl)
  rw [lg_entry_eq]
  generalize (lg_sl ([.ref h0, .int x0, .int x1]) ++ List.replicate (3 - (lg_sl ([.ref h0, .int x0, .int x1])).length) Slot.unset).toArray = ls at hl ⊢
  have hl : lv_has ls 3 [(0, .ref h0), (1, .int x0), (2, .int x1)] := hl
  refine lv_iload_n hx hb dX0_disk_0 rfl (lv_at hl 1 rfl) ?_
  refine callSi (As := [.int x0]) (rest := []) (m0_isBlock l x0) ⟨hx, hb, hml, hown, hts⟩ (va_cwS 1 hts gX0_disk_X0_isBlock rfl rfl rfl (by decide +kernel) ⟨Nat.le_of_ble_eq_true rfl, Nat.le_of_ble_eq_true rfl⟩) rfl hl.1 rfl (Nat.le_of_ble_eq_true rfl) dX0_disk_1 ⟨Nat.zero_le _, Nat.zero_le _⟩ ?_
  refine lv_if_eq (tgt := 28) hx hb dX0_disk_4 (by decide) (fun c_4 => ?_) (fun c_4 => ?_)
  · skip
    refine lv_iconst (v := 0) hx hb dX0_disk_28 (by decide) ?_
    exact retP hx hb hr hlocks rfl (by unfold f0_disk; rw [if_pos c_4]) rfl dX0_disk_29
  · skip
    refine lv_iload_n hx hb dX0_disk_7 rfl (lv_at hl 2 rfl) ?_
    refine callSi (As := [.int x1]) (rest := []) (m0_isInRow l x1) ⟨hx, hb, hml, hown, hts⟩ (va_cwS 1 hts gX0_disk_X0_isInRow rfl rfl rfl (by decide +kernel) ⟨Nat.le_of_ble_eq_true rfl, Nat.le_of_ble_eq_true rfl⟩) rfl hl.1 rfl (Nat.le_of_ble_eq_true rfl) dX0_disk_8 ⟨Nat.zero_le _, Nat.zero_le _⟩ ?_
    refine lv_if_eq (tgt := 28) hx hb dX0_disk_11 (by decide) (fun c_11 => ?_) (fun c_11 => ?_)
    · skip
      refine lv_iconst (v := 0) hx hb dX0_disk_28 (by decide) ?_
      exact retP hx hb hr hlocks rfl (by unfold f0_disk; rw [if_neg c_4, if_pos c_11]) rfl dX0_disk_29
    · skip
      refine lv_aload_n hx hb dX0_disk_14 rfl (lv_at hl 0 rfl) ?_
      refine va_get (D := (dC, dI)) (ci := 0) (v := .ref h2) (C := RX0) (T := TX0) (N := 8) hx hb hts hin hown hK hP 0 rfl rfl 1 (by decide) (hts (.fieldLink RX0 13 "CapStore" "blocks" "[I") (by decide +kernel)) (fun _ h9 => h9) rfl dX0_disk_15 ?_
      refine lv_iload_n hx hb dX0_disk_18 rfl (lv_at hl 1 rfl) ?_
      refine lv_bipush (v := 8) hx hb dX0_disk_19 (by decide) ?_
      refine lv_imul hx hb dX0_disk_21 ?_
      refine lv_iload_n hx hb dX0_disk_22 rfl (lv_at hl 2 rfl) ?_
      refine lv_iadd hx hb dX0_disk_23 ?_
      refine va_iald hx hb hK hP 2 1 rfl rfl (sd0_disk c_4 c_11) dX0_disk_24 ?_
      refine lv_goto (tgt := 29) hx hb dX0_disk_25 (by decide) ?_
      exact retP hx hb hr hlocks rfl (by unfold f0_disk; rw [if_neg c_4, if_neg c_11]) rfl dX0_disk_29
set_option maxHeartbeats 4000000 in
set_option maxRecDepth 100000 in
theorem m0_put (l : Launch) (dC : Nat → ClassId) (dI : Nat → Nat → Nat) (h0 h1 h2 h3 : Nat) (c1 c2 c3 : ClassId) (sz : Nat) (mem blk hdr : Nat → Int32) (ds pw rn wr cm : Int32) (x0 : Int32) (x1 : Int32) (x2 : Int32) (hi : vp_in (x0 * 8 + x1) 96) : Met l yX0_put wsX0_put ({ frames := 0, cells := 0, slots := 0, locals := 0 }) (pcW (dC, dI) (k0 c1 c2 c3) (w0 h0 h1 h2 h3 c1 c2 c3 (mem, blk, hdr, ds, pw, rn, wr, cm)) sz [.ref h0, .int x0, .int x1, .int x2]) (qcWv (dC, dI) (k0 c1 c2 c3) (w0 h0 h1 h2 h3 c1 c2 c3 (mem, blk, hdr, ds, pw, rn, wr, cm)) (w0 h0 h1 h2 h3 c1 c2 c3 (F0_put mem blk hdr ds pw rn wr cm x0 x1 x2)) sz) 0 0 (va_A (w0 h0 h1 h2 h3 c1 c2 c3 (mem, blk, hdr, ds, pw, rn, wr, cm)) sz) := by
  refine Met.ofW (cc := cX0_put) (maxL := 4) (ret := none) (by decide) rfl ?_
  intro p e s m args below meth c s₁ B hml hv
  obtain ⟨rfl, hsz, hP, hK, hD0⟩ := hv
  have hx := B.exec
  have hb := B.bytes
  have hr := B.returns
  have hts := atoms_spec (ws := wsX0_put) B.pre
  have hown : s.vm.findClass RX0 = some m.cls := findClass_of_methodNamed B.named
  have hlocks := B.notSynchronized
  have hin : ∀ w ∈ wsX00, w ∈ wsX0_put := fun _ h => List.mem_cons_of_mem _ (List.mem_append_right _ h)
  have hP : va_P (dC, dI) vwCl [(h0, .inr (0, [.ref h1, .ref h2, .ref h3, .int ds, .int pw, .int rn, .int wr, .int cm])), (h1, .inl (c1, 96, .inl mem)), (h2, .inl (c2, 200, .inl blk)), (h3, .inl (c3, 8, .inl hdr))] s.heap := hP
  subst hsz
  have hD := hD0.self (sz := s.heap.size)
  have hA : ∀ q : Nat, s.heap.size ≤ q → (va_A (w0 h0 h1 h2 h3 c1 c2 c3 (mem, blk, hdr, ds, pw, rn, wr, cm)) s.heap.size) q := fun q h => Or.inr h
  have hS : va_S (va_A (w0 h0 h1 h2 h3 c1 c2 c3 (mem, blk, hdr, ds, pw, rn, wr, cm)) s.heap.size) s.heap s.heap [] := va_S.rf
  have hl := lv_entry ([.ref h0, .int x0, .int x1, .int x2]) (n := 4) (Nat.le_of_ble_eq_true rfl)
  rw [lg_entry_eq]
  generalize (lg_sl ([.ref h0, .int x0, .int x1, .int x2]) ++ List.replicate (4 - (lg_sl ([.ref h0, .int x0, .int x1, .int x2])).length) Slot.unset).toArray = ls at hl ⊢
  have hl : lv_has ls 4 [(0, .ref h0), (1, .int x0), (2, .int x1), (3, .int x2)] := hl
  refine lv_aload_n hx hb dX0_put_0 rfl (lv_at hl 0 rfl) ?_
  refine va_get (D := (dC, dI)) (ci := 0) (v := .ref h1) (C := RX0) (T := TX0) (N := 8) hx hb hts hin hown hK hP 0 rfl rfl 0 (by decide) (hts (.fieldLink RX0 9 "CapStore" "memory" "[I") (by decide +kernel)) (fun _ h9 => h9) rfl dX0_put_1 ?_
  refine lv_iload_n hx hb dX0_put_4 rfl (lv_at hl 1 rfl) ?_
  refine lv_bipush (v := 8) hx hb dX0_put_5 (by decide) ?_
  refine lv_imul hx hb dX0_put_7 ?_
  refine lv_iload_n hx hb dX0_put_8 rfl (lv_at hl 2 rfl) ?_
  refine lv_iadd hx hb dX0_put_9 ?_
  refine lv_iload_n hx hb dX0_put_10 rfl (lv_at hl 3 rfl) ?_
  refine va_iast hx hb hK hP hD hS 1 0 rfl rfl hi dX0_put_11 (fun H locs hP hD hS => ?_)
  have hP : va_P (dC, dI) vwCl [(h0, .inr (0, [.ref h1, .ref h2, .ref h3, .int ds, .int pw, .int rn, .int wr, .int cm])), (h1, .inl (c1, 96, .inl (upd mem ((x0 * 8) + x1).toNatClampNeg x2))), (h2, .inl (c2, 200, .inl blk)), (h3, .inl (c3, 8, .inl hdr))] _ := hP
  have hD : va_D _ [(h0, .inr (0, [.ref h1, .ref h2, .ref h3, .int ds, .int pw, .int rn, .int wr, .int cm])), (h1, .inl (c1, 96, .inl (upd mem ((x0 * 8) + x1).toNatClampNeg x2))), (h2, .inl (c2, 200, .inl blk)), (h3, .inl (c3, 8, .inl hdr))] := hD
  refine lv_aload_n hx hb dX0_put_12 rfl (lv_at hl 0 rfl) ?_
  refine lv_dup hx hb dX0_put_13 rfl ?_
  refine va_get (D := (dC, dI)) (ci := 0) (v := .int ds) (C := RX0) (T := TX0) (N := 8) hx hb hts hin hown hK hP 0 rfl rfl 3 (by decide) (hts (.fieldLink RX0 19 "CapStore" "dirtySet" "I") (by decide +kernel)) (fun _ h9 => h9) rfl dX0_put_14 ?_
  refine lv_iconst (v := 1) hx hb dX0_put_17 (by decide) ?_
  refine lv_iload_n hx hb dX0_put_18 rfl (lv_at hl 1 rfl) ?_
  refine lv_ishl hx hb dX0_put_19 ?_
  refine lv_ior hx hb dX0_put_20 ?_
  refine va_put (D := (dC, dI)) (ci := 0) (v := .int (ds ||| ((1 : Int32) <<< (x0 &&& 31)))) (ty := .int) (C := RX0) (T := TX0) (N := 8) hx hb hts hin tyX0 tyX0_ok nmX0 hown hK hP hD hS 0 rfl rfl 3 (by decide) (hts (.fieldLink RX0 19 "CapStore" "dirtySet" "I") (by decide +kernel)) (fun _ h9 => h9) rfl (by decide +kernel) rfl rfl (Nat.le_of_ble_eq_true rfl) dX0_put_21 (fun H locs hP hD hS => ?_)
  have hP : va_P (dC, dI) vwCl [(h0, .inr (0, [.ref h1, .ref h2, .ref h3, .int (ds ||| ((1 : Int32) <<< (x0 &&& 31))), .int pw, .int rn, .int wr, .int cm])), (h1, .inl (c1, 96, .inl (upd mem ((x0 * 8) + x1).toNatClampNeg x2))), (h2, .inl (c2, 200, .inl blk)), (h3, .inl (c3, 8, .inl hdr))] _ := hP
  have hD : va_D _ [(h0, .inr (0, [.ref h1, .ref h2, .ref h3, .int (ds ||| ((1 : Int32) <<< (x0 &&& 31))), .int pw, .int rn, .int wr, .int cm])), (h1, .inl (c1, 96, .inl (upd mem ((x0 * 8) + x1).toNatClampNeg x2))), (h2, .inl (c2, 200, .inl blk)), (h3, .inl (c3, 8, .inl hdr))] := hD
  have e9 : F0_put mem blk hdr ds pw rn wr cm x0 x1 x2 = ((upd mem ((x0 * 8) + x1).toNatClampNeg x2), blk, hdr, (ds ||| ((1 : Int32) <<< (x0 &&& 31))), pw, rn, wr, cm) := rfl
  rw [e9]
  exact retWv hx hb hr hlocks rfl hK hP hD hS dX0_put_24
set_option maxHeartbeats 4000000 in
set_option maxRecDepth 100000 in
theorem m0_place (l : Launch) (dC : Nat → ClassId) (dI : Nat → Nat → Nat) (h0 h1 h2 h3 : Nat) (c1 c2 c3 : ClassId) (sz : Nat) (mem blk hdr : Nat → Int32) (ds pw rn wr cm : Int32) (x0 : Int32) (x1 : Int32) (x2 : Int32) : Met l yX0_place wsX0_place ({ frames := 1, cells := 0, slots := 0, locals := 23 }) (pcW (dC, dI) (k0 c1 c2 c3) (w0 h0 h1 h2 h3 c1 c2 c3 (mem, blk, hdr, ds, pw, rn, wr, cm)) sz [.ref h0, .int x0, .int x1, .int x2]) (qcWi (dC, dI) (k0 c1 c2 c3) (w0 h0 h1 h2 h3 c1 c2 c3 (mem, blk, hdr, ds, pw, rn, wr, cm)) (w0 h0 h1 h2 h3 c1 c2 c3 (F0_place mem blk hdr ds pw rn wr cm x0 x1 x2).2) sz (F0_place mem blk hdr ds pw rn wr cm x0 x1 x2).1) 0 0 (va_A (w0 h0 h1 h2 h3 c1 c2 c3 (mem, blk, hdr, ds, pw, rn, wr, cm)) sz) := by
  refine Met.ofW (cc := cX0_place) (maxL := 5) (ret := (some .int)) (by decide) rfl ?_
  intro p e s m args below meth c s₁ B hml hv
  obtain ⟨rfl, hsz, hP, hK, hD0⟩ := hv
  have hx := B.exec
  have hb := B.bytes
  have hr := B.returns
  have hts := atoms_spec (ws := wsX0_place) B.pre
  have hown : s.vm.findClass RX0 = some m.cls := findClass_of_methodNamed B.named
  have hlocks := B.notSynchronized
  have hP : va_P (dC, dI) vwCl [(h0, .inr (0, [.ref h1, .ref h2, .ref h3, .int ds, .int pw, .int rn, .int wr, .int cm])), (h1, .inl (c1, 96, .inl mem)), (h2, .inl (c2, 200, .inl blk)), (h3, .inl (c3, 8, .inl hdr))] s.heap := hP
  subst hsz
  have hD := hD0.self (sz := s.heap.size)
  have hA : ∀ q : Nat, s.heap.size ≤ q → (va_A (w0 h0 h1 h2 h3 c1 c2 c3 (mem, blk, hdr, ds, pw, rn, wr, cm)) s.heap.size) q := fun q h => Or.inr h
  have hS : va_S (va_A (w0 h0 h1 h2 h3 c1 c2 c3 (mem, blk, hdr, ds, pw, rn, wr, cm)) s.heap.size) s.heap s.heap [] := va_S.rf
  have hl := lv_entry ([.ref h0, .int x0, .int x1, .int x2]) (n := 5) (Nat.le_of_ble_eq_true rfl)
  rw [lg_entry_eq]
  generalize (lg_sl ([.ref h0, .int x0, .int x1, .int x2]) ++ List.replicate (5 - (lg_sl ([.ref h0, .int x0, .int x1, .int x2])).length) Slot.unset).toArray = ls at hl ⊢
  have hl : lv_has ls 5 [(0, .ref h0), (1, .int x0), (2, .int x1), (3, .int x2)] := hl
  refine w_cut 27 [.ref h0] (z0_place_27 x0 x1 x2) (fun z ez => ?_) (fun K => ?_)
  · subst ez
    refine callRi (q := (RX0, TX0, 8)) (ci := 0) (q0 := 0) (As := [.int (z0_place_27 x0 x1 x2)]) (rest := []) (m0_refusal l dC dI h0 h1 h2 h3 c1 c2 c3 mem blk hdr ds pw rn wr cm (z0_place_27 x0 x1 x2) ) ⟨hx, hb, hml, hown, hts⟩ (cwV 1 hts gX0_place_X0_refusal rfl rfl rfl (by decide +kernel) ⟨Nat.le_of_ble_eq_true rfl, Nat.le_of_ble_eq_true rfl⟩) hK hP rfl rfl rfl hl.1 rfl (Nat.le_of_ble_eq_true rfl) dX0_place_27 ⟨Nat.zero_le _, Nat.zero_le _⟩ ?_
    refine lv_istore (lv' := [(4, .int (f0_refusal mem blk hdr ds pw rn wr cm (z0_place_27 x0 x1 x2))), (0, .ref h0), (1, .int x0), (2, .int x1), (3, .int x2)]) hx hb dX0_place_30 hl (by decide) rfl (fun ls hl => ?_)
    refine lv_iload hx hb dX0_place_32 (lv_at hl 0 rfl) ?_
    refine lv_if_eq (tgt := 40) hx hb dX0_place_34 (by decide) (fun c_34 => ?_) (fun c_34 => ?_)
    · skip
      refine lv_aload_n hx hb dX0_place_40 rfl (lv_at hl 1 rfl) ?_
      refine lv_iload_n hx hb dX0_place_41 rfl (lv_at hl 2 rfl) ?_
      refine lv_iload_n hx hb dX0_place_42 rfl (lv_at hl 3 rfl) ?_
      refine lv_iload_n hx hb dX0_place_43 rfl (lv_at hl 4 rfl) ?_
      refine callWv (q := (RX0, TX0, 8)) (ci := 0) (q0 := 0) (As := [.int x0, .int x1, .int x2]) (rest := []) (wr := []) (m0_put l dC dI h0 h1 h2 h3 c1 c2 c3 _ mem blk hdr ds pw rn wr cm x0 x1 x2 (sd0_place c_34)) ⟨hx, hb, hml, hown, hts⟩ (cwV 3 hts gX0_place_X0_put rfl rfl rfl (by decide +kernel) ⟨Nat.le_of_ble_eq_true rfl, Nat.le_of_ble_eq_true rfl⟩) hK hP hD hS hA rfl rfl [0, 1, 2, 3] [] rfl rfl rfl (by decide) (by decide) (by decide) rfl hl.1 rfl (Nat.le_of_ble_eq_true rfl) dX0_place_44 ⟨Nat.zero_le _, Nat.zero_le _⟩ (fun H locs hP hD hS => ?_)
      have hP : va_P (dC, dI) vwCl [(h0, .inr (0, [.ref h1, .ref h2, .ref h3, .int (ds ||| ((1 : Int32) <<< (x0 &&& 31))), .int pw, .int rn, .int wr, .int cm])), (h1, .inl (c1, 96, .inl (upd mem (x0 * 8 + x1).toNatClampNeg x2))), (h2, .inl (c2, 200, .inl blk)), (h3, .inl (c3, 8, .inl hdr))] _ := hP
      have hD : va_D _ [(h0, .inr (0, [.ref h1, .ref h2, .ref h3, .int (ds ||| ((1 : Int32) <<< (x0 &&& 31))), .int pw, .int rn, .int wr, .int cm])), (h1, .inl (c1, 96, .inl (upd mem (x0 * 8 + x1).toNatClampNeg x2))), (h2, .inl (c2, 200, .inl blk)), (h3, .inl (c3, 8, .inl hdr))] := hD
      refine lv_iconst (v := 0) hx hb dX0_place_47 (by decide) ?_
      have e9 : F0_place mem blk hdr ds pw rn wr cm x0 x1 x2 = (0, (upd mem (x0 * 8 + x1).toNatClampNeg x2), blk, hdr, (ds ||| ((1 : Int32) <<< (x0 &&& 31))), pw, rn, wr, cm) := by unfold F0_place; rw [if_pos c_34]
      rw [e9]
      exact retWi hx hb hr hlocks rfl rfl rfl hK hP hD hS dX0_place_48
    · skip
      refine lv_iload hx hb dX0_place_37 (lv_at hl 0 rfl) ?_
      have e9 : F0_place mem blk hdr ds pw rn wr cm x0 x1 x2 = ((f0_refusal mem blk hdr ds pw rn wr cm (z0_place_27 x0 x1 x2)), mem, blk, hdr, ds, pw, rn, wr, cm) := by unfold F0_place; rw [if_neg c_34]
      rw [e9]
      exact retWi hx hb hr hlocks rfl rfl rfl hK hP hD hS dX0_place_39
  · skip
    refine lv_aload_n hx hb dX0_place_0 rfl (lv_at hl 0 rfl) ?_
    refine lv_iload_n hx hb dX0_place_1 rfl (lv_at hl 1 rfl) ?_
    refine callSi (As := [.int x0]) (rest := [.ref h0]) (m0_isNode l x0) ⟨hx, hb, hml, hown, hts⟩ (va_cwS 1 hts gX0_place_X0_isNode rfl rfl rfl (by decide +kernel) ⟨Nat.le_of_ble_eq_true rfl, Nat.le_of_ble_eq_true rfl⟩) rfl hl.1 rfl (Nat.le_of_ble_eq_true rfl) dX0_place_2 ⟨Nat.zero_le _, Nat.zero_le _⟩ ?_
    refine lv_if_eq (tgt := 26) hx hb dX0_place_5 (by decide) (fun c_5 => ?_) (fun c_5 => ?_)
    · skip
      refine lv_iconst (v := 0) hx hb dX0_place_26 (by decide) ?_
      exact K 0 (by unfold z0_place_27; rw [if_pos c_5])
    · skip
      refine lv_iload_n hx hb dX0_place_8 rfl (lv_at hl 2 rfl) ?_
      refine callSi (As := [.int x1]) (rest := [.ref h0]) (m0_isInRow l x1) ⟨hx, hb, hml, hown, hts⟩ (va_cwS 1 hts gX0_place_X0_isInRow rfl rfl rfl (by decide +kernel) ⟨Nat.le_of_ble_eq_true rfl, Nat.le_of_ble_eq_true rfl⟩) rfl hl.1 rfl (Nat.le_of_ble_eq_true rfl) dX0_place_9 ⟨Nat.zero_le _, Nat.zero_le _⟩ ?_
      refine lv_if_eq (tgt := 26) hx hb dX0_place_12 (by decide) (fun c_12 => ?_) (fun c_12 => ?_)
      · skip
        refine lv_iconst (v := 0) hx hb dX0_place_26 (by decide) ?_
        exact K 0 (by unfold z0_place_27; rw [if_neg c_5, if_pos c_12])
      · skip
        refine lv_iload_n hx hb dX0_place_15 rfl (lv_at hl 3 rfl) ?_
        refine callSi (As := [.int x2]) (rest := [.ref h0]) (m0_isKey l x2) ⟨hx, hb, hml, hown, hts⟩ (va_cwS 1 hts gX0_place_X0_isKey rfl rfl rfl (by decide +kernel) ⟨Nat.le_of_ble_eq_true rfl, Nat.le_of_ble_eq_true rfl⟩) rfl hl.1 rfl (Nat.le_of_ble_eq_true rfl) dX0_place_16 ⟨Nat.zero_le _, Nat.zero_le _⟩ ?_
        refine lv_if_eq (tgt := 26) hx hb dX0_place_19 (by decide) (fun c_19 => ?_) (fun c_19 => ?_)
        · skip
          refine lv_iconst (v := 0) hx hb dX0_place_26 (by decide) ?_
          exact K 0 (by unfold z0_place_27; rw [if_neg c_5, if_neg c_12, if_pos c_19])
        · skip
          refine lv_iconst (v := 1) hx hb dX0_place_22 (by decide) ?_
          refine lv_goto (tgt := 27) hx hb dX0_place_23 (by decide) ?_
          exact K 1 (by unfold z0_place_27; rw [if_neg c_5, if_neg c_12, if_neg c_19])
set_option maxHeartbeats 4000000 in
set_option maxRecDepth 100000 in
theorem m0_fetch (l : Launch) (dC : Nat → ClassId) (dI : Nat → Nat → Nat) (h0 h1 h2 h3 : Nat) (c1 c2 c3 : ClassId) (sz : Nat) (mem blk hdr : Nat → Int32) (ds pw rn wr cm : Int32) (x0 : Int32) (x1 : Int32) (x2 : Int32) (x3 : Int32) : Met l yX0_fetch wsX0_fetch ({ frames := 3, cells := 0, slots := 0, locals := 65 }) (pcW (dC, dI) (k0 c1 c2 c3) (w0 h0 h1 h2 h3 c1 c2 c3 (mem, blk, hdr, ds, pw, rn, wr, cm)) sz [.ref h0, .int x0, .int x1, .int x2, .int x3]) (qcWi (dC, dI) (k0 c1 c2 c3) (w0 h0 h1 h2 h3 c1 c2 c3 (mem, blk, hdr, ds, pw, rn, wr, cm)) (w0 h0 h1 h2 h3 c1 c2 c3 (F0_fetch mem blk hdr ds pw rn wr cm x0 x1 x2 x3).2) sz (F0_fetch mem blk hdr ds pw rn wr cm x0 x1 x2 x3).1) 0 0 (va_A (w0 h0 h1 h2 h3 c1 c2 c3 (mem, blk, hdr, ds, pw, rn, wr, cm)) sz) := by
  refine Met.ofW (cc := cX0_fetch) (maxL := 8) (ret := (some .int)) (by decide) rfl ?_
  intro p e s m args below meth c s₁ B hml hv
  obtain ⟨rfl, hsz, hP, hK, hD0⟩ := hv
  have hx := B.exec
  have hb := B.bytes
  have hr := B.returns
  have hts := atoms_spec (ws := wsX0_fetch) B.pre
  have hown : s.vm.findClass RX0 = some m.cls := findClass_of_methodNamed B.named
  have hlocks := B.notSynchronized
  have hP : va_P (dC, dI) vwCl [(h0, .inr (0, [.ref h1, .ref h2, .ref h3, .int ds, .int pw, .int rn, .int wr, .int cm])), (h1, .inl (c1, 96, .inl mem)), (h2, .inl (c2, 200, .inl blk)), (h3, .inl (c3, 8, .inl hdr))] s.heap := hP
  subst hsz
  have hD := hD0.self (sz := s.heap.size)
  have hA : ∀ q : Nat, s.heap.size ≤ q → (va_A (w0 h0 h1 h2 h3 c1 c2 c3 (mem, blk, hdr, ds, pw, rn, wr, cm)) s.heap.size) q := fun q h => Or.inr h
  have hS : va_S (va_A (w0 h0 h1 h2 h3 c1 c2 c3 (mem, blk, hdr, ds, pw, rn, wr, cm)) s.heap.size) s.heap s.heap [] := va_S.rf
  have hl := lv_entry ([.ref h0, .int x0, .int x1, .int x2, .int x3]) (n := 8) (Nat.le_of_ble_eq_true rfl)
  rw [lg_entry_eq]
  generalize (lg_sl ([.ref h0, .int x0, .int x1, .int x2, .int x3]) ++ List.replicate (8 - (lg_sl ([.ref h0, .int x0, .int x1, .int x2, .int x3])).length) Slot.unset).toArray = ls at hl ⊢
  have hl : lv_has ls 8 [(0, .ref h0), (1, .int x0), (2, .int x1), (3, .int x2), (4, .int x3)] := hl
  refine w_cut 23 [.int x1, .int x0, .ref h0] (z0_fetch_23 x2 x3) (fun z ez => ?_) (fun K => ?_)
  · subst ez
    refine callRi (q := (RX0, TX0, 8)) (ci := 0) (q0 := 0) (As := [.int x0, .int x1, .int (z0_fetch_23 x2 x3)]) (rest := []) (m0_nodeRefusal l dC dI h0 h1 h2 h3 c1 c2 c3 mem blk hdr ds pw rn wr cm x0 x1 (z0_fetch_23 x2 x3) ) ⟨hx, hb, hml, hown, hts⟩ (cwV 3 hts gX0_fetch_X0_nodeRefusal rfl rfl rfl (by decide +kernel) ⟨Nat.le_of_ble_eq_true rfl, Nat.le_of_ble_eq_true rfl⟩) hK hP rfl rfl rfl hl.1 rfl (Nat.le_of_ble_eq_true rfl) dX0_fetch_23 ⟨Nat.zero_le _, Nat.zero_le _⟩ ?_
    refine lv_istore (lv' := [(5, .int (f0_nodeRefusal mem blk hdr ds pw rn wr cm x0 x1 (z0_fetch_23 x2 x3))), (0, .ref h0), (1, .int x0), (2, .int x1), (3, .int x2), (4, .int x3)]) hx hb dX0_fetch_26 hl (by decide) rfl (fun ls hl => ?_)
    refine lv_iload hx hb dX0_fetch_28 (lv_at hl 0 rfl) ?_
    refine lv_if_eq (tgt := 36) hx hb dX0_fetch_30 (by decide) (fun c_30 => ?_) (fun c_30 => ?_)
    · skip
      refine lv_aload_n hx hb dX0_fetch_36 rfl (lv_at hl 1 rfl) ?_
      refine lv_iload_n hx hb dX0_fetch_37 rfl (lv_at hl 2 rfl) ?_
      refine lv_iload_n hx hb dX0_fetch_38 rfl (lv_at hl 3 rfl) ?_
      refine callRi (q := (RX0, TX0, 8)) (ci := 0) (q0 := 0) (As := [.int x0, .int x1]) (rest := []) (m0_get l dC dI h0 h1 h2 h3 c1 c2 c3 mem blk hdr ds pw rn wr cm x0 x1 (sd0_fetch1 c_30)) ⟨hx, hb, hml, hown, hts⟩ (cwV 2 hts gX0_fetch_X0_get rfl rfl rfl (by decide +kernel) ⟨Nat.le_of_ble_eq_true rfl, Nat.le_of_ble_eq_true rfl⟩) hK hP rfl rfl rfl hl.1 rfl (Nat.le_of_ble_eq_true rfl) dX0_fetch_39 ⟨Nat.zero_le _, Nat.zero_le _⟩ ?_
      refine lv_istore (lv' := [(6, .int (f0_get mem blk hdr ds pw rn wr cm x0 x1)), (5, .int (f0_nodeRefusal mem blk hdr ds pw rn wr cm x0 x1 (z0_fetch_23 x2 x3))), (0, .ref h0), (1, .int x0), (2, .int x1), (3, .int x2), (4, .int x3)]) hx hb dX0_fetch_42 hl (by decide) rfl (fun ls hl => ?_)
      refine lv_aload_n hx hb dX0_fetch_44 rfl (lv_at hl 2 rfl) ?_
      refine lv_iload hx hb dX0_fetch_45 (lv_at hl 0 rfl) ?_
      refine callSi (As := [.int (f0_get mem blk hdr ds pw rn wr cm x0 x1)]) (rest := [.ref h0]) (m0_objectOf l (f0_get mem blk hdr ds pw rn wr cm x0 x1)) ⟨hx, hb, hml, hown, hts⟩ (va_cwS 1 hts gX0_fetch_X0_objectOf rfl rfl rfl (by decide +kernel) ⟨Nat.le_of_ble_eq_true rfl, Nat.le_of_ble_eq_true rfl⟩) rfl hl.1 rfl (Nat.le_of_ble_eq_true rfl) dX0_fetch_47 ⟨Nat.zero_le _, Nat.zero_le _⟩ ?_
      refine lv_iload_n hx hb dX0_fetch_50 rfl (lv_at hl 5 rfl) ?_
      refine callRi (q := (RX0, TX0, 8)) (ci := 0) (q0 := 0) (As := [.int (f0_objectOf (f0_get mem blk hdr ds pw rn wr cm x0 x1)), .int x2]) (rest := []) (m0_get l dC dI h0 h1 h2 h3 c1 c2 c3 mem blk hdr ds pw rn wr cm (f0_objectOf (f0_get mem blk hdr ds pw rn wr cm x0 x1)) x2 (sd0_fetch2 c_30)) ⟨hx, hb, hml, hown, hts⟩ (cwV 2 hts gX0_fetch_X0_get rfl rfl rfl (by decide +kernel) ⟨Nat.le_of_ble_eq_true rfl, Nat.le_of_ble_eq_true rfl⟩) hK hP rfl rfl rfl hl.1 rfl (Nat.le_of_ble_eq_true rfl) dX0_fetch_51 ⟨Nat.zero_le _, Nat.zero_le _⟩ ?_
      refine lv_istore (lv' := [(7, .int (f0_get mem blk hdr ds pw rn wr cm (f0_objectOf (f0_get mem blk hdr ds pw rn wr cm x0 x1)) x2)), (6, .int (f0_get mem blk hdr ds pw rn wr cm x0 x1)), (5, .int (f0_nodeRefusal mem blk hdr ds pw rn wr cm x0 x1 (z0_fetch_23 x2 x3))), (0, .ref h0), (1, .int x0), (2, .int x1), (3, .int x2), (4, .int x3)]) hx hb dX0_fetch_54 hl (by decide) rfl (fun ls hl => ?_)
      refine w_cut 79 [.int x3, .int x0, .ref h0] (z0_fetch_79 mem blk hdr ds pw rn wr cm x0 x1 x2) (fun z ez => ?_) (fun K => ?_)
      · subst ez
        refine callWv (q := (RX0, TX0, 8)) (ci := 0) (q0 := 0) (As := [.int x0, .int x3, .int (z0_fetch_79 mem blk hdr ds pw rn wr cm x0 x1 x2)]) (rest := []) (wr := []) (m0_put l dC dI h0 h1 h2 h3 c1 c2 c3 _ mem blk hdr ds pw rn wr cm x0 x3 (z0_fetch_79 mem blk hdr ds pw rn wr cm x0 x1 x2) (sd0_fetch3 c_30)) ⟨hx, hb, hml, hown, hts⟩ (cwV 3 hts gX0_fetch_X0_put rfl rfl rfl (by decide +kernel) ⟨Nat.le_of_ble_eq_true rfl, Nat.le_of_ble_eq_true rfl⟩) hK hP hD hS hA rfl rfl [0, 1, 2, 3] [] rfl rfl rfl (by decide) (by decide) (by decide) rfl hl.1 rfl (Nat.le_of_ble_eq_true rfl) dX0_fetch_79 ⟨Nat.zero_le _, Nat.zero_le _⟩ (fun H locs hP hD hS => ?_)
        have hP : va_P (dC, dI) vwCl [(h0, .inr (0, [.ref h1, .ref h2, .ref h3, .int (ds ||| ((1 : Int32) <<< (x0 &&& 31))), .int pw, .int rn, .int wr, .int cm])), (h1, .inl (c1, 96, .inl (upd mem (x0 * 8 + x3).toNatClampNeg (z0_fetch_79 mem blk hdr ds pw rn wr cm x0 x1 x2)))), (h2, .inl (c2, 200, .inl blk)), (h3, .inl (c3, 8, .inl hdr))] _ := hP
        have hD : va_D _ [(h0, .inr (0, [.ref h1, .ref h2, .ref h3, .int (ds ||| ((1 : Int32) <<< (x0 &&& 31))), .int pw, .int rn, .int wr, .int cm])), (h1, .inl (c1, 96, .inl (upd mem (x0 * 8 + x3).toNatClampNeg (z0_fetch_79 mem blk hdr ds pw rn wr cm x0 x1 x2)))), (h2, .inl (c2, 200, .inl blk)), (h3, .inl (c3, 8, .inl hdr))] := hD
        refine lv_iconst (v := 0) hx hb dX0_fetch_82 (by decide) ?_
        have e9 : F0_fetch mem blk hdr ds pw rn wr cm x0 x1 x2 x3 = (0, (upd mem (x0 * 8 + x3).toNatClampNeg (z0_fetch_79 mem blk hdr ds pw rn wr cm x0 x1 x2)), blk, hdr, (ds ||| ((1 : Int32) <<< (x0 &&& 31))), pw, rn, wr, cm) := by unfold F0_fetch; rw [if_pos c_30]
        rw [e9]
        exact retWi hx hb hr hlocks rfl rfl rfl hK hP hD hS dX0_fetch_83
      · skip
        refine lv_aload_n hx hb dX0_fetch_56 rfl (lv_at hl 3 rfl) ?_
        refine lv_iload_n hx hb dX0_fetch_57 rfl (lv_at hl 4 rfl) ?_
        refine lv_iload hx hb dX0_fetch_58 (lv_at hl 7 rfl) ?_
        refine lv_iload hx hb dX0_fetch_60 (lv_at hl 1 rfl) ?_
        refine callSi (As := [.int (f0_get mem blk hdr ds pw rn wr cm x0 x1)]) (rest := [.int x3, .int x0, .ref h0]) (m0_isWeak l (f0_get mem blk hdr ds pw rn wr cm x0 x1)) ⟨hx, hb, hml, hown, hts⟩ (va_cwS 1 hts gX0_fetch_X0_isWeak rfl rfl rfl (by decide +kernel) ⟨Nat.le_of_ble_eq_true rfl, Nat.le_of_ble_eq_true rfl⟩) rfl hl.1 rfl (Nat.le_of_ble_eq_true rfl) dX0_fetch_62 ⟨Nat.zero_le _, Nat.zero_le _⟩ ?_
        refine lv_if_eq (tgt := 77) hx hb dX0_fetch_65 (by decide) (fun c_65 => ?_) (fun c_65 => ?_)
        · skip
          refine lv_iload hx hb dX0_fetch_77 (lv_at hl 0 rfl) ?_
          exact K (f0_get mem blk hdr ds pw rn wr cm (f0_objectOf (f0_get mem blk hdr ds pw rn wr cm x0 x1)) x2) (by unfold z0_fetch_79; rw [if_pos c_65])
        · skip
          refine lv_iload hx hb dX0_fetch_68 (lv_at hl 0 rfl) ?_
          refine lv_iconst (v := 3) hx hb dX0_fetch_70 (by decide) ?_
          refine callSi (As := [.int (f0_get mem blk hdr ds pw rn wr cm (f0_objectOf (f0_get mem blk hdr ds pw rn wr cm x0 x1)) x2), .int 3]) (rest := [.int x3, .int x0, .ref h0]) (m0_limited l (f0_get mem blk hdr ds pw rn wr cm (f0_objectOf (f0_get mem blk hdr ds pw rn wr cm x0 x1)) x2) 3) ⟨hx, hb, hml, hown, hts⟩ (va_cwS 2 hts gX0_fetch_X0_limited rfl rfl rfl (by decide +kernel) ⟨Nat.le_of_ble_eq_true rfl, Nat.le_of_ble_eq_true rfl⟩) rfl hl.1 rfl (Nat.le_of_ble_eq_true rfl) dX0_fetch_71 ⟨Nat.zero_le _, Nat.zero_le _⟩ ?_
          refine lv_goto (tgt := 79) hx hb dX0_fetch_74 (by decide) ?_
          exact K (f0_limited (f0_get mem blk hdr ds pw rn wr cm (f0_objectOf (f0_get mem blk hdr ds pw rn wr cm x0 x1)) x2) 3) (by unfold z0_fetch_79; rw [if_neg c_65])
    · skip
      refine lv_iload hx hb dX0_fetch_33 (lv_at hl 0 rfl) ?_
      have e9 : F0_fetch mem blk hdr ds pw rn wr cm x0 x1 x2 x3 = ((f0_nodeRefusal mem blk hdr ds pw rn wr cm x0 x1 (z0_fetch_23 x2 x3)), mem, blk, hdr, ds, pw, rn, wr, cm) := by unfold F0_fetch; rw [if_neg c_30]
      rw [e9]
      exact retWi hx hb hr hlocks rfl rfl rfl hK hP hD hS dX0_fetch_35
  · skip
    refine lv_aload_n hx hb dX0_fetch_0 rfl (lv_at hl 0 rfl) ?_
    refine lv_iload_n hx hb dX0_fetch_1 rfl (lv_at hl 1 rfl) ?_
    refine lv_iload_n hx hb dX0_fetch_2 rfl (lv_at hl 2 rfl) ?_
    refine lv_iload_n hx hb dX0_fetch_3 rfl (lv_at hl 3 rfl) ?_
    refine callSi (As := [.int x2]) (rest := [.int x1, .int x0, .ref h0]) (m0_isInRow l x2) ⟨hx, hb, hml, hown, hts⟩ (va_cwS 1 hts gX0_fetch_X0_isInRow rfl rfl rfl (by decide +kernel) ⟨Nat.le_of_ble_eq_true rfl, Nat.le_of_ble_eq_true rfl⟩) rfl hl.1 rfl (Nat.le_of_ble_eq_true rfl) dX0_fetch_4 ⟨Nat.zero_le _, Nat.zero_le _⟩ ?_
    refine lv_if_eq (tgt := 22) hx hb dX0_fetch_7 (by decide) (fun c_7 => ?_) (fun c_7 => ?_)
    · skip
      refine lv_iconst (v := 0) hx hb dX0_fetch_22 (by decide) ?_
      exact K 0 (by unfold z0_fetch_23; rw [if_pos c_7])
    · skip
      refine lv_iload hx hb dX0_fetch_10 (lv_at hl 4 rfl) ?_
      refine callSi (As := [.int x3]) (rest := [.int x1, .int x0, .ref h0]) (m0_isInRow l x3) ⟨hx, hb, hml, hown, hts⟩ (va_cwS 1 hts gX0_fetch_X0_isInRow rfl rfl rfl (by decide +kernel) ⟨Nat.le_of_ble_eq_true rfl, Nat.le_of_ble_eq_true rfl⟩) rfl hl.1 rfl (Nat.le_of_ble_eq_true rfl) dX0_fetch_12 ⟨Nat.zero_le _, Nat.zero_le _⟩ ?_
      refine lv_if_eq (tgt := 22) hx hb dX0_fetch_15 (by decide) (fun c_15 => ?_) (fun c_15 => ?_)
      · skip
        refine lv_iconst (v := 0) hx hb dX0_fetch_22 (by decide) ?_
        exact K 0 (by unfold z0_fetch_23; rw [if_neg c_7, if_pos c_15])
      · skip
        refine lv_iconst (v := 1) hx hb dX0_fetch_18 (by decide) ?_
        refine lv_goto (tgt := 23) hx hb dX0_fetch_19 (by decide) ?_
        exact K 1 (by unfold z0_fetch_23; rw [if_neg c_7, if_neg c_15])
set_option maxHeartbeats 4000000 in
set_option maxRecDepth 100000 in
theorem m0_store (l : Launch) (dC : Nat → ClassId) (dI : Nat → Nat → Nat) (h0 h1 h2 h3 : Nat) (c1 c2 c3 : ClassId) (sz : Nat) (mem blk hdr : Nat → Int32) (ds pw rn wr cm : Int32) (x0 : Int32) (x1 : Int32) (x2 : Int32) (x3 : Int32) : Met l yX0_store wsX0_store ({ frames := 3, cells := 0, slots := 0, locals := 65 }) (pcW (dC, dI) (k0 c1 c2 c3) (w0 h0 h1 h2 h3 c1 c2 c3 (mem, blk, hdr, ds, pw, rn, wr, cm)) sz [.ref h0, .int x0, .int x1, .int x2, .int x3]) (qcWi (dC, dI) (k0 c1 c2 c3) (w0 h0 h1 h2 h3 c1 c2 c3 (mem, blk, hdr, ds, pw, rn, wr, cm)) (w0 h0 h1 h2 h3 c1 c2 c3 (F0_store mem blk hdr ds pw rn wr cm x0 x1 x2 x3).2) sz (F0_store mem blk hdr ds pw rn wr cm x0 x1 x2 x3).1) 0 0 (va_A (w0 h0 h1 h2 h3 c1 c2 c3 (mem, blk, hdr, ds, pw, rn, wr, cm)) sz) := by
  refine Met.ofW (cc := cX0_store) (maxL := 7) (ret := (some .int)) (by decide) rfl ?_
  intro p e s m args below meth c s₁ B hml hv
  obtain ⟨rfl, hsz, hP, hK, hD0⟩ := hv
  have hx := B.exec
  have hb := B.bytes
  have hr := B.returns
  have hts := atoms_spec (ws := wsX0_store) B.pre
  have hown : s.vm.findClass RX0 = some m.cls := findClass_of_methodNamed B.named
  have hlocks := B.notSynchronized
  have hP : va_P (dC, dI) vwCl [(h0, .inr (0, [.ref h1, .ref h2, .ref h3, .int ds, .int pw, .int rn, .int wr, .int cm])), (h1, .inl (c1, 96, .inl mem)), (h2, .inl (c2, 200, .inl blk)), (h3, .inl (c3, 8, .inl hdr))] s.heap := hP
  subst hsz
  have hD := hD0.self (sz := s.heap.size)
  have hA : ∀ q : Nat, s.heap.size ≤ q → (va_A (w0 h0 h1 h2 h3 c1 c2 c3 (mem, blk, hdr, ds, pw, rn, wr, cm)) s.heap.size) q := fun q h => Or.inr h
  have hS : va_S (va_A (w0 h0 h1 h2 h3 c1 c2 c3 (mem, blk, hdr, ds, pw, rn, wr, cm)) s.heap.size) s.heap s.heap [] := va_S.rf
  have hl := lv_entry ([.ref h0, .int x0, .int x1, .int x2, .int x3]) (n := 7) (Nat.le_of_ble_eq_true rfl)
  rw [lg_entry_eq]
  generalize (lg_sl ([.ref h0, .int x0, .int x1, .int x2, .int x3]) ++ List.replicate (7 - (lg_sl ([.ref h0, .int x0, .int x1, .int x2, .int x3])).length) Slot.unset).toArray = ls at hl ⊢
  have hl : lv_has ls 7 [(0, .ref h0), (1, .int x0), (2, .int x1), (3, .int x2), (4, .int x3)] := hl
  refine w_cut 23 [.int x1, .int x0, .ref h0] (z0_store_23 x2 x3) (fun z ez => ?_) (fun K => ?_)
  · subst ez
    refine callRi (q := (RX0, TX0, 8)) (ci := 0) (q0 := 0) (As := [.int x0, .int x1, .int (z0_store_23 x2 x3)]) (rest := []) (m0_nodeRefusal l dC dI h0 h1 h2 h3 c1 c2 c3 mem blk hdr ds pw rn wr cm x0 x1 (z0_store_23 x2 x3) ) ⟨hx, hb, hml, hown, hts⟩ (cwV 3 hts gX0_store_X0_nodeRefusal rfl rfl rfl (by decide +kernel) ⟨Nat.le_of_ble_eq_true rfl, Nat.le_of_ble_eq_true rfl⟩) hK hP rfl rfl rfl hl.1 rfl (Nat.le_of_ble_eq_true rfl) dX0_store_23 ⟨Nat.zero_le _, Nat.zero_le _⟩ ?_
    refine lv_istore (lv' := [(5, .int (f0_nodeRefusal mem blk hdr ds pw rn wr cm x0 x1 (z0_store_23 x2 x3))), (0, .ref h0), (1, .int x0), (2, .int x1), (3, .int x2), (4, .int x3)]) hx hb dX0_store_26 hl (by decide) rfl (fun ls hl => ?_)
    refine lv_iload hx hb dX0_store_28 (lv_at hl 0 rfl) ?_
    refine lv_if_eq (tgt := 36) hx hb dX0_store_30 (by decide) (fun c_30 => ?_) (fun c_30 => ?_)
    · skip
      refine lv_aload_n hx hb dX0_store_36 rfl (lv_at hl 1 rfl) ?_
      refine lv_iload_n hx hb dX0_store_37 rfl (lv_at hl 2 rfl) ?_
      refine lv_iload_n hx hb dX0_store_38 rfl (lv_at hl 3 rfl) ?_
      refine callRi (q := (RX0, TX0, 8)) (ci := 0) (q0 := 0) (As := [.int x0, .int x1]) (rest := []) (m0_get l dC dI h0 h1 h2 h3 c1 c2 c3 mem blk hdr ds pw rn wr cm x0 x1 (sd0_store1 c_30)) ⟨hx, hb, hml, hown, hts⟩ (cwV 2 hts gX0_store_X0_get rfl rfl rfl (by decide +kernel) ⟨Nat.le_of_ble_eq_true rfl, Nat.le_of_ble_eq_true rfl⟩) hK hP rfl rfl rfl hl.1 rfl (Nat.le_of_ble_eq_true rfl) dX0_store_39 ⟨Nat.zero_le _, Nat.zero_le _⟩ ?_
      refine lv_istore (lv' := [(6, .int (f0_get mem blk hdr ds pw rn wr cm x0 x1)), (5, .int (f0_nodeRefusal mem blk hdr ds pw rn wr cm x0 x1 (z0_store_23 x2 x3))), (0, .ref h0), (1, .int x0), (2, .int x1), (3, .int x2), (4, .int x3)]) hx hb dX0_store_42 hl (by decide) rfl (fun ls hl => ?_)
      refine lv_iload hx hb dX0_store_44 (lv_at hl 0 rfl) ?_
      refine callSi (As := [.int (f0_get mem blk hdr ds pw rn wr cm x0 x1)]) (rest := []) (m0_isWriting l (f0_get mem blk hdr ds pw rn wr cm x0 x1)) ⟨hx, hb, hml, hown, hts⟩ (va_cwS 1 hts gX0_store_X0_isWriting rfl rfl rfl (by decide +kernel) ⟨Nat.le_of_ble_eq_true rfl, Nat.le_of_ble_eq_true rfl⟩) rfl hl.1 rfl (Nat.le_of_ble_eq_true rfl) dX0_store_46 ⟨Nat.zero_le _, Nat.zero_le _⟩ ?_
      refine lv_if_ne (tgt := 55) hx hb dX0_store_49 (by decide) (fun c_49 => ?_) (fun c_49 => ?_)
      · skip
        refine lv_aload_n hx hb dX0_store_55 rfl (lv_at hl 2 rfl) ?_
        refine lv_iload hx hb dX0_store_56 (lv_at hl 0 rfl) ?_
        refine callSi (As := [.int (f0_get mem blk hdr ds pw rn wr cm x0 x1)]) (rest := [.ref h0]) (m0_objectOf l (f0_get mem blk hdr ds pw rn wr cm x0 x1)) ⟨hx, hb, hml, hown, hts⟩ (va_cwS 1 hts gX0_store_X0_objectOf rfl rfl rfl (by decide +kernel) ⟨Nat.le_of_ble_eq_true rfl, Nat.le_of_ble_eq_true rfl⟩) rfl hl.1 rfl (Nat.le_of_ble_eq_true rfl) dX0_store_58 ⟨Nat.zero_le _, Nat.zero_le _⟩ ?_
        refine lv_iload_n hx hb dX0_store_61 rfl (lv_at hl 5 rfl) ?_
        refine lv_aload_n hx hb dX0_store_62 rfl (lv_at hl 2 rfl) ?_
        refine lv_iload_n hx hb dX0_store_63 rfl (lv_at hl 3 rfl) ?_
        refine lv_iload hx hb dX0_store_64 (lv_at hl 6 rfl) ?_
        refine callRi (q := (RX0, TX0, 8)) (ci := 0) (q0 := 0) (As := [.int x0, .int x3]) (rest := [.int x2, .int (f0_objectOf (f0_get mem blk hdr ds pw rn wr cm x0 x1)), .ref h0]) (m0_get l dC dI h0 h1 h2 h3 c1 c2 c3 mem blk hdr ds pw rn wr cm x0 x3 (sd0_store3 c_30)) ⟨hx, hb, hml, hown, hts⟩ (cwV 2 hts gX0_store_X0_get rfl rfl rfl (by decide +kernel) ⟨Nat.le_of_ble_eq_true rfl, Nat.le_of_ble_eq_true rfl⟩) hK hP rfl rfl rfl hl.1 rfl (Nat.le_of_ble_eq_true rfl) dX0_store_66 ⟨Nat.zero_le _, Nat.zero_le _⟩ ?_
        refine callWv (q := (RX0, TX0, 8)) (ci := 0) (q0 := 0) (As := [.int (f0_objectOf (f0_get mem blk hdr ds pw rn wr cm x0 x1)), .int x2, .int (f0_get mem blk hdr ds pw rn wr cm x0 x3)]) (rest := []) (wr := []) (m0_put l dC dI h0 h1 h2 h3 c1 c2 c3 _ mem blk hdr ds pw rn wr cm (f0_objectOf (f0_get mem blk hdr ds pw rn wr cm x0 x1)) x2 (f0_get mem blk hdr ds pw rn wr cm x0 x3) (sd0_store2 c_30)) ⟨hx, hb, hml, hown, hts⟩ (cwV 3 hts gX0_store_X0_put rfl rfl rfl (by decide +kernel) ⟨Nat.le_of_ble_eq_true rfl, Nat.le_of_ble_eq_true rfl⟩) hK hP hD hS hA rfl rfl [0, 1, 2, 3] [] rfl rfl rfl (by decide) (by decide) (by decide) rfl hl.1 rfl (Nat.le_of_ble_eq_true rfl) dX0_store_69 ⟨Nat.zero_le _, Nat.zero_le _⟩ (fun H locs hP hD hS => ?_)
        have hP : va_P (dC, dI) vwCl [(h0, .inr (0, [.ref h1, .ref h2, .ref h3, .int (ds ||| ((1 : Int32) <<< ((f0_objectOf (f0_get mem blk hdr ds pw rn wr cm x0 x1)) &&& 31))), .int pw, .int rn, .int wr, .int cm])), (h1, .inl (c1, 96, .inl (upd mem ((f0_objectOf (f0_get mem blk hdr ds pw rn wr cm x0 x1)) * 8 + x2).toNatClampNeg (f0_get mem blk hdr ds pw rn wr cm x0 x3)))), (h2, .inl (c2, 200, .inl blk)), (h3, .inl (c3, 8, .inl hdr))] _ := hP
        have hD : va_D _ [(h0, .inr (0, [.ref h1, .ref h2, .ref h3, .int (ds ||| ((1 : Int32) <<< ((f0_objectOf (f0_get mem blk hdr ds pw rn wr cm x0 x1)) &&& 31))), .int pw, .int rn, .int wr, .int cm])), (h1, .inl (c1, 96, .inl (upd mem ((f0_objectOf (f0_get mem blk hdr ds pw rn wr cm x0 x1)) * 8 + x2).toNatClampNeg (f0_get mem blk hdr ds pw rn wr cm x0 x3)))), (h2, .inl (c2, 200, .inl blk)), (h3, .inl (c3, 8, .inl hdr))] := hD
        refine lv_iconst (v := 0) hx hb dX0_store_72 (by decide) ?_
        have e9 : F0_store mem blk hdr ds pw rn wr cm x0 x1 x2 x3 = (0, (upd mem ((f0_objectOf (f0_get mem blk hdr ds pw rn wr cm x0 x1)) * 8 + x2).toNatClampNeg (f0_get mem blk hdr ds pw rn wr cm x0 x3)), blk, hdr, (ds ||| ((1 : Int32) <<< ((f0_objectOf (f0_get mem blk hdr ds pw rn wr cm x0 x1)) &&& 31))), pw, rn, wr, cm) := by unfold F0_store; rw [if_pos c_30, if_neg c_49]
        rw [e9]
        exact retWi hx hb hr hlocks rfl rfl rfl hK hP hD hS dX0_store_73
      · skip
        refine lv_bipush (v := (-4)) hx hb dX0_store_52 (by decide) ?_
        have e9 : F0_store mem blk hdr ds pw rn wr cm x0 x1 x2 x3 = ((-4), mem, blk, hdr, ds, pw, rn, wr, cm) := by unfold F0_store; rw [if_pos c_30, if_pos c_49]
        rw [e9]
        exact retWi hx hb hr hlocks rfl rfl rfl hK hP hD hS dX0_store_54
    · skip
      refine lv_iload hx hb dX0_store_33 (lv_at hl 0 rfl) ?_
      have e9 : F0_store mem blk hdr ds pw rn wr cm x0 x1 x2 x3 = ((f0_nodeRefusal mem blk hdr ds pw rn wr cm x0 x1 (z0_store_23 x2 x3)), mem, blk, hdr, ds, pw, rn, wr, cm) := by unfold F0_store; rw [if_neg c_30]
      rw [e9]
      exact retWi hx hb hr hlocks rfl rfl rfl hK hP hD hS dX0_store_35
  · skip
    refine lv_aload_n hx hb dX0_store_0 rfl (lv_at hl 0 rfl) ?_
    refine lv_iload_n hx hb dX0_store_1 rfl (lv_at hl 1 rfl) ?_
    refine lv_iload_n hx hb dX0_store_2 rfl (lv_at hl 2 rfl) ?_
    refine lv_iload_n hx hb dX0_store_3 rfl (lv_at hl 3 rfl) ?_
    refine callSi (As := [.int x2]) (rest := [.int x1, .int x0, .ref h0]) (m0_isInRow l x2) ⟨hx, hb, hml, hown, hts⟩ (va_cwS 1 hts gX0_store_X0_isInRow rfl rfl rfl (by decide +kernel) ⟨Nat.le_of_ble_eq_true rfl, Nat.le_of_ble_eq_true rfl⟩) rfl hl.1 rfl (Nat.le_of_ble_eq_true rfl) dX0_store_4 ⟨Nat.zero_le _, Nat.zero_le _⟩ ?_
    refine lv_if_eq (tgt := 22) hx hb dX0_store_7 (by decide) (fun c_7 => ?_) (fun c_7 => ?_)
    · skip
      refine lv_iconst (v := 0) hx hb dX0_store_22 (by decide) ?_
      exact K 0 (by unfold z0_store_23; rw [if_pos c_7])
    · skip
      refine lv_iload hx hb dX0_store_10 (lv_at hl 4 rfl) ?_
      refine callSi (As := [.int x3]) (rest := [.int x1, .int x0, .ref h0]) (m0_isInRow l x3) ⟨hx, hb, hml, hown, hts⟩ (va_cwS 1 hts gX0_store_X0_isInRow rfl rfl rfl (by decide +kernel) ⟨Nat.le_of_ble_eq_true rfl, Nat.le_of_ble_eq_true rfl⟩) rfl hl.1 rfl (Nat.le_of_ble_eq_true rfl) dX0_store_12 ⟨Nat.zero_le _, Nat.zero_le _⟩ ?_
      refine lv_if_eq (tgt := 22) hx hb dX0_store_15 (by decide) (fun c_15 => ?_) (fun c_15 => ?_)
      · skip
        refine lv_iconst (v := 0) hx hb dX0_store_22 (by decide) ?_
        exact K 0 (by unfold z0_store_23; rw [if_neg c_7, if_pos c_15])
      · skip
        refine lv_iconst (v := 1) hx hb dX0_store_18 (by decide) ?_
        refine lv_goto (tgt := 23) hx hb dX0_store_19 (by decide) ?_
        exact K 1 (by unfold z0_store_23; rw [if_neg c_7, if_neg c_15])
set_option maxHeartbeats 4000000 in
set_option maxRecDepth 100000 in
theorem m0_write (l : Launch) (dC : Nat → ClassId) (dI : Nat → Nat → Nat) (h0 h1 h2 h3 : Nat) (c1 c2 c3 : ClassId) (sz : Nat) (mem blk hdr : Nat → Int32) (ds pw rn wr cm : Int32) (x0 : Int32) (x1 : Int32) (x2 : Int32) (x3 : Int32) : Met l yX0_write wsX0_write ({ frames := 3, cells := 0, slots := 0, locals := 65 }) (pcW (dC, dI) (k0 c1 c2 c3) (w0 h0 h1 h2 h3 c1 c2 c3 (mem, blk, hdr, ds, pw, rn, wr, cm)) sz [.ref h0, .int x0, .int x1, .int x2, .int x3]) (qcWi (dC, dI) (k0 c1 c2 c3) (w0 h0 h1 h2 h3 c1 c2 c3 (mem, blk, hdr, ds, pw, rn, wr, cm)) (w0 h0 h1 h2 h3 c1 c2 c3 (F0_write mem blk hdr ds pw rn wr cm x0 x1 x2 x3).2) sz (F0_write mem blk hdr ds pw rn wr cm x0 x1 x2 x3).1) 0 0 (va_A (w0 h0 h1 h2 h3 c1 c2 c3 (mem, blk, hdr, ds, pw, rn, wr, cm)) sz) := by
  refine Met.ofW (cc := cX0_write) (maxL := 7) (ret := (some .int)) (by decide) rfl ?_
  intro p e s m args below meth c s₁ B hml hv
  obtain ⟨rfl, hsz, hP, hK, hD0⟩ := hv
  have hx := B.exec
  have hb := B.bytes
  have hr := B.returns
  have hts := atoms_spec (ws := wsX0_write) B.pre
  have hown : s.vm.findClass RX0 = some m.cls := findClass_of_methodNamed B.named
  have hlocks := B.notSynchronized
  have hP : va_P (dC, dI) vwCl [(h0, .inr (0, [.ref h1, .ref h2, .ref h3, .int ds, .int pw, .int rn, .int wr, .int cm])), (h1, .inl (c1, 96, .inl mem)), (h2, .inl (c2, 200, .inl blk)), (h3, .inl (c3, 8, .inl hdr))] s.heap := hP
  subst hsz
  have hD := hD0.self (sz := s.heap.size)
  have hA : ∀ q : Nat, s.heap.size ≤ q → (va_A (w0 h0 h1 h2 h3 c1 c2 c3 (mem, blk, hdr, ds, pw, rn, wr, cm)) s.heap.size) q := fun q h => Or.inr h
  have hS : va_S (va_A (w0 h0 h1 h2 h3 c1 c2 c3 (mem, blk, hdr, ds, pw, rn, wr, cm)) s.heap.size) s.heap s.heap [] := va_S.rf
  have hl := lv_entry ([.ref h0, .int x0, .int x1, .int x2, .int x3]) (n := 7) (Nat.le_of_ble_eq_true rfl)
  rw [lg_entry_eq]
  generalize (lg_sl ([.ref h0, .int x0, .int x1, .int x2, .int x3]) ++ List.replicate (7 - (lg_sl ([.ref h0, .int x0, .int x1, .int x2, .int x3])).length) Slot.unset).toArray = ls at hl ⊢
  have hl : lv_has ls 7 [(0, .ref h0), (1, .int x0), (2, .int x1), (3, .int x2), (4, .int x3)] := hl
  refine lv_aload_n hx hb dX0_write_0 rfl (lv_at hl 0 rfl) ?_
  refine lv_iload_n hx hb dX0_write_1 rfl (lv_at hl 1 rfl) ?_
  refine lv_iload_n hx hb dX0_write_2 rfl (lv_at hl 2 rfl) ?_
  refine lv_iload_n hx hb dX0_write_3 rfl (lv_at hl 3 rfl) ?_
  refine callSi (As := [.int x2]) (rest := [.int x1, .int x0, .ref h0]) (m0_isInRow l x2) ⟨hx, hb, hml, hown, hts⟩ (va_cwS 1 hts gX0_write_X0_isInRow rfl rfl rfl (by decide +kernel) ⟨Nat.le_of_ble_eq_true rfl, Nat.le_of_ble_eq_true rfl⟩) rfl hl.1 rfl (Nat.le_of_ble_eq_true rfl) dX0_write_4 ⟨Nat.zero_le _, Nat.zero_le _⟩ ?_
  refine callRi (q := (RX0, TX0, 8)) (ci := 0) (q0 := 0) (As := [.int x0, .int x1, .int (f0_isInRow x2)]) (rest := []) (m0_pageRefusal l dC dI h0 h1 h2 h3 c1 c2 c3 mem blk hdr ds pw rn wr cm x0 x1 (f0_isInRow x2) ) ⟨hx, hb, hml, hown, hts⟩ (cwV 3 hts gX0_write_X0_pageRefusal rfl rfl rfl (by decide +kernel) ⟨Nat.le_of_ble_eq_true rfl, Nat.le_of_ble_eq_true rfl⟩) hK hP rfl rfl rfl hl.1 rfl (Nat.le_of_ble_eq_true rfl) dX0_write_7 ⟨Nat.zero_le _, Nat.zero_le _⟩ ?_
  refine lv_istore (lv' := [(5, .int (f0_pageRefusal mem blk hdr ds pw rn wr cm x0 x1 (f0_isInRow x2))), (0, .ref h0), (1, .int x0), (2, .int x1), (3, .int x2), (4, .int x3)]) hx hb dX0_write_10 hl (by decide) rfl (fun ls hl => ?_)
  refine lv_iload hx hb dX0_write_12 (lv_at hl 0 rfl) ?_
  refine lv_if_eq (tgt := 20) hx hb dX0_write_14 (by decide) (fun c_14 => ?_) (fun c_14 => ?_)
  · skip
    refine lv_aload_n hx hb dX0_write_20 rfl (lv_at hl 1 rfl) ?_
    refine lv_iload_n hx hb dX0_write_21 rfl (lv_at hl 2 rfl) ?_
    refine lv_iload_n hx hb dX0_write_22 rfl (lv_at hl 3 rfl) ?_
    refine callRi (q := (RX0, TX0, 8)) (ci := 0) (q0 := 0) (As := [.int x0, .int x1]) (rest := []) (m0_get l dC dI h0 h1 h2 h3 c1 c2 c3 mem blk hdr ds pw rn wr cm x0 x1 (sd0_read1 c_14)) ⟨hx, hb, hml, hown, hts⟩ (cwV 2 hts gX0_write_X0_get rfl rfl rfl (by decide +kernel) ⟨Nat.le_of_ble_eq_true rfl, Nat.le_of_ble_eq_true rfl⟩) hK hP rfl rfl rfl hl.1 rfl (Nat.le_of_ble_eq_true rfl) dX0_write_23 ⟨Nat.zero_le _, Nat.zero_le _⟩ ?_
    refine lv_istore (lv' := [(6, .int (f0_get mem blk hdr ds pw rn wr cm x0 x1)), (5, .int (f0_pageRefusal mem blk hdr ds pw rn wr cm x0 x1 (f0_isInRow x2))), (0, .ref h0), (1, .int x0), (2, .int x1), (3, .int x2), (4, .int x3)]) hx hb dX0_write_26 hl (by decide) rfl (fun ls hl => ?_)
    refine lv_iload hx hb dX0_write_28 (lv_at hl 0 rfl) ?_
    refine callSi (As := [.int (f0_get mem blk hdr ds pw rn wr cm x0 x1)]) (rest := []) (m0_isWriting l (f0_get mem blk hdr ds pw rn wr cm x0 x1)) ⟨hx, hb, hml, hown, hts⟩ (va_cwS 1 hts gX0_write_X0_isWriting rfl rfl rfl (by decide +kernel) ⟨Nat.le_of_ble_eq_true rfl, Nat.le_of_ble_eq_true rfl⟩) rfl hl.1 rfl (Nat.le_of_ble_eq_true rfl) dX0_write_30 ⟨Nat.zero_le _, Nat.zero_le _⟩ ?_
    refine lv_if_ne (tgt := 39) hx hb dX0_write_33 (by decide) (fun c_33 => ?_) (fun c_33 => ?_)
    · skip
      refine lv_aload_n hx hb dX0_write_39 rfl (lv_at hl 2 rfl) ?_
      refine lv_iload hx hb dX0_write_40 (lv_at hl 0 rfl) ?_
      refine callSi (As := [.int (f0_get mem blk hdr ds pw rn wr cm x0 x1)]) (rest := [.ref h0]) (m0_objectOf l (f0_get mem blk hdr ds pw rn wr cm x0 x1)) ⟨hx, hb, hml, hown, hts⟩ (va_cwS 1 hts gX0_write_X0_objectOf rfl rfl rfl (by decide +kernel) ⟨Nat.le_of_ble_eq_true rfl, Nat.le_of_ble_eq_true rfl⟩) rfl hl.1 rfl (Nat.le_of_ble_eq_true rfl) dX0_write_42 ⟨Nat.zero_le _, Nat.zero_le _⟩ ?_
      refine lv_iload_n hx hb dX0_write_45 rfl (lv_at hl 5 rfl) ?_
      refine lv_iload hx hb dX0_write_46 (lv_at hl 6 rfl) ?_
      refine callWv (q := (RX0, TX0, 8)) (ci := 0) (q0 := 0) (As := [.int (f0_objectOf (f0_get mem blk hdr ds pw rn wr cm x0 x1)), .int x2, .int x3]) (rest := []) (wr := []) (m0_put l dC dI h0 h1 h2 h3 c1 c2 c3 _ mem blk hdr ds pw rn wr cm (f0_objectOf (f0_get mem blk hdr ds pw rn wr cm x0 x1)) x2 x3 (sd0_read2 c_14)) ⟨hx, hb, hml, hown, hts⟩ (cwV 3 hts gX0_write_X0_put rfl rfl rfl (by decide +kernel) ⟨Nat.le_of_ble_eq_true rfl, Nat.le_of_ble_eq_true rfl⟩) hK hP hD hS hA rfl rfl [0, 1, 2, 3] [] rfl rfl rfl (by decide) (by decide) (by decide) rfl hl.1 rfl (Nat.le_of_ble_eq_true rfl) dX0_write_48 ⟨Nat.zero_le _, Nat.zero_le _⟩ (fun H locs hP hD hS => ?_)
      have hP : va_P (dC, dI) vwCl [(h0, .inr (0, [.ref h1, .ref h2, .ref h3, .int (ds ||| ((1 : Int32) <<< ((f0_objectOf (f0_get mem blk hdr ds pw rn wr cm x0 x1)) &&& 31))), .int pw, .int rn, .int wr, .int cm])), (h1, .inl (c1, 96, .inl (upd mem ((f0_objectOf (f0_get mem blk hdr ds pw rn wr cm x0 x1)) * 8 + x2).toNatClampNeg x3))), (h2, .inl (c2, 200, .inl blk)), (h3, .inl (c3, 8, .inl hdr))] _ := hP
      have hD : va_D _ [(h0, .inr (0, [.ref h1, .ref h2, .ref h3, .int (ds ||| ((1 : Int32) <<< ((f0_objectOf (f0_get mem blk hdr ds pw rn wr cm x0 x1)) &&& 31))), .int pw, .int rn, .int wr, .int cm])), (h1, .inl (c1, 96, .inl (upd mem ((f0_objectOf (f0_get mem blk hdr ds pw rn wr cm x0 x1)) * 8 + x2).toNatClampNeg x3))), (h2, .inl (c2, 200, .inl blk)), (h3, .inl (c3, 8, .inl hdr))] := hD
      refine lv_iconst (v := 0) hx hb dX0_write_51 (by decide) ?_
      have e9 : F0_write mem blk hdr ds pw rn wr cm x0 x1 x2 x3 = (0, (upd mem ((f0_objectOf (f0_get mem blk hdr ds pw rn wr cm x0 x1)) * 8 + x2).toNatClampNeg x3), blk, hdr, (ds ||| ((1 : Int32) <<< ((f0_objectOf (f0_get mem blk hdr ds pw rn wr cm x0 x1)) &&& 31))), pw, rn, wr, cm) := by unfold F0_write; rw [if_pos c_14, if_neg c_33]
      rw [e9]
      exact retWi hx hb hr hlocks rfl rfl rfl hK hP hD hS dX0_write_52
    · skip
      refine lv_bipush (v := (-4)) hx hb dX0_write_36 (by decide) ?_
      have e9 : F0_write mem blk hdr ds pw rn wr cm x0 x1 x2 x3 = ((-4), mem, blk, hdr, ds, pw, rn, wr, cm) := by unfold F0_write; rw [if_pos c_14, if_pos c_33]
      rw [e9]
      exact retWi hx hb hr hlocks rfl rfl rfl hK hP hD hS dX0_write_38
  · skip
    refine lv_iload hx hb dX0_write_17 (lv_at hl 0 rfl) ?_
    have e9 : F0_write mem blk hdr ds pw rn wr cm x0 x1 x2 x3 = ((f0_pageRefusal mem blk hdr ds pw rn wr cm x0 x1 (f0_isInRow x2)), mem, blk, hdr, ds, pw, rn, wr, cm) := by unfold F0_write; rw [if_neg c_14]
    rw [e9]
    exact retWi hx hb hr hlocks rfl rfl rfl hK hP hD hS dX0_write_19
set_option maxHeartbeats 4000000 in
set_option maxRecDepth 100000 in
theorem m0_restrict (l : Launch) (dC : Nat → ClassId) (dI : Nat → Nat → Nat) (h0 h1 h2 h3 : Nat) (c1 c2 c3 : ClassId) (sz : Nat) (mem blk hdr : Nat → Int32) (ds pw rn wr cm : Int32) (x0 : Int32) (x1 : Int32) (x2 : Int32) (x3 : Int32) : Met l yX0_restrict wsX0_restrict ({ frames := 2, cells := 0, slots := 0, locals := 41 }) (pcW (dC, dI) (k0 c1 c2 c3) (w0 h0 h1 h2 h3 c1 c2 c3 (mem, blk, hdr, ds, pw, rn, wr, cm)) sz [.ref h0, .int x0, .int x1, .int x2, .int x3]) (qcWi (dC, dI) (k0 c1 c2 c3) (w0 h0 h1 h2 h3 c1 c2 c3 (mem, blk, hdr, ds, pw, rn, wr, cm)) (w0 h0 h1 h2 h3 c1 c2 c3 (F0_restrict mem blk hdr ds pw rn wr cm x0 x1 x2 x3).2) sz (F0_restrict mem blk hdr ds pw rn wr cm x0 x1 x2 x3).1) 0 0 (va_A (w0 h0 h1 h2 h3 c1 c2 c3 (mem, blk, hdr, ds, pw, rn, wr, cm)) sz) := by
  refine Met.ofW (cc := cX0_restrict) (maxL := 6) (ret := (some .int)) (by decide) rfl ?_
  intro p e s m args below meth c s₁ B hml hv
  obtain ⟨rfl, hsz, hP, hK, hD0⟩ := hv
  have hx := B.exec
  have hb := B.bytes
  have hr := B.returns
  have hts := atoms_spec (ws := wsX0_restrict) B.pre
  have hown : s.vm.findClass RX0 = some m.cls := findClass_of_methodNamed B.named
  have hlocks := B.notSynchronized
  have hP : va_P (dC, dI) vwCl [(h0, .inr (0, [.ref h1, .ref h2, .ref h3, .int ds, .int pw, .int rn, .int wr, .int cm])), (h1, .inl (c1, 96, .inl mem)), (h2, .inl (c2, 200, .inl blk)), (h3, .inl (c3, 8, .inl hdr))] s.heap := hP
  subst hsz
  have hD := hD0.self (sz := s.heap.size)
  have hA : ∀ q : Nat, s.heap.size ≤ q → (va_A (w0 h0 h1 h2 h3 c1 c2 c3 (mem, blk, hdr, ds, pw, rn, wr, cm)) s.heap.size) q := fun q h => Or.inr h
  have hS : va_S (va_A (w0 h0 h1 h2 h3 c1 c2 c3 (mem, blk, hdr, ds, pw, rn, wr, cm)) s.heap.size) s.heap s.heap [] := va_S.rf
  have hl := lv_entry ([.ref h0, .int x0, .int x1, .int x2, .int x3]) (n := 6) (Nat.le_of_ble_eq_true rfl)
  rw [lg_entry_eq]
  generalize (lg_sl ([.ref h0, .int x0, .int x1, .int x2, .int x3]) ++ List.replicate (6 - (lg_sl ([.ref h0, .int x0, .int x1, .int x2, .int x3])).length) Slot.unset).toArray = ls at hl ⊢
  have hl : lv_has ls 6 [(0, .ref h0), (1, .int x0), (2, .int x1), (3, .int x2), (4, .int x3)] := hl
  refine w_cut 29 [.ref h0] (z0_restrict_29 x0 x1 x2 x3) (fun z ez => ?_) (fun K => ?_)
  · subst ez
    refine callRi (q := (RX0, TX0, 8)) (ci := 0) (q0 := 0) (As := [.int (z0_restrict_29 x0 x1 x2 x3)]) (rest := []) (m0_refusal l dC dI h0 h1 h2 h3 c1 c2 c3 mem blk hdr ds pw rn wr cm (z0_restrict_29 x0 x1 x2 x3) ) ⟨hx, hb, hml, hown, hts⟩ (cwV 1 hts gX0_restrict_X0_refusal rfl rfl rfl (by decide +kernel) ⟨Nat.le_of_ble_eq_true rfl, Nat.le_of_ble_eq_true rfl⟩) hK hP rfl rfl rfl hl.1 rfl (Nat.le_of_ble_eq_true rfl) dX0_restrict_29 ⟨Nat.zero_le _, Nat.zero_le _⟩ ?_
    refine lv_istore (lv' := [(5, .int (f0_refusal mem blk hdr ds pw rn wr cm (z0_restrict_29 x0 x1 x2 x3))), (0, .ref h0), (1, .int x0), (2, .int x1), (3, .int x2), (4, .int x3)]) hx hb dX0_restrict_32 hl (by decide) rfl (fun ls hl => ?_)
    refine lv_iload hx hb dX0_restrict_34 (lv_at hl 0 rfl) ?_
    refine lv_if_eq (tgt := 42) hx hb dX0_restrict_36 (by decide) (fun c_36 => ?_) (fun c_36 => ?_)
    · skip
      refine lv_aload_n hx hb dX0_restrict_42 rfl (lv_at hl 1 rfl) ?_
      refine lv_iload_n hx hb dX0_restrict_43 rfl (lv_at hl 2 rfl) ?_
      refine lv_iload hx hb dX0_restrict_44 (lv_at hl 5 rfl) ?_
      refine lv_aload_n hx hb dX0_restrict_46 rfl (lv_at hl 1 rfl) ?_
      refine lv_iload_n hx hb dX0_restrict_47 rfl (lv_at hl 2 rfl) ?_
      refine lv_iload_n hx hb dX0_restrict_48 rfl (lv_at hl 3 rfl) ?_
      refine callRi (q := (RX0, TX0, 8)) (ci := 0) (q0 := 0) (As := [.int x0, .int x1]) (rest := [.int x3, .int x0, .ref h0]) (m0_get l dC dI h0 h1 h2 h3 c1 c2 c3 mem blk hdr ds pw rn wr cm x0 x1 (sd0_restrict1 c_36)) ⟨hx, hb, hml, hown, hts⟩ (cwV 2 hts gX0_restrict_X0_get rfl rfl rfl (by decide +kernel) ⟨Nat.le_of_ble_eq_true rfl, Nat.le_of_ble_eq_true rfl⟩) hK hP rfl rfl rfl hl.1 rfl (Nat.le_of_ble_eq_true rfl) dX0_restrict_49 ⟨Nat.zero_le _, Nat.zero_le _⟩ ?_
      refine lv_iload_n hx hb dX0_restrict_52 rfl (lv_at hl 4 rfl) ?_
      refine callSi (As := [.int (f0_get mem blk hdr ds pw rn wr cm x0 x1), .int x2]) (rest := [.int x3, .int x0, .ref h0]) (m0_limited l (f0_get mem blk hdr ds pw rn wr cm x0 x1) x2) ⟨hx, hb, hml, hown, hts⟩ (va_cwS 2 hts gX0_restrict_X0_limited rfl rfl rfl (by decide +kernel) ⟨Nat.le_of_ble_eq_true rfl, Nat.le_of_ble_eq_true rfl⟩) rfl hl.1 rfl (Nat.le_of_ble_eq_true rfl) dX0_restrict_53 ⟨Nat.zero_le _, Nat.zero_le _⟩ ?_
      refine callWv (q := (RX0, TX0, 8)) (ci := 0) (q0 := 0) (As := [.int x0, .int x3, .int (f0_limited (f0_get mem blk hdr ds pw rn wr cm x0 x1) x2)]) (rest := []) (wr := []) (m0_put l dC dI h0 h1 h2 h3 c1 c2 c3 _ mem blk hdr ds pw rn wr cm x0 x3 (f0_limited (f0_get mem blk hdr ds pw rn wr cm x0 x1) x2) (sd0_restrict2 c_36)) ⟨hx, hb, hml, hown, hts⟩ (cwV 3 hts gX0_restrict_X0_put rfl rfl rfl (by decide +kernel) ⟨Nat.le_of_ble_eq_true rfl, Nat.le_of_ble_eq_true rfl⟩) hK hP hD hS hA rfl rfl [0, 1, 2, 3] [] rfl rfl rfl (by decide) (by decide) (by decide) rfl hl.1 rfl (Nat.le_of_ble_eq_true rfl) dX0_restrict_56 ⟨Nat.zero_le _, Nat.zero_le _⟩ (fun H locs hP hD hS => ?_)
      have hP : va_P (dC, dI) vwCl [(h0, .inr (0, [.ref h1, .ref h2, .ref h3, .int (ds ||| ((1 : Int32) <<< (x0 &&& 31))), .int pw, .int rn, .int wr, .int cm])), (h1, .inl (c1, 96, .inl (upd mem (x0 * 8 + x3).toNatClampNeg (f0_limited (f0_get mem blk hdr ds pw rn wr cm x0 x1) x2)))), (h2, .inl (c2, 200, .inl blk)), (h3, .inl (c3, 8, .inl hdr))] _ := hP
      have hD : va_D _ [(h0, .inr (0, [.ref h1, .ref h2, .ref h3, .int (ds ||| ((1 : Int32) <<< (x0 &&& 31))), .int pw, .int rn, .int wr, .int cm])), (h1, .inl (c1, 96, .inl (upd mem (x0 * 8 + x3).toNatClampNeg (f0_limited (f0_get mem blk hdr ds pw rn wr cm x0 x1) x2)))), (h2, .inl (c2, 200, .inl blk)), (h3, .inl (c3, 8, .inl hdr))] := hD
      refine lv_iconst (v := 0) hx hb dX0_restrict_59 (by decide) ?_
      have e9 : F0_restrict mem blk hdr ds pw rn wr cm x0 x1 x2 x3 = (0, (upd mem (x0 * 8 + x3).toNatClampNeg (f0_limited (f0_get mem blk hdr ds pw rn wr cm x0 x1) x2)), blk, hdr, (ds ||| ((1 : Int32) <<< (x0 &&& 31))), pw, rn, wr, cm) := by unfold F0_restrict; rw [if_pos c_36]
      rw [e9]
      exact retWi hx hb hr hlocks rfl rfl rfl hK hP hD hS dX0_restrict_60
    · skip
      refine lv_iload hx hb dX0_restrict_39 (lv_at hl 0 rfl) ?_
      have e9 : F0_restrict mem blk hdr ds pw rn wr cm x0 x1 x2 x3 = ((f0_refusal mem blk hdr ds pw rn wr cm (z0_restrict_29 x0 x1 x2 x3)), mem, blk, hdr, ds, pw, rn, wr, cm) := by unfold F0_restrict; rw [if_neg c_36]
      rw [e9]
      exact retWi hx hb hr hlocks rfl rfl rfl hK hP hD hS dX0_restrict_41
  · skip
    refine lv_aload_n hx hb dX0_restrict_0 rfl (lv_at hl 0 rfl) ?_
    refine lv_iload_n hx hb dX0_restrict_1 rfl (lv_at hl 1 rfl) ?_
    refine lv_iload_n hx hb dX0_restrict_2 rfl (lv_at hl 2 rfl) ?_
    refine callSi (As := [.int x0, .int x1]) (rest := [.ref h0]) (m0_isRegister l x0 x1) ⟨hx, hb, hml, hown, hts⟩ (va_cwS 2 hts gX0_restrict_X0_isRegister rfl rfl rfl (by decide +kernel) ⟨Nat.le_of_ble_eq_true rfl, Nat.le_of_ble_eq_true rfl⟩) rfl hl.1 rfl (Nat.le_of_ble_eq_true rfl) dX0_restrict_3 ⟨Nat.zero_le _, Nat.zero_le _⟩ ?_
    refine lv_if_eq (tgt := 28) hx hb dX0_restrict_6 (by decide) (fun c_6 => ?_) (fun c_6 => ?_)
    · skip
      refine lv_iconst (v := 0) hx hb dX0_restrict_28 (by decide) ?_
      exact K 0 (by unfold z0_restrict_29; rw [if_pos c_6])
    · skip
      refine lv_iload_n hx hb dX0_restrict_9 rfl (lv_at hl 3 rfl) ?_
      refine callSi (As := [.int x2]) (rest := [.ref h0]) (m0_isLimits l x2) ⟨hx, hb, hml, hown, hts⟩ (va_cwS 1 hts gX0_restrict_X0_isLimits rfl rfl rfl (by decide +kernel) ⟨Nat.le_of_ble_eq_true rfl, Nat.le_of_ble_eq_true rfl⟩) rfl hl.1 rfl (Nat.le_of_ble_eq_true rfl) dX0_restrict_10 ⟨Nat.zero_le _, Nat.zero_le _⟩ ?_
      refine lv_if_eq (tgt := 28) hx hb dX0_restrict_13 (by decide) (fun c_13 => ?_) (fun c_13 => ?_)
      · skip
        refine lv_iconst (v := 0) hx hb dX0_restrict_28 (by decide) ?_
        exact K 0 (by unfold z0_restrict_29; rw [if_neg c_6, if_pos c_13])
      · skip
        refine lv_iload hx hb dX0_restrict_16 (lv_at hl 4 rfl) ?_
        refine callSi (As := [.int x3]) (rest := [.ref h0]) (m0_isInRow l x3) ⟨hx, hb, hml, hown, hts⟩ (va_cwS 1 hts gX0_restrict_X0_isInRow rfl rfl rfl (by decide +kernel) ⟨Nat.le_of_ble_eq_true rfl, Nat.le_of_ble_eq_true rfl⟩) rfl hl.1 rfl (Nat.le_of_ble_eq_true rfl) dX0_restrict_18 ⟨Nat.zero_le _, Nat.zero_le _⟩ ?_
        refine lv_if_eq (tgt := 28) hx hb dX0_restrict_21 (by decide) (fun c_21 => ?_) (fun c_21 => ?_)
        · skip
          refine lv_iconst (v := 0) hx hb dX0_restrict_28 (by decide) ?_
          exact K 0 (by unfold z0_restrict_29; rw [if_neg c_6, if_neg c_13, if_pos c_21])
        · skip
          refine lv_iconst (v := 1) hx hb dX0_restrict_24 (by decide) ?_
          refine lv_goto (tgt := 29) hx hb dX0_restrict_25 (by decide) ?_
          exact K 1 (by unfold z0_restrict_29; rw [if_neg c_6, if_neg c_13, if_neg c_21])
set_option maxHeartbeats 4000000 in
set_option maxRecDepth 100000 in
theorem m0_clear (l : Launch) (dC : Nat → ClassId) (dI : Nat → Nat → Nat) (h0 h1 h2 h3 : Nat) (c1 c2 c3 : ClassId) (sz : Nat) (mem blk hdr : Nat → Int32) (ds pw rn wr cm : Int32) (x0 : Int32) (x1 : Int32) : Met l yX0_clear wsX0_clear ({ frames := 2, cells := 0, slots := 0, locals := 41 }) (pcW (dC, dI) (k0 c1 c2 c3) (w0 h0 h1 h2 h3 c1 c2 c3 (mem, blk, hdr, ds, pw, rn, wr, cm)) sz [.ref h0, .int x0, .int x1]) (qcWi (dC, dI) (k0 c1 c2 c3) (w0 h0 h1 h2 h3 c1 c2 c3 (mem, blk, hdr, ds, pw, rn, wr, cm)) (w0 h0 h1 h2 h3 c1 c2 c3 (F0_clear mem blk hdr ds pw rn wr cm x0 x1).2) sz (F0_clear mem blk hdr ds pw rn wr cm x0 x1).1) 0 0 (va_A (w0 h0 h1 h2 h3 c1 c2 c3 (mem, blk, hdr, ds, pw, rn, wr, cm)) sz) := by
  refine Met.ofW (cc := cX0_clear) (maxL := 4) (ret := (some .int)) (by decide) rfl ?_
  intro p e s m args below meth c s₁ B hml hv
  obtain ⟨rfl, hsz, hP, hK, hD0⟩ := hv
  have hx := B.exec
  have hb := B.bytes
  have hr := B.returns
  have hts := atoms_spec (ws := wsX0_clear) B.pre
  have hown : s.vm.findClass RX0 = some m.cls := findClass_of_methodNamed B.named
  have hlocks := B.notSynchronized
  have hP : va_P (dC, dI) vwCl [(h0, .inr (0, [.ref h1, .ref h2, .ref h3, .int ds, .int pw, .int rn, .int wr, .int cm])), (h1, .inl (c1, 96, .inl mem)), (h2, .inl (c2, 200, .inl blk)), (h3, .inl (c3, 8, .inl hdr))] s.heap := hP
  subst hsz
  have hD := hD0.self (sz := s.heap.size)
  have hA : ∀ q : Nat, s.heap.size ≤ q → (va_A (w0 h0 h1 h2 h3 c1 c2 c3 (mem, blk, hdr, ds, pw, rn, wr, cm)) s.heap.size) q := fun q h => Or.inr h
  have hS : va_S (va_A (w0 h0 h1 h2 h3 c1 c2 c3 (mem, blk, hdr, ds, pw, rn, wr, cm)) s.heap.size) s.heap s.heap [] := va_S.rf
  have hl := lv_entry ([.ref h0, .int x0, .int x1]) (n := 4) (Nat.le_of_ble_eq_true rfl)
  rw [lg_entry_eq]
  generalize (lg_sl ([.ref h0, .int x0, .int x1]) ++ List.replicate (4 - (lg_sl ([.ref h0, .int x0, .int x1])).length) Slot.unset).toArray = ls at hl ⊢
  have hl : lv_has ls 4 [(0, .ref h0), (1, .int x0), (2, .int x1)] := hl
  refine lv_aload_n hx hb dX0_clear_0 rfl (lv_at hl 0 rfl) ?_
  refine lv_iload_n hx hb dX0_clear_1 rfl (lv_at hl 1 rfl) ?_
  refine lv_iload_n hx hb dX0_clear_2 rfl (lv_at hl 2 rfl) ?_
  refine callSi (As := [.int x0, .int x1]) (rest := [.ref h0]) (m0_isRegister l x0 x1) ⟨hx, hb, hml, hown, hts⟩ (va_cwS 2 hts gX0_clear_X0_isRegister rfl rfl rfl (by decide +kernel) ⟨Nat.le_of_ble_eq_true rfl, Nat.le_of_ble_eq_true rfl⟩) rfl hl.1 rfl (Nat.le_of_ble_eq_true rfl) dX0_clear_3 ⟨Nat.zero_le _, Nat.zero_le _⟩ ?_
  refine callRi (q := (RX0, TX0, 8)) (ci := 0) (q0 := 0) (As := [.int (f0_isRegister x0 x1)]) (rest := []) (m0_refusal l dC dI h0 h1 h2 h3 c1 c2 c3 mem blk hdr ds pw rn wr cm (f0_isRegister x0 x1) ) ⟨hx, hb, hml, hown, hts⟩ (cwV 1 hts gX0_clear_X0_refusal rfl rfl rfl (by decide +kernel) ⟨Nat.le_of_ble_eq_true rfl, Nat.le_of_ble_eq_true rfl⟩) hK hP rfl rfl rfl hl.1 rfl (Nat.le_of_ble_eq_true rfl) dX0_clear_6 ⟨Nat.zero_le _, Nat.zero_le _⟩ ?_
  refine lv_istore_n (lv' := [(3, .int (f0_refusal mem blk hdr ds pw rn wr cm (f0_isRegister x0 x1))), (0, .ref h0), (1, .int x0), (2, .int x1)]) hx hb dX0_clear_9 rfl hl (by decide) rfl (fun ls hl => ?_)
  refine lv_iload_n hx hb dX0_clear_10 rfl (lv_at hl 0 rfl) ?_
  refine lv_if_eq (tgt := 16) hx hb dX0_clear_11 (by decide) (fun c_11 => ?_) (fun c_11 => ?_)
  · skip
    refine lv_aload_n hx hb dX0_clear_16 rfl (lv_at hl 1 rfl) ?_
    refine lv_iload_n hx hb dX0_clear_17 rfl (lv_at hl 2 rfl) ?_
    refine lv_iload_n hx hb dX0_clear_18 rfl (lv_at hl 3 rfl) ?_
    refine lv_iconst (v := 0) hx hb dX0_clear_19 (by decide) ?_
    refine callWv (q := (RX0, TX0, 8)) (ci := 0) (q0 := 0) (As := [.int x0, .int x1, .int 0]) (rest := []) (wr := []) (m0_put l dC dI h0 h1 h2 h3 c1 c2 c3 _ mem blk hdr ds pw rn wr cm x0 x1 0 (sd0_clear c_11)) ⟨hx, hb, hml, hown, hts⟩ (cwV 3 hts gX0_clear_X0_put rfl rfl rfl (by decide +kernel) ⟨Nat.le_of_ble_eq_true rfl, Nat.le_of_ble_eq_true rfl⟩) hK hP hD hS hA rfl rfl [0, 1, 2, 3] [] rfl rfl rfl (by decide) (by decide) (by decide) rfl hl.1 rfl (Nat.le_of_ble_eq_true rfl) dX0_clear_20 ⟨Nat.zero_le _, Nat.zero_le _⟩ (fun H locs hP hD hS => ?_)
    have hP : va_P (dC, dI) vwCl [(h0, .inr (0, [.ref h1, .ref h2, .ref h3, .int (ds ||| ((1 : Int32) <<< (x0 &&& 31))), .int pw, .int rn, .int wr, .int cm])), (h1, .inl (c1, 96, .inl (upd mem (x0 * 8 + x1).toNatClampNeg 0))), (h2, .inl (c2, 200, .inl blk)), (h3, .inl (c3, 8, .inl hdr))] _ := hP
    have hD : va_D _ [(h0, .inr (0, [.ref h1, .ref h2, .ref h3, .int (ds ||| ((1 : Int32) <<< (x0 &&& 31))), .int pw, .int rn, .int wr, .int cm])), (h1, .inl (c1, 96, .inl (upd mem (x0 * 8 + x1).toNatClampNeg 0))), (h2, .inl (c2, 200, .inl blk)), (h3, .inl (c3, 8, .inl hdr))] := hD
    refine lv_iconst (v := 0) hx hb dX0_clear_23 (by decide) ?_
    have e9 : F0_clear mem blk hdr ds pw rn wr cm x0 x1 = (0, (upd mem (x0 * 8 + x1).toNatClampNeg 0), blk, hdr, (ds ||| ((1 : Int32) <<< (x0 &&& 31))), pw, rn, wr, cm) := by unfold F0_clear; rw [if_pos c_11]
    rw [e9]
    exact retWi hx hb hr hlocks rfl rfl rfl hK hP hD hS dX0_clear_24
  · skip
    refine lv_iload_n hx hb dX0_clear_14 rfl (lv_at hl 0 rfl) ?_
    have e9 : F0_clear mem blk hdr ds pw rn wr cm x0 x1 = ((f0_refusal mem blk hdr ds pw rn wr cm (f0_isRegister x0 x1)), mem, blk, hdr, ds, pw, rn, wr, cm) := by unfold F0_clear; rw [if_neg c_11]
    rw [e9]
    exact retWi hx hb hr hlocks rfl rfl rfl hK hP hD hS dX0_clear_15
set_option maxHeartbeats 4000000 in
set_option maxRecDepth 100000 in
theorem m0_power (l : Launch) (dC : Nat → ClassId) (dI : Nat → Nat → Nat) (h0 h1 h2 h3 : Nat) (c1 c2 c3 : ClassId) (sz : Nat) (mem blk hdr : Nat → Int32) (ds pw rn wr cm : Int32) (x0 : Int32) : Met l yX0_power wsX0_power ({ frames := 1, cells := 0, slots := 0, locals := 21 }) (pcW (dC, dI) (k0 c1 c2 c3) (w0 h0 h1 h2 h3 c1 c2 c3 (mem, blk, hdr, ds, pw, rn, wr, cm)) sz [.ref h0, .int x0]) (qcWi (dC, dI) (k0 c1 c2 c3) (w0 h0 h1 h2 h3 c1 c2 c3 (mem, blk, hdr, ds, pw, rn, wr, cm)) (w0 h0 h1 h2 h3 c1 c2 c3 (F0_power mem blk hdr ds pw rn wr cm x0).2) sz (F0_power mem blk hdr ds pw rn wr cm x0).1) 0 0 (va_A (w0 h0 h1 h2 h3 c1 c2 c3 (mem, blk, hdr, ds, pw, rn, wr, cm)) sz) := by
  refine Met.ofW (cc := cX0_power) (maxL := 3) (ret := (some .int)) (by decide) rfl ?_
  intro p e s m args below meth c s₁ B hml hv
  obtain ⟨rfl, hsz, hP, hK, hD0⟩ := hv
  have hx := B.exec
  have hb := B.bytes
  have hr := B.returns
  have hts := atoms_spec (ws := wsX0_power) B.pre
  have hown : s.vm.findClass RX0 = some m.cls := findClass_of_methodNamed B.named
  have hlocks := B.notSynchronized
  have hin : ∀ w ∈ wsX00, w ∈ wsX0_power := fun _ h => List.mem_cons_of_mem _ (List.mem_append_right _ h)
  have hP : va_P (dC, dI) vwCl [(h0, .inr (0, [.ref h1, .ref h2, .ref h3, .int ds, .int pw, .int rn, .int wr, .int cm])), (h1, .inl (c1, 96, .inl mem)), (h2, .inl (c2, 200, .inl blk)), (h3, .inl (c3, 8, .inl hdr))] s.heap := hP
  subst hsz
  have hD := hD0.self (sz := s.heap.size)
  have hA : ∀ q : Nat, s.heap.size ≤ q → (va_A (w0 h0 h1 h2 h3 c1 c2 c3 (mem, blk, hdr, ds, pw, rn, wr, cm)) s.heap.size) q := fun q h => Or.inr h
  have hS : va_S (va_A (w0 h0 h1 h2 h3 c1 c2 c3 (mem, blk, hdr, ds, pw, rn, wr, cm)) s.heap.size) s.heap s.heap [] := va_S.rf
  have hl := lv_entry ([.ref h0, .int x0]) (n := 3) (Nat.le_of_ble_eq_true rfl)
  rw [lg_entry_eq]
  generalize (lg_sl ([.ref h0, .int x0]) ++ List.replicate (3 - (lg_sl ([.ref h0, .int x0])).length) Slot.unset).toArray = ls at hl ⊢
  have hl : lv_has ls 3 [(0, .ref h0), (1, .int x0)] := hl
  refine lv_aload_n hx hb dX0_power_0 rfl (lv_at hl 0 rfl) ?_
  refine lv_iload_n hx hb dX0_power_1 rfl (lv_at hl 1 rfl) ?_
  refine callSi (As := [.int x0]) (rest := [.ref h0]) (m0_isPower l x0) ⟨hx, hb, hml, hown, hts⟩ (va_cwS 1 hts gX0_power_X0_isPower rfl rfl rfl (by decide +kernel) ⟨Nat.le_of_ble_eq_true rfl, Nat.le_of_ble_eq_true rfl⟩) rfl hl.1 rfl (Nat.le_of_ble_eq_true rfl) dX0_power_2 ⟨Nat.zero_le _, Nat.zero_le _⟩ ?_
  refine callRi (q := (RX0, TX0, 8)) (ci := 0) (q0 := 0) (As := [.int (f0_isPower x0)]) (rest := []) (m0_refusal l dC dI h0 h1 h2 h3 c1 c2 c3 mem blk hdr ds pw rn wr cm (f0_isPower x0) ) ⟨hx, hb, hml, hown, hts⟩ (cwV 1 hts gX0_power_X0_refusal rfl rfl rfl (by decide +kernel) ⟨Nat.le_of_ble_eq_true rfl, Nat.le_of_ble_eq_true rfl⟩) hK hP rfl rfl rfl hl.1 rfl (Nat.le_of_ble_eq_true rfl) dX0_power_5 ⟨Nat.zero_le _, Nat.zero_le _⟩ ?_
  refine lv_istore_n (lv' := [(2, .int (f0_refusal mem blk hdr ds pw rn wr cm (f0_isPower x0))), (0, .ref h0), (1, .int x0)]) hx hb dX0_power_8 rfl hl (by decide) rfl (fun ls hl => ?_)
  refine lv_iload_n hx hb dX0_power_9 rfl (lv_at hl 0 rfl) ?_
  refine lv_if_eq (tgt := 15) hx hb dX0_power_10 (by decide) (fun c_10 => ?_) (fun c_10 => ?_)
  · skip
    refine lv_aload_n hx hb dX0_power_15 rfl (lv_at hl 1 rfl) ?_
    refine lv_iload_n hx hb dX0_power_16 rfl (lv_at hl 2 rfl) ?_
    refine va_put (D := (dC, dI)) (ci := 0) (v := .int x0) (ty := .int) (C := RX0) (T := TX0) (N := 8) hx hb hts hin tyX0 tyX0_ok nmX0 hown hK hP hD hS 0 rfl rfl 4 (by decide) (hts (.fieldLink RX0 23 "CapStore" "powerLeft" "I") (by decide +kernel)) (fun _ h9 => h9) rfl (by decide +kernel) rfl rfl (Nat.le_of_ble_eq_true rfl) dX0_power_17 (fun H locs hP hD hS => ?_)
    have hP : va_P (dC, dI) vwCl [(h0, .inr (0, [.ref h1, .ref h2, .ref h3, .int ds, .int x0, .int rn, .int wr, .int cm])), (h1, .inl (c1, 96, .inl mem)), (h2, .inl (c2, 200, .inl blk)), (h3, .inl (c3, 8, .inl hdr))] _ := hP
    have hD : va_D _ [(h0, .inr (0, [.ref h1, .ref h2, .ref h3, .int ds, .int x0, .int rn, .int wr, .int cm])), (h1, .inl (c1, 96, .inl mem)), (h2, .inl (c2, 200, .inl blk)), (h3, .inl (c3, 8, .inl hdr))] := hD
    refine lv_iconst (v := 0) hx hb dX0_power_20 (by decide) ?_
    have e9 : F0_power mem blk hdr ds pw rn wr cm x0 = (0, mem, blk, hdr, ds, x0, rn, wr, cm) := by unfold F0_power; rw [if_pos c_10]
    rw [e9]
    exact retWi hx hb hr hlocks rfl rfl rfl hK hP hD hS dX0_power_21
  · skip
    refine lv_iload_n hx hb dX0_power_13 rfl (lv_at hl 0 rfl) ?_
    have e9 : F0_power mem blk hdr ds pw rn wr cm x0 = ((f0_refusal mem blk hdr ds pw rn wr cm (f0_isPower x0)), mem, blk, hdr, ds, pw, rn, wr, cm) := by unfold F0_power; rw [if_neg c_10]
    rw [e9]
    exact retWi hx hb hr hlocks rfl rfl rfl hK hP hD hS dX0_power_14
set_option maxHeartbeats 4000000 in
set_option maxRecDepth 100000 in
theorem m0_crash (l : Launch) (dC : Nat → ClassId) (dI : Nat → Nat → Nat) (h0 h1 h2 h3 : Nat) (c1 c2 c3 : ClassId) (sz : Nat) (mem blk hdr : Nat → Int32) (ds pw rn wr cm : Int32) (hrn : rn = 0 ∨ rn = 1) : Met l yX0_crash wsX0_crash ({ frames := 0, cells := 0, slots := 0, locals := 0 }) (pcW (dC, dI) (k0 c1 c2 c3) (w0 h0 h1 h2 h3 c1 c2 c3 (mem, blk, hdr, ds, pw, rn, wr, cm)) sz [.ref h0]) (qcWi (dC, dI) (k0 c1 c2 c3) (w0 h0 h1 h2 h3 c1 c2 c3 (mem, blk, hdr, ds, pw, rn, wr, cm)) (w0 h0 h1 h2 h3 c1 c2 c3 (F0_crash mem blk hdr ds pw rn wr cm).2) sz (F0_crash mem blk hdr ds pw rn wr cm).1) 0 0 (va_A (w0 h0 h1 h2 h3 c1 c2 c3 (mem, blk, hdr, ds, pw, rn, wr, cm)) sz) := by
  refine Met.ofW (cc := cX0_crash) (maxL := 2) (ret := (some .boolean)) (by decide) rfl ?_
  intro p e s m args below meth c s₁ B hml hv
  obtain ⟨rfl, hsz, hP, hK, hD0⟩ := hv
  have hx := B.exec
  have hb := B.bytes
  have hr := B.returns
  have hts := atoms_spec (ws := wsX0_crash) B.pre
  have hown : s.vm.findClass RX0 = some m.cls := findClass_of_methodNamed B.named
  have hlocks := B.notSynchronized
  have hin : ∀ w ∈ wsX00, w ∈ wsX0_crash := fun _ h => List.mem_cons_of_mem _ (List.mem_append_right _ h)
  have hP : va_P (dC, dI) vwCl [(h0, .inr (0, [.ref h1, .ref h2, .ref h3, .int ds, .int pw, .int rn, .int wr, .int cm])), (h1, .inl (c1, 96, .inl mem)), (h2, .inl (c2, 200, .inl blk)), (h3, .inl (c3, 8, .inl hdr))] s.heap := hP
  subst hsz
  have hD := hD0.self (sz := s.heap.size)
  have hA : ∀ q : Nat, s.heap.size ≤ q → (va_A (w0 h0 h1 h2 h3 c1 c2 c3 (mem, blk, hdr, ds, pw, rn, wr, cm)) s.heap.size) q := fun q h => Or.inr h
  have hS : va_S (va_A (w0 h0 h1 h2 h3 c1 c2 c3 (mem, blk, hdr, ds, pw, rn, wr, cm)) s.heap.size) s.heap s.heap [] := va_S.rf
  have hl := lv_entry ([.ref h0]) (n := 2) (Nat.le_of_ble_eq_true rfl)
  rw [lg_entry_eq]
  generalize (lg_sl ([.ref h0]) ++ List.replicate (2 - (lg_sl ([.ref h0])).length) Slot.unset).toArray = ls at hl ⊢
  have hl : lv_has ls 2 [(0, .ref h0)] := hl
  refine lv_aload_n hx hb dX0_crash_0 rfl (lv_at hl 0 rfl) ?_
  refine va_get (D := (dC, dI)) (ci := 0) (v := .int rn) (C := RX0) (T := TX0) (N := 8) hx hb hts hin hown hK hP 0 rfl rfl 5 (by decide) (hts (.fieldLink RX0 26 "CapStore" "running" "Z") (by decide +kernel)) (fun _ h9 => h9) rfl dX0_crash_1 ?_
  refine lv_istore_n (lv' := [(1, .int rn), (0, .ref h0)]) hx hb dX0_crash_4 rfl hl (by decide) rfl (fun ls hl => ?_)
  refine lv_aload_n hx hb dX0_crash_5 rfl (lv_at hl 1 rfl) ?_
  refine lv_iconst (v := 0) hx hb dX0_crash_6 (by decide) ?_
  refine va_put (D := (dC, dI)) (ci := 0) (v := .int 0) (ty := .boolean) (C := RX0) (T := TX0) (N := 8) hx hb hts hin tyX0 tyX0_ok nmX0 hown hK hP hD hS 0 rfl rfl 5 (by decide) (hts (.fieldLink RX0 26 "CapStore" "running" "Z") (by decide +kernel)) (fun _ h9 => h9) rfl (by decide +kernel) rfl rfl (Nat.le_of_ble_eq_true rfl) dX0_crash_7 (fun H locs hP hD hS => ?_)
  have hP : va_P (dC, dI) vwCl [(h0, .inr (0, [.ref h1, .ref h2, .ref h3, .int ds, .int pw, .int 0, .int wr, .int cm])), (h1, .inl (c1, 96, .inl mem)), (h2, .inl (c2, 200, .inl blk)), (h3, .inl (c3, 8, .inl hdr))] _ := hP
  have hD : va_D _ [(h0, .inr (0, [.ref h1, .ref h2, .ref h3, .int ds, .int pw, .int 0, .int wr, .int cm])), (h1, .inl (c1, 96, .inl mem)), (h2, .inl (c2, 200, .inl blk)), (h3, .inl (c3, 8, .inl hdr))] := hD
  refine lv_iload_n hx hb dX0_crash_10 rfl (lv_at hl 0 rfl) ?_
  have e9 : F0_crash mem blk hdr ds pw rn wr cm = (rn, mem, blk, hdr, ds, pw, 0, wr, cm) := rfl
  rw [e9]
  exact retWi hx hb hr hlocks (by rcases hrn with rfl | rfl <;> rfl) rfl rfl hK hP hD hS dX0_crash_11
end
section
def F0_writeBlock_m (mem blk hdr : Nat → Int32) (ds pw rn wr cm : Int32) (x0 : Int32) (x2 : Int32) : Int32 × S0 := (if pw = 0 then (0, mem, blk, hdr, ds, pw, 0, wr, cm) else (if pw = (-1) then (1, mem, (va_cpy mem blk (x2 * 8).toNatClampNeg (x0 * 8).toNatClampNeg (8 : Int32).toNatClampNeg), hdr, ds, pw, rn, (wr + 1), cm) else (1, mem, (va_cpy mem blk (x2 * 8).toNatClampNeg (x0 * 8).toNatClampNeg (8 : Int32).toNatClampNeg), hdr, ds, (pw - 1), rn, (wr + 1), cm)))
def F0_writeBlock_b (mem blk hdr : Nat → Int32) (ds pw rn wr cm : Int32) (x0 : Int32) (x2 : Int32) : Int32 × S0 := (if pw = 0 then (0, mem, blk, hdr, ds, pw, 0, wr, cm) else (if pw = (-1) then (1, mem, (va_cpy blk blk (x2 * 8).toNatClampNeg (x0 * 8).toNatClampNeg (8 : Int32).toNatClampNeg), hdr, ds, pw, rn, (wr + 1), cm) else (1, mem, (va_cpy blk blk (x2 * 8).toNatClampNeg (x0 * 8).toNatClampNeg (8 : Int32).toNatClampNeg), hdr, ds, (pw - 1), rn, (wr + 1), cm)))
def F0_writeBlock_h (mem blk hdr : Nat → Int32) (ds pw rn wr cm : Int32) (x0 : Int32) (x2 : Int32) : Int32 × S0 := (if pw = 0 then (0, mem, blk, hdr, ds, pw, 0, wr, cm) else (if pw = (-1) then (1, mem, (va_cpy hdr blk (x2 * 8).toNatClampNeg (x0 * 8).toNatClampNeg (8 : Int32).toNatClampNeg), hdr, ds, pw, rn, (wr + 1), cm) else (1, mem, (va_cpy hdr blk (x2 * 8).toNatClampNeg (x0 * 8).toNatClampNeg (8 : Int32).toNatClampNeg), hdr, ds, (pw - 1), rn, (wr + 1), cm)))
def F0_writeHeader (mem blk hdr : Nat → Int32) (ds pw rn wr cm : Int32) (x0 : Int32) : Int32 × S0 := (match F0_writeBlock_h mem blk (upd hdr (0 : Int32).toNatClampNeg x0) ds pw rn wr cm 24 0 with | (r_1, mem_1, blk_1, hdr_1, ds_1, pw_1, rn_1, wr_1, cm_1) => (r_1, mem_1, blk_1, hdr_1, ds_1, pw_1, rn_1, wr_1, cm_1))
def F0_cl_m (x0 x2 x3 : Int32) : Nat → S0 → Int32 × S0
  | 0, u => (1, u)
  | n + 1, u => if f0_has x0 (nI (11 - n)) = 0 then F0_cl_m x0 x2 x3 n u else
    (match F0_writeBlock_m u.1 u.2.1 u.2.2.1 u.2.2.2.1 u.2.2.2.2.1 u.2.2.2.2.2.1 u.2.2.2.2.2.2.1 u.2.2.2.2.2.2.2 (x3 + nI (11 - n)) (x2 + nI (11 - n)) with
      | (r, u1) => if r = 0 then (0, u1) else F0_cl_m x0 x2 x3 n u1)
def F0_copyRows_m (mem blk hdr : Nat → Int32) (ds pw rn wr cm : Int32) (x0 : Int32) (x2 : Int32) (x3 : Int32) : Int32 × S0 := F0_cl_m x0 x2 x3 12 (mem, blk, hdr, ds, pw, rn, wr, cm)
def F0_cl_b (x0 x2 x3 : Int32) : Nat → S0 → Int32 × S0
  | 0, u => (1, u)
  | n + 1, u => if f0_has x0 (nI (11 - n)) = 0 then F0_cl_b x0 x2 x3 n u else
    (match F0_writeBlock_b u.1 u.2.1 u.2.2.1 u.2.2.2.1 u.2.2.2.2.1 u.2.2.2.2.2.1 u.2.2.2.2.2.2.1 u.2.2.2.2.2.2.2 (x3 + nI (11 - n)) (x2 + nI (11 - n)) with
      | (r, u1) => if r = 0 then (0, u1) else F0_cl_b x0 x2 x3 n u1)
def F0_copyRows_b (mem blk hdr : Nat → Int32) (ds pw rn wr cm : Int32) (x0 : Int32) (x2 : Int32) (x3 : Int32) : Int32 × S0 := F0_cl_b x0 x2 x3 12 (mem, blk, hdr, ds, pw, rn, wr, cm)
def F0_saveDirty (mem blk hdr : Nat → Int32) (ds pw rn wr cm : Int32) : Int32 × S0 := (if ds = 0 then (1, mem, blk, hdr, ds, pw, rn, wr, cm) else (match F0_copyRows_m mem blk hdr ds pw rn wr cm ds 0 12 with | (r_1, mem_1, blk_1, hdr_1, ds_1, pw_1, rn_1, wr_1, cm_1) => (if r_1 = 0 then (0, mem_1, blk_1, hdr_1, ds_1, pw_1, rn_1, wr_1, cm_1) else (match F0_writeHeader mem_1 blk_1 hdr_1 ds_1 pw_1 rn_1 wr_1 cm_1 ds_1 with | (r_2, mem_2, blk_2, hdr_2, ds_2, pw_2, rn_2, wr_2, cm_2) => (if r_2 = 0 then (0, mem_2, blk_2, hdr_2, ds_2, pw_2, rn_2, wr_2, cm_2) else (match F0_copyRows_m mem_2 blk_2 hdr_2 ds_2 pw_2 rn_2 wr_2 (cm_2 + 1) ds_2 0 0 with | (r_3, mem_3, blk_3, hdr_3, ds_3, pw_3, rn_3, wr_3, cm_3) => (if r_3 = 0 then (0, mem_3, blk_3, hdr_3, ds_3, pw_3, rn_3, wr_3, cm_3) else (match F0_writeHeader mem_3 blk_3 hdr_3 ds_3 pw_3 rn_3 wr_3 cm_3 0 with | (r_4, mem_4, blk_4, hdr_4, ds_4, pw_4, rn_4, wr_4, cm_4) => (if r_4 = 0 then (0, mem_4, blk_4, hdr_4, ds_4, pw_4, rn_4, wr_4, cm_4) else (1, mem_4, blk_4, hdr_4, ds_4, pw_4, rn_4, wr_4, cm_4))))))))))
def F0_finishCommitted (mem blk hdr : Nat → Int32) (ds pw rn wr cm : Int32) : Int32 × S0 := (if (blk (192 : Int32).toNatClampNeg) = 0 then (1, mem, blk, hdr, ds, pw, rn, wr, cm) else (match F0_copyRows_b mem blk hdr ds pw rn wr cm (blk (192 : Int32).toNatClampNeg) 12 0 with | (r_1, mem_1, blk_1, hdr_1, ds_1, pw_1, rn_1, wr_1, cm_1) => (if r_1 = 0 then (0, mem_1, blk_1, hdr_1, ds_1, pw_1, rn_1, wr_1, cm_1) else (match F0_writeHeader mem_1 blk_1 hdr_1 ds_1 pw_1 rn_1 wr_1 cm_1 0 with | (r_2, mem_2, blk_2, hdr_2, ds_2, pw_2, rn_2, wr_2, cm_2) => (if r_2 = 0 then (0, mem_2, blk_2, hdr_2, ds_2, pw_2, rn_2, wr_2, cm_2) else (1, mem_2, blk_2, hdr_2, ds_2, pw_2, rn_2, wr_2, cm_2))))))
def F0_loadHomes (mem blk hdr : Nat → Int32) (ds pw rn wr cm : Int32) : S0 := ((va_cpy blk mem (0 : Int32).toNatClampNeg (0 : Int32).toNatClampNeg (96 : Int32).toNatClampNeg), blk, hdr, 0, pw, rn, wr, cm)
def F0_checkpoint (mem blk hdr : Nat → Int32) (ds pw rn wr cm : Int32) : Int32 × S0 := (if rn = 0 then ((-1), mem, blk, hdr, ds, pw, rn, wr, cm) else (match F0_saveDirty mem blk hdr ds pw rn wr cm with | (r_1, mem_1, blk_1, hdr_1, ds_1, pw_1, rn_1, wr_1, cm_1) => (if r_1 = 0 then ((-2), mem_1, blk_1, hdr_1, ds_1, pw_1, rn_1, wr_1, cm_1) else ((wr_1 - wr), mem_1, blk_1, hdr_1, 0, pw_1, rn_1, wr_1, cm_1))))
def F0_start (mem blk hdr : Nat → Int32) (ds pw rn wr cm : Int32) (x0 : Int32) : Int32 × S0 := (if rn = 0 then (if (f0_isPower x0) = 0 then ((-2), mem, blk, hdr, ds, pw, rn, wr, cm) else (match F0_finishCommitted mem blk hdr ds x0 rn wr cm with | (r_1, mem_1, blk_1, hdr_1, ds_1, pw_1, rn_1, wr_1, cm_1) => (if r_1 = 0 then ((-3), mem_1, blk_1, hdr_1, ds_1, pw_1, rn_1, wr_1, cm_1) else ((wr_1 - wr), (va_cpy blk_1 mem_1 (0 : Int32).toNatClampNeg (0 : Int32).toNatClampNeg (96 : Int32).toNatClampNeg), blk_1, hdr_1, 0, pw_1, 1, wr_1, cm_1)))) else ((-1), mem, blk, hdr, ds, pw, rn, wr, cm))
end
section
def wbOK (x0 x2 : Int32) (n : Nat) : Prop := ∃ a b : Nat, x0 = nI b ∧ x2 = nI a ∧ a * 8 + 8 ≤ n ∧ b * 8 + 8 ≤ 200 ∧ n ≤ 200
def crOK (x2 x3 : Int32) (n : Nat) : Prop := ∃ a b : Nat, x2 = nI a ∧ x3 = nI b ∧ (a + 12) * 8 ≤ n ∧ (b + 12) * 8 ≤ 200 ∧ n ≤ 200
theorem m8 (a : Nat) : nI a * 8 = nI (a * 8) := by rw [show (8 : Int32) = nI 8 from rfl, pk_mul]
theorem c8 : (8 : Int32).toNatClampNeg = 8 := by decide
theorem wb_1 {x0 x2 : Int32} {n : Nat} (h : wbOK x0 x2 n) : ¬ x2 * 8 < 0 := by
  obtain ⟨a, b, rfl, rfl, h1, h2, h3⟩ := h
  rw [m8]; exact nI_pos (by omega)
theorem wb_2 {x0 x2 : Int32} {n : Nat} (h : wbOK x0 x2 n) : ¬ x0 * 8 < 0 := by
  obtain ⟨a, b, rfl, rfl, h1, h2, h3⟩ := h
  rw [m8]; exact nI_pos (by omega)
theorem wb_4 {x0 x2 : Int32} {n : Nat} (h : wbOK x0 x2 n) : (x2 * 8).toNatClampNeg + (8 : Int32).toNatClampNeg ≤ n := by
  obtain ⟨a, b, rfl, rfl, h1, h2, h3⟩ := h
  rw [m8, nI_clamp (by omega), c8]; exact h1
theorem wb_5 {x0 x2 : Int32} {n : Nat} (h : wbOK x0 x2 n) : (x0 * 8).toNatClampNeg + (8 : Int32).toNatClampNeg ≤ 200 := by
  obtain ⟨a, b, rfl, rfl, h1, h2, h3⟩ := h
  rw [m8, nI_clamp (by omega), c8]; exact h2
theorem wb_hdr : wbOK 24 0 8 := ⟨0, 24, rfl, rfl, by decide, by decide, by decide⟩
theorem cr_log : crOK 0 12 96 := ⟨0, 12, rfl, rfl, by decide, by decide, by decide⟩
theorem cr_home : crOK 0 0 96 := ⟨0, 0, rfl, rfl, by decide, by decide, by decide⟩
theorem cr_rec : crOK 12 0 200 := ⟨12, 0, rfl, rfl, by decide, by decide, by decide⟩
theorem cr_wb {x2 x3 : Int32} {n k : Nat} (h : crOK x2 x3 n) (hk : k < 12) : wbOK (x3 + nI k) (x2 + nI k) n := by
  obtain ⟨a, b, rfl, rfl, h1, h2, h3⟩ := h
  exact ⟨a + k, b + k, nI_add b k, nI_add a k, by omega, by omega, h3⟩
theorem wbh_01 {mem blk hdr : Nat → Int32} {ds pw rn wr cm x0 x2 r : Int32} {u : S0} (h : F0_writeBlock_h mem blk hdr ds pw rn wr cm x0 x2 = (r, u)) : r = 0 ∨ r = 1 := by
  have e : r = (F0_writeBlock_h mem blk hdr ds pw rn wr cm x0 x2).1 := by rw [h]
  rw [e]
  unfold F0_writeBlock_h
  by_cases c1 : pw = 0
  · rw [if_pos c1]; exact Or.inl rfl
  · by_cases c2 : pw = -1
    · rw [if_neg c1, if_pos c2]; exact Or.inr rfl
    · rw [if_neg c1, if_neg c2]; exact Or.inr rfl
theorem nar_wbh {mem blk hdr : Nat → Int32} {ds pw rn wr cm x0 x2 r : Int32} {u : S0} (h : F0_writeBlock_h mem blk hdr ds pw rn wr cm x0 x2 = (r, u)) : narrow .boolean (.int r) = .int r := by
  rcases wbh_01 h with rfl | rfl <;> rfl
end
section
set_option maxHeartbeats 4000000 in
set_option maxRecDepth 100000 in
theorem m0_writeBlock_m (l : Launch) (dC : Nat → ClassId) (dI : Nat → Nat → Nat) (h0 h1 h2 h3 : Nat) (c1 c2 c3 : ClassId) (sz : Nat) (mem blk hdr : Nat → Int32) (ds pw rn wr cm : Int32) (x0 : Int32) (x2 : Int32) (hw : wbOK x0 x2 96) : Met l yX0_writeBlock wsX0_writeBlock ({ frames := 1, cells := 0, slots := 0, locals := 40 }) (pcW (dC, dI) (k0 c1 c2 c3) (w0 h0 h1 h2 h3 c1 c2 c3 (mem, blk, hdr, ds, pw, rn, wr, cm)) sz [.ref h0, .int x0, .ref h1, .int x2]) (qcWi (dC, dI) (k0 c1 c2 c3) (w0 h0 h1 h2 h3 c1 c2 c3 (mem, blk, hdr, ds, pw, rn, wr, cm)) (w0 h0 h1 h2 h3 c1 c2 c3 (F0_writeBlock_m mem blk hdr ds pw rn wr cm x0 x2).2) sz (F0_writeBlock_m mem blk hdr ds pw rn wr cm x0 x2).1) 0 0 (va_A (w0 h0 h1 h2 h3 c1 c2 c3 (mem, blk, hdr, ds, pw, rn, wr, cm)) sz) := by
  refine Met.ofW (cc := cX0_writeBlock) (maxL := 4) (ret := (some .boolean)) (by decide) rfl ?_
  intro p e s m args below meth c s₁ B hml hv
  obtain ⟨rfl, hsz, hP, hK, hD0⟩ := hv
  have hx := B.exec
  have hb := B.bytes
  have hr := B.returns
  have hts := atoms_spec (ws := wsX0_writeBlock) B.pre
  have hown : s.vm.findClass RX0 = some m.cls := findClass_of_methodNamed B.named
  have hlocks := B.notSynchronized
  have hin : ∀ w ∈ wsX00, w ∈ wsX0_writeBlock := fun _ h => List.mem_cons_of_mem _ (List.mem_append_right _ h)
  have hP : va_P (dC, dI) vwCl [(h0, .inr (0, [.ref h1, .ref h2, .ref h3, .int ds, .int pw, .int rn, .int wr, .int cm])), (h1, .inl (c1, 96, .inl mem)), (h2, .inl (c2, 200, .inl blk)), (h3, .inl (c3, 8, .inl hdr))] s.heap := hP
  subst hsz
  have hD := hD0.self (sz := s.heap.size)
  have hA : ∀ q : Nat, s.heap.size ≤ q → (va_A (w0 h0 h1 h2 h3 c1 c2 c3 (mem, blk, hdr, ds, pw, rn, wr, cm)) s.heap.size) q := fun q h => Or.inr h
  have hS : va_S (va_A (w0 h0 h1 h2 h3 c1 c2 c3 (mem, blk, hdr, ds, pw, rn, wr, cm)) s.heap.size) s.heap s.heap [] := va_S.rf
  have hl := lv_entry ([.ref h0, .int x0, .ref h1, .int x2]) (n := 4) (Nat.le_of_ble_eq_true rfl)
  rw [lg_entry_eq]
  generalize (lg_sl ([.ref h0, .int x0, .ref h1, .int x2]) ++ List.replicate (4 - (lg_sl ([.ref h0, .int x0, .ref h1, .int x2])).length) Slot.unset).toArray = ls at hl ⊢
  have hl : lv_has ls 4 [(0, .ref h0), (1, .int x0), (2, .ref h1), (3, .int x2)] := hl
  refine lv_aload_n hx hb dX0_writeBlock_0 rfl (lv_at hl 0 rfl) ?_
  refine va_get (D := (dC, dI)) (ci := 0) (v := .int pw) (C := RX0) (T := TX0) (N := 8) hx hb hts hin hown hK hP 0 rfl rfl 4 (by decide) (hts (.fieldLink RX0 23 "CapStore" "powerLeft" "I") (by decide +kernel)) (fun _ h9 => h9) rfl dX0_writeBlock_1 ?_
  refine lv_if_ne (tgt := 14) hx hb dX0_writeBlock_4 (by decide) (fun c_4 => ?_) (fun c_4 => ?_)
  · skip
    refine lv_aload_n hx hb dX0_writeBlock_14 rfl (lv_at hl 2 rfl) ?_
    refine lv_iload_n hx hb dX0_writeBlock_15 rfl (lv_at hl 3 rfl) ?_
    refine lv_bipush (v := 8) hx hb dX0_writeBlock_16 (by decide) ?_
    refine lv_imul hx hb dX0_writeBlock_18 ?_
    refine lv_aload_n hx hb dX0_writeBlock_19 rfl (lv_at hl 0 rfl) ?_
    refine va_get (D := (dC, dI)) (ci := 0) (v := .ref h2) (C := RX0) (T := TX0) (N := 8) hx hb hts hin hown hK hP 0 rfl rfl 1 (by decide) (hts (.fieldLink RX0 13 "CapStore" "blocks" "[I") (by decide +kernel)) (fun _ h9 => h9) rfl dX0_writeBlock_20 ?_
    refine lv_iload_n hx hb dX0_writeBlock_23 rfl (lv_at hl 1 rfl) ?_
    refine lv_bipush (v := 8) hx hb dX0_writeBlock_24 (by decide) ?_
    refine lv_imul hx hb dX0_writeBlock_26 ?_
    refine lv_bipush (v := 8) hx hb dX0_writeBlock_27 (by decide) ?_
    refine va_copyi (ty := .int) hx hb (hml.trans hl.1.symm) hown (hts (.methodLink RX0 122 arraycopyName) (by decide +kernel)) (hts (.native arraycopyName) (by decide +kernel)) (hts (.static arraycopyName) (by decide +kernel)) (hts (.initialized "java/lang/System") (by decide +kernel)) hK hP hD hS 1 2 0 1 rfl rfl rfl rfl rfl (wb_1 hw) (wb_2 hw) (by decide) (wb_4 hw) (wb_5 hw) (fun _ _ => rfl) (Nat.le_of_ble_eq_true rfl) (Nat.le_of_ble_eq_true rfl) dX0_writeBlock_29 (fun H locs hP hD hS => ?_)
    have hP : va_P (dC, dI) vwCl [(h0, .inr (0, [.ref h1, .ref h2, .ref h3, .int ds, .int pw, .int rn, .int wr, .int cm])), (h1, .inl (c1, 96, .inl mem)), (h2, .inl (c2, 200, .inl (va_cpy mem blk (x2 * 8).toNatClampNeg (x0 * 8).toNatClampNeg (8 : Int32).toNatClampNeg))), (h3, .inl (c3, 8, .inl hdr))] _ := hP
    have hD : va_D _ [(h0, .inr (0, [.ref h1, .ref h2, .ref h3, .int ds, .int pw, .int rn, .int wr, .int cm])), (h1, .inl (c1, 96, .inl mem)), (h2, .inl (c2, 200, .inl (va_cpy mem blk (x2 * 8).toNatClampNeg (x0 * 8).toNatClampNeg (8 : Int32).toNatClampNeg))), (h3, .inl (c3, 8, .inl hdr))] := hD
    refine lv_aload_n hx hb dX0_writeBlock_32 rfl (lv_at hl 0 rfl) ?_
    refine va_get (D := (dC, dI)) (ci := 0) (v := .int pw) (C := RX0) (T := TX0) (N := 8) hx hb hts hin hown hK hP 0 rfl rfl 4 (by decide) (hts (.fieldLink RX0 23 "CapStore" "powerLeft" "I") (by decide +kernel)) (fun _ h9 => h9) rfl dX0_writeBlock_33 ?_
    refine lv_iconst (v := (-1)) hx hb dX0_writeBlock_36 (by decide) ?_
    refine lv_icmp_eq (tgt := 50) hx hb dX0_writeBlock_37 (by decide) (fun c_37 => ?_) (fun c_37 => ?_)
    · skip
      refine lv_aload_n hx hb dX0_writeBlock_50 rfl (lv_at hl 0 rfl) ?_
      refine lv_dup hx hb dX0_writeBlock_51 rfl ?_
      refine va_get (D := (dC, dI)) (ci := 0) (v := .int wr) (C := RX0) (T := TX0) (N := 8) hx hb hts hin hown hK hP 0 rfl rfl 6 (by decide) (hts (.fieldLink RX0 30 "CapStore" "written" "I") (by decide +kernel)) (fun _ h9 => h9) rfl dX0_writeBlock_52 ?_
      refine lv_iconst (v := 1) hx hb dX0_writeBlock_55 (by decide) ?_
      refine lv_iadd hx hb dX0_writeBlock_56 ?_
      refine va_put (D := (dC, dI)) (ci := 0) (v := .int (wr + 1)) (ty := .int) (C := RX0) (T := TX0) (N := 8) hx hb hts hin tyX0 tyX0_ok nmX0 hown hK hP hD hS 0 rfl rfl 6 (by decide) (hts (.fieldLink RX0 30 "CapStore" "written" "I") (by decide +kernel)) (fun _ h9 => h9) rfl (by decide +kernel) rfl rfl (Nat.le_of_ble_eq_true rfl) dX0_writeBlock_57 (fun H locs hP hD hS => ?_)
      have hP : va_P (dC, dI) vwCl [(h0, .inr (0, [.ref h1, .ref h2, .ref h3, .int ds, .int pw, .int rn, .int (wr + 1), .int cm])), (h1, .inl (c1, 96, .inl mem)), (h2, .inl (c2, 200, .inl (va_cpy mem blk (x2 * 8).toNatClampNeg (x0 * 8).toNatClampNeg (8 : Int32).toNatClampNeg))), (h3, .inl (c3, 8, .inl hdr))] _ := hP
      have hD : va_D _ [(h0, .inr (0, [.ref h1, .ref h2, .ref h3, .int ds, .int pw, .int rn, .int (wr + 1), .int cm])), (h1, .inl (c1, 96, .inl mem)), (h2, .inl (c2, 200, .inl (va_cpy mem blk (x2 * 8).toNatClampNeg (x0 * 8).toNatClampNeg (8 : Int32).toNatClampNeg))), (h3, .inl (c3, 8, .inl hdr))] := hD
      refine lv_iconst (v := 1) hx hb dX0_writeBlock_60 (by decide) ?_
      have e9 : F0_writeBlock_m mem blk hdr ds pw rn wr cm x0 x2 = (1, mem, (va_cpy mem blk (x2 * 8).toNatClampNeg (x0 * 8).toNatClampNeg (8 : Int32).toNatClampNeg), hdr, ds, pw, rn, (wr + 1), cm) := by unfold F0_writeBlock_m; rw [if_neg c_4, if_pos c_37]
      rw [e9]
      exact retWi hx hb hr hlocks rfl rfl rfl hK hP hD hS dX0_writeBlock_61
    · skip
      refine lv_aload_n hx hb dX0_writeBlock_40 rfl (lv_at hl 0 rfl) ?_
      refine lv_dup hx hb dX0_writeBlock_41 rfl ?_
      refine va_get (D := (dC, dI)) (ci := 0) (v := .int pw) (C := RX0) (T := TX0) (N := 8) hx hb hts hin hown hK hP 0 rfl rfl 4 (by decide) (hts (.fieldLink RX0 23 "CapStore" "powerLeft" "I") (by decide +kernel)) (fun _ h9 => h9) rfl dX0_writeBlock_42 ?_
      refine lv_iconst (v := 1) hx hb dX0_writeBlock_45 (by decide) ?_
      refine lv_isub hx hb dX0_writeBlock_46 ?_
      refine va_put (D := (dC, dI)) (ci := 0) (v := .int (pw - 1)) (ty := .int) (C := RX0) (T := TX0) (N := 8) hx hb hts hin tyX0 tyX0_ok nmX0 hown hK hP hD hS 0 rfl rfl 4 (by decide) (hts (.fieldLink RX0 23 "CapStore" "powerLeft" "I") (by decide +kernel)) (fun _ h9 => h9) rfl (by decide +kernel) rfl rfl (Nat.le_of_ble_eq_true rfl) dX0_writeBlock_47 (fun H locs hP hD hS => ?_)
      have hP : va_P (dC, dI) vwCl [(h0, .inr (0, [.ref h1, .ref h2, .ref h3, .int ds, .int (pw - 1), .int rn, .int wr, .int cm])), (h1, .inl (c1, 96, .inl mem)), (h2, .inl (c2, 200, .inl (va_cpy mem blk (x2 * 8).toNatClampNeg (x0 * 8).toNatClampNeg (8 : Int32).toNatClampNeg))), (h3, .inl (c3, 8, .inl hdr))] _ := hP
      have hD : va_D _ [(h0, .inr (0, [.ref h1, .ref h2, .ref h3, .int ds, .int (pw - 1), .int rn, .int wr, .int cm])), (h1, .inl (c1, 96, .inl mem)), (h2, .inl (c2, 200, .inl (va_cpy mem blk (x2 * 8).toNatClampNeg (x0 * 8).toNatClampNeg (8 : Int32).toNatClampNeg))), (h3, .inl (c3, 8, .inl hdr))] := hD
      refine lv_aload_n hx hb dX0_writeBlock_50 rfl (lv_at hl 0 rfl) ?_
      refine lv_dup hx hb dX0_writeBlock_51 rfl ?_
      refine va_get (D := (dC, dI)) (ci := 0) (v := .int wr) (C := RX0) (T := TX0) (N := 8) hx hb hts hin hown hK hP 0 rfl rfl 6 (by decide) (hts (.fieldLink RX0 30 "CapStore" "written" "I") (by decide +kernel)) (fun _ h9 => h9) rfl dX0_writeBlock_52 ?_
      refine lv_iconst (v := 1) hx hb dX0_writeBlock_55 (by decide) ?_
      refine lv_iadd hx hb dX0_writeBlock_56 ?_
      refine va_put (D := (dC, dI)) (ci := 0) (v := .int (wr + 1)) (ty := .int) (C := RX0) (T := TX0) (N := 8) hx hb hts hin tyX0 tyX0_ok nmX0 hown hK hP hD hS 0 rfl rfl 6 (by decide) (hts (.fieldLink RX0 30 "CapStore" "written" "I") (by decide +kernel)) (fun _ h9 => h9) rfl (by decide +kernel) rfl rfl (Nat.le_of_ble_eq_true rfl) dX0_writeBlock_57 (fun H locs hP hD hS => ?_)
      have hP : va_P (dC, dI) vwCl [(h0, .inr (0, [.ref h1, .ref h2, .ref h3, .int ds, .int (pw - 1), .int rn, .int (wr + 1), .int cm])), (h1, .inl (c1, 96, .inl mem)), (h2, .inl (c2, 200, .inl (va_cpy mem blk (x2 * 8).toNatClampNeg (x0 * 8).toNatClampNeg (8 : Int32).toNatClampNeg))), (h3, .inl (c3, 8, .inl hdr))] _ := hP
      have hD : va_D _ [(h0, .inr (0, [.ref h1, .ref h2, .ref h3, .int ds, .int (pw - 1), .int rn, .int (wr + 1), .int cm])), (h1, .inl (c1, 96, .inl mem)), (h2, .inl (c2, 200, .inl (va_cpy mem blk (x2 * 8).toNatClampNeg (x0 * 8).toNatClampNeg (8 : Int32).toNatClampNeg))), (h3, .inl (c3, 8, .inl hdr))] := hD
      refine lv_iconst (v := 1) hx hb dX0_writeBlock_60 (by decide) ?_
      have e9 : F0_writeBlock_m mem blk hdr ds pw rn wr cm x0 x2 = (1, mem, (va_cpy mem blk (x2 * 8).toNatClampNeg (x0 * 8).toNatClampNeg (8 : Int32).toNatClampNeg), hdr, ds, (pw - 1), rn, (wr + 1), cm) := by unfold F0_writeBlock_m; rw [if_neg c_4, if_neg c_37]
      rw [e9]
      exact retWi hx hb hr hlocks rfl rfl rfl hK hP hD hS dX0_writeBlock_61
  · skip
    refine lv_aload_n hx hb dX0_writeBlock_7 rfl (lv_at hl 0 rfl) ?_
    refine lv_iconst (v := 0) hx hb dX0_writeBlock_8 (by decide) ?_
    refine va_put (D := (dC, dI)) (ci := 0) (v := .int 0) (ty := .boolean) (C := RX0) (T := TX0) (N := 8) hx hb hts hin tyX0 tyX0_ok nmX0 hown hK hP hD hS 0 rfl rfl 5 (by decide) (hts (.fieldLink RX0 26 "CapStore" "running" "Z") (by decide +kernel)) (fun _ h9 => h9) rfl (by decide +kernel) rfl rfl (Nat.le_of_ble_eq_true rfl) dX0_writeBlock_9 (fun H locs hP hD hS => ?_)
    have hP : va_P (dC, dI) vwCl [(h0, .inr (0, [.ref h1, .ref h2, .ref h3, .int ds, .int pw, .int 0, .int wr, .int cm])), (h1, .inl (c1, 96, .inl mem)), (h2, .inl (c2, 200, .inl blk)), (h3, .inl (c3, 8, .inl hdr))] _ := hP
    have hD : va_D _ [(h0, .inr (0, [.ref h1, .ref h2, .ref h3, .int ds, .int pw, .int 0, .int wr, .int cm])), (h1, .inl (c1, 96, .inl mem)), (h2, .inl (c2, 200, .inl blk)), (h3, .inl (c3, 8, .inl hdr))] := hD
    refine lv_iconst (v := 0) hx hb dX0_writeBlock_12 (by decide) ?_
    have e9 : F0_writeBlock_m mem blk hdr ds pw rn wr cm x0 x2 = (0, mem, blk, hdr, ds, pw, 0, wr, cm) := by unfold F0_writeBlock_m; rw [if_pos c_4]
    rw [e9]
    exact retWi hx hb hr hlocks rfl rfl rfl hK hP hD hS dX0_writeBlock_13
set_option maxHeartbeats 4000000 in
set_option maxRecDepth 100000 in
theorem m0_writeBlock_b (l : Launch) (dC : Nat → ClassId) (dI : Nat → Nat → Nat) (h0 h1 h2 h3 : Nat) (c1 c2 c3 : ClassId) (sz : Nat) (mem blk hdr : Nat → Int32) (ds pw rn wr cm : Int32) (x0 : Int32) (x2 : Int32) (hw : wbOK x0 x2 200) : Met l yX0_writeBlock wsX0_writeBlock ({ frames := 1, cells := 0, slots := 0, locals := 40 }) (pcW (dC, dI) (k0 c1 c2 c3) (w0 h0 h1 h2 h3 c1 c2 c3 (mem, blk, hdr, ds, pw, rn, wr, cm)) sz [.ref h0, .int x0, .ref h2, .int x2]) (qcWi (dC, dI) (k0 c1 c2 c3) (w0 h0 h1 h2 h3 c1 c2 c3 (mem, blk, hdr, ds, pw, rn, wr, cm)) (w0 h0 h1 h2 h3 c1 c2 c3 (F0_writeBlock_b mem blk hdr ds pw rn wr cm x0 x2).2) sz (F0_writeBlock_b mem blk hdr ds pw rn wr cm x0 x2).1) 0 0 (va_A (w0 h0 h1 h2 h3 c1 c2 c3 (mem, blk, hdr, ds, pw, rn, wr, cm)) sz) := by
  refine Met.ofW (cc := cX0_writeBlock) (maxL := 4) (ret := (some .boolean)) (by decide) rfl ?_
  intro p e s m args below meth c s₁ B hml hv
  obtain ⟨rfl, hsz, hP, hK, hD0⟩ := hv
  have hx := B.exec
  have hb := B.bytes
  have hr := B.returns
  have hts := atoms_spec (ws := wsX0_writeBlock) B.pre
  have hown : s.vm.findClass RX0 = some m.cls := findClass_of_methodNamed B.named
  have hlocks := B.notSynchronized
  have hin : ∀ w ∈ wsX00, w ∈ wsX0_writeBlock := fun _ h => List.mem_cons_of_mem _ (List.mem_append_right _ h)
  have hP : va_P (dC, dI) vwCl [(h0, .inr (0, [.ref h1, .ref h2, .ref h3, .int ds, .int pw, .int rn, .int wr, .int cm])), (h1, .inl (c1, 96, .inl mem)), (h2, .inl (c2, 200, .inl blk)), (h3, .inl (c3, 8, .inl hdr))] s.heap := hP
  subst hsz
  have hD := hD0.self (sz := s.heap.size)
  have hA : ∀ q : Nat, s.heap.size ≤ q → (va_A (w0 h0 h1 h2 h3 c1 c2 c3 (mem, blk, hdr, ds, pw, rn, wr, cm)) s.heap.size) q := fun q h => Or.inr h
  have hS : va_S (va_A (w0 h0 h1 h2 h3 c1 c2 c3 (mem, blk, hdr, ds, pw, rn, wr, cm)) s.heap.size) s.heap s.heap [] := va_S.rf
  have hl := lv_entry ([.ref h0, .int x0, .ref h2, .int x2]) (n := 4) (Nat.le_of_ble_eq_true rfl)
  rw [lg_entry_eq]
  generalize (lg_sl ([.ref h0, .int x0, .ref h2, .int x2]) ++ List.replicate (4 - (lg_sl ([.ref h0, .int x0, .ref h2, .int x2])).length) Slot.unset).toArray = ls at hl ⊢
  have hl : lv_has ls 4 [(0, .ref h0), (1, .int x0), (2, .ref h2), (3, .int x2)] := hl
  refine lv_aload_n hx hb dX0_writeBlock_0 rfl (lv_at hl 0 rfl) ?_
  refine va_get (D := (dC, dI)) (ci := 0) (v := .int pw) (C := RX0) (T := TX0) (N := 8) hx hb hts hin hown hK hP 0 rfl rfl 4 (by decide) (hts (.fieldLink RX0 23 "CapStore" "powerLeft" "I") (by decide +kernel)) (fun _ h9 => h9) rfl dX0_writeBlock_1 ?_
  refine lv_if_ne (tgt := 14) hx hb dX0_writeBlock_4 (by decide) (fun c_4 => ?_) (fun c_4 => ?_)
  · skip
    refine lv_aload_n hx hb dX0_writeBlock_14 rfl (lv_at hl 2 rfl) ?_
    refine lv_iload_n hx hb dX0_writeBlock_15 rfl (lv_at hl 3 rfl) ?_
    refine lv_bipush (v := 8) hx hb dX0_writeBlock_16 (by decide) ?_
    refine lv_imul hx hb dX0_writeBlock_18 ?_
    refine lv_aload_n hx hb dX0_writeBlock_19 rfl (lv_at hl 0 rfl) ?_
    refine va_get (D := (dC, dI)) (ci := 0) (v := .ref h2) (C := RX0) (T := TX0) (N := 8) hx hb hts hin hown hK hP 0 rfl rfl 1 (by decide) (hts (.fieldLink RX0 13 "CapStore" "blocks" "[I") (by decide +kernel)) (fun _ h9 => h9) rfl dX0_writeBlock_20 ?_
    refine lv_iload_n hx hb dX0_writeBlock_23 rfl (lv_at hl 1 rfl) ?_
    refine lv_bipush (v := 8) hx hb dX0_writeBlock_24 (by decide) ?_
    refine lv_imul hx hb dX0_writeBlock_26 ?_
    refine lv_bipush (v := 8) hx hb dX0_writeBlock_27 (by decide) ?_
    refine va_copyi (ty := .int) hx hb (hml.trans hl.1.symm) hown (hts (.methodLink RX0 122 arraycopyName) (by decide +kernel)) (hts (.native arraycopyName) (by decide +kernel)) (hts (.static arraycopyName) (by decide +kernel)) (hts (.initialized "java/lang/System") (by decide +kernel)) hK hP hD hS 2 2 1 1 rfl rfl rfl rfl rfl (wb_1 hw) (wb_2 hw) (by decide) (wb_4 hw) (wb_5 hw) (fun _ _ => rfl) (Nat.le_of_ble_eq_true rfl) (Nat.le_of_ble_eq_true rfl) dX0_writeBlock_29 (fun H locs hP hD hS => ?_)
    have hP : va_P (dC, dI) vwCl [(h0, .inr (0, [.ref h1, .ref h2, .ref h3, .int ds, .int pw, .int rn, .int wr, .int cm])), (h1, .inl (c1, 96, .inl mem)), (h2, .inl (c2, 200, .inl (va_cpy blk blk (x2 * 8).toNatClampNeg (x0 * 8).toNatClampNeg (8 : Int32).toNatClampNeg))), (h3, .inl (c3, 8, .inl hdr))] _ := hP
    have hD : va_D _ [(h0, .inr (0, [.ref h1, .ref h2, .ref h3, .int ds, .int pw, .int rn, .int wr, .int cm])), (h1, .inl (c1, 96, .inl mem)), (h2, .inl (c2, 200, .inl (va_cpy blk blk (x2 * 8).toNatClampNeg (x0 * 8).toNatClampNeg (8 : Int32).toNatClampNeg))), (h3, .inl (c3, 8, .inl hdr))] := hD
    refine lv_aload_n hx hb dX0_writeBlock_32 rfl (lv_at hl 0 rfl) ?_
    refine va_get (D := (dC, dI)) (ci := 0) (v := .int pw) (C := RX0) (T := TX0) (N := 8) hx hb hts hin hown hK hP 0 rfl rfl 4 (by decide) (hts (.fieldLink RX0 23 "CapStore" "powerLeft" "I") (by decide +kernel)) (fun _ h9 => h9) rfl dX0_writeBlock_33 ?_
    refine lv_iconst (v := (-1)) hx hb dX0_writeBlock_36 (by decide) ?_
    refine lv_icmp_eq (tgt := 50) hx hb dX0_writeBlock_37 (by decide) (fun c_37 => ?_) (fun c_37 => ?_)
    · skip
      refine lv_aload_n hx hb dX0_writeBlock_50 rfl (lv_at hl 0 rfl) ?_
      refine lv_dup hx hb dX0_writeBlock_51 rfl ?_
      refine va_get (D := (dC, dI)) (ci := 0) (v := .int wr) (C := RX0) (T := TX0) (N := 8) hx hb hts hin hown hK hP 0 rfl rfl 6 (by decide) (hts (.fieldLink RX0 30 "CapStore" "written" "I") (by decide +kernel)) (fun _ h9 => h9) rfl dX0_writeBlock_52 ?_
      refine lv_iconst (v := 1) hx hb dX0_writeBlock_55 (by decide) ?_
      refine lv_iadd hx hb dX0_writeBlock_56 ?_
      refine va_put (D := (dC, dI)) (ci := 0) (v := .int (wr + 1)) (ty := .int) (C := RX0) (T := TX0) (N := 8) hx hb hts hin tyX0 tyX0_ok nmX0 hown hK hP hD hS 0 rfl rfl 6 (by decide) (hts (.fieldLink RX0 30 "CapStore" "written" "I") (by decide +kernel)) (fun _ h9 => h9) rfl (by decide +kernel) rfl rfl (Nat.le_of_ble_eq_true rfl) dX0_writeBlock_57 (fun H locs hP hD hS => ?_)
      have hP : va_P (dC, dI) vwCl [(h0, .inr (0, [.ref h1, .ref h2, .ref h3, .int ds, .int pw, .int rn, .int (wr + 1), .int cm])), (h1, .inl (c1, 96, .inl mem)), (h2, .inl (c2, 200, .inl (va_cpy blk blk (x2 * 8).toNatClampNeg (x0 * 8).toNatClampNeg (8 : Int32).toNatClampNeg))), (h3, .inl (c3, 8, .inl hdr))] _ := hP
      have hD : va_D _ [(h0, .inr (0, [.ref h1, .ref h2, .ref h3, .int ds, .int pw, .int rn, .int (wr + 1), .int cm])), (h1, .inl (c1, 96, .inl mem)), (h2, .inl (c2, 200, .inl (va_cpy blk blk (x2 * 8).toNatClampNeg (x0 * 8).toNatClampNeg (8 : Int32).toNatClampNeg))), (h3, .inl (c3, 8, .inl hdr))] := hD
      refine lv_iconst (v := 1) hx hb dX0_writeBlock_60 (by decide) ?_
      have e9 : F0_writeBlock_b mem blk hdr ds pw rn wr cm x0 x2 = (1, mem, (va_cpy blk blk (x2 * 8).toNatClampNeg (x0 * 8).toNatClampNeg (8 : Int32).toNatClampNeg), hdr, ds, pw, rn, (wr + 1), cm) := by unfold F0_writeBlock_b; rw [if_neg c_4, if_pos c_37]
      rw [e9]
      exact retWi hx hb hr hlocks rfl rfl rfl hK hP hD hS dX0_writeBlock_61
    · skip
      refine lv_aload_n hx hb dX0_writeBlock_40 rfl (lv_at hl 0 rfl) ?_
      refine lv_dup hx hb dX0_writeBlock_41 rfl ?_
      refine va_get (D := (dC, dI)) (ci := 0) (v := .int pw) (C := RX0) (T := TX0) (N := 8) hx hb hts hin hown hK hP 0 rfl rfl 4 (by decide) (hts (.fieldLink RX0 23 "CapStore" "powerLeft" "I") (by decide +kernel)) (fun _ h9 => h9) rfl dX0_writeBlock_42 ?_
      refine lv_iconst (v := 1) hx hb dX0_writeBlock_45 (by decide) ?_
      refine lv_isub hx hb dX0_writeBlock_46 ?_
      refine va_put (D := (dC, dI)) (ci := 0) (v := .int (pw - 1)) (ty := .int) (C := RX0) (T := TX0) (N := 8) hx hb hts hin tyX0 tyX0_ok nmX0 hown hK hP hD hS 0 rfl rfl 4 (by decide) (hts (.fieldLink RX0 23 "CapStore" "powerLeft" "I") (by decide +kernel)) (fun _ h9 => h9) rfl (by decide +kernel) rfl rfl (Nat.le_of_ble_eq_true rfl) dX0_writeBlock_47 (fun H locs hP hD hS => ?_)
      have hP : va_P (dC, dI) vwCl [(h0, .inr (0, [.ref h1, .ref h2, .ref h3, .int ds, .int (pw - 1), .int rn, .int wr, .int cm])), (h1, .inl (c1, 96, .inl mem)), (h2, .inl (c2, 200, .inl (va_cpy blk blk (x2 * 8).toNatClampNeg (x0 * 8).toNatClampNeg (8 : Int32).toNatClampNeg))), (h3, .inl (c3, 8, .inl hdr))] _ := hP
      have hD : va_D _ [(h0, .inr (0, [.ref h1, .ref h2, .ref h3, .int ds, .int (pw - 1), .int rn, .int wr, .int cm])), (h1, .inl (c1, 96, .inl mem)), (h2, .inl (c2, 200, .inl (va_cpy blk blk (x2 * 8).toNatClampNeg (x0 * 8).toNatClampNeg (8 : Int32).toNatClampNeg))), (h3, .inl (c3, 8, .inl hdr))] := hD
      refine lv_aload_n hx hb dX0_writeBlock_50 rfl (lv_at hl 0 rfl) ?_
      refine lv_dup hx hb dX0_writeBlock_51 rfl ?_
      refine va_get (D := (dC, dI)) (ci := 0) (v := .int wr) (C := RX0) (T := TX0) (N := 8) hx hb hts hin hown hK hP 0 rfl rfl 6 (by decide) (hts (.fieldLink RX0 30 "CapStore" "written" "I") (by decide +kernel)) (fun _ h9 => h9) rfl dX0_writeBlock_52 ?_
      refine lv_iconst (v := 1) hx hb dX0_writeBlock_55 (by decide) ?_
      refine lv_iadd hx hb dX0_writeBlock_56 ?_
      refine va_put (D := (dC, dI)) (ci := 0) (v := .int (wr + 1)) (ty := .int) (C := RX0) (T := TX0) (N := 8) hx hb hts hin tyX0 tyX0_ok nmX0 hown hK hP hD hS 0 rfl rfl 6 (by decide) (hts (.fieldLink RX0 30 "CapStore" "written" "I") (by decide +kernel)) (fun _ h9 => h9) rfl (by decide +kernel) rfl rfl (Nat.le_of_ble_eq_true rfl) dX0_writeBlock_57 (fun H locs hP hD hS => ?_)
      have hP : va_P (dC, dI) vwCl [(h0, .inr (0, [.ref h1, .ref h2, .ref h3, .int ds, .int (pw - 1), .int rn, .int (wr + 1), .int cm])), (h1, .inl (c1, 96, .inl mem)), (h2, .inl (c2, 200, .inl (va_cpy blk blk (x2 * 8).toNatClampNeg (x0 * 8).toNatClampNeg (8 : Int32).toNatClampNeg))), (h3, .inl (c3, 8, .inl hdr))] _ := hP
      have hD : va_D _ [(h0, .inr (0, [.ref h1, .ref h2, .ref h3, .int ds, .int (pw - 1), .int rn, .int (wr + 1), .int cm])), (h1, .inl (c1, 96, .inl mem)), (h2, .inl (c2, 200, .inl (va_cpy blk blk (x2 * 8).toNatClampNeg (x0 * 8).toNatClampNeg (8 : Int32).toNatClampNeg))), (h3, .inl (c3, 8, .inl hdr))] := hD
      refine lv_iconst (v := 1) hx hb dX0_writeBlock_60 (by decide) ?_
      have e9 : F0_writeBlock_b mem blk hdr ds pw rn wr cm x0 x2 = (1, mem, (va_cpy blk blk (x2 * 8).toNatClampNeg (x0 * 8).toNatClampNeg (8 : Int32).toNatClampNeg), hdr, ds, (pw - 1), rn, (wr + 1), cm) := by unfold F0_writeBlock_b; rw [if_neg c_4, if_neg c_37]
      rw [e9]
      exact retWi hx hb hr hlocks rfl rfl rfl hK hP hD hS dX0_writeBlock_61
  · skip
    refine lv_aload_n hx hb dX0_writeBlock_7 rfl (lv_at hl 0 rfl) ?_
    refine lv_iconst (v := 0) hx hb dX0_writeBlock_8 (by decide) ?_
    refine va_put (D := (dC, dI)) (ci := 0) (v := .int 0) (ty := .boolean) (C := RX0) (T := TX0) (N := 8) hx hb hts hin tyX0 tyX0_ok nmX0 hown hK hP hD hS 0 rfl rfl 5 (by decide) (hts (.fieldLink RX0 26 "CapStore" "running" "Z") (by decide +kernel)) (fun _ h9 => h9) rfl (by decide +kernel) rfl rfl (Nat.le_of_ble_eq_true rfl) dX0_writeBlock_9 (fun H locs hP hD hS => ?_)
    have hP : va_P (dC, dI) vwCl [(h0, .inr (0, [.ref h1, .ref h2, .ref h3, .int ds, .int pw, .int 0, .int wr, .int cm])), (h1, .inl (c1, 96, .inl mem)), (h2, .inl (c2, 200, .inl blk)), (h3, .inl (c3, 8, .inl hdr))] _ := hP
    have hD : va_D _ [(h0, .inr (0, [.ref h1, .ref h2, .ref h3, .int ds, .int pw, .int 0, .int wr, .int cm])), (h1, .inl (c1, 96, .inl mem)), (h2, .inl (c2, 200, .inl blk)), (h3, .inl (c3, 8, .inl hdr))] := hD
    refine lv_iconst (v := 0) hx hb dX0_writeBlock_12 (by decide) ?_
    have e9 : F0_writeBlock_b mem blk hdr ds pw rn wr cm x0 x2 = (0, mem, blk, hdr, ds, pw, 0, wr, cm) := by unfold F0_writeBlock_b; rw [if_pos c_4]
    rw [e9]
    exact retWi hx hb hr hlocks rfl rfl rfl hK hP hD hS dX0_writeBlock_13
set_option maxHeartbeats 4000000 in
set_option maxRecDepth 100000 in
theorem m0_writeBlock_h (l : Launch) (dC : Nat → ClassId) (dI : Nat → Nat → Nat) (h0 h1 h2 h3 : Nat) (c1 c2 c3 : ClassId) (sz : Nat) (mem blk hdr : Nat → Int32) (ds pw rn wr cm : Int32) (x0 : Int32) (x2 : Int32) (hw : wbOK x0 x2 8) : Met l yX0_writeBlock wsX0_writeBlock ({ frames := 1, cells := 0, slots := 0, locals := 40 }) (pcW (dC, dI) (k0 c1 c2 c3) (w0 h0 h1 h2 h3 c1 c2 c3 (mem, blk, hdr, ds, pw, rn, wr, cm)) sz [.ref h0, .int x0, .ref h3, .int x2]) (qcWi (dC, dI) (k0 c1 c2 c3) (w0 h0 h1 h2 h3 c1 c2 c3 (mem, blk, hdr, ds, pw, rn, wr, cm)) (w0 h0 h1 h2 h3 c1 c2 c3 (F0_writeBlock_h mem blk hdr ds pw rn wr cm x0 x2).2) sz (F0_writeBlock_h mem blk hdr ds pw rn wr cm x0 x2).1) 0 0 (va_A (w0 h0 h1 h2 h3 c1 c2 c3 (mem, blk, hdr, ds, pw, rn, wr, cm)) sz) := by
  refine Met.ofW (cc := cX0_writeBlock) (maxL := 4) (ret := (some .boolean)) (by decide) rfl ?_
  intro p e s m args below meth c s₁ B hml hv
  obtain ⟨rfl, hsz, hP, hK, hD0⟩ := hv
  have hx := B.exec
  have hb := B.bytes
  have hr := B.returns
  have hts := atoms_spec (ws := wsX0_writeBlock) B.pre
  have hown : s.vm.findClass RX0 = some m.cls := findClass_of_methodNamed B.named
  have hlocks := B.notSynchronized
  have hin : ∀ w ∈ wsX00, w ∈ wsX0_writeBlock := fun _ h => List.mem_cons_of_mem _ (List.mem_append_right _ h)
  have hP : va_P (dC, dI) vwCl [(h0, .inr (0, [.ref h1, .ref h2, .ref h3, .int ds, .int pw, .int rn, .int wr, .int cm])), (h1, .inl (c1, 96, .inl mem)), (h2, .inl (c2, 200, .inl blk)), (h3, .inl (c3, 8, .inl hdr))] s.heap := hP
  subst hsz
  have hD := hD0.self (sz := s.heap.size)
  have hA : ∀ q : Nat, s.heap.size ≤ q → (va_A (w0 h0 h1 h2 h3 c1 c2 c3 (mem, blk, hdr, ds, pw, rn, wr, cm)) s.heap.size) q := fun q h => Or.inr h
  have hS : va_S (va_A (w0 h0 h1 h2 h3 c1 c2 c3 (mem, blk, hdr, ds, pw, rn, wr, cm)) s.heap.size) s.heap s.heap [] := va_S.rf
  have hl := lv_entry ([.ref h0, .int x0, .ref h3, .int x2]) (n := 4) (Nat.le_of_ble_eq_true rfl)
  rw [lg_entry_eq]
  generalize (lg_sl ([.ref h0, .int x0, .ref h3, .int x2]) ++ List.replicate (4 - (lg_sl ([.ref h0, .int x0, .ref h3, .int x2])).length) Slot.unset).toArray = ls at hl ⊢
  have hl : lv_has ls 4 [(0, .ref h0), (1, .int x0), (2, .ref h3), (3, .int x2)] := hl
  refine lv_aload_n hx hb dX0_writeBlock_0 rfl (lv_at hl 0 rfl) ?_
  refine va_get (D := (dC, dI)) (ci := 0) (v := .int pw) (C := RX0) (T := TX0) (N := 8) hx hb hts hin hown hK hP 0 rfl rfl 4 (by decide) (hts (.fieldLink RX0 23 "CapStore" "powerLeft" "I") (by decide +kernel)) (fun _ h9 => h9) rfl dX0_writeBlock_1 ?_
  refine lv_if_ne (tgt := 14) hx hb dX0_writeBlock_4 (by decide) (fun c_4 => ?_) (fun c_4 => ?_)
  · skip
    refine lv_aload_n hx hb dX0_writeBlock_14 rfl (lv_at hl 2 rfl) ?_
    refine lv_iload_n hx hb dX0_writeBlock_15 rfl (lv_at hl 3 rfl) ?_
    refine lv_bipush (v := 8) hx hb dX0_writeBlock_16 (by decide) ?_
    refine lv_imul hx hb dX0_writeBlock_18 ?_
    refine lv_aload_n hx hb dX0_writeBlock_19 rfl (lv_at hl 0 rfl) ?_
    refine va_get (D := (dC, dI)) (ci := 0) (v := .ref h2) (C := RX0) (T := TX0) (N := 8) hx hb hts hin hown hK hP 0 rfl rfl 1 (by decide) (hts (.fieldLink RX0 13 "CapStore" "blocks" "[I") (by decide +kernel)) (fun _ h9 => h9) rfl dX0_writeBlock_20 ?_
    refine lv_iload_n hx hb dX0_writeBlock_23 rfl (lv_at hl 1 rfl) ?_
    refine lv_bipush (v := 8) hx hb dX0_writeBlock_24 (by decide) ?_
    refine lv_imul hx hb dX0_writeBlock_26 ?_
    refine lv_bipush (v := 8) hx hb dX0_writeBlock_27 (by decide) ?_
    refine va_copyi (ty := .int) hx hb (hml.trans hl.1.symm) hown (hts (.methodLink RX0 122 arraycopyName) (by decide +kernel)) (hts (.native arraycopyName) (by decide +kernel)) (hts (.static arraycopyName) (by decide +kernel)) (hts (.initialized "java/lang/System") (by decide +kernel)) hK hP hD hS 3 2 2 1 rfl rfl rfl rfl rfl (wb_1 hw) (wb_2 hw) (by decide) (wb_4 hw) (wb_5 hw) (fun _ _ => rfl) (Nat.le_of_ble_eq_true rfl) (Nat.le_of_ble_eq_true rfl) dX0_writeBlock_29 (fun H locs hP hD hS => ?_)
    have hP : va_P (dC, dI) vwCl [(h0, .inr (0, [.ref h1, .ref h2, .ref h3, .int ds, .int pw, .int rn, .int wr, .int cm])), (h1, .inl (c1, 96, .inl mem)), (h2, .inl (c2, 200, .inl (va_cpy hdr blk (x2 * 8).toNatClampNeg (x0 * 8).toNatClampNeg (8 : Int32).toNatClampNeg))), (h3, .inl (c3, 8, .inl hdr))] _ := hP
    have hD : va_D _ [(h0, .inr (0, [.ref h1, .ref h2, .ref h3, .int ds, .int pw, .int rn, .int wr, .int cm])), (h1, .inl (c1, 96, .inl mem)), (h2, .inl (c2, 200, .inl (va_cpy hdr blk (x2 * 8).toNatClampNeg (x0 * 8).toNatClampNeg (8 : Int32).toNatClampNeg))), (h3, .inl (c3, 8, .inl hdr))] := hD
    refine lv_aload_n hx hb dX0_writeBlock_32 rfl (lv_at hl 0 rfl) ?_
    refine va_get (D := (dC, dI)) (ci := 0) (v := .int pw) (C := RX0) (T := TX0) (N := 8) hx hb hts hin hown hK hP 0 rfl rfl 4 (by decide) (hts (.fieldLink RX0 23 "CapStore" "powerLeft" "I") (by decide +kernel)) (fun _ h9 => h9) rfl dX0_writeBlock_33 ?_
    refine lv_iconst (v := (-1)) hx hb dX0_writeBlock_36 (by decide) ?_
    refine lv_icmp_eq (tgt := 50) hx hb dX0_writeBlock_37 (by decide) (fun c_37 => ?_) (fun c_37 => ?_)
    · skip
      refine lv_aload_n hx hb dX0_writeBlock_50 rfl (lv_at hl 0 rfl) ?_
      refine lv_dup hx hb dX0_writeBlock_51 rfl ?_
      refine va_get (D := (dC, dI)) (ci := 0) (v := .int wr) (C := RX0) (T := TX0) (N := 8) hx hb hts hin hown hK hP 0 rfl rfl 6 (by decide) (hts (.fieldLink RX0 30 "CapStore" "written" "I") (by decide +kernel)) (fun _ h9 => h9) rfl dX0_writeBlock_52 ?_
      refine lv_iconst (v := 1) hx hb dX0_writeBlock_55 (by decide) ?_
      refine lv_iadd hx hb dX0_writeBlock_56 ?_
      refine va_put (D := (dC, dI)) (ci := 0) (v := .int (wr + 1)) (ty := .int) (C := RX0) (T := TX0) (N := 8) hx hb hts hin tyX0 tyX0_ok nmX0 hown hK hP hD hS 0 rfl rfl 6 (by decide) (hts (.fieldLink RX0 30 "CapStore" "written" "I") (by decide +kernel)) (fun _ h9 => h9) rfl (by decide +kernel) rfl rfl (Nat.le_of_ble_eq_true rfl) dX0_writeBlock_57 (fun H locs hP hD hS => ?_)
      have hP : va_P (dC, dI) vwCl [(h0, .inr (0, [.ref h1, .ref h2, .ref h3, .int ds, .int pw, .int rn, .int (wr + 1), .int cm])), (h1, .inl (c1, 96, .inl mem)), (h2, .inl (c2, 200, .inl (va_cpy hdr blk (x2 * 8).toNatClampNeg (x0 * 8).toNatClampNeg (8 : Int32).toNatClampNeg))), (h3, .inl (c3, 8, .inl hdr))] _ := hP
      have hD : va_D _ [(h0, .inr (0, [.ref h1, .ref h2, .ref h3, .int ds, .int pw, .int rn, .int (wr + 1), .int cm])), (h1, .inl (c1, 96, .inl mem)), (h2, .inl (c2, 200, .inl (va_cpy hdr blk (x2 * 8).toNatClampNeg (x0 * 8).toNatClampNeg (8 : Int32).toNatClampNeg))), (h3, .inl (c3, 8, .inl hdr))] := hD
      refine lv_iconst (v := 1) hx hb dX0_writeBlock_60 (by decide) ?_
      have e9 : F0_writeBlock_h mem blk hdr ds pw rn wr cm x0 x2 = (1, mem, (va_cpy hdr blk (x2 * 8).toNatClampNeg (x0 * 8).toNatClampNeg (8 : Int32).toNatClampNeg), hdr, ds, pw, rn, (wr + 1), cm) := by unfold F0_writeBlock_h; rw [if_neg c_4, if_pos c_37]
      rw [e9]
      exact retWi hx hb hr hlocks rfl rfl rfl hK hP hD hS dX0_writeBlock_61
    · skip
      refine lv_aload_n hx hb dX0_writeBlock_40 rfl (lv_at hl 0 rfl) ?_
      refine lv_dup hx hb dX0_writeBlock_41 rfl ?_
      refine va_get (D := (dC, dI)) (ci := 0) (v := .int pw) (C := RX0) (T := TX0) (N := 8) hx hb hts hin hown hK hP 0 rfl rfl 4 (by decide) (hts (.fieldLink RX0 23 "CapStore" "powerLeft" "I") (by decide +kernel)) (fun _ h9 => h9) rfl dX0_writeBlock_42 ?_
      refine lv_iconst (v := 1) hx hb dX0_writeBlock_45 (by decide) ?_
      refine lv_isub hx hb dX0_writeBlock_46 ?_
      refine va_put (D := (dC, dI)) (ci := 0) (v := .int (pw - 1)) (ty := .int) (C := RX0) (T := TX0) (N := 8) hx hb hts hin tyX0 tyX0_ok nmX0 hown hK hP hD hS 0 rfl rfl 4 (by decide) (hts (.fieldLink RX0 23 "CapStore" "powerLeft" "I") (by decide +kernel)) (fun _ h9 => h9) rfl (by decide +kernel) rfl rfl (Nat.le_of_ble_eq_true rfl) dX0_writeBlock_47 (fun H locs hP hD hS => ?_)
      have hP : va_P (dC, dI) vwCl [(h0, .inr (0, [.ref h1, .ref h2, .ref h3, .int ds, .int (pw - 1), .int rn, .int wr, .int cm])), (h1, .inl (c1, 96, .inl mem)), (h2, .inl (c2, 200, .inl (va_cpy hdr blk (x2 * 8).toNatClampNeg (x0 * 8).toNatClampNeg (8 : Int32).toNatClampNeg))), (h3, .inl (c3, 8, .inl hdr))] _ := hP
      have hD : va_D _ [(h0, .inr (0, [.ref h1, .ref h2, .ref h3, .int ds, .int (pw - 1), .int rn, .int wr, .int cm])), (h1, .inl (c1, 96, .inl mem)), (h2, .inl (c2, 200, .inl (va_cpy hdr blk (x2 * 8).toNatClampNeg (x0 * 8).toNatClampNeg (8 : Int32).toNatClampNeg))), (h3, .inl (c3, 8, .inl hdr))] := hD
      refine lv_aload_n hx hb dX0_writeBlock_50 rfl (lv_at hl 0 rfl) ?_
      refine lv_dup hx hb dX0_writeBlock_51 rfl ?_
      refine va_get (D := (dC, dI)) (ci := 0) (v := .int wr) (C := RX0) (T := TX0) (N := 8) hx hb hts hin hown hK hP 0 rfl rfl 6 (by decide) (hts (.fieldLink RX0 30 "CapStore" "written" "I") (by decide +kernel)) (fun _ h9 => h9) rfl dX0_writeBlock_52 ?_
      refine lv_iconst (v := 1) hx hb dX0_writeBlock_55 (by decide) ?_
      refine lv_iadd hx hb dX0_writeBlock_56 ?_
      refine va_put (D := (dC, dI)) (ci := 0) (v := .int (wr + 1)) (ty := .int) (C := RX0) (T := TX0) (N := 8) hx hb hts hin tyX0 tyX0_ok nmX0 hown hK hP hD hS 0 rfl rfl 6 (by decide) (hts (.fieldLink RX0 30 "CapStore" "written" "I") (by decide +kernel)) (fun _ h9 => h9) rfl (by decide +kernel) rfl rfl (Nat.le_of_ble_eq_true rfl) dX0_writeBlock_57 (fun H locs hP hD hS => ?_)
      have hP : va_P (dC, dI) vwCl [(h0, .inr (0, [.ref h1, .ref h2, .ref h3, .int ds, .int (pw - 1), .int rn, .int (wr + 1), .int cm])), (h1, .inl (c1, 96, .inl mem)), (h2, .inl (c2, 200, .inl (va_cpy hdr blk (x2 * 8).toNatClampNeg (x0 * 8).toNatClampNeg (8 : Int32).toNatClampNeg))), (h3, .inl (c3, 8, .inl hdr))] _ := hP
      have hD : va_D _ [(h0, .inr (0, [.ref h1, .ref h2, .ref h3, .int ds, .int (pw - 1), .int rn, .int (wr + 1), .int cm])), (h1, .inl (c1, 96, .inl mem)), (h2, .inl (c2, 200, .inl (va_cpy hdr blk (x2 * 8).toNatClampNeg (x0 * 8).toNatClampNeg (8 : Int32).toNatClampNeg))), (h3, .inl (c3, 8, .inl hdr))] := hD
      refine lv_iconst (v := 1) hx hb dX0_writeBlock_60 (by decide) ?_
      have e9 : F0_writeBlock_h mem blk hdr ds pw rn wr cm x0 x2 = (1, mem, (va_cpy hdr blk (x2 * 8).toNatClampNeg (x0 * 8).toNatClampNeg (8 : Int32).toNatClampNeg), hdr, ds, (pw - 1), rn, (wr + 1), cm) := by unfold F0_writeBlock_h; rw [if_neg c_4, if_neg c_37]
      rw [e9]
      exact retWi hx hb hr hlocks rfl rfl rfl hK hP hD hS dX0_writeBlock_61
  · skip
    refine lv_aload_n hx hb dX0_writeBlock_7 rfl (lv_at hl 0 rfl) ?_
    refine lv_iconst (v := 0) hx hb dX0_writeBlock_8 (by decide) ?_
    refine va_put (D := (dC, dI)) (ci := 0) (v := .int 0) (ty := .boolean) (C := RX0) (T := TX0) (N := 8) hx hb hts hin tyX0 tyX0_ok nmX0 hown hK hP hD hS 0 rfl rfl 5 (by decide) (hts (.fieldLink RX0 26 "CapStore" "running" "Z") (by decide +kernel)) (fun _ h9 => h9) rfl (by decide +kernel) rfl rfl (Nat.le_of_ble_eq_true rfl) dX0_writeBlock_9 (fun H locs hP hD hS => ?_)
    have hP : va_P (dC, dI) vwCl [(h0, .inr (0, [.ref h1, .ref h2, .ref h3, .int ds, .int pw, .int 0, .int wr, .int cm])), (h1, .inl (c1, 96, .inl mem)), (h2, .inl (c2, 200, .inl blk)), (h3, .inl (c3, 8, .inl hdr))] _ := hP
    have hD : va_D _ [(h0, .inr (0, [.ref h1, .ref h2, .ref h3, .int ds, .int pw, .int 0, .int wr, .int cm])), (h1, .inl (c1, 96, .inl mem)), (h2, .inl (c2, 200, .inl blk)), (h3, .inl (c3, 8, .inl hdr))] := hD
    refine lv_iconst (v := 0) hx hb dX0_writeBlock_12 (by decide) ?_
    have e9 : F0_writeBlock_h mem blk hdr ds pw rn wr cm x0 x2 = (0, mem, blk, hdr, ds, pw, 0, wr, cm) := by unfold F0_writeBlock_h; rw [if_pos c_4]
    rw [e9]
    exact retWi hx hb hr hlocks rfl rfl rfl hK hP hD hS dX0_writeBlock_13
set_option maxHeartbeats 4000000 in
set_option maxRecDepth 100000 in
theorem m0_writeHeader (l : Launch) (dC : Nat → ClassId) (dI : Nat → Nat → Nat) (h0 h1 h2 h3 : Nat) (c1 c2 c3 : ClassId) (sz : Nat) (mem blk hdr : Nat → Int32) (ds pw rn wr cm : Int32) (x0 : Int32) : Met l yX0_writeHeader wsX0_writeHeader ({ frames := 2, cells := 0, slots := 0, locals := 63 }) (pcW (dC, dI) (k0 c1 c2 c3) (w0 h0 h1 h2 h3 c1 c2 c3 (mem, blk, hdr, ds, pw, rn, wr, cm)) sz [.ref h0, .int x0]) (qcWi (dC, dI) (k0 c1 c2 c3) (w0 h0 h1 h2 h3 c1 c2 c3 (mem, blk, hdr, ds, pw, rn, wr, cm)) (w0 h0 h1 h2 h3 c1 c2 c3 (F0_writeHeader mem blk hdr ds pw rn wr cm x0).2) sz (F0_writeHeader mem blk hdr ds pw rn wr cm x0).1) 0 0 (va_A (w0 h0 h1 h2 h3 c1 c2 c3 (mem, blk, hdr, ds, pw, rn, wr, cm)) sz) := by
  refine Met.ofW (cc := cX0_writeHeader) (maxL := 2) (ret := (some .boolean)) (by decide) rfl ?_
  intro p e s m args below meth c s₁ B hml hv
  obtain ⟨rfl, hsz, hP, hK, hD0⟩ := hv
  have hx := B.exec
  have hb := B.bytes
  have hr := B.returns
  have hts := atoms_spec (ws := wsX0_writeHeader) B.pre
  have hown : s.vm.findClass RX0 = some m.cls := findClass_of_methodNamed B.named
  have hlocks := B.notSynchronized
  have hin : ∀ w ∈ wsX00, w ∈ wsX0_writeHeader := fun _ h => List.mem_cons_of_mem _ (List.mem_append_right _ h)
  have hP : va_P (dC, dI) vwCl [(h0, .inr (0, [.ref h1, .ref h2, .ref h3, .int ds, .int pw, .int rn, .int wr, .int cm])), (h1, .inl (c1, 96, .inl mem)), (h2, .inl (c2, 200, .inl blk)), (h3, .inl (c3, 8, .inl hdr))] s.heap := hP
  subst hsz
  have hD := hD0.self (sz := s.heap.size)
  have hA : ∀ q : Nat, s.heap.size ≤ q → (va_A (w0 h0 h1 h2 h3 c1 c2 c3 (mem, blk, hdr, ds, pw, rn, wr, cm)) s.heap.size) q := fun q h => Or.inr h
  have hS : va_S (va_A (w0 h0 h1 h2 h3 c1 c2 c3 (mem, blk, hdr, ds, pw, rn, wr, cm)) s.heap.size) s.heap s.heap [] := va_S.rf
  have hl := lv_entry ([.ref h0, .int x0]) (n := 2) (Nat.le_of_ble_eq_true rfl)
  rw [lg_entry_eq]
  generalize (lg_sl ([.ref h0, .int x0]) ++ List.replicate (2 - (lg_sl ([.ref h0, .int x0])).length) Slot.unset).toArray = ls at hl ⊢
  have hl : lv_has ls 2 [(0, .ref h0), (1, .int x0)] := hl
  refine lv_aload_n hx hb dX0_writeHeader_0 rfl (lv_at hl 0 rfl) ?_
  refine va_get (D := (dC, dI)) (ci := 0) (v := .ref h3) (C := RX0) (T := TX0) (N := 8) hx hb hts hin hown hK hP 0 rfl rfl 2 (by decide) (hts (.fieldLink RX0 16 "CapStore" "headerRow" "[I") (by decide +kernel)) (fun _ h9 => h9) rfl dX0_writeHeader_1 ?_
  refine lv_iconst (v := 0) hx hb dX0_writeHeader_4 (by decide) ?_
  refine lv_iload_n hx hb dX0_writeHeader_5 rfl (lv_at hl 1 rfl) ?_
  refine va_iast hx hb hK hP hD hS 3 2 rfl rfl (vp_in_nI (n := 0) (by decide) (by decide)) dX0_writeHeader_6 (fun H locs hP hD hS => ?_)
  have hP : va_P (dC, dI) vwCl [(h0, .inr (0, [.ref h1, .ref h2, .ref h3, .int ds, .int pw, .int rn, .int wr, .int cm])), (h1, .inl (c1, 96, .inl mem)), (h2, .inl (c2, 200, .inl blk)), (h3, .inl (c3, 8, .inl (upd hdr (0 : Int32).toNatClampNeg x0)))] _ := hP
  have hD : va_D _ [(h0, .inr (0, [.ref h1, .ref h2, .ref h3, .int ds, .int pw, .int rn, .int wr, .int cm])), (h1, .inl (c1, 96, .inl mem)), (h2, .inl (c2, 200, .inl blk)), (h3, .inl (c3, 8, .inl (upd hdr (0 : Int32).toNatClampNeg x0)))] := hD
  refine lv_aload_n hx hb dX0_writeHeader_7 rfl (lv_at hl 0 rfl) ?_
  refine lv_bipush (v := 24) hx hb dX0_writeHeader_8 (by decide) ?_
  refine lv_aload_n hx hb dX0_writeHeader_10 rfl (lv_at hl 0 rfl) ?_
  refine va_get (D := (dC, dI)) (ci := 0) (v := .ref h3) (C := RX0) (T := TX0) (N := 8) hx hb hts hin hown hK hP 0 rfl rfl 2 (by decide) (hts (.fieldLink RX0 16 "CapStore" "headerRow" "[I") (by decide +kernel)) (fun _ h9 => h9) rfl dX0_writeHeader_11 ?_
  refine lv_iconst (v := 0) hx hb dX0_writeHeader_14 (by decide) ?_
  refine callWi (q := (RX0, TX0, 8)) (ci := 0) (q0 := 0) (As := [.int 24, .ref h3, .int 0]) (rest := []) (wr := []) (m0_writeBlock_h l dC dI h0 h1 h2 h3 c1 c2 c3 _ mem blk (upd hdr (0 : Int32).toNatClampNeg x0) ds pw rn wr cm 24 0 wb_hdr) ⟨hx, hb, hml, hown, hts⟩ (cwV 3 hts gX0_writeHeader_X0_writeBlock rfl rfl rfl (by decide +kernel) ⟨Nat.le_of_ble_eq_true rfl, Nat.le_of_ble_eq_true rfl⟩) hK hP hD hS hA rfl rfl [0, 1, 2, 3] [] rfl rfl rfl (by decide) (by decide) (by decide) rfl hl.1 rfl (Nat.le_of_ble_eq_true rfl) dX0_writeHeader_15 ⟨Nat.zero_le _, Nat.zero_le _⟩ (fun H locs hP hD hS => ?_)
  generalize hF1 : (F0_writeBlock_h mem blk (upd hdr (0 : Int32).toNatClampNeg x0) ds pw rn wr cm 24 0) = u at hP hD ⊢
  obtain ⟨r_1, mem_1, blk_1, hdr_1, ds_1, pw_1, rn_1, wr_1, cm_1⟩ := u
  have hP : va_P (dC, dI) vwCl [(h0, .inr (0, [.ref h1, .ref h2, .ref h3, .int ds_1, .int pw_1, .int rn_1, .int wr_1, .int cm_1])), (h1, .inl (c1, 96, .inl mem_1)), (h2, .inl (c2, 200, .inl blk_1)), (h3, .inl (c3, 8, .inl hdr_1))] _ := hP
  have hD : va_D _ [(h0, .inr (0, [.ref h1, .ref h2, .ref h3, .int ds_1, .int pw_1, .int rn_1, .int wr_1, .int cm_1])), (h1, .inl (c1, 96, .inl mem_1)), (h2, .inl (c2, 200, .inl blk_1)), (h3, .inl (c3, 8, .inl hdr_1))] := hD
  show W _ _ _ _ _ _ _ _ _ _ _ _ _ _ _ (F0 m 18 ls [.int r_1])
  have e9 : F0_writeHeader mem blk hdr ds pw rn wr cm x0 = (r_1, mem_1, blk_1, hdr_1, ds_1, pw_1, rn_1, wr_1, cm_1) := by unfold F0_writeHeader; rw [hF1]; (try dsimp only)
  rw [e9]
  exact retWi hx hb hr hlocks (nar_wbh hF1) rfl rfl hK hP hD hS dX0_writeHeader_18
set_option maxHeartbeats 4000000 in
set_option maxRecDepth 100000 in
theorem m0_copyRows_m (l : Launch) (dC : Nat → ClassId) (dI : Nat → Nat → Nat) (h0 h1 h2 h3 : Nat) (c1 c2 c3 : ClassId) (sz : Nat) (mem blk hdr : Nat → Int32) (ds pw rn wr cm : Int32) (x0 : Int32) (x2 : Int32) (x3 : Int32) (hc : crOK x2 x3 96) : Met l yX0_copyRows wsX0_copyRows ({ frames := 2, cells := 0, slots := 0, locals := 63 }) (pcW (dC, dI) (k0 c1 c2 c3) (w0 h0 h1 h2 h3 c1 c2 c3 (mem, blk, hdr, ds, pw, rn, wr, cm)) sz [.ref h0, .int x0, .ref h1, .int x2, .int x3]) (qcWi (dC, dI) (k0 c1 c2 c3) (w0 h0 h1 h2 h3 c1 c2 c3 (mem, blk, hdr, ds, pw, rn, wr, cm)) (w0 h0 h1 h2 h3 c1 c2 c3 (F0_copyRows_m mem blk hdr ds pw rn wr cm x0 x2 x3).2) sz (F0_copyRows_m mem blk hdr ds pw rn wr cm x0 x2 x3).1) 0 0 (va_A (w0 h0 h1 h2 h3 c1 c2 c3 (mem, blk, hdr, ds, pw, rn, wr, cm)) sz) := by
  refine Met.ofW (cc := cX0_copyRows) (maxL := 6) (ret := (some .boolean)) (by decide) rfl ?_
  intro p e s m args below meth c s₁ B hml hv
  obtain ⟨rfl, hsz, hP, hK, hD0⟩ := hv
  have hx := B.exec
  have hb := B.bytes
  have hr := B.returns
  have hts := atoms_spec (ws := wsX0_copyRows) B.pre
  have hown : s.vm.findClass RX0 = some m.cls := findClass_of_methodNamed B.named
  have hlocks := B.notSynchronized
  have hP : va_P (dC, dI) vwCl [(h0, .inr (0, [.ref h1, .ref h2, .ref h3, .int ds, .int pw, .int rn, .int wr, .int cm])), (h1, .inl (c1, 96, .inl mem)), (h2, .inl (c2, 200, .inl blk)), (h3, .inl (c3, 8, .inl hdr))] s.heap := hP
  subst hsz
  have hD := hD0.self (sz := s.heap.size)
  have hA : ∀ q : Nat, s.heap.size ≤ q → (va_A (w0 h0 h1 h2 h3 c1 c2 c3 (mem, blk, hdr, ds, pw, rn, wr, cm)) s.heap.size) q := fun q h => Or.inr h
  have hS : va_S (va_A (w0 h0 h1 h2 h3 c1 c2 c3 (mem, blk, hdr, ds, pw, rn, wr, cm)) s.heap.size) s.heap s.heap [] := va_S.rf
  have hl := lv_entry ([.ref h0, .int x0, .ref h1, .int x2, .int x3]) (n := 6) (Nat.le_of_ble_eq_true rfl)
  rw [lg_entry_eq]
  generalize (lg_sl ([.ref h0, .int x0, .ref h1, .int x2, .int x3]) ++ List.replicate (6 - (lg_sl ([.ref h0, .int x0, .ref h1, .int x2, .int x3])).length) Slot.unset).toArray = ls at hl ⊢
  have hl : lv_has ls 6 [(0, .ref h0), (1, .int x0), (2, .ref h1), (3, .int x2), (4, .int x3)] := hl
  have loop : ∀ (n : Nat), n ≤ 12 → ∀ (mem_0 blk_0 hdr_0 : Nat → Int32) (ds_0 pw_0 rn_0 wr_0 cm_0 : Int32) (H : Heap) (locs : List Loc) (ls : Array Slot), va_P (dC, dI) vwCl [(h0, .inr (0, [.ref h1, .ref h2, .ref h3, .int ds_0, .int pw_0, .int rn_0, .int wr_0, .int cm_0])), (h1, .inl (c1, 96, .inl mem_0)), (h2, .inl (c2, 200, .inl blk_0)), (h3, .inl (c3, 8, .inl hdr_0))] H → va_D (va_A (w0 h0 h1 h2 h3 c1 c2 c3 (mem, blk, hdr, ds, pw, rn, wr, cm)) s.heap.size) [(h0, .inr (0, [.ref h1, .ref h2, .ref h3, .int ds_0, .int pw_0, .int rn_0, .int wr_0, .int cm_0])), (h1, .inl (c1, 96, .inl mem_0)), (h2, .inl (c2, 200, .inl blk_0)), (h3, .inl (c3, 8, .inl hdr_0))] → va_S (va_A (w0 h0 h1 h2 h3 c1 c2 c3 (mem, blk, hdr, ds, pw, rn, wr, cm)) s.heap.size) s.heap H locs → lv_has ls 6 [(5, .int (nI (12 - n))), (0, .ref h0), (1, .int x0), (2, .ref h1), (3, .int x2), (4, .int x3)] →
      W p l e (headSpec wsX0_copyRows ({ frames := 2, cells := 0, slots := 0, locals := 63 })).room s m #[Value.ref h0, Value.int x0, Value.ref h1, Value.int x2, Value.int x3] below meth c H locs 0 0 (MQ below (qcWi (dC, dI) (k0 c1 c2 c3) (w0 h0 h1 h2 h3 c1 c2 c3 (mem, blk, hdr, ds, pw, rn, wr, cm)) (w0 h0 h1 h2 h3 c1 c2 c3 (F0_cl_m x0 x2 x3 n (mem_0, blk_0, hdr_0, ds_0, pw_0, rn_0, wr_0, cm_0)).2) s.heap.size (F0_cl_m x0 x2 x3 n (mem_0, blk_0, hdr_0, ds_0, pw_0, rn_0, wr_0, cm_0)).1) #[Value.ref h0, Value.int x0, Value.ref h1, Value.int x2, Value.int x3] s 0 0 (va_A (w0 h0 h1 h2 h3 c1 c2 c3 (mem, blk, hdr, ds, pw, rn, wr, cm)) s.heap.size)) (F0 m 3 ls []) := by
    intro n
    induction n with
    | zero =>
      intro hn mem_0 blk_0 hdr_0 ds_0 pw_0 rn_0 wr_0 cm_0 H locs ls hP hD hS hl
      have hl : lv_has ls 6 [(5, .int (nI 12)), (0, .ref h0), (1, .int x0), (2, .ref h1), (3, .int x2), (4, .int x3)] := hl
      refine lv_iload hx hb dX0_copyRows_3 (lv_at hl 0 rfl) ?_
      refine lv_bipush (v := 12) hx hb dX0_copyRows_5 (by decide) ?_
      refine lv_icmp_ge (tgt := 44) hx hb dX0_copyRows_7 (by decide) (fun c_7 => ?_) (fun c_7 => ?_)
      · skip
        refine lv_iconst (v := 1) hx hb dX0_copyRows_44 (by decide) ?_
        exact retWi hx hb hr hlocks rfl rfl rfl hK hP hD hS dX0_copyRows_45
      · skip
        exact absurd (by decide) c_7
    | succ n ih =>
      intro hn mem_0 blk_0 hdr_0 ds_0 pw_0 rn_0 wr_0 cm_0 H locs ls hP hD hS hl
      have en : 12 - (n + 1) = 11 - n := by omega
      rw [en] at hl
      have ei : nI (11 - n) + 1 = nI (12 - n) := by rw [nI_1]; congr 1; omega
      have hl : lv_has ls 6 [(5, .int (nI (11 - n))), (0, .ref h0), (1, .int x0), (2, .ref h1), (3, .int x2), (4, .int x3)] := hl
      refine lv_iload hx hb dX0_copyRows_3 (lv_at hl 0 rfl) ?_
      refine lv_bipush (v := 12) hx hb dX0_copyRows_5 (by decide) ?_
      refine lv_icmp_ge (tgt := 44) hx hb dX0_copyRows_7 (by decide) (fun c_7 => ?_) (fun c_7 => ?_)
      · skip
        exact absurd c_7 (nI_ge (a := 11 - n) (b := 12) (by omega) (by decide))
      · skip
        refine lv_iload_n hx hb dX0_copyRows_10 rfl (lv_at hl 2 rfl) ?_
        refine lv_iload hx hb dX0_copyRows_11 (lv_at hl 0 rfl) ?_
        refine callSi (As := [.int x0, .int (nI (11 - n))]) (rest := []) (m0_has l x0 (nI (11 - n))) ⟨hx, hb, hml, hown, hts⟩ (va_cwS 2 hts gX0_copyRows_X0_has rfl rfl rfl (by decide +kernel) ⟨Nat.le_of_ble_eq_true rfl, Nat.le_of_ble_eq_true rfl⟩) rfl hl.1 rfl (Nat.le_of_ble_eq_true rfl) dX0_copyRows_13 ⟨Nat.zero_le _, Nat.zero_le _⟩ ?_
        refine lv_if_eq (tgt := 38) hx hb dX0_copyRows_16 (by decide) (fun c_16 => ?_) (fun c_16 => ?_)
        · skip
          refine lv_iinc (v := ((nI (11 - n)) + 1)) (lv' := [(5, .int ((nI (11 - n)) + 1)), (0, .ref h0), (1, .int x0), (2, .ref h1), (3, .int x2), (4, .int x3)]) hx hb dX0_copyRows_38 hl (k := 0) rfl rfl (by decide) rfl (fun ls hl => ?_)
          refine lv_goto (tgt := 3) hx hb dX0_copyRows_41 (by decide) ?_
          have e9 : F0_cl_m x0 x2 x3 (n + 1) (mem_0, blk_0, hdr_0, ds_0, pw_0, rn_0, wr_0, cm_0) = F0_cl_m x0 x2 x3 n (mem_0, blk_0, hdr_0, ds_0, pw_0, rn_0, wr_0, cm_0) := by rw [F0_cl_m]; (try dsimp only); rw [if_pos c_16]
          rw [e9]
          rw [ei] at hl
          exact ih (by omega) mem_0 blk_0 hdr_0 ds_0 pw_0 rn_0 wr_0 cm_0 _ _ ls hP hD hS (lv_sub hl [0, 1, 2, 3, 4, 5] rfl)
        · skip
          refine lv_aload_n hx hb dX0_copyRows_19 rfl (lv_at hl 1 rfl) ?_
          refine lv_iload hx hb dX0_copyRows_20 (lv_at hl 5 rfl) ?_
          refine lv_iload hx hb dX0_copyRows_22 (lv_at hl 0 rfl) ?_
          refine lv_iadd hx hb dX0_copyRows_24 ?_
          refine lv_aload_n hx hb dX0_copyRows_25 rfl (lv_at hl 3 rfl) ?_
          refine lv_iload_n hx hb dX0_copyRows_26 rfl (lv_at hl 4 rfl) ?_
          refine lv_iload hx hb dX0_copyRows_27 (lv_at hl 0 rfl) ?_
          refine lv_iadd hx hb dX0_copyRows_29 ?_
          refine callWi (q := (RX0, TX0, 8)) (ci := 0) (q0 := 0) (As := [.int (x3 + (nI (11 - n))), .ref h1, .int (x2 + (nI (11 - n)))]) (rest := []) (wr := []) (m0_writeBlock_m l dC dI h0 h1 h2 h3 c1 c2 c3 _ mem_0 blk_0 hdr_0 ds_0 pw_0 rn_0 wr_0 cm_0 (x3 + (nI (11 - n))) (x2 + (nI (11 - n))) (cr_wb hc (by omega))) ⟨hx, hb, hml, hown, hts⟩ (cwV 3 hts gX0_copyRows_X0_writeBlock rfl rfl rfl (by decide +kernel) ⟨Nat.le_of_ble_eq_true rfl, Nat.le_of_ble_eq_true rfl⟩) hK hP hD hS hA rfl rfl [0, 1, 2, 3] [] rfl rfl rfl (by decide) (by decide) (by decide) rfl hl.1 rfl (Nat.le_of_ble_eq_true rfl) dX0_copyRows_30 ⟨Nat.zero_le _, Nat.zero_le _⟩ (fun H locs hP hD hS => ?_)
          generalize hF1 : (F0_writeBlock_m mem_0 blk_0 hdr_0 ds_0 pw_0 rn_0 wr_0 cm_0 (x3 + (nI (11 - n))) (x2 + (nI (11 - n)))) = u at hP hD ⊢
          obtain ⟨r_1, mem_1, blk_1, hdr_1, ds_1, pw_1, rn_1, wr_1, cm_1⟩ := u
          have hP : va_P (dC, dI) vwCl [(h0, .inr (0, [.ref h1, .ref h2, .ref h3, .int ds_1, .int pw_1, .int rn_1, .int wr_1, .int cm_1])), (h1, .inl (c1, 96, .inl mem_1)), (h2, .inl (c2, 200, .inl blk_1)), (h3, .inl (c3, 8, .inl hdr_1))] _ := hP
          have hD : va_D _ [(h0, .inr (0, [.ref h1, .ref h2, .ref h3, .int ds_1, .int pw_1, .int rn_1, .int wr_1, .int cm_1])), (h1, .inl (c1, 96, .inl mem_1)), (h2, .inl (c2, 200, .inl blk_1)), (h3, .inl (c3, 8, .inl hdr_1))] := hD
          show W _ _ _ _ _ _ _ _ _ _ _ _ _ _ _ (F0 m 33 ls [.int r_1])
          refine lv_if_ne (tgt := 38) hx hb dX0_copyRows_33 (by decide) (fun c_33 => ?_) (fun c_33 => ?_)
          · skip
            refine lv_iinc (v := ((nI (11 - n)) + 1)) (lv' := [(5, .int ((nI (11 - n)) + 1)), (0, .ref h0), (1, .int x0), (2, .ref h1), (3, .int x2), (4, .int x3)]) hx hb dX0_copyRows_38 hl (k := 0) rfl rfl (by decide) rfl (fun ls hl => ?_)
            refine lv_goto (tgt := 3) hx hb dX0_copyRows_41 (by decide) ?_
            have e9 : F0_cl_m x0 x2 x3 (n + 1) (mem_0, blk_0, hdr_0, ds_0, pw_0, rn_0, wr_0, cm_0) = F0_cl_m x0 x2 x3 n (mem_1, blk_1, hdr_1, ds_1, pw_1, rn_1, wr_1, cm_1) := by rw [F0_cl_m]; (try dsimp only); rw [if_neg c_16, hF1]; (try dsimp only); rw [if_neg c_33]
            rw [e9]
            rw [ei] at hl
            exact ih (by omega) mem_1 blk_1 hdr_1 ds_1 pw_1 rn_1 wr_1 cm_1 _ _ ls hP hD hS (lv_sub hl [0, 1, 2, 3, 4, 5] rfl)
          · skip
            refine lv_iconst (v := 0) hx hb dX0_copyRows_36 (by decide) ?_
            have e9 : F0_cl_m x0 x2 x3 (n + 1) (mem_0, blk_0, hdr_0, ds_0, pw_0, rn_0, wr_0, cm_0) = (0, mem_1, blk_1, hdr_1, ds_1, pw_1, rn_1, wr_1, cm_1) := by rw [F0_cl_m]; (try dsimp only); rw [if_neg c_16, hF1]; (try dsimp only); rw [if_pos c_33]
            rw [e9]
            exact retWi hx hb hr hlocks rfl rfl rfl hK hP hD hS dX0_copyRows_37
  refine lv_iconst (v := 0) hx hb dX0_copyRows_0 (by decide) ?_
  refine lv_istore (lv' := [(5, .int 0), (0, .ref h0), (1, .int x0), (2, .ref h1), (3, .int x2), (4, .int x3)]) hx hb dX0_copyRows_1 hl (by decide) rfl (fun ls hl => ?_)
  have hl : lv_has ls 6 [(5, .int (nI (12 - 12))), (0, .ref h0), (1, .int x0), (2, .ref h1), (3, .int x2), (4, .int x3)] := hl
  exact loop 12 (Nat.le_refl _) mem blk hdr ds pw rn wr cm _ _ ls hP hD hS hl
set_option maxHeartbeats 4000000 in
set_option maxRecDepth 100000 in
theorem m0_copyRows_b (l : Launch) (dC : Nat → ClassId) (dI : Nat → Nat → Nat) (h0 h1 h2 h3 : Nat) (c1 c2 c3 : ClassId) (sz : Nat) (mem blk hdr : Nat → Int32) (ds pw rn wr cm : Int32) (x0 : Int32) (x2 : Int32) (x3 : Int32) (hc : crOK x2 x3 200) : Met l yX0_copyRows wsX0_copyRows ({ frames := 2, cells := 0, slots := 0, locals := 63 }) (pcW (dC, dI) (k0 c1 c2 c3) (w0 h0 h1 h2 h3 c1 c2 c3 (mem, blk, hdr, ds, pw, rn, wr, cm)) sz [.ref h0, .int x0, .ref h2, .int x2, .int x3]) (qcWi (dC, dI) (k0 c1 c2 c3) (w0 h0 h1 h2 h3 c1 c2 c3 (mem, blk, hdr, ds, pw, rn, wr, cm)) (w0 h0 h1 h2 h3 c1 c2 c3 (F0_copyRows_b mem blk hdr ds pw rn wr cm x0 x2 x3).2) sz (F0_copyRows_b mem blk hdr ds pw rn wr cm x0 x2 x3).1) 0 0 (va_A (w0 h0 h1 h2 h3 c1 c2 c3 (mem, blk, hdr, ds, pw, rn, wr, cm)) sz) := by
  refine Met.ofW (cc := cX0_copyRows) (maxL := 6) (ret := (some .boolean)) (by decide) rfl ?_
  intro p e s m args below meth c s₁ B hml hv
  obtain ⟨rfl, hsz, hP, hK, hD0⟩ := hv
  have hx := B.exec
  have hb := B.bytes
  have hr := B.returns
  have hts := atoms_spec (ws := wsX0_copyRows) B.pre
  have hown : s.vm.findClass RX0 = some m.cls := findClass_of_methodNamed B.named
  have hlocks := B.notSynchronized
  have hP : va_P (dC, dI) vwCl [(h0, .inr (0, [.ref h1, .ref h2, .ref h3, .int ds, .int pw, .int rn, .int wr, .int cm])), (h1, .inl (c1, 96, .inl mem)), (h2, .inl (c2, 200, .inl blk)), (h3, .inl (c3, 8, .inl hdr))] s.heap := hP
  subst hsz
  have hD := hD0.self (sz := s.heap.size)
  have hA : ∀ q : Nat, s.heap.size ≤ q → (va_A (w0 h0 h1 h2 h3 c1 c2 c3 (mem, blk, hdr, ds, pw, rn, wr, cm)) s.heap.size) q := fun q h => Or.inr h
  have hS : va_S (va_A (w0 h0 h1 h2 h3 c1 c2 c3 (mem, blk, hdr, ds, pw, rn, wr, cm)) s.heap.size) s.heap s.heap [] := va_S.rf
  have hl := lv_entry ([.ref h0, .int x0, .ref h2, .int x2, .int x3]) (n := 6) (Nat.le_of_ble_eq_true rfl)
  rw [lg_entry_eq]
  generalize (lg_sl ([.ref h0, .int x0, .ref h2, .int x2, .int x3]) ++ List.replicate (6 - (lg_sl ([.ref h0, .int x0, .ref h2, .int x2, .int x3])).length) Slot.unset).toArray = ls at hl ⊢
  have hl : lv_has ls 6 [(0, .ref h0), (1, .int x0), (2, .ref h2), (3, .int x2), (4, .int x3)] := hl
  have loop : ∀ (n : Nat), n ≤ 12 → ∀ (mem_0 blk_0 hdr_0 : Nat → Int32) (ds_0 pw_0 rn_0 wr_0 cm_0 : Int32) (H : Heap) (locs : List Loc) (ls : Array Slot), va_P (dC, dI) vwCl [(h0, .inr (0, [.ref h1, .ref h2, .ref h3, .int ds_0, .int pw_0, .int rn_0, .int wr_0, .int cm_0])), (h1, .inl (c1, 96, .inl mem_0)), (h2, .inl (c2, 200, .inl blk_0)), (h3, .inl (c3, 8, .inl hdr_0))] H → va_D (va_A (w0 h0 h1 h2 h3 c1 c2 c3 (mem, blk, hdr, ds, pw, rn, wr, cm)) s.heap.size) [(h0, .inr (0, [.ref h1, .ref h2, .ref h3, .int ds_0, .int pw_0, .int rn_0, .int wr_0, .int cm_0])), (h1, .inl (c1, 96, .inl mem_0)), (h2, .inl (c2, 200, .inl blk_0)), (h3, .inl (c3, 8, .inl hdr_0))] → va_S (va_A (w0 h0 h1 h2 h3 c1 c2 c3 (mem, blk, hdr, ds, pw, rn, wr, cm)) s.heap.size) s.heap H locs → lv_has ls 6 [(5, .int (nI (12 - n))), (0, .ref h0), (1, .int x0), (2, .ref h2), (3, .int x2), (4, .int x3)] →
      W p l e (headSpec wsX0_copyRows ({ frames := 2, cells := 0, slots := 0, locals := 63 })).room s m #[Value.ref h0, Value.int x0, Value.ref h2, Value.int x2, Value.int x3] below meth c H locs 0 0 (MQ below (qcWi (dC, dI) (k0 c1 c2 c3) (w0 h0 h1 h2 h3 c1 c2 c3 (mem, blk, hdr, ds, pw, rn, wr, cm)) (w0 h0 h1 h2 h3 c1 c2 c3 (F0_cl_b x0 x2 x3 n (mem_0, blk_0, hdr_0, ds_0, pw_0, rn_0, wr_0, cm_0)).2) s.heap.size (F0_cl_b x0 x2 x3 n (mem_0, blk_0, hdr_0, ds_0, pw_0, rn_0, wr_0, cm_0)).1) #[Value.ref h0, Value.int x0, Value.ref h2, Value.int x2, Value.int x3] s 0 0 (va_A (w0 h0 h1 h2 h3 c1 c2 c3 (mem, blk, hdr, ds, pw, rn, wr, cm)) s.heap.size)) (F0 m 3 ls []) := by
    intro n
    induction n with
    | zero =>
      intro hn mem_0 blk_0 hdr_0 ds_0 pw_0 rn_0 wr_0 cm_0 H locs ls hP hD hS hl
      have hl : lv_has ls 6 [(5, .int (nI 12)), (0, .ref h0), (1, .int x0), (2, .ref h2), (3, .int x2), (4, .int x3)] := hl
      refine lv_iload hx hb dX0_copyRows_3 (lv_at hl 0 rfl) ?_
      refine lv_bipush (v := 12) hx hb dX0_copyRows_5 (by decide) ?_
      refine lv_icmp_ge (tgt := 44) hx hb dX0_copyRows_7 (by decide) (fun c_7 => ?_) (fun c_7 => ?_)
      · skip
        refine lv_iconst (v := 1) hx hb dX0_copyRows_44 (by decide) ?_
        exact retWi hx hb hr hlocks rfl rfl rfl hK hP hD hS dX0_copyRows_45
      · skip
        exact absurd (by decide) c_7
    | succ n ih =>
      intro hn mem_0 blk_0 hdr_0 ds_0 pw_0 rn_0 wr_0 cm_0 H locs ls hP hD hS hl
      have en : 12 - (n + 1) = 11 - n := by omega
      rw [en] at hl
      have ei : nI (11 - n) + 1 = nI (12 - n) := by rw [nI_1]; congr 1; omega
      have hl : lv_has ls 6 [(5, .int (nI (11 - n))), (0, .ref h0), (1, .int x0), (2, .ref h2), (3, .int x2), (4, .int x3)] := hl
      refine lv_iload hx hb dX0_copyRows_3 (lv_at hl 0 rfl) ?_
      refine lv_bipush (v := 12) hx hb dX0_copyRows_5 (by decide) ?_
      refine lv_icmp_ge (tgt := 44) hx hb dX0_copyRows_7 (by decide) (fun c_7 => ?_) (fun c_7 => ?_)
      · skip
        exact absurd c_7 (nI_ge (a := 11 - n) (b := 12) (by omega) (by decide))
      · skip
        refine lv_iload_n hx hb dX0_copyRows_10 rfl (lv_at hl 2 rfl) ?_
        refine lv_iload hx hb dX0_copyRows_11 (lv_at hl 0 rfl) ?_
        refine callSi (As := [.int x0, .int (nI (11 - n))]) (rest := []) (m0_has l x0 (nI (11 - n))) ⟨hx, hb, hml, hown, hts⟩ (va_cwS 2 hts gX0_copyRows_X0_has rfl rfl rfl (by decide +kernel) ⟨Nat.le_of_ble_eq_true rfl, Nat.le_of_ble_eq_true rfl⟩) rfl hl.1 rfl (Nat.le_of_ble_eq_true rfl) dX0_copyRows_13 ⟨Nat.zero_le _, Nat.zero_le _⟩ ?_
        refine lv_if_eq (tgt := 38) hx hb dX0_copyRows_16 (by decide) (fun c_16 => ?_) (fun c_16 => ?_)
        · skip
          refine lv_iinc (v := ((nI (11 - n)) + 1)) (lv' := [(5, .int ((nI (11 - n)) + 1)), (0, .ref h0), (1, .int x0), (2, .ref h2), (3, .int x2), (4, .int x3)]) hx hb dX0_copyRows_38 hl (k := 0) rfl rfl (by decide) rfl (fun ls hl => ?_)
          refine lv_goto (tgt := 3) hx hb dX0_copyRows_41 (by decide) ?_
          have e9 : F0_cl_b x0 x2 x3 (n + 1) (mem_0, blk_0, hdr_0, ds_0, pw_0, rn_0, wr_0, cm_0) = F0_cl_b x0 x2 x3 n (mem_0, blk_0, hdr_0, ds_0, pw_0, rn_0, wr_0, cm_0) := by rw [F0_cl_b]; (try dsimp only); rw [if_pos c_16]
          rw [e9]
          rw [ei] at hl
          exact ih (by omega) mem_0 blk_0 hdr_0 ds_0 pw_0 rn_0 wr_0 cm_0 _ _ ls hP hD hS (lv_sub hl [0, 1, 2, 3, 4, 5] rfl)
        · skip
          refine lv_aload_n hx hb dX0_copyRows_19 rfl (lv_at hl 1 rfl) ?_
          refine lv_iload hx hb dX0_copyRows_20 (lv_at hl 5 rfl) ?_
          refine lv_iload hx hb dX0_copyRows_22 (lv_at hl 0 rfl) ?_
          refine lv_iadd hx hb dX0_copyRows_24 ?_
          refine lv_aload_n hx hb dX0_copyRows_25 rfl (lv_at hl 3 rfl) ?_
          refine lv_iload_n hx hb dX0_copyRows_26 rfl (lv_at hl 4 rfl) ?_
          refine lv_iload hx hb dX0_copyRows_27 (lv_at hl 0 rfl) ?_
          refine lv_iadd hx hb dX0_copyRows_29 ?_
          refine callWi (q := (RX0, TX0, 8)) (ci := 0) (q0 := 0) (As := [.int (x3 + (nI (11 - n))), .ref h2, .int (x2 + (nI (11 - n)))]) (rest := []) (wr := []) (m0_writeBlock_b l dC dI h0 h1 h2 h3 c1 c2 c3 _ mem_0 blk_0 hdr_0 ds_0 pw_0 rn_0 wr_0 cm_0 (x3 + (nI (11 - n))) (x2 + (nI (11 - n))) (cr_wb hc (by omega))) ⟨hx, hb, hml, hown, hts⟩ (cwV 3 hts gX0_copyRows_X0_writeBlock rfl rfl rfl (by decide +kernel) ⟨Nat.le_of_ble_eq_true rfl, Nat.le_of_ble_eq_true rfl⟩) hK hP hD hS hA rfl rfl [0, 1, 2, 3] [] rfl rfl rfl (by decide) (by decide) (by decide) rfl hl.1 rfl (Nat.le_of_ble_eq_true rfl) dX0_copyRows_30 ⟨Nat.zero_le _, Nat.zero_le _⟩ (fun H locs hP hD hS => ?_)
          generalize hF1 : (F0_writeBlock_b mem_0 blk_0 hdr_0 ds_0 pw_0 rn_0 wr_0 cm_0 (x3 + (nI (11 - n))) (x2 + (nI (11 - n)))) = u at hP hD ⊢
          obtain ⟨r_1, mem_1, blk_1, hdr_1, ds_1, pw_1, rn_1, wr_1, cm_1⟩ := u
          have hP : va_P (dC, dI) vwCl [(h0, .inr (0, [.ref h1, .ref h2, .ref h3, .int ds_1, .int pw_1, .int rn_1, .int wr_1, .int cm_1])), (h1, .inl (c1, 96, .inl mem_1)), (h2, .inl (c2, 200, .inl blk_1)), (h3, .inl (c3, 8, .inl hdr_1))] _ := hP
          have hD : va_D _ [(h0, .inr (0, [.ref h1, .ref h2, .ref h3, .int ds_1, .int pw_1, .int rn_1, .int wr_1, .int cm_1])), (h1, .inl (c1, 96, .inl mem_1)), (h2, .inl (c2, 200, .inl blk_1)), (h3, .inl (c3, 8, .inl hdr_1))] := hD
          show W _ _ _ _ _ _ _ _ _ _ _ _ _ _ _ (F0 m 33 ls [.int r_1])
          refine lv_if_ne (tgt := 38) hx hb dX0_copyRows_33 (by decide) (fun c_33 => ?_) (fun c_33 => ?_)
          · skip
            refine lv_iinc (v := ((nI (11 - n)) + 1)) (lv' := [(5, .int ((nI (11 - n)) + 1)), (0, .ref h0), (1, .int x0), (2, .ref h2), (3, .int x2), (4, .int x3)]) hx hb dX0_copyRows_38 hl (k := 0) rfl rfl (by decide) rfl (fun ls hl => ?_)
            refine lv_goto (tgt := 3) hx hb dX0_copyRows_41 (by decide) ?_
            have e9 : F0_cl_b x0 x2 x3 (n + 1) (mem_0, blk_0, hdr_0, ds_0, pw_0, rn_0, wr_0, cm_0) = F0_cl_b x0 x2 x3 n (mem_1, blk_1, hdr_1, ds_1, pw_1, rn_1, wr_1, cm_1) := by rw [F0_cl_b]; (try dsimp only); rw [if_neg c_16, hF1]; (try dsimp only); rw [if_neg c_33]
            rw [e9]
            rw [ei] at hl
            exact ih (by omega) mem_1 blk_1 hdr_1 ds_1 pw_1 rn_1 wr_1 cm_1 _ _ ls hP hD hS (lv_sub hl [0, 1, 2, 3, 4, 5] rfl)
          · skip
            refine lv_iconst (v := 0) hx hb dX0_copyRows_36 (by decide) ?_
            have e9 : F0_cl_b x0 x2 x3 (n + 1) (mem_0, blk_0, hdr_0, ds_0, pw_0, rn_0, wr_0, cm_0) = (0, mem_1, blk_1, hdr_1, ds_1, pw_1, rn_1, wr_1, cm_1) := by rw [F0_cl_b]; (try dsimp only); rw [if_neg c_16, hF1]; (try dsimp only); rw [if_pos c_33]
            rw [e9]
            exact retWi hx hb hr hlocks rfl rfl rfl hK hP hD hS dX0_copyRows_37
  refine lv_iconst (v := 0) hx hb dX0_copyRows_0 (by decide) ?_
  refine lv_istore (lv' := [(5, .int 0), (0, .ref h0), (1, .int x0), (2, .ref h2), (3, .int x2), (4, .int x3)]) hx hb dX0_copyRows_1 hl (by decide) rfl (fun ls hl => ?_)
  have hl : lv_has ls 6 [(5, .int (nI (12 - 12))), (0, .ref h0), (1, .int x0), (2, .ref h2), (3, .int x2), (4, .int x3)] := hl
  exact loop 12 (Nat.le_refl _) mem blk hdr ds pw rn wr cm _ _ ls hP hD hS hl
set_option maxHeartbeats 4000000 in
set_option maxRecDepth 100000 in
theorem m0_saveDirty (l : Launch) (dC : Nat → ClassId) (dI : Nat → Nat → Nat) (h0 h1 h2 h3 : Nat) (c1 c2 c3 : ClassId) (sz : Nat) (mem blk hdr : Nat → Int32) (ds pw rn wr cm : Int32) : Met l yX0_saveDirty wsX0_saveDirty ({ frames := 3, cells := 0, slots := 0, locals := 88 }) (pcW (dC, dI) (k0 c1 c2 c3) (w0 h0 h1 h2 h3 c1 c2 c3 (mem, blk, hdr, ds, pw, rn, wr, cm)) sz [.ref h0]) (qcWi (dC, dI) (k0 c1 c2 c3) (w0 h0 h1 h2 h3 c1 c2 c3 (mem, blk, hdr, ds, pw, rn, wr, cm)) (w0 h0 h1 h2 h3 c1 c2 c3 (F0_saveDirty mem blk hdr ds pw rn wr cm).2) sz (F0_saveDirty mem blk hdr ds pw rn wr cm).1) 0 0 (va_A (w0 h0 h1 h2 h3 c1 c2 c3 (mem, blk, hdr, ds, pw, rn, wr, cm)) sz) := by
  refine Met.ofW (cc := cX0_saveDirty) (maxL := 1) (ret := (some .boolean)) (by decide) rfl ?_
  intro p e s m args below meth c s₁ B hml hv
  obtain ⟨rfl, hsz, hP, hK, hD0⟩ := hv
  have hx := B.exec
  have hb := B.bytes
  have hr := B.returns
  have hts := atoms_spec (ws := wsX0_saveDirty) B.pre
  have hown : s.vm.findClass RX0 = some m.cls := findClass_of_methodNamed B.named
  have hlocks := B.notSynchronized
  have hin : ∀ w ∈ wsX00, w ∈ wsX0_saveDirty := fun _ h => List.mem_cons_of_mem _ (List.mem_append_right _ h)
  have hP : va_P (dC, dI) vwCl [(h0, .inr (0, [.ref h1, .ref h2, .ref h3, .int ds, .int pw, .int rn, .int wr, .int cm])), (h1, .inl (c1, 96, .inl mem)), (h2, .inl (c2, 200, .inl blk)), (h3, .inl (c3, 8, .inl hdr))] s.heap := hP
  subst hsz
  have hD := hD0.self (sz := s.heap.size)
  have hA : ∀ q : Nat, s.heap.size ≤ q → (va_A (w0 h0 h1 h2 h3 c1 c2 c3 (mem, blk, hdr, ds, pw, rn, wr, cm)) s.heap.size) q := fun q h => Or.inr h
  have hS : va_S (va_A (w0 h0 h1 h2 h3 c1 c2 c3 (mem, blk, hdr, ds, pw, rn, wr, cm)) s.heap.size) s.heap s.heap [] := va_S.rf
  have hl := lv_entry ([.ref h0]) (n := 1) (Nat.le_of_ble_eq_true rfl)
  rw [lg_entry_eq]
  generalize (lg_sl ([.ref h0]) ++ List.replicate (1 - (lg_sl ([.ref h0])).length) Slot.unset).toArray = ls at hl ⊢
  have hl : lv_has ls 1 [(0, .ref h0)] := hl
  refine lv_aload_n hx hb dX0_saveDirty_0 rfl (lv_at hl 0 rfl) ?_
  refine va_get (D := (dC, dI)) (ci := 0) (v := .int ds) (C := RX0) (T := TX0) (N := 8) hx hb hts hin hown hK hP 0 rfl rfl 3 (by decide) (hts (.fieldLink RX0 19 "CapStore" "dirtySet" "I") (by decide +kernel)) (fun _ h9 => h9) rfl dX0_saveDirty_1 ?_
  refine lv_if_ne (tgt := 9) hx hb dX0_saveDirty_4 (by decide) (fun c_4 => ?_) (fun c_4 => ?_)
  · skip
    refine lv_aload_n hx hb dX0_saveDirty_9 rfl (lv_at hl 0 rfl) ?_
    refine lv_aload_n hx hb dX0_saveDirty_10 rfl (lv_at hl 0 rfl) ?_
    refine va_get (D := (dC, dI)) (ci := 0) (v := .int ds) (C := RX0) (T := TX0) (N := 8) hx hb hts hin hown hK hP 0 rfl rfl 3 (by decide) (hts (.fieldLink RX0 19 "CapStore" "dirtySet" "I") (by decide +kernel)) (fun _ h9 => h9) rfl dX0_saveDirty_11 ?_
    refine lv_aload_n hx hb dX0_saveDirty_14 rfl (lv_at hl 0 rfl) ?_
    refine va_get (D := (dC, dI)) (ci := 0) (v := .ref h1) (C := RX0) (T := TX0) (N := 8) hx hb hts hin hown hK hP 0 rfl rfl 0 (by decide) (hts (.fieldLink RX0 9 "CapStore" "memory" "[I") (by decide +kernel)) (fun _ h9 => h9) rfl dX0_saveDirty_15 ?_
    refine lv_iconst (v := 0) hx hb dX0_saveDirty_18 (by decide) ?_
    refine lv_bipush (v := 12) hx hb dX0_saveDirty_19 (by decide) ?_
    refine callWi (q := (RX0, TX0, 8)) (ci := 0) (q0 := 0) (As := [.int ds, .ref h1, .int 0, .int 12]) (rest := []) (wr := []) (m0_copyRows_m l dC dI h0 h1 h2 h3 c1 c2 c3 _ mem blk hdr ds pw rn wr cm ds 0 12 cr_log) ⟨hx, hb, hml, hown, hts⟩ (cwV 4 hts gX0_saveDirty_X0_copyRows rfl rfl rfl (by decide +kernel) ⟨Nat.le_of_ble_eq_true rfl, Nat.le_of_ble_eq_true rfl⟩) hK hP hD hS hA rfl rfl [0, 1, 2, 3] [] rfl rfl rfl (by decide) (by decide) (by decide) rfl hl.1 rfl (Nat.le_of_ble_eq_true rfl) dX0_saveDirty_21 ⟨Nat.zero_le _, Nat.zero_le _⟩ (fun H locs hP hD hS => ?_)
    generalize hF1 : (F0_copyRows_m mem blk hdr ds pw rn wr cm ds 0 12) = u at hP hD ⊢
    obtain ⟨r_1, mem_1, blk_1, hdr_1, ds_1, pw_1, rn_1, wr_1, cm_1⟩ := u
    have hP : va_P (dC, dI) vwCl [(h0, .inr (0, [.ref h1, .ref h2, .ref h3, .int ds_1, .int pw_1, .int rn_1, .int wr_1, .int cm_1])), (h1, .inl (c1, 96, .inl mem_1)), (h2, .inl (c2, 200, .inl blk_1)), (h3, .inl (c3, 8, .inl hdr_1))] _ := hP
    have hD : va_D _ [(h0, .inr (0, [.ref h1, .ref h2, .ref h3, .int ds_1, .int pw_1, .int rn_1, .int wr_1, .int cm_1])), (h1, .inl (c1, 96, .inl mem_1)), (h2, .inl (c2, 200, .inl blk_1)), (h3, .inl (c3, 8, .inl hdr_1))] := hD
    show W _ _ _ _ _ _ _ _ _ _ _ _ _ _ _ (F0 m 24 ls [.int r_1])
    refine lv_if_eq (tgt := 38) hx hb dX0_saveDirty_24 (by decide) (fun c_24 => ?_) (fun c_24 => ?_)
    · skip
      refine lv_iconst (v := 0) hx hb dX0_saveDirty_38 (by decide) ?_
      have e9 : F0_saveDirty mem blk hdr ds pw rn wr cm = (0, mem_1, blk_1, hdr_1, ds_1, pw_1, rn_1, wr_1, cm_1) := by unfold F0_saveDirty; rw [if_neg c_4, hF1]; (try dsimp only); rw [if_pos c_24]
      rw [e9]
      exact retWi hx hb hr hlocks rfl rfl rfl hK hP hD hS dX0_saveDirty_39
    · skip
      refine lv_aload_n hx hb dX0_saveDirty_27 rfl (lv_at hl 0 rfl) ?_
      refine lv_aload_n hx hb dX0_saveDirty_28 rfl (lv_at hl 0 rfl) ?_
      refine va_get (D := (dC, dI)) (ci := 0) (v := .int ds_1) (C := RX0) (T := TX0) (N := 8) hx hb hts hin hown hK hP 0 rfl rfl 3 (by decide) (hts (.fieldLink RX0 19 "CapStore" "dirtySet" "I") (by decide +kernel)) (fun _ h9 => h9) rfl dX0_saveDirty_29 ?_
      refine callWi (q := (RX0, TX0, 8)) (ci := 0) (q0 := 0) (As := [.int ds_1]) (rest := []) (wr := []) (m0_writeHeader l dC dI h0 h1 h2 h3 c1 c2 c3 _ mem_1 blk_1 hdr_1 ds_1 pw_1 rn_1 wr_1 cm_1 ds_1 ) ⟨hx, hb, hml, hown, hts⟩ (cwV 1 hts gX0_saveDirty_X0_writeHeader rfl rfl rfl (by decide +kernel) ⟨Nat.le_of_ble_eq_true rfl, Nat.le_of_ble_eq_true rfl⟩) hK hP hD hS hA rfl rfl [0, 1, 2, 3] [] rfl rfl rfl (by decide) (by decide) (by decide) rfl hl.1 rfl (Nat.le_of_ble_eq_true rfl) dX0_saveDirty_32 ⟨Nat.zero_le _, Nat.zero_le _⟩ (fun H locs hP hD hS => ?_)
      generalize hF2 : (F0_writeHeader mem_1 blk_1 hdr_1 ds_1 pw_1 rn_1 wr_1 cm_1 ds_1) = u at hP hD ⊢
      obtain ⟨r_2, mem_2, blk_2, hdr_2, ds_2, pw_2, rn_2, wr_2, cm_2⟩ := u
      have hP : va_P (dC, dI) vwCl [(h0, .inr (0, [.ref h1, .ref h2, .ref h3, .int ds_2, .int pw_2, .int rn_2, .int wr_2, .int cm_2])), (h1, .inl (c1, 96, .inl mem_2)), (h2, .inl (c2, 200, .inl blk_2)), (h3, .inl (c3, 8, .inl hdr_2))] _ := hP
      have hD : va_D _ [(h0, .inr (0, [.ref h1, .ref h2, .ref h3, .int ds_2, .int pw_2, .int rn_2, .int wr_2, .int cm_2])), (h1, .inl (c1, 96, .inl mem_2)), (h2, .inl (c2, 200, .inl blk_2)), (h3, .inl (c3, 8, .inl hdr_2))] := hD
      show W _ _ _ _ _ _ _ _ _ _ _ _ _ _ _ (F0 m 35 ls [.int r_2])
      refine lv_if_ne (tgt := 40) hx hb dX0_saveDirty_35 (by decide) (fun c_35 => ?_) (fun c_35 => ?_)
      · skip
        refine lv_aload_n hx hb dX0_saveDirty_40 rfl (lv_at hl 0 rfl) ?_
        refine lv_dup hx hb dX0_saveDirty_41 rfl ?_
        refine va_get (D := (dC, dI)) (ci := 0) (v := .int cm_2) (C := RX0) (T := TX0) (N := 8) hx hb hts hin hown hK hP 0 rfl rfl 7 (by decide) (hts (.fieldLink RX0 33 "CapStore" "committed" "I") (by decide +kernel)) (fun _ h9 => h9) rfl dX0_saveDirty_42 ?_
        refine lv_iconst (v := 1) hx hb dX0_saveDirty_45 (by decide) ?_
        refine lv_iadd hx hb dX0_saveDirty_46 ?_
        refine va_put (D := (dC, dI)) (ci := 0) (v := .int (cm_2 + 1)) (ty := .int) (C := RX0) (T := TX0) (N := 8) hx hb hts hin tyX0 tyX0_ok nmX0 hown hK hP hD hS 0 rfl rfl 7 (by decide) (hts (.fieldLink RX0 33 "CapStore" "committed" "I") (by decide +kernel)) (fun _ h9 => h9) rfl (by decide +kernel) rfl rfl (Nat.le_of_ble_eq_true rfl) dX0_saveDirty_47 (fun H locs hP hD hS => ?_)
        have hP : va_P (dC, dI) vwCl [(h0, .inr (0, [.ref h1, .ref h2, .ref h3, .int ds_2, .int pw_2, .int rn_2, .int wr_2, .int (cm_2 + 1)])), (h1, .inl (c1, 96, .inl mem_2)), (h2, .inl (c2, 200, .inl blk_2)), (h3, .inl (c3, 8, .inl hdr_2))] _ := hP
        have hD : va_D _ [(h0, .inr (0, [.ref h1, .ref h2, .ref h3, .int ds_2, .int pw_2, .int rn_2, .int wr_2, .int (cm_2 + 1)])), (h1, .inl (c1, 96, .inl mem_2)), (h2, .inl (c2, 200, .inl blk_2)), (h3, .inl (c3, 8, .inl hdr_2))] := hD
        refine lv_aload_n hx hb dX0_saveDirty_50 rfl (lv_at hl 0 rfl) ?_
        refine lv_aload_n hx hb dX0_saveDirty_51 rfl (lv_at hl 0 rfl) ?_
        refine va_get (D := (dC, dI)) (ci := 0) (v := .int ds_2) (C := RX0) (T := TX0) (N := 8) hx hb hts hin hown hK hP 0 rfl rfl 3 (by decide) (hts (.fieldLink RX0 19 "CapStore" "dirtySet" "I") (by decide +kernel)) (fun _ h9 => h9) rfl dX0_saveDirty_52 ?_
        refine lv_aload_n hx hb dX0_saveDirty_55 rfl (lv_at hl 0 rfl) ?_
        refine va_get (D := (dC, dI)) (ci := 0) (v := .ref h1) (C := RX0) (T := TX0) (N := 8) hx hb hts hin hown hK hP 0 rfl rfl 0 (by decide) (hts (.fieldLink RX0 9 "CapStore" "memory" "[I") (by decide +kernel)) (fun _ h9 => h9) rfl dX0_saveDirty_56 ?_
        refine lv_iconst (v := 0) hx hb dX0_saveDirty_59 (by decide) ?_
        refine lv_iconst (v := 0) hx hb dX0_saveDirty_60 (by decide) ?_
        refine callWi (q := (RX0, TX0, 8)) (ci := 0) (q0 := 0) (As := [.int ds_2, .ref h1, .int 0, .int 0]) (rest := []) (wr := []) (m0_copyRows_m l dC dI h0 h1 h2 h3 c1 c2 c3 _ mem_2 blk_2 hdr_2 ds_2 pw_2 rn_2 wr_2 (cm_2 + 1) ds_2 0 0 cr_home) ⟨hx, hb, hml, hown, hts⟩ (cwV 4 hts gX0_saveDirty_X0_copyRows rfl rfl rfl (by decide +kernel) ⟨Nat.le_of_ble_eq_true rfl, Nat.le_of_ble_eq_true rfl⟩) hK hP hD hS hA rfl rfl [0, 1, 2, 3] [] rfl rfl rfl (by decide) (by decide) (by decide) rfl hl.1 rfl (Nat.le_of_ble_eq_true rfl) dX0_saveDirty_61 ⟨Nat.zero_le _, Nat.zero_le _⟩ (fun H locs hP hD hS => ?_)
        generalize hF3 : (F0_copyRows_m mem_2 blk_2 hdr_2 ds_2 pw_2 rn_2 wr_2 (cm_2 + 1) ds_2 0 0) = u at hP hD ⊢
        obtain ⟨r_3, mem_3, blk_3, hdr_3, ds_3, pw_3, rn_3, wr_3, cm_3⟩ := u
        have hP : va_P (dC, dI) vwCl [(h0, .inr (0, [.ref h1, .ref h2, .ref h3, .int ds_3, .int pw_3, .int rn_3, .int wr_3, .int cm_3])), (h1, .inl (c1, 96, .inl mem_3)), (h2, .inl (c2, 200, .inl blk_3)), (h3, .inl (c3, 8, .inl hdr_3))] _ := hP
        have hD : va_D _ [(h0, .inr (0, [.ref h1, .ref h2, .ref h3, .int ds_3, .int pw_3, .int rn_3, .int wr_3, .int cm_3])), (h1, .inl (c1, 96, .inl mem_3)), (h2, .inl (c2, 200, .inl blk_3)), (h3, .inl (c3, 8, .inl hdr_3))] := hD
        show W _ _ _ _ _ _ _ _ _ _ _ _ _ _ _ (F0 m 64 ls [.int r_3])
        refine lv_if_eq (tgt := 79) hx hb dX0_saveDirty_64 (by decide) (fun c_64 => ?_) (fun c_64 => ?_)
        · skip
          refine lv_iconst (v := 0) hx hb dX0_saveDirty_79 (by decide) ?_
          have e9 : F0_saveDirty mem blk hdr ds pw rn wr cm = (0, mem_3, blk_3, hdr_3, ds_3, pw_3, rn_3, wr_3, cm_3) := by unfold F0_saveDirty; rw [if_neg c_4, hF1]; (try dsimp only); rw [if_neg c_24, hF2]; (try dsimp only); rw [if_neg c_35, hF3]; (try dsimp only); rw [if_pos c_64]
          rw [e9]
          exact retWi hx hb hr hlocks rfl rfl rfl hK hP hD hS dX0_saveDirty_80
        · skip
          refine lv_aload_n hx hb dX0_saveDirty_67 rfl (lv_at hl 0 rfl) ?_
          refine lv_iconst (v := 0) hx hb dX0_saveDirty_68 (by decide) ?_
          refine callWi (q := (RX0, TX0, 8)) (ci := 0) (q0 := 0) (As := [.int 0]) (rest := []) (wr := []) (m0_writeHeader l dC dI h0 h1 h2 h3 c1 c2 c3 _ mem_3 blk_3 hdr_3 ds_3 pw_3 rn_3 wr_3 cm_3 0 ) ⟨hx, hb, hml, hown, hts⟩ (cwV 1 hts gX0_saveDirty_X0_writeHeader rfl rfl rfl (by decide +kernel) ⟨Nat.le_of_ble_eq_true rfl, Nat.le_of_ble_eq_true rfl⟩) hK hP hD hS hA rfl rfl [0, 1, 2, 3] [] rfl rfl rfl (by decide) (by decide) (by decide) rfl hl.1 rfl (Nat.le_of_ble_eq_true rfl) dX0_saveDirty_69 ⟨Nat.zero_le _, Nat.zero_le _⟩ (fun H locs hP hD hS => ?_)
          generalize hF4 : (F0_writeHeader mem_3 blk_3 hdr_3 ds_3 pw_3 rn_3 wr_3 cm_3 0) = u at hP hD ⊢
          obtain ⟨r_4, mem_4, blk_4, hdr_4, ds_4, pw_4, rn_4, wr_4, cm_4⟩ := u
          have hP : va_P (dC, dI) vwCl [(h0, .inr (0, [.ref h1, .ref h2, .ref h3, .int ds_4, .int pw_4, .int rn_4, .int wr_4, .int cm_4])), (h1, .inl (c1, 96, .inl mem_4)), (h2, .inl (c2, 200, .inl blk_4)), (h3, .inl (c3, 8, .inl hdr_4))] _ := hP
          have hD : va_D _ [(h0, .inr (0, [.ref h1, .ref h2, .ref h3, .int ds_4, .int pw_4, .int rn_4, .int wr_4, .int cm_4])), (h1, .inl (c1, 96, .inl mem_4)), (h2, .inl (c2, 200, .inl blk_4)), (h3, .inl (c3, 8, .inl hdr_4))] := hD
          show W _ _ _ _ _ _ _ _ _ _ _ _ _ _ _ (F0 m 72 ls [.int r_4])
          refine lv_if_eq (tgt := 79) hx hb dX0_saveDirty_72 (by decide) (fun c_72 => ?_) (fun c_72 => ?_)
          · skip
            refine lv_iconst (v := 0) hx hb dX0_saveDirty_79 (by decide) ?_
            have e9 : F0_saveDirty mem blk hdr ds pw rn wr cm = (0, mem_4, blk_4, hdr_4, ds_4, pw_4, rn_4, wr_4, cm_4) := by unfold F0_saveDirty; rw [if_neg c_4, hF1]; (try dsimp only); rw [if_neg c_24, hF2]; (try dsimp only); rw [if_neg c_35, hF3]; (try dsimp only); rw [if_neg c_64, hF4]; (try dsimp only); rw [if_pos c_72]
            rw [e9]
            exact retWi hx hb hr hlocks rfl rfl rfl hK hP hD hS dX0_saveDirty_80
          · skip
            refine lv_iconst (v := 1) hx hb dX0_saveDirty_75 (by decide) ?_
            refine lv_goto (tgt := 80) hx hb dX0_saveDirty_76 (by decide) ?_
            have e9 : F0_saveDirty mem blk hdr ds pw rn wr cm = (1, mem_4, blk_4, hdr_4, ds_4, pw_4, rn_4, wr_4, cm_4) := by unfold F0_saveDirty; rw [if_neg c_4, hF1]; (try dsimp only); rw [if_neg c_24, hF2]; (try dsimp only); rw [if_neg c_35, hF3]; (try dsimp only); rw [if_neg c_64, hF4]; (try dsimp only); rw [if_neg c_72]
            rw [e9]
            exact retWi hx hb hr hlocks rfl rfl rfl hK hP hD hS dX0_saveDirty_80
      · skip
        refine lv_iconst (v := 0) hx hb dX0_saveDirty_38 (by decide) ?_
        have e9 : F0_saveDirty mem blk hdr ds pw rn wr cm = (0, mem_2, blk_2, hdr_2, ds_2, pw_2, rn_2, wr_2, cm_2) := by unfold F0_saveDirty; rw [if_neg c_4, hF1]; (try dsimp only); rw [if_neg c_24, hF2]; (try dsimp only); rw [if_pos c_35]
        rw [e9]
        exact retWi hx hb hr hlocks rfl rfl rfl hK hP hD hS dX0_saveDirty_39
  · skip
    refine lv_iconst (v := 1) hx hb dX0_saveDirty_7 (by decide) ?_
    have e9 : F0_saveDirty mem blk hdr ds pw rn wr cm = (1, mem, blk, hdr, ds, pw, rn, wr, cm) := by unfold F0_saveDirty; rw [if_pos c_4]
    rw [e9]
    exact retWi hx hb hr hlocks rfl rfl rfl hK hP hD hS dX0_saveDirty_8
set_option maxHeartbeats 4000000 in
set_option maxRecDepth 100000 in
theorem m0_finishCommitted (l : Launch) (dC : Nat → ClassId) (dI : Nat → Nat → Nat) (h0 h1 h2 h3 : Nat) (c1 c2 c3 : ClassId) (sz : Nat) (mem blk hdr : Nat → Int32) (ds pw rn wr cm : Int32) : Met l yX0_finishCommitted wsX0_finishCommitted ({ frames := 3, cells := 0, slots := 0, locals := 88 }) (pcW (dC, dI) (k0 c1 c2 c3) (w0 h0 h1 h2 h3 c1 c2 c3 (mem, blk, hdr, ds, pw, rn, wr, cm)) sz [.ref h0]) (qcWi (dC, dI) (k0 c1 c2 c3) (w0 h0 h1 h2 h3 c1 c2 c3 (mem, blk, hdr, ds, pw, rn, wr, cm)) (w0 h0 h1 h2 h3 c1 c2 c3 (F0_finishCommitted mem blk hdr ds pw rn wr cm).2) sz (F0_finishCommitted mem blk hdr ds pw rn wr cm).1) 0 0 (va_A (w0 h0 h1 h2 h3 c1 c2 c3 (mem, blk, hdr, ds, pw, rn, wr, cm)) sz) := by
  refine Met.ofW (cc := cX0_finishCommitted) (maxL := 2) (ret := (some .boolean)) (by decide) rfl ?_
  intro p e s m args below meth c s₁ B hml hv
  obtain ⟨rfl, hsz, hP, hK, hD0⟩ := hv
  have hx := B.exec
  have hb := B.bytes
  have hr := B.returns
  have hts := atoms_spec (ws := wsX0_finishCommitted) B.pre
  have hown : s.vm.findClass RX0 = some m.cls := findClass_of_methodNamed B.named
  have hlocks := B.notSynchronized
  have hin : ∀ w ∈ wsX00, w ∈ wsX0_finishCommitted := fun _ h => List.mem_cons_of_mem _ (List.mem_append_right _ h)
  have hP : va_P (dC, dI) vwCl [(h0, .inr (0, [.ref h1, .ref h2, .ref h3, .int ds, .int pw, .int rn, .int wr, .int cm])), (h1, .inl (c1, 96, .inl mem)), (h2, .inl (c2, 200, .inl blk)), (h3, .inl (c3, 8, .inl hdr))] s.heap := hP
  subst hsz
  have hD := hD0.self (sz := s.heap.size)
  have hA : ∀ q : Nat, s.heap.size ≤ q → (va_A (w0 h0 h1 h2 h3 c1 c2 c3 (mem, blk, hdr, ds, pw, rn, wr, cm)) s.heap.size) q := fun q h => Or.inr h
  have hS : va_S (va_A (w0 h0 h1 h2 h3 c1 c2 c3 (mem, blk, hdr, ds, pw, rn, wr, cm)) s.heap.size) s.heap s.heap [] := va_S.rf
  have hl := lv_entry ([.ref h0]) (n := 2) (Nat.le_of_ble_eq_true rfl)
  rw [lg_entry_eq]
  generalize (lg_sl ([.ref h0]) ++ List.replicate (2 - (lg_sl ([.ref h0])).length) Slot.unset).toArray = ls at hl ⊢
  have hl : lv_has ls 2 [(0, .ref h0)] := hl
  refine lv_aload_n hx hb dX0_finishCommitted_0 rfl (lv_at hl 0 rfl) ?_
  refine va_get (D := (dC, dI)) (ci := 0) (v := .ref h2) (C := RX0) (T := TX0) (N := 8) hx hb hts hin hown hK hP 0 rfl rfl 1 (by decide) (hts (.fieldLink RX0 13 "CapStore" "blocks" "[I") (by decide +kernel)) (fun _ h9 => h9) rfl dX0_finishCommitted_1 ?_
  refine lv_sipush (v := 192) hx hb dX0_finishCommitted_4 (by decide) ?_
  refine va_iald hx hb hK hP 2 1 rfl rfl (vp_in_nI (n := 192) (by decide) (by decide)) dX0_finishCommitted_7 ?_
  refine lv_istore_n (lv' := [(1, .int (blk (192 : Int32).toNatClampNeg)), (0, .ref h0)]) hx hb dX0_finishCommitted_8 rfl hl (by decide) rfl (fun ls hl => ?_)
  refine lv_iload_n hx hb dX0_finishCommitted_9 rfl (lv_at hl 0 rfl) ?_
  refine lv_if_ne (tgt := 15) hx hb dX0_finishCommitted_10 (by decide) (fun c_10 => ?_) (fun c_10 => ?_)
  · skip
    refine lv_aload_n hx hb dX0_finishCommitted_15 rfl (lv_at hl 1 rfl) ?_
    refine lv_iload_n hx hb dX0_finishCommitted_16 rfl (lv_at hl 0 rfl) ?_
    refine lv_aload_n hx hb dX0_finishCommitted_17 rfl (lv_at hl 1 rfl) ?_
    refine va_get (D := (dC, dI)) (ci := 0) (v := .ref h2) (C := RX0) (T := TX0) (N := 8) hx hb hts hin hown hK hP 0 rfl rfl 1 (by decide) (hts (.fieldLink RX0 13 "CapStore" "blocks" "[I") (by decide +kernel)) (fun _ h9 => h9) rfl dX0_finishCommitted_18 ?_
    refine lv_bipush (v := 12) hx hb dX0_finishCommitted_21 (by decide) ?_
    refine lv_iconst (v := 0) hx hb dX0_finishCommitted_23 (by decide) ?_
    refine callWi (q := (RX0, TX0, 8)) (ci := 0) (q0 := 0) (As := [.int (blk (192 : Int32).toNatClampNeg), .ref h2, .int 12, .int 0]) (rest := []) (wr := []) (m0_copyRows_b l dC dI h0 h1 h2 h3 c1 c2 c3 _ mem blk hdr ds pw rn wr cm (blk (192 : Int32).toNatClampNeg) 12 0 cr_rec) ⟨hx, hb, hml, hown, hts⟩ (cwV 4 hts gX0_finishCommitted_X0_copyRows rfl rfl rfl (by decide +kernel) ⟨Nat.le_of_ble_eq_true rfl, Nat.le_of_ble_eq_true rfl⟩) hK hP hD hS hA rfl rfl [0, 1, 2, 3] [] rfl rfl rfl (by decide) (by decide) (by decide) rfl hl.1 rfl (Nat.le_of_ble_eq_true rfl) dX0_finishCommitted_24 ⟨Nat.zero_le _, Nat.zero_le _⟩ (fun H locs hP hD hS => ?_)
    generalize hF1 : (F0_copyRows_b mem blk hdr ds pw rn wr cm (blk (192 : Int32).toNatClampNeg) 12 0) = u at hP hD ⊢
    obtain ⟨r_1, mem_1, blk_1, hdr_1, ds_1, pw_1, rn_1, wr_1, cm_1⟩ := u
    have hP : va_P (dC, dI) vwCl [(h0, .inr (0, [.ref h1, .ref h2, .ref h3, .int ds_1, .int pw_1, .int rn_1, .int wr_1, .int cm_1])), (h1, .inl (c1, 96, .inl mem_1)), (h2, .inl (c2, 200, .inl blk_1)), (h3, .inl (c3, 8, .inl hdr_1))] _ := hP
    have hD : va_D _ [(h0, .inr (0, [.ref h1, .ref h2, .ref h3, .int ds_1, .int pw_1, .int rn_1, .int wr_1, .int cm_1])), (h1, .inl (c1, 96, .inl mem_1)), (h2, .inl (c2, 200, .inl blk_1)), (h3, .inl (c3, 8, .inl hdr_1))] := hD
    show W _ _ _ _ _ _ _ _ _ _ _ _ _ _ _ (F0 m 27 ls [.int r_1])
    refine lv_if_eq (tgt := 42) hx hb dX0_finishCommitted_27 (by decide) (fun c_27 => ?_) (fun c_27 => ?_)
    · skip
      refine lv_iconst (v := 0) hx hb dX0_finishCommitted_42 (by decide) ?_
      have e9 : F0_finishCommitted mem blk hdr ds pw rn wr cm = (0, mem_1, blk_1, hdr_1, ds_1, pw_1, rn_1, wr_1, cm_1) := by unfold F0_finishCommitted; rw [if_neg c_10, hF1]; (try dsimp only); rw [if_pos c_27]
      rw [e9]
      exact retWi hx hb hr hlocks rfl rfl rfl hK hP hD hS dX0_finishCommitted_43
    · skip
      refine lv_aload_n hx hb dX0_finishCommitted_30 rfl (lv_at hl 1 rfl) ?_
      refine lv_iconst (v := 0) hx hb dX0_finishCommitted_31 (by decide) ?_
      refine callWi (q := (RX0, TX0, 8)) (ci := 0) (q0 := 0) (As := [.int 0]) (rest := []) (wr := []) (m0_writeHeader l dC dI h0 h1 h2 h3 c1 c2 c3 _ mem_1 blk_1 hdr_1 ds_1 pw_1 rn_1 wr_1 cm_1 0 ) ⟨hx, hb, hml, hown, hts⟩ (cwV 1 hts gX0_finishCommitted_X0_writeHeader rfl rfl rfl (by decide +kernel) ⟨Nat.le_of_ble_eq_true rfl, Nat.le_of_ble_eq_true rfl⟩) hK hP hD hS hA rfl rfl [0, 1, 2, 3] [] rfl rfl rfl (by decide) (by decide) (by decide) rfl hl.1 rfl (Nat.le_of_ble_eq_true rfl) dX0_finishCommitted_32 ⟨Nat.zero_le _, Nat.zero_le _⟩ (fun H locs hP hD hS => ?_)
      generalize hF2 : (F0_writeHeader mem_1 blk_1 hdr_1 ds_1 pw_1 rn_1 wr_1 cm_1 0) = u at hP hD ⊢
      obtain ⟨r_2, mem_2, blk_2, hdr_2, ds_2, pw_2, rn_2, wr_2, cm_2⟩ := u
      have hP : va_P (dC, dI) vwCl [(h0, .inr (0, [.ref h1, .ref h2, .ref h3, .int ds_2, .int pw_2, .int rn_2, .int wr_2, .int cm_2])), (h1, .inl (c1, 96, .inl mem_2)), (h2, .inl (c2, 200, .inl blk_2)), (h3, .inl (c3, 8, .inl hdr_2))] _ := hP
      have hD : va_D _ [(h0, .inr (0, [.ref h1, .ref h2, .ref h3, .int ds_2, .int pw_2, .int rn_2, .int wr_2, .int cm_2])), (h1, .inl (c1, 96, .inl mem_2)), (h2, .inl (c2, 200, .inl blk_2)), (h3, .inl (c3, 8, .inl hdr_2))] := hD
      show W _ _ _ _ _ _ _ _ _ _ _ _ _ _ _ (F0 m 35 ls [.int r_2])
      refine lv_if_eq (tgt := 42) hx hb dX0_finishCommitted_35 (by decide) (fun c_35 => ?_) (fun c_35 => ?_)
      · skip
        refine lv_iconst (v := 0) hx hb dX0_finishCommitted_42 (by decide) ?_
        have e9 : F0_finishCommitted mem blk hdr ds pw rn wr cm = (0, mem_2, blk_2, hdr_2, ds_2, pw_2, rn_2, wr_2, cm_2) := by unfold F0_finishCommitted; rw [if_neg c_10, hF1]; (try dsimp only); rw [if_neg c_27, hF2]; (try dsimp only); rw [if_pos c_35]
        rw [e9]
        exact retWi hx hb hr hlocks rfl rfl rfl hK hP hD hS dX0_finishCommitted_43
      · skip
        refine lv_iconst (v := 1) hx hb dX0_finishCommitted_38 (by decide) ?_
        refine lv_goto (tgt := 43) hx hb dX0_finishCommitted_39 (by decide) ?_
        have e9 : F0_finishCommitted mem blk hdr ds pw rn wr cm = (1, mem_2, blk_2, hdr_2, ds_2, pw_2, rn_2, wr_2, cm_2) := by unfold F0_finishCommitted; rw [if_neg c_10, hF1]; (try dsimp only); rw [if_neg c_27, hF2]; (try dsimp only); rw [if_neg c_35]
        rw [e9]
        exact retWi hx hb hr hlocks rfl rfl rfl hK hP hD hS dX0_finishCommitted_43
  · skip
    refine lv_iconst (v := 1) hx hb dX0_finishCommitted_13 (by decide) ?_
    have e9 : F0_finishCommitted mem blk hdr ds pw rn wr cm = (1, mem, blk, hdr, ds, pw, rn, wr, cm) := by unfold F0_finishCommitted; rw [if_pos c_10]
    rw [e9]
    exact retWi hx hb hr hlocks rfl rfl rfl hK hP hD hS dX0_finishCommitted_14
set_option maxHeartbeats 4000000 in
set_option maxRecDepth 100000 in
theorem m0_loadHomes (l : Launch) (dC : Nat → ClassId) (dI : Nat → Nat → Nat) (h0 h1 h2 h3 : Nat) (c1 c2 c3 : ClassId) (sz : Nat) (mem blk hdr : Nat → Int32) (ds pw rn wr cm : Int32) : Met l yX0_loadHomes wsX0_loadHomes ({ frames := 1, cells := 0, slots := 0, locals := 40 }) (pcW (dC, dI) (k0 c1 c2 c3) (w0 h0 h1 h2 h3 c1 c2 c3 (mem, blk, hdr, ds, pw, rn, wr, cm)) sz [.ref h0]) (qcWv (dC, dI) (k0 c1 c2 c3) (w0 h0 h1 h2 h3 c1 c2 c3 (mem, blk, hdr, ds, pw, rn, wr, cm)) (w0 h0 h1 h2 h3 c1 c2 c3 (F0_loadHomes mem blk hdr ds pw rn wr cm)) sz) 0 0 (va_A (w0 h0 h1 h2 h3 c1 c2 c3 (mem, blk, hdr, ds, pw, rn, wr, cm)) sz) := by
  refine Met.ofW (cc := cX0_loadHomes) (maxL := 1) (ret := none) (by decide) rfl ?_
  intro p e s m args below meth c s₁ B hml hv
  obtain ⟨rfl, hsz, hP, hK, hD0⟩ := hv
  have hx := B.exec
  have hb := B.bytes
  have hr := B.returns
  have hts := atoms_spec (ws := wsX0_loadHomes) B.pre
  have hown : s.vm.findClass RX0 = some m.cls := findClass_of_methodNamed B.named
  have hlocks := B.notSynchronized
  have hin : ∀ w ∈ wsX00, w ∈ wsX0_loadHomes := fun _ h => List.mem_cons_of_mem _ (List.mem_append_right _ h)
  have hP : va_P (dC, dI) vwCl [(h0, .inr (0, [.ref h1, .ref h2, .ref h3, .int ds, .int pw, .int rn, .int wr, .int cm])), (h1, .inl (c1, 96, .inl mem)), (h2, .inl (c2, 200, .inl blk)), (h3, .inl (c3, 8, .inl hdr))] s.heap := hP
  subst hsz
  have hD := hD0.self (sz := s.heap.size)
  have hA : ∀ q : Nat, s.heap.size ≤ q → (va_A (w0 h0 h1 h2 h3 c1 c2 c3 (mem, blk, hdr, ds, pw, rn, wr, cm)) s.heap.size) q := fun q h => Or.inr h
  have hS : va_S (va_A (w0 h0 h1 h2 h3 c1 c2 c3 (mem, blk, hdr, ds, pw, rn, wr, cm)) s.heap.size) s.heap s.heap [] := va_S.rf
  have hl := lv_entry ([.ref h0]) (n := 1) (Nat.le_of_ble_eq_true rfl)
  rw [lg_entry_eq]
  generalize (lg_sl ([.ref h0]) ++ List.replicate (1 - (lg_sl ([.ref h0])).length) Slot.unset).toArray = ls at hl ⊢
  have hl : lv_has ls 1 [(0, .ref h0)] := hl
  refine lv_aload_n hx hb dX0_loadHomes_0 rfl (lv_at hl 0 rfl) ?_
  refine va_get (D := (dC, dI)) (ci := 0) (v := .ref h2) (C := RX0) (T := TX0) (N := 8) hx hb hts hin hown hK hP 0 rfl rfl 1 (by decide) (hts (.fieldLink RX0 13 "CapStore" "blocks" "[I") (by decide +kernel)) (fun _ h9 => h9) rfl dX0_loadHomes_1 ?_
  refine lv_iconst (v := 0) hx hb dX0_loadHomes_4 (by decide) ?_
  refine lv_aload_n hx hb dX0_loadHomes_5 rfl (lv_at hl 0 rfl) ?_
  refine va_get (D := (dC, dI)) (ci := 0) (v := .ref h1) (C := RX0) (T := TX0) (N := 8) hx hb hts hin hown hK hP 0 rfl rfl 0 (by decide) (hts (.fieldLink RX0 9 "CapStore" "memory" "[I") (by decide +kernel)) (fun _ h9 => h9) rfl dX0_loadHomes_6 ?_
  refine lv_iconst (v := 0) hx hb dX0_loadHomes_9 (by decide) ?_
  refine lv_bipush (v := 96) hx hb dX0_loadHomes_10 (by decide) ?_
  refine va_copyi (ty := .int) hx hb (hml.trans hl.1.symm) hown (hts (.methodLink RX0 122 arraycopyName) (by decide +kernel)) (hts (.native arraycopyName) (by decide +kernel)) (hts (.static arraycopyName) (by decide +kernel)) (hts (.initialized "java/lang/System") (by decide +kernel)) hK hP hD hS 2 1 1 0 rfl rfl rfl rfl rfl (by decide) (by decide) (by decide) (by decide) (by decide) (fun _ _ => rfl) (Nat.le_of_ble_eq_true rfl) (Nat.le_of_ble_eq_true rfl) dX0_loadHomes_12 (fun H locs hP hD hS => ?_)
  have hP : va_P (dC, dI) vwCl [(h0, .inr (0, [.ref h1, .ref h2, .ref h3, .int ds, .int pw, .int rn, .int wr, .int cm])), (h1, .inl (c1, 96, .inl (va_cpy blk mem (0 : Int32).toNatClampNeg (0 : Int32).toNatClampNeg (96 : Int32).toNatClampNeg))), (h2, .inl (c2, 200, .inl blk)), (h3, .inl (c3, 8, .inl hdr))] _ := hP
  have hD : va_D _ [(h0, .inr (0, [.ref h1, .ref h2, .ref h3, .int ds, .int pw, .int rn, .int wr, .int cm])), (h1, .inl (c1, 96, .inl (va_cpy blk mem (0 : Int32).toNatClampNeg (0 : Int32).toNatClampNeg (96 : Int32).toNatClampNeg))), (h2, .inl (c2, 200, .inl blk)), (h3, .inl (c3, 8, .inl hdr))] := hD
  refine lv_aload_n hx hb dX0_loadHomes_15 rfl (lv_at hl 0 rfl) ?_
  refine lv_iconst (v := 0) hx hb dX0_loadHomes_16 (by decide) ?_
  refine va_put (D := (dC, dI)) (ci := 0) (v := .int 0) (ty := .int) (C := RX0) (T := TX0) (N := 8) hx hb hts hin tyX0 tyX0_ok nmX0 hown hK hP hD hS 0 rfl rfl 3 (by decide) (hts (.fieldLink RX0 19 "CapStore" "dirtySet" "I") (by decide +kernel)) (fun _ h9 => h9) rfl (by decide +kernel) rfl rfl (Nat.le_of_ble_eq_true rfl) dX0_loadHomes_17 (fun H locs hP hD hS => ?_)
  have hP : va_P (dC, dI) vwCl [(h0, .inr (0, [.ref h1, .ref h2, .ref h3, .int 0, .int pw, .int rn, .int wr, .int cm])), (h1, .inl (c1, 96, .inl (va_cpy blk mem (0 : Int32).toNatClampNeg (0 : Int32).toNatClampNeg (96 : Int32).toNatClampNeg))), (h2, .inl (c2, 200, .inl blk)), (h3, .inl (c3, 8, .inl hdr))] _ := hP
  have hD : va_D _ [(h0, .inr (0, [.ref h1, .ref h2, .ref h3, .int 0, .int pw, .int rn, .int wr, .int cm])), (h1, .inl (c1, 96, .inl (va_cpy blk mem (0 : Int32).toNatClampNeg (0 : Int32).toNatClampNeg (96 : Int32).toNatClampNeg))), (h2, .inl (c2, 200, .inl blk)), (h3, .inl (c3, 8, .inl hdr))] := hD
  have e9 : F0_loadHomes mem blk hdr ds pw rn wr cm = ((va_cpy blk mem (0 : Int32).toNatClampNeg (0 : Int32).toNatClampNeg (96 : Int32).toNatClampNeg), blk, hdr, 0, pw, rn, wr, cm) := rfl
  rw [e9]
  exact retWv hx hb hr hlocks rfl hK hP hD hS dX0_loadHomes_20
set_option maxHeartbeats 4000000 in
set_option maxRecDepth 100000 in
theorem m0_checkpoint (l : Launch) (dC : Nat → ClassId) (dI : Nat → Nat → Nat) (h0 h1 h2 h3 : Nat) (c1 c2 c3 : ClassId) (sz : Nat) (mem blk hdr : Nat → Int32) (ds pw rn wr cm : Int32) : Met l yX0_checkpoint wsX0_checkpoint ({ frames := 4, cells := 0, slots := 0, locals := 108 }) (pcW (dC, dI) (k0 c1 c2 c3) (w0 h0 h1 h2 h3 c1 c2 c3 (mem, blk, hdr, ds, pw, rn, wr, cm)) sz [.ref h0]) (qcWi (dC, dI) (k0 c1 c2 c3) (w0 h0 h1 h2 h3 c1 c2 c3 (mem, blk, hdr, ds, pw, rn, wr, cm)) (w0 h0 h1 h2 h3 c1 c2 c3 (F0_checkpoint mem blk hdr ds pw rn wr cm).2) sz (F0_checkpoint mem blk hdr ds pw rn wr cm).1) 0 0 (va_A (w0 h0 h1 h2 h3 c1 c2 c3 (mem, blk, hdr, ds, pw, rn, wr, cm)) sz) := by
  refine Met.ofW (cc := cX0_checkpoint) (maxL := 2) (ret := (some .int)) (by decide) rfl ?_
  intro p e s m args below meth c s₁ B hml hv
  obtain ⟨rfl, hsz, hP, hK, hD0⟩ := hv
  have hx := B.exec
  have hb := B.bytes
  have hr := B.returns
  have hts := atoms_spec (ws := wsX0_checkpoint) B.pre
  have hown : s.vm.findClass RX0 = some m.cls := findClass_of_methodNamed B.named
  have hlocks := B.notSynchronized
  have hin : ∀ w ∈ wsX00, w ∈ wsX0_checkpoint := fun _ h => List.mem_cons_of_mem _ (List.mem_append_right _ h)
  have hP : va_P (dC, dI) vwCl [(h0, .inr (0, [.ref h1, .ref h2, .ref h3, .int ds, .int pw, .int rn, .int wr, .int cm])), (h1, .inl (c1, 96, .inl mem)), (h2, .inl (c2, 200, .inl blk)), (h3, .inl (c3, 8, .inl hdr))] s.heap := hP
  subst hsz
  have hD := hD0.self (sz := s.heap.size)
  have hA : ∀ q : Nat, s.heap.size ≤ q → (va_A (w0 h0 h1 h2 h3 c1 c2 c3 (mem, blk, hdr, ds, pw, rn, wr, cm)) s.heap.size) q := fun q h => Or.inr h
  have hS : va_S (va_A (w0 h0 h1 h2 h3 c1 c2 c3 (mem, blk, hdr, ds, pw, rn, wr, cm)) s.heap.size) s.heap s.heap [] := va_S.rf
  have hl := lv_entry ([.ref h0]) (n := 2) (Nat.le_of_ble_eq_true rfl)
  rw [lg_entry_eq]
  generalize (lg_sl ([.ref h0]) ++ List.replicate (2 - (lg_sl ([.ref h0])).length) Slot.unset).toArray = ls at hl ⊢
  have hl : lv_has ls 2 [(0, .ref h0)] := hl
  refine lv_aload_n hx hb dX0_checkpoint_0 rfl (lv_at hl 0 rfl) ?_
  refine va_get (D := (dC, dI)) (ci := 0) (v := .int rn) (C := RX0) (T := TX0) (N := 8) hx hb hts hin hown hK hP 0 rfl rfl 5 (by decide) (hts (.fieldLink RX0 26 "CapStore" "running" "Z") (by decide +kernel)) (fun _ h9 => h9) rfl dX0_checkpoint_1 ?_
  refine lv_if_ne (tgt := 9) hx hb dX0_checkpoint_4 (by decide) (fun c_4 => ?_) (fun c_4 => ?_)
  · skip
    refine lv_aload_n hx hb dX0_checkpoint_9 rfl (lv_at hl 0 rfl) ?_
    refine va_get (D := (dC, dI)) (ci := 0) (v := .int wr) (C := RX0) (T := TX0) (N := 8) hx hb hts hin hown hK hP 0 rfl rfl 6 (by decide) (hts (.fieldLink RX0 30 "CapStore" "written" "I") (by decide +kernel)) (fun _ h9 => h9) rfl dX0_checkpoint_10 ?_
    refine lv_istore_n (lv' := [(1, .int wr), (0, .ref h0)]) hx hb dX0_checkpoint_13 rfl hl (by decide) rfl (fun ls hl => ?_)
    refine lv_aload_n hx hb dX0_checkpoint_14 rfl (lv_at hl 1 rfl) ?_
    refine callWi (q := (RX0, TX0, 8)) (ci := 0) (q0 := 0) (As := []) (rest := []) (wr := []) (m0_saveDirty l dC dI h0 h1 h2 h3 c1 c2 c3 _ mem blk hdr ds pw rn wr cm  ) ⟨hx, hb, hml, hown, hts⟩ (cwV 0 hts gX0_checkpoint_X0_saveDirty rfl rfl rfl (by decide +kernel) ⟨Nat.le_of_ble_eq_true rfl, Nat.le_of_ble_eq_true rfl⟩) hK hP hD hS hA rfl rfl [0, 1, 2, 3] [] rfl rfl rfl (by decide) (by decide) (by decide) rfl hl.1 rfl (Nat.le_of_ble_eq_true rfl) dX0_checkpoint_15 ⟨Nat.zero_le _, Nat.zero_le _⟩ (fun H locs hP hD hS => ?_)
    generalize hF1 : (F0_saveDirty mem blk hdr ds pw rn wr cm) = u at hP hD ⊢
    obtain ⟨r_1, mem_1, blk_1, hdr_1, ds_1, pw_1, rn_1, wr_1, cm_1⟩ := u
    have hP : va_P (dC, dI) vwCl [(h0, .inr (0, [.ref h1, .ref h2, .ref h3, .int ds_1, .int pw_1, .int rn_1, .int wr_1, .int cm_1])), (h1, .inl (c1, 96, .inl mem_1)), (h2, .inl (c2, 200, .inl blk_1)), (h3, .inl (c3, 8, .inl hdr_1))] _ := hP
    have hD : va_D _ [(h0, .inr (0, [.ref h1, .ref h2, .ref h3, .int ds_1, .int pw_1, .int rn_1, .int wr_1, .int cm_1])), (h1, .inl (c1, 96, .inl mem_1)), (h2, .inl (c2, 200, .inl blk_1)), (h3, .inl (c3, 8, .inl hdr_1))] := hD
    show W _ _ _ _ _ _ _ _ _ _ _ _ _ _ _ (F0 m 18 ls [.int r_1])
    refine lv_if_ne (tgt := 24) hx hb dX0_checkpoint_18 (by decide) (fun c_18 => ?_) (fun c_18 => ?_)
    · skip
      refine lv_aload_n hx hb dX0_checkpoint_24 rfl (lv_at hl 1 rfl) ?_
      refine lv_iconst (v := 0) hx hb dX0_checkpoint_25 (by decide) ?_
      refine va_put (D := (dC, dI)) (ci := 0) (v := .int 0) (ty := .int) (C := RX0) (T := TX0) (N := 8) hx hb hts hin tyX0 tyX0_ok nmX0 hown hK hP hD hS 0 rfl rfl 3 (by decide) (hts (.fieldLink RX0 19 "CapStore" "dirtySet" "I") (by decide +kernel)) (fun _ h9 => h9) rfl (by decide +kernel) rfl rfl (Nat.le_of_ble_eq_true rfl) dX0_checkpoint_26 (fun H locs hP hD hS => ?_)
      have hP : va_P (dC, dI) vwCl [(h0, .inr (0, [.ref h1, .ref h2, .ref h3, .int 0, .int pw_1, .int rn_1, .int wr_1, .int cm_1])), (h1, .inl (c1, 96, .inl mem_1)), (h2, .inl (c2, 200, .inl blk_1)), (h3, .inl (c3, 8, .inl hdr_1))] _ := hP
      have hD : va_D _ [(h0, .inr (0, [.ref h1, .ref h2, .ref h3, .int 0, .int pw_1, .int rn_1, .int wr_1, .int cm_1])), (h1, .inl (c1, 96, .inl mem_1)), (h2, .inl (c2, 200, .inl blk_1)), (h3, .inl (c3, 8, .inl hdr_1))] := hD
      refine lv_aload_n hx hb dX0_checkpoint_29 rfl (lv_at hl 1 rfl) ?_
      refine va_get (D := (dC, dI)) (ci := 0) (v := .int wr_1) (C := RX0) (T := TX0) (N := 8) hx hb hts hin hown hK hP 0 rfl rfl 6 (by decide) (hts (.fieldLink RX0 30 "CapStore" "written" "I") (by decide +kernel)) (fun _ h9 => h9) rfl dX0_checkpoint_30 ?_
      refine lv_iload_n hx hb dX0_checkpoint_33 rfl (lv_at hl 0 rfl) ?_
      refine lv_isub hx hb dX0_checkpoint_34 ?_
      have e9 : F0_checkpoint mem blk hdr ds pw rn wr cm = ((wr_1 - wr), mem_1, blk_1, hdr_1, 0, pw_1, rn_1, wr_1, cm_1) := by unfold F0_checkpoint; rw [if_neg c_4, hF1]; (try dsimp only); rw [if_neg c_18]
      rw [e9]
      exact retWi hx hb hr hlocks rfl rfl rfl hK hP hD hS dX0_checkpoint_35
    · skip
      refine lv_bipush (v := (-2)) hx hb dX0_checkpoint_21 (by decide) ?_
      have e9 : F0_checkpoint mem blk hdr ds pw rn wr cm = ((-2), mem_1, blk_1, hdr_1, ds_1, pw_1, rn_1, wr_1, cm_1) := by unfold F0_checkpoint; rw [if_neg c_4, hF1]; (try dsimp only); rw [if_pos c_18]
      rw [e9]
      exact retWi hx hb hr hlocks rfl rfl rfl hK hP hD hS dX0_checkpoint_23
  · skip
    refine lv_iconst (v := (-1)) hx hb dX0_checkpoint_7 (by decide) ?_
    have e9 : F0_checkpoint mem blk hdr ds pw rn wr cm = ((-1), mem, blk, hdr, ds, pw, rn, wr, cm) := by unfold F0_checkpoint; rw [if_pos c_4]
    rw [e9]
    exact retWi hx hb hr hlocks rfl rfl rfl hK hP hD hS dX0_checkpoint_8
set_option maxHeartbeats 4000000 in
set_option maxRecDepth 100000 in
theorem m0_start (l : Launch) (dC : Nat → ClassId) (dI : Nat → Nat → Nat) (h0 h1 h2 h3 : Nat) (c1 c2 c3 : ClassId) (sz : Nat) (mem blk hdr : Nat → Int32) (ds pw rn wr cm : Int32) (x0 : Int32) : Met l yX0_start wsX0_start ({ frames := 4, cells := 0, slots := 0, locals := 109 }) (pcW (dC, dI) (k0 c1 c2 c3) (w0 h0 h1 h2 h3 c1 c2 c3 (mem, blk, hdr, ds, pw, rn, wr, cm)) sz [.ref h0, .int x0]) (qcWi (dC, dI) (k0 c1 c2 c3) (w0 h0 h1 h2 h3 c1 c2 c3 (mem, blk, hdr, ds, pw, rn, wr, cm)) (w0 h0 h1 h2 h3 c1 c2 c3 (F0_start mem blk hdr ds pw rn wr cm x0).2) sz (F0_start mem blk hdr ds pw rn wr cm x0).1) 0 0 (va_A (w0 h0 h1 h2 h3 c1 c2 c3 (mem, blk, hdr, ds, pw, rn, wr, cm)) sz) := by
  refine Met.ofW (cc := cX0_start) (maxL := 3) (ret := (some .int)) (by decide) rfl ?_
  intro p e s m args below meth c s₁ B hml hv
  obtain ⟨rfl, hsz, hP, hK, hD0⟩ := hv
  have hx := B.exec
  have hb := B.bytes
  have hr := B.returns
  have hts := atoms_spec (ws := wsX0_start) B.pre
  have hown : s.vm.findClass RX0 = some m.cls := findClass_of_methodNamed B.named
  have hlocks := B.notSynchronized
  have hin : ∀ w ∈ wsX00, w ∈ wsX0_start := fun _ h => List.mem_cons_of_mem _ (List.mem_append_right _ h)
  have hP : va_P (dC, dI) vwCl [(h0, .inr (0, [.ref h1, .ref h2, .ref h3, .int ds, .int pw, .int rn, .int wr, .int cm])), (h1, .inl (c1, 96, .inl mem)), (h2, .inl (c2, 200, .inl blk)), (h3, .inl (c3, 8, .inl hdr))] s.heap := hP
  subst hsz
  have hD := hD0.self (sz := s.heap.size)
  have hA : ∀ q : Nat, s.heap.size ≤ q → (va_A (w0 h0 h1 h2 h3 c1 c2 c3 (mem, blk, hdr, ds, pw, rn, wr, cm)) s.heap.size) q := fun q h => Or.inr h
  have hS : va_S (va_A (w0 h0 h1 h2 h3 c1 c2 c3 (mem, blk, hdr, ds, pw, rn, wr, cm)) s.heap.size) s.heap s.heap [] := va_S.rf
  have hl := lv_entry ([.ref h0, .int x0]) (n := 3) (Nat.le_of_ble_eq_true rfl)
  rw [lg_entry_eq]
  generalize (lg_sl ([.ref h0, .int x0]) ++ List.replicate (3 - (lg_sl ([.ref h0, .int x0])).length) Slot.unset).toArray = ls at hl ⊢
  have hl : lv_has ls 3 [(0, .ref h0), (1, .int x0)] := hl
  refine lv_aload_n hx hb dX0_start_0 rfl (lv_at hl 0 rfl) ?_
  refine va_get (D := (dC, dI)) (ci := 0) (v := .int rn) (C := RX0) (T := TX0) (N := 8) hx hb hts hin hown hK hP 0 rfl rfl 5 (by decide) (hts (.fieldLink RX0 26 "CapStore" "running" "Z") (by decide +kernel)) (fun _ h9 => h9) rfl dX0_start_1 ?_
  refine lv_if_eq (tgt := 9) hx hb dX0_start_4 (by decide) (fun c_4 => ?_) (fun c_4 => ?_)
  · skip
    refine lv_iload_n hx hb dX0_start_9 rfl (lv_at hl 1 rfl) ?_
    refine callSi (As := [.int x0]) (rest := []) (m0_isPower l x0) ⟨hx, hb, hml, hown, hts⟩ (va_cwS 1 hts gX0_start_X0_isPower rfl rfl rfl (by decide +kernel) ⟨Nat.le_of_ble_eq_true rfl, Nat.le_of_ble_eq_true rfl⟩) rfl hl.1 rfl (Nat.le_of_ble_eq_true rfl) dX0_start_10 ⟨Nat.zero_le _, Nat.zero_le _⟩ ?_
    refine lv_if_ne (tgt := 19) hx hb dX0_start_13 (by decide) (fun c_13 => ?_) (fun c_13 => ?_)
    · skip
      refine lv_aload_n hx hb dX0_start_19 rfl (lv_at hl 0 rfl) ?_
      refine lv_iload_n hx hb dX0_start_20 rfl (lv_at hl 1 rfl) ?_
      refine va_put (D := (dC, dI)) (ci := 0) (v := .int x0) (ty := .int) (C := RX0) (T := TX0) (N := 8) hx hb hts hin tyX0 tyX0_ok nmX0 hown hK hP hD hS 0 rfl rfl 4 (by decide) (hts (.fieldLink RX0 23 "CapStore" "powerLeft" "I") (by decide +kernel)) (fun _ h9 => h9) rfl (by decide +kernel) rfl rfl (Nat.le_of_ble_eq_true rfl) dX0_start_21 (fun H locs hP hD hS => ?_)
      have hP : va_P (dC, dI) vwCl [(h0, .inr (0, [.ref h1, .ref h2, .ref h3, .int ds, .int x0, .int rn, .int wr, .int cm])), (h1, .inl (c1, 96, .inl mem)), (h2, .inl (c2, 200, .inl blk)), (h3, .inl (c3, 8, .inl hdr))] _ := hP
      have hD : va_D _ [(h0, .inr (0, [.ref h1, .ref h2, .ref h3, .int ds, .int x0, .int rn, .int wr, .int cm])), (h1, .inl (c1, 96, .inl mem)), (h2, .inl (c2, 200, .inl blk)), (h3, .inl (c3, 8, .inl hdr))] := hD
      refine lv_aload_n hx hb dX0_start_24 rfl (lv_at hl 0 rfl) ?_
      refine va_get (D := (dC, dI)) (ci := 0) (v := .int wr) (C := RX0) (T := TX0) (N := 8) hx hb hts hin hown hK hP 0 rfl rfl 6 (by decide) (hts (.fieldLink RX0 30 "CapStore" "written" "I") (by decide +kernel)) (fun _ h9 => h9) rfl dX0_start_25 ?_
      refine lv_istore_n (lv' := [(2, .int wr), (0, .ref h0), (1, .int x0)]) hx hb dX0_start_28 rfl hl (by decide) rfl (fun ls hl => ?_)
      refine lv_aload_n hx hb dX0_start_29 rfl (lv_at hl 1 rfl) ?_
      refine callWi (q := (RX0, TX0, 8)) (ci := 0) (q0 := 0) (As := []) (rest := []) (wr := []) (m0_finishCommitted l dC dI h0 h1 h2 h3 c1 c2 c3 _ mem blk hdr ds x0 rn wr cm  ) ⟨hx, hb, hml, hown, hts⟩ (cwV 0 hts gX0_start_X0_finishCommitted rfl rfl rfl (by decide +kernel) ⟨Nat.le_of_ble_eq_true rfl, Nat.le_of_ble_eq_true rfl⟩) hK hP hD hS hA rfl rfl [0, 1, 2, 3] [] rfl rfl rfl (by decide) (by decide) (by decide) rfl hl.1 rfl (Nat.le_of_ble_eq_true rfl) dX0_start_30 ⟨Nat.zero_le _, Nat.zero_le _⟩ (fun H locs hP hD hS => ?_)
      generalize hF1 : (F0_finishCommitted mem blk hdr ds x0 rn wr cm) = u at hP hD ⊢
      obtain ⟨r_1, mem_1, blk_1, hdr_1, ds_1, pw_1, rn_1, wr_1, cm_1⟩ := u
      have hP : va_P (dC, dI) vwCl [(h0, .inr (0, [.ref h1, .ref h2, .ref h3, .int ds_1, .int pw_1, .int rn_1, .int wr_1, .int cm_1])), (h1, .inl (c1, 96, .inl mem_1)), (h2, .inl (c2, 200, .inl blk_1)), (h3, .inl (c3, 8, .inl hdr_1))] _ := hP
      have hD : va_D _ [(h0, .inr (0, [.ref h1, .ref h2, .ref h3, .int ds_1, .int pw_1, .int rn_1, .int wr_1, .int cm_1])), (h1, .inl (c1, 96, .inl mem_1)), (h2, .inl (c2, 200, .inl blk_1)), (h3, .inl (c3, 8, .inl hdr_1))] := hD
      show W _ _ _ _ _ _ _ _ _ _ _ _ _ _ _ (F0 m 33 ls [.int r_1])
      refine lv_if_ne (tgt := 39) hx hb dX0_start_33 (by decide) (fun c_33 => ?_) (fun c_33 => ?_)
      · skip
        refine lv_aload_n hx hb dX0_start_39 rfl (lv_at hl 1 rfl) ?_
        refine callWv (q := (RX0, TX0, 8)) (ci := 0) (q0 := 0) (As := []) (rest := []) (wr := []) (m0_loadHomes l dC dI h0 h1 h2 h3 c1 c2 c3 _ mem_1 blk_1 hdr_1 ds_1 pw_1 rn_1 wr_1 cm_1  ) ⟨hx, hb, hml, hown, hts⟩ (cwV 0 hts gX0_start_X0_loadHomes rfl rfl rfl (by decide +kernel) ⟨Nat.le_of_ble_eq_true rfl, Nat.le_of_ble_eq_true rfl⟩) hK hP hD hS hA rfl rfl [0, 1, 2, 3] [] rfl rfl rfl (by decide) (by decide) (by decide) rfl hl.1 rfl (Nat.le_of_ble_eq_true rfl) dX0_start_40 ⟨Nat.zero_le _, Nat.zero_le _⟩ (fun H locs hP hD hS => ?_)
        have hP : va_P (dC, dI) vwCl [(h0, .inr (0, [.ref h1, .ref h2, .ref h3, .int 0, .int pw_1, .int rn_1, .int wr_1, .int cm_1])), (h1, .inl (c1, 96, .inl (va_cpy blk_1 mem_1 (0 : Int32).toNatClampNeg (0 : Int32).toNatClampNeg (96 : Int32).toNatClampNeg))), (h2, .inl (c2, 200, .inl blk_1)), (h3, .inl (c3, 8, .inl hdr_1))] _ := hP
        have hD : va_D _ [(h0, .inr (0, [.ref h1, .ref h2, .ref h3, .int 0, .int pw_1, .int rn_1, .int wr_1, .int cm_1])), (h1, .inl (c1, 96, .inl (va_cpy blk_1 mem_1 (0 : Int32).toNatClampNeg (0 : Int32).toNatClampNeg (96 : Int32).toNatClampNeg))), (h2, .inl (c2, 200, .inl blk_1)), (h3, .inl (c3, 8, .inl hdr_1))] := hD
        refine lv_aload_n hx hb dX0_start_43 rfl (lv_at hl 1 rfl) ?_
        refine lv_iconst (v := 1) hx hb dX0_start_44 (by decide) ?_
        refine va_put (D := (dC, dI)) (ci := 0) (v := .int 1) (ty := .boolean) (C := RX0) (T := TX0) (N := 8) hx hb hts hin tyX0 tyX0_ok nmX0 hown hK hP hD hS 0 rfl rfl 5 (by decide) (hts (.fieldLink RX0 26 "CapStore" "running" "Z") (by decide +kernel)) (fun _ h9 => h9) rfl (by decide +kernel) rfl rfl (Nat.le_of_ble_eq_true rfl) dX0_start_45 (fun H locs hP hD hS => ?_)
        have hP : va_P (dC, dI) vwCl [(h0, .inr (0, [.ref h1, .ref h2, .ref h3, .int 0, .int pw_1, .int 1, .int wr_1, .int cm_1])), (h1, .inl (c1, 96, .inl (va_cpy blk_1 mem_1 (0 : Int32).toNatClampNeg (0 : Int32).toNatClampNeg (96 : Int32).toNatClampNeg))), (h2, .inl (c2, 200, .inl blk_1)), (h3, .inl (c3, 8, .inl hdr_1))] _ := hP
        have hD : va_D _ [(h0, .inr (0, [.ref h1, .ref h2, .ref h3, .int 0, .int pw_1, .int 1, .int wr_1, .int cm_1])), (h1, .inl (c1, 96, .inl (va_cpy blk_1 mem_1 (0 : Int32).toNatClampNeg (0 : Int32).toNatClampNeg (96 : Int32).toNatClampNeg))), (h2, .inl (c2, 200, .inl blk_1)), (h3, .inl (c3, 8, .inl hdr_1))] := hD
        refine lv_aload_n hx hb dX0_start_48 rfl (lv_at hl 1 rfl) ?_
        refine va_get (D := (dC, dI)) (ci := 0) (v := .int wr_1) (C := RX0) (T := TX0) (N := 8) hx hb hts hin hown hK hP 0 rfl rfl 6 (by decide) (hts (.fieldLink RX0 30 "CapStore" "written" "I") (by decide +kernel)) (fun _ h9 => h9) rfl dX0_start_49 ?_
        refine lv_iload_n hx hb dX0_start_52 rfl (lv_at hl 0 rfl) ?_
        refine lv_isub hx hb dX0_start_53 ?_
        have e9 : F0_start mem blk hdr ds pw rn wr cm x0 = ((wr_1 - wr), (va_cpy blk_1 mem_1 (0 : Int32).toNatClampNeg (0 : Int32).toNatClampNeg (96 : Int32).toNatClampNeg), blk_1, hdr_1, 0, pw_1, 1, wr_1, cm_1) := by unfold F0_start; rw [if_pos c_4, if_neg c_13, hF1]; (try dsimp only); rw [if_neg c_33]
        rw [e9]
        exact retWi hx hb hr hlocks rfl rfl rfl hK hP hD hS dX0_start_54
      · skip
        refine lv_bipush (v := (-3)) hx hb dX0_start_36 (by decide) ?_
        have e9 : F0_start mem blk hdr ds pw rn wr cm x0 = ((-3), mem_1, blk_1, hdr_1, ds_1, pw_1, rn_1, wr_1, cm_1) := by unfold F0_start; rw [if_pos c_4, if_neg c_13, hF1]; (try dsimp only); rw [if_pos c_33]
        rw [e9]
        exact retWi hx hb hr hlocks rfl rfl rfl hK hP hD hS dX0_start_38
    · skip
      refine lv_bipush (v := (-2)) hx hb dX0_start_16 (by decide) ?_
      have e9 : F0_start mem blk hdr ds pw rn wr cm x0 = ((-2), mem, blk, hdr, ds, pw, rn, wr, cm) := by unfold F0_start; rw [if_pos c_4, if_pos c_13]
      rw [e9]
      exact retWi hx hb hr hlocks rfl rfl rfl hK hP hD hS dX0_start_18
  · skip
    refine lv_iconst (v := (-1)) hx hb dX0_start_7 (by decide) ?_
    have e9 : F0_start mem blk hdr ds pw rn wr cm x0 = ((-1), mem, blk, hdr, ds, pw, rn, wr, cm) := by unfold F0_start; rw [if_neg c_4]
    rw [e9]
    exact retWi hx hb hr hlocks rfl rfl rfl hK hP hD hS dX0_start_8
end
section
def f1_is (x0 : Int32) : Nat → Int32 → Int32
  | 0, a => a
  | n + 1, a => f1_is x0 n (a + ((x0 >>> (nI (11 - n) &&& 31)) &&& 1))
def f1_inSet (mem dsk sto : Nat → Int32) (dn en pw wr cm : Int32) (x0 : Int32) : Int32 := f1_is x0 12 0
def f1_mb (x0 : Int32) : Nat → Int32 → Int32
  | 0, _ => 0
  | n + 1, a => if ((x0 >>> (nI (11 - n) &&& 31)) &&& 1) = 1 then (if a = 0 then nI (11 - n) else f1_mb x0 n (a + (-1))) else f1_mb x0 n a
def f1_member (mem dsk sto : Nat → Int32) (dn en pw wr cm : Int32) (x0 : Int32) (x1 : Int32) : Int32 := f1_mb x0 12 x1
def f1_dt (sto : Nat → Int32) : Nat → Int32 → Int32
  | 0, a => a
  | n + 1, a => if sto (nI (11 - n)).toNatClampNeg = 0 then f1_dt sto n a else f1_dt sto n (a + ((1 : Int32) <<< (nI (11 - n) &&& 31)))
def f1_dirty (mem dsk sto : Nat → Int32) (dn en pw wr cm : Int32) : Int32 := (if dn = 0 then f1_dt sto 12 0 else (-1))
def f1_refusal (mem dsk sto : Nat → Int32) (dn en pw wr cm : Int32) (x0 : Int32) (x1 : Int32) (x2 : Int32) (x3 : Int32) (x4 : Int32) : Int32 := (if dn = 0 then (if (f1_third x0) = 0 then (-2) else (if (f1_eight x1) = 0 then (-2) else (if (f1_eight x2) = 0 then (-2) else (if (f1_object (mem ((8 * x0) + x1).toNatClampNeg)) = 12 then (-3) else (if (f1_object (mem ((8 * x0) + x1).toNatClampNeg)) ≤ 7 then (if x3 = 0 then (if x4 = 0 then 0 else (if (f1_limits (mem ((8 * x0) + x1).toNatClampNeg)) = 0 then 0 else (-4))) else (-3)) else (if x3 = 1 then (if x4 = 0 then 0 else (if (f1_limits (mem ((8 * x0) + x1).toNatClampNeg)) = 0 then 0 else (-4))) else (-3))))))) else (-1))
def f1_read (mem dsk sto : Nat → Int32) (dn en pw wr cm : Int32) (x0 : Int32) (x1 : Int32) (x2 : Int32) : Int64 := (if (f1_refusal mem dsk sto dn en pw wr cm x0 x1 x2 1 0) = 0 then (mem ((8 * (f1_object (mem ((8 * x0) + x1).toNatClampNeg))) + x2).toNatClampNeg).toInt64 else (4294967296 + (f1_refusal mem dsk sto dn en pw wr cm x0 x1 x2 1 0).toInt64))
def f1_isUp (mem dsk sto : Nat → Int32) (dn en pw wr cm : Int32) : Int32 := (if dn = 0 then 1 else 0)
def f1_writes (mem dsk sto : Nat → Int32) (dn en pw wr cm : Int32) : Int32 := wr
def f1_commits (mem dsk sto : Nat → Int32) (dn en pw wr cm : Int32) : Int32 := cm
def f1_key (mem dsk sto : Nat → Int32) (dn en pw wr cm : Int32) (x0 : Int32) (x1 : Int32) : Int32 := (if dn = 0 then (if (f1_eight x0) = 0 then (-2) else (if (f1_eight x1) = 0 then (-2) else (mem ((8 * x0) + x1).toNatClampNeg))) else (-1))
def f1_word (mem dsk sto : Nat → Int32) (dn en pw wr cm : Int32) (x0 : Int32) (x1 : Int32) : Int64 := (if dn = 0 then (if x0 < 8 then 4294967294 else (if 11 < x0 then 4294967294 else (if (f1_eight x1) = 0 then 4294967294 else (mem ((8 * x0) + x1).toNatClampNeg).toInt64))) else 4294967295)
def f1_disk (mem dsk sto : Nat → Int32) (dn en pw wr cm : Int32) (x0 : Int32) (x1 : Int32) : Int32 := (if x0 < 0 then 0 else (if 24 < x0 then 0 else (if (f1_eight x1) = 0 then 0 else (dsk ((8 * x0) + x1).toNatClampNeg))))
def F1_put (mem dsk sto : Nat → Int32) (dn en pw wr cm : Int32) (x0 : Int32) (x1 : Int32) (x2 : Int32) : S0 := ((upd mem ((8 * x0) + x1).toNatClampNeg x2), dsk, (upd sto x0.toNatClampNeg (vp_nar .boolean 1)), dn, en, pw, wr, cm)
def F1_place (mem dsk sto : Nat → Int32) (dn en pw wr cm : Int32) (x0 : Int32) (x1 : Int32) (x2 : Int32) : Int32 × S0 := (if dn = 0 then (if (f1_eight x0) = 0 then ((-2), mem, dsk, sto, dn, en, pw, wr, cm) else (if (f1_eight x1) = 0 then ((-2), mem, dsk, sto, dn, en, pw, wr, cm) else (if x2 < 0 then ((-2), mem, dsk, sto, dn, en, pw, wr, cm) else (if x2 ≤ 48 then (0, (upd mem ((8 * x0) + x1).toNatClampNeg x2), dsk, (upd sto x0.toNatClampNeg (vp_nar .boolean 1)), dn, en, pw, wr, cm) else ((-2), mem, dsk, sto, dn, en, pw, wr, cm))))) else ((-1), mem, dsk, sto, dn, en, pw, wr, cm))
def z1_fetch_91 (mem : Nat → Int32) (x0 : Int32) (x1 : Int32) (x2 : Int32) : Int32 := (if (f1_limits (mem ((8 * x0) + x1).toNatClampNeg)) < 2 then (mem ((8 * (f1_object (mem ((8 * x0) + x1).toNatClampNeg))) + x2).toNatClampNeg) else (f1_limited (mem ((8 * (f1_object (mem ((8 * x0) + x1).toNatClampNeg))) + x2).toNatClampNeg) 3))
def F1_fetch (mem dsk sto : Nat → Int32) (dn en pw wr cm : Int32) (x0 : Int32) (x1 : Int32) (x2 : Int32) (x3 : Int32) : Int32 × S0 := (if (f1_refusal mem dsk sto dn en pw wr cm x0 x1 x2 0 0) = (-1) then ((f1_refusal mem dsk sto dn en pw wr cm x0 x1 x2 0 0), mem, dsk, sto, dn, en, pw, wr, cm) else (if (f1_eight x3) = 0 then ((-2), mem, dsk, sto, dn, en, pw, wr, cm) else (if (f1_refusal mem dsk sto dn en pw wr cm x0 x1 x2 0 0) = 0 then (0, (upd mem ((8 * x0) + x3).toNatClampNeg (z1_fetch_91 mem x0 x1 x2)), dsk, (upd sto x0.toNatClampNeg (vp_nar .boolean 1)), dn, en, pw, wr, cm) else ((f1_refusal mem dsk sto dn en pw wr cm x0 x1 x2 0 0), mem, dsk, sto, dn, en, pw, wr, cm))))
def F1_store (mem dsk sto : Nat → Int32) (dn en pw wr cm : Int32) (x0 : Int32) (x1 : Int32) (x2 : Int32) (x3 : Int32) : Int32 × S0 := (if (f1_refusal mem dsk sto dn en pw wr cm x0 x1 x2 0 1) = (-1) then ((f1_refusal mem dsk sto dn en pw wr cm x0 x1 x2 0 1), mem, dsk, sto, dn, en, pw, wr, cm) else (if (f1_eight x3) = 0 then ((-2), mem, dsk, sto, dn, en, pw, wr, cm) else (if (f1_refusal mem dsk sto dn en pw wr cm x0 x1 x2 0 1) = 0 then (0, (upd mem ((8 * (f1_object (mem ((8 * x0) + x1).toNatClampNeg))) + x2).toNatClampNeg (mem ((8 * x0) + x3).toNatClampNeg)), dsk, (upd sto (f1_object (mem ((8 * x0) + x1).toNatClampNeg)).toNatClampNeg (vp_nar .boolean 1)), dn, en, pw, wr, cm) else ((f1_refusal mem dsk sto dn en pw wr cm x0 x1 x2 0 1), mem, dsk, sto, dn, en, pw, wr, cm))))
def F1_write (mem dsk sto : Nat → Int32) (dn en pw wr cm : Int32) (x0 : Int32) (x1 : Int32) (x2 : Int32) (x3 : Int32) : Int32 × S0 := (if (f1_refusal mem dsk sto dn en pw wr cm x0 x1 x2 1 1) = 0 then ((f1_refusal mem dsk sto dn en pw wr cm x0 x1 x2 1 1), (upd mem ((8 * (f1_object (mem ((8 * x0) + x1).toNatClampNeg))) + x2).toNatClampNeg x3), dsk, (upd sto (f1_object (mem ((8 * x0) + x1).toNatClampNeg)).toNatClampNeg (vp_nar .boolean 1)), dn, en, pw, wr, cm) else ((f1_refusal mem dsk sto dn en pw wr cm x0 x1 x2 1 1), mem, dsk, sto, dn, en, pw, wr, cm))
def F1_restrict (mem dsk sto : Nat → Int32) (dn en pw wr cm : Int32) (x0 : Int32) (x1 : Int32) (x2 : Int32) (x3 : Int32) : Int32 × S0 := (if dn = 0 then (if (f1_third x0) = 0 then ((-2), mem, dsk, sto, dn, en, pw, wr, cm) else (if (f1_eight x1) = 0 then ((-2), mem, dsk, sto, dn, en, pw, wr, cm) else (if (f1_eight x3) = 0 then ((-2), mem, dsk, sto, dn, en, pw, wr, cm) else (if x2 < 0 then ((-2), mem, dsk, sto, dn, en, pw, wr, cm) else (if x2 ≤ 3 then (0, (upd mem ((8 * x0) + x3).toNatClampNeg (f1_limited (mem ((8 * x0) + x1).toNatClampNeg) x2)), dsk, (upd sto x0.toNatClampNeg (vp_nar .boolean 1)), dn, en, pw, wr, cm) else ((-2), mem, dsk, sto, dn, en, pw, wr, cm)))))) else ((-1), mem, dsk, sto, dn, en, pw, wr, cm))
def F1_clear (mem dsk sto : Nat → Int32) (dn en pw wr cm : Int32) (x0 : Int32) (x1 : Int32) : Int32 × S0 := (if dn = 0 then (if (f1_third x0) = 0 then ((-2), mem, dsk, sto, dn, en, pw, wr, cm) else (if (f1_eight x1) = 0 then ((-2), mem, dsk, sto, dn, en, pw, wr, cm) else (0, (upd mem ((8 * x0) + x1).toNatClampNeg 0), dsk, (upd sto x0.toNatClampNeg (vp_nar .boolean 1)), dn, en, pw, wr, cm))) else ((-1), mem, dsk, sto, dn, en, pw, wr, cm))
def F1_power (mem dsk sto : Nat → Int32) (dn en pw wr cm : Int32) (x0 : Int32) : Int32 × S0 := (if dn = 0 then (if x0 < (-1) then ((-2), mem, dsk, sto, dn, en, pw, wr, cm) else (if x0 ≤ 63 then (if x0 = (-1) then (0, mem, dsk, sto, dn, 1, x0, wr, cm) else (0, mem, dsk, sto, dn, 0, x0, wr, cm)) else ((-2), mem, dsk, sto, dn, en, pw, wr, cm))) else ((-1), mem, dsk, sto, dn, en, pw, wr, cm))
def F1_crash (mem dsk sto : Nat → Int32) (dn en pw wr cm : Int32) : Int32 × S0 := (if dn = 0 then (1, mem, dsk, sto, 1, en, pw, wr, cm) else (0, mem, dsk, sto, 1, en, pw, wr, cm))
def F1_may (mem dsk sto : Nat → Int32) (dn en pw wr cm : Int32) : Int32 × S0 := (if en = 0 then (if pw = 0 then (0, mem, dsk, sto, 1, en, pw, wr, cm) else (1, mem, dsk, sto, dn, en, (pw - 1), (wr + 1), cm)) else (1, mem, dsk, sto, dn, en, pw, (wr + 1), cm))
def F1_header (mem dsk sto : Nat → Int32) (dn en pw wr cm : Int32) (x0 : Int32) : S0 := (mem, (upd dsk (192 : Int32).toNatClampNeg x0), sto, dn, en, pw, wr, cm)
end
section
/-! what the reference's refusals say -/
/-- the slots of the nodes hold keys -/
def KI (mem : Nat → Int32) : Prop := ∀ j : Nat, j < 64 → ∃ n : Nat, n ≤ 48 ∧ mem j = nI n
theorem ix1_e (a b : Nat) : 8 * nI a + nI b = nI (a * 8 + b) := by
  rw [show (8 : Int32) = nI 8 from rfl, pk_mul, nI_add, Nat.mul_comm]
theorem ix1_in {N : Nat} (hN : N < 2 ^ 31) {a b : Nat} (h : a * 8 + b < N) : vp_in (8 * nI a + nI b) N := by
  rw [ix1_e]; exact vp_in_nI h hN
theorem ix1_at {a b : Nat} (h : a * 8 + b < 2 ^ 31) : (8 * nI a + nI b).toNatClampNeg = a * 8 + b := by
  rw [ix1_e]; exact nI_clamp h
theorem r1_eight {x : Int32} (h : ¬ f1_eight x = 0) : ∃ j : Nat, j < 8 ∧ x = nI j := by
  obtain ⟨c1, c2⟩ := ite2 h
  exact rg_le 7 rfl (by decide) c1 c2
theorem r1_third {x : Int32} (h : ¬ f1_third x = 0) : ∃ j : Nat, j < 3 ∧ x = nI j := by
  obtain ⟨c1, c2⟩ := ite2 h
  exact rg_le 2 rfl (by decide) c1 c2
theorem ob_1 {j : Nat} (h : j < 2 ^ 30) : f1_object (nI (j + 1)) = nI (j / 4) := by
  unfold f1_object
  rw [if_neg (nI_ne0 (by omega) (by omega)), nI_pred, show (4 : Int32) = nI 4 from rfl, pk_div (by omega) (by decide) (by decide)]
theorem ob_10 : f1_object (nI 0) = 12 := rfl
theorem li_1 {j : Nat} (h : j < 2 ^ 30) : f1_limits (nI (j + 1)) = nI (j % 4) := li_0 h
section SD1
variable {mem dsk sto : Nat → Int32} {dn en pw wr cm : Int32} {x0 x1 x2 x3 x4 : Int32}
theorem sd1_ix (h1 : ¬ f1_third x0 = 0) (h2 : ¬ f1_eight x1 = 0) : vp_in (8 * x0 + x1) 96 := by
  obtain ⟨i, hi, rfl⟩ := r1_third h1
  obtain ⟨j, hj, rfl⟩ := r1_eight h2
  exact ix1_in (by decide) (by omega)
theorem sd1_key (h1 : ¬ f1_eight x0 = 0) (h2 : ¬ f1_eight x1 = 0) : vp_in (8 * x0 + x1) 96 := by
  obtain ⟨i, hi, rfl⟩ := r1_eight h1
  obtain ⟨j, hj, rfl⟩ := r1_eight h2
  exact ix1_in (by decide) (by omega)
theorem sd1_k12 (h1 : ¬ f1_eight x0 = 0) : vp_in x0 12 := by
  obtain ⟨i, hi, rfl⟩ := r1_eight h1
  exact vp_in_nI (by omega) (by decide)
theorem sd1_t12 (h1 : ¬ f1_third x0 = 0) : vp_in x0 12 := by
  obtain ⟨i, hi, rfl⟩ := r1_third h1
  exact vp_in_nI (by omega) (by decide)
theorem sd1_word (c1 : ¬ x0 < 8) (c2 : ¬ 11 < x0) (h2 : ¬ f1_eight x1 = 0) : vp_in (8 * x0 + x1) 96 := by
  obtain ⟨i, hi, rfl⟩ := rg_le 11 rfl (by decide) (rg_nn (k := 8) rfl (by decide) c1) c2
  obtain ⟨j, hj, rfl⟩ := r1_eight h2
  exact ix1_in (by decide) (by omega)
theorem sd1_disk (c1 : ¬ x0 < 0) (c2 : ¬ 24 < x0) (h2 : ¬ f1_eight x1 = 0) : vp_in (8 * x0 + x1) 200 := by
  obtain ⟨i, hi, rfl⟩ := rg_le 24 rfl (by decide) c1 c2
  obtain ⟨j, hj, rfl⟩ := r1_eight h2
  exact ix1_in (by decide) (by omega)
theorem rr_0 (h : f1_refusal mem dsk sto dn en pw wr cm x0 x1 x2 x3 x4 = 0) : dn = 0 ∧ ∃ i j b : Nat, i < 3 ∧ j < 8 ∧ b < 8 ∧ x0 = nI i ∧ x1 = nI j ∧ x2 = nI b ∧ ¬ f1_object (mem (i * 8 + j)) = 12 ∧ (f1_object (mem (i * 8 + j)) ≤ 7 → x3 = 0) ∧ (¬ f1_object (mem (i * 8 + j)) ≤ 7 → x3 = 1) ∧ (¬ x4 = 0 → f1_limits (mem (i * 8 + j)) = 0) := by
  unfold f1_refusal at h
  by_cases c0 : dn = 0
  · rw [if_pos c0] at h
    by_cases c1 : f1_third x0 = 0
    · rw [if_pos c1] at h; exact absurd h (by decide)
    by_cases c2 : f1_eight x1 = 0
    · rw [if_neg c1, if_pos c2] at h; exact absurd h (by decide)
    by_cases c3 : f1_eight x2 = 0
    · rw [if_neg c1, if_neg c2, if_pos c3] at h; exact absurd h (by decide)
    rw [if_neg c1, if_neg c2, if_neg c3] at h
    obtain ⟨i, hi, rfl⟩ := r1_third c1
    obtain ⟨j, hj, rfl⟩ := r1_eight c2
    obtain ⟨b, hb, rfl⟩ := r1_eight c3
    rw [ix1_at (by omega)] at h
    refine ⟨c0, i, j, b, hi, hj, hb, rfl, rfl, rfl, ?_⟩
    generalize mem (i * 8 + j) = k at h ⊢
    by_cases c4 : f1_object k = 12
    · rw [if_pos c4] at h; exact absurd h (by decide)
    rw [if_neg c4] at h
    by_cases c5 : f1_object k ≤ 7
    · rw [if_pos c5] at h
      by_cases c6 : x3 = 0
      · rw [if_pos c6] at h
        refine ⟨c4, fun _ => c6, fun q => absurd c5 q, fun q => ?_⟩
        rw [if_neg q] at h
        by_cases c7 : f1_limits k = 0
        · exact c7
        · rw [if_neg c7] at h; exact absurd h (by decide)
      · rw [if_neg c6] at h; exact absurd h (by decide)
    · rw [if_neg c5] at h
      by_cases c6 : x3 = 1
      · rw [if_pos c6] at h
        refine ⟨c4, fun q => absurd q c5, fun _ => c6, fun q => ?_⟩
        rw [if_neg q] at h
        by_cases c7 : f1_limits k = 0
        · exact c7
        · rw [if_neg c7] at h; exact absurd h (by decide)
      · rw [if_neg c6] at h; exact absurd h (by decide)
  · rw [if_neg c0] at h; exact absurd h (by decide)
theorem rr_n (hk : KI mem) (h : f1_refusal mem dsk sto dn en pw wr cm x0 x1 x2 0 x4 = 0) : ∃ i j b n : Nat, i < 3 ∧ j < 8 ∧ b < 8 ∧ x0 = nI i ∧ x1 = nI j ∧ x2 = nI b ∧ n < 32 ∧ mem (i * 8 + j) = nI (n + 1) := by
  obtain ⟨-, i, j, b, hi, hj, hb, e0, e1, e2, h1, h2, h3, -⟩ := rr_0 h
  obtain ⟨n, hn, e⟩ := hk (i * 8 + j) (by omega)
  cases n with
  | zero => rw [e] at h1; exact absurd ob_10 h1
  | succ n =>
    refine ⟨i, j, b, n, hi, hj, hb, e0, e1, e2, ?_, e⟩
    rw [e, ob_1 (by omega)] at h3
    rcases Nat.lt_or_ge n 32 with q | q
    · exact q
    · exact absurd (h3 (nI_ge (a := 7) (b := n / 4) (by omega) (by omega))) (by decide)
theorem rr_p (hk : KI mem) (h : f1_refusal mem dsk sto dn en pw wr cm x0 x1 x2 1 x4 = 0) : ∃ i j b n : Nat, i < 3 ∧ j < 8 ∧ b < 8 ∧ x0 = nI i ∧ x1 = nI j ∧ x2 = nI b ∧ 32 ≤ n ∧ n < 48 ∧ mem (i * 8 + j) = nI (n + 1) := by
  obtain ⟨-, i, j, b, hi, hj, hb, e0, e1, e2, h1, h2, h3, -⟩ := rr_0 h
  obtain ⟨n, hn, e⟩ := hk (i * 8 + j) (by omega)
  cases n with
  | zero => rw [e] at h1; exact absurd ob_10 h1
  | succ n =>
    refine ⟨i, j, b, n, hi, hj, hb, e0, e1, e2, ?_, by omega, e⟩
    rw [e, ob_1 (by omega)] at h2
    rcases Nat.lt_or_ge n 32 with q | q
    · exact absurd (h2 (nI_le (a := n / 4) (b := 7) (by omega) (by decide))) (by decide)
    · exact q
theorem sd1_r1 (h : f1_refusal mem dsk sto dn en pw wr cm x0 x1 x2 x3 x4 = 0) : vp_in (8 * x0 + x1) 96 := by
  obtain ⟨-, i, j, b, hi, hj, hb, rfl, rfl, rfl, -⟩ := rr_0 h
  exact ix1_in (by decide) (by omega)
theorem sd1_n (hk : KI mem) (h : f1_refusal mem dsk sto dn en pw wr cm x0 x1 x2 0 x4 = 0) : vp_in (8 * f1_object (mem (8 * x0 + x1).toNatClampNeg) + x2) 96 := by
  obtain ⟨i, j, b, n, hi, hj, hb, rfl, rfl, rfl, hn, e⟩ := rr_n hk h
  rw [ix1_at (by omega), e, ob_1 (by omega)]
  exact ix1_in (by decide) (by omega)
theorem sd1_nj (hk : KI mem) (h : f1_refusal mem dsk sto dn en pw wr cm x0 x1 x2 0 x4 = 0) : vp_in (f1_object (mem (8 * x0 + x1).toNatClampNeg)) 12 := by
  obtain ⟨i, j, b, n, hi, hj, hb, rfl, rfl, rfl, hn, e⟩ := rr_n hk h
  rw [ix1_at (by omega), e, ob_1 (by omega)]
  exact vp_in_nI (by omega) (by decide)
theorem sd1_p (hk : KI mem) (h : f1_refusal mem dsk sto dn en pw wr cm x0 x1 x2 1 x4 = 0) : vp_in (8 * f1_object (mem (8 * x0 + x1).toNatClampNeg) + x2) 96 := by
  obtain ⟨i, j, b, n, hi, hj, hb, rfl, rfl, rfl, hn1, hn, e⟩ := rr_p hk h
  rw [ix1_at (by omega), e, ob_1 (by omega)]
  exact ix1_in (by decide) (by omega)
theorem sd1_pj (hk : KI mem) (h : f1_refusal mem dsk sto dn en pw wr cm x0 x1 x2 1 x4 = 0) : vp_in (f1_object (mem (8 * x0 + x1).toNatClampNeg)) 12 := by
  obtain ⟨i, j, b, n, hi, hj, hb, rfl, rfl, rfl, hn1, hn, e⟩ := rr_p hk h
  rw [ix1_at (by omega), e, ob_1 (by omega)]
  exact vp_in_nI (by omega) (by decide)
theorem sd1_f3 (h : f1_refusal mem dsk sto dn en pw wr cm x0 x1 x2 0 x4 = 0) (h2 : ¬ f1_eight x3 = 0) : vp_in (8 * x0 + x3) 96 := by
  obtain ⟨-, i, j, b, hi, hj, hb, rfl, rfl, rfl, -⟩ := rr_0 h
  obtain ⟨j, hj, rfl⟩ := r1_eight h2
  exact ix1_in (by decide) (by omega)
theorem sd1_f4 (h : f1_refusal mem dsk sto dn en pw wr cm x0 x1 x2 x3 x4 = 0) : vp_in x0 12 := by
  obtain ⟨-, i, j, b, hi, hj, hb, rfl, rfl, rfl, -⟩ := rr_0 h
  exact vp_in_nI (by omega) (by decide)
end SD1
end
section
set_option maxHeartbeats 4000000 in
set_option maxRecDepth 100000 in
theorem m1_inSet (l : Launch) (dC : Nat → ClassId) (dI : Nat → Nat → Nat) (h0 h1 h2 h3 : Nat) (c1 c2 c3 : ClassId) (mem dsk sto : Nat → Int32) (dn en pw wr cm : Int32) (x0 : Int32) : Met l yX1_inSet wsX1_inSet ({ frames := 0, cells := 0, slots := 0, locals := 0 }) (pcR (dC, dI) (k1 c1 c2 c3) (w1 h0 h1 h2 h3 c1 c2 c3 (mem, dsk, sto, dn, en, pw, wr, cm)) [.ref h0, .int x0]) (QcRead (f1_inSet mem dsk sto dn en pw wr cm x0)) 0 0 (fun _ => False) := by
  refine Met.ofW (cc := cX1_inSet) (maxL := 4) (ret := (some .int)) (by decide) rfl ?_
  intro p e s m args below meth c s₁ B hml hv
  obtain ⟨rfl, hP, hK⟩ := hv
  have hx := B.exec
  have hb := B.bytes
  have hr := B.returns
  have hts := atoms_spec (ws := wsX1_inSet) B.pre
  have hown : s.vm.findClass RX1 = some m.cls := findClass_of_methodNamed B.named
  have hlocks := B.notSynchronized
  have hP : va_P (dC, dI) vwCl [(h0, .inr (1, [.ref h1, .ref h2, .ref h3, .int dn, .int en, .int pw, .int wr, .int cm])), (h1, .inl (c1, 96, .inl mem)), (h2, .inl (c2, 200, .inl dsk)), (h3, .inl (c3, 12, .inl sto))] s.heap := hP
  have hl := lv_entry ([.ref h0, .int x0]) (n := 4) (Nat.le_of_ble_eq_true rfl)
  rw [lg_entry_eq]
  generalize (lg_sl ([.ref h0, .int x0]) ++ List.replicate (4 - (lg_sl ([.ref h0, .int x0])).length) Slot.unset).toArray = ls at hl ⊢
  have hl : lv_has ls 4 [(0, .ref h0), (1, .int x0)] := hl
  have loop : ∀ (n : Nat), n ≤ 12 → ∀ (a : Int32) (ls : Array Slot), lv_has ls 4 [(3, .int (nI (12 - n))), (2, .int a), (0, .ref h0), (1, .int x0)] → W p l e (headSpec wsX1_inSet ({ frames := 0, cells := 0, slots := 0, locals := 0 })).room s m #[Value.ref h0, Value.int x0] below meth c s.heap [] 0 0 (MQ below (QcRead (f1_is x0 n a)) #[Value.ref h0, Value.int x0] s 0 0 (fun _ => False)) (F0 m 4 ls []) := by
    intro n
    induction n with
    | zero =>
      intro hn a ls hl
      have hl : lv_has ls 4 [(3, .int (nI 12)), (2, .int a), (0, .ref h0), (1, .int x0)] := hl
      refine lv_iload_n hx hb dX1_inSet_4 rfl (lv_at hl 0 rfl) ?_
      refine lv_bipush (v := 12) hx hb dX1_inSet_5 (by decide) ?_
      refine lv_icmp_ge (tgt := 24) hx hb dX1_inSet_7 (by decide) (fun c_7 => ?_) (fun c_7 => ?_)
      · skip
        refine lv_iload_n hx hb dX1_inSet_24 rfl (lv_at hl 1 rfl) ?_
        exact retP hx hb hr hlocks rfl rfl rfl dX1_inSet_25
      · skip
        exact absurd (by decide) c_7
    | succ n ih =>
      intro hn a ls hl
      have enx : 12 - (n + 1) = 11 - n := by omega
      rw [enx] at hl
      have ei : nI (11 - n) + 1 = nI (12 - n) := by rw [nI_1]; congr 1; omega
      have hl : lv_has ls 4 [(3, .int (nI (11 - n))), (2, .int a), (0, .ref h0), (1, .int x0)] := hl
      refine lv_iload_n hx hb dX1_inSet_4 rfl (lv_at hl 0 rfl) ?_
      refine lv_bipush (v := 12) hx hb dX1_inSet_5 (by decide) ?_
      refine lv_icmp_ge (tgt := 24) hx hb dX1_inSet_7 (by decide) (fun c_7 => ?_) (fun c_7 => ?_)
      · skip
        exact absurd c_7 (nI_ge (a := 11 - n) (b := 12) (by omega) (by decide))
      · skip
        refine lv_iload_n hx hb dX1_inSet_10 rfl (lv_at hl 1 rfl) ?_
        refine lv_iload_n hx hb dX1_inSet_11 rfl (lv_at hl 3 rfl) ?_
        refine lv_iload_n hx hb dX1_inSet_12 rfl (lv_at hl 0 rfl) ?_
        refine lv_ishr hx hb dX1_inSet_13 ?_
        refine lv_iconst (v := 1) hx hb dX1_inSet_14 (by decide) ?_
        refine lv_iand hx hb dX1_inSet_15 ?_
        refine lv_iadd hx hb dX1_inSet_16 ?_
        refine lv_istore_n (lv' := [(2, .int (a + ((x0 >>> ((nI (11 - n)) &&& 31)) &&& 1))), (3, .int (nI (11 - n))), (0, .ref h0), (1, .int x0)]) hx hb dX1_inSet_17 rfl hl (by decide) rfl (fun ls hl => ?_)
        refine lv_iinc (v := ((nI (11 - n)) + 1)) (lv' := [(3, .int ((nI (11 - n)) + 1)), (2, .int (a + ((x0 >>> ((nI (11 - n)) &&& 31)) &&& 1))), (0, .ref h0), (1, .int x0)]) hx hb dX1_inSet_18 hl (k := 1) rfl rfl (by decide) rfl (fun ls hl => ?_)
        refine lv_goto (tgt := 4) hx hb dX1_inSet_21 (by decide) ?_
        have e9 : f1_is x0 (n + 1) a = f1_is x0 n (a + ((x0 >>> ((nI (11 - n)) &&& 31)) &&& 1)) := by rw [f1_is]
        rw [e9]
        rw [ei] at hl
        exact ih (by omega) (a + ((x0 >>> ((nI (11 - n)) &&& 31)) &&& 1)) ls (lv_sub hl [0, 1, 2, 3] rfl)
  refine lv_iconst (v := 0) hx hb dX1_inSet_0 (by decide) ?_
  refine lv_istore_n (lv' := [(2, .int 0), (0, .ref h0), (1, .int x0)]) hx hb dX1_inSet_1 rfl hl (by decide) rfl (fun ls hl => ?_)
  refine lv_iconst (v := 0) hx hb dX1_inSet_2 (by decide) ?_
  refine lv_istore_n (lv' := [(3, .int 0), (2, .int 0), (0, .ref h0), (1, .int x0)]) hx hb dX1_inSet_3 rfl hl (by decide) rfl (fun ls hl => ?_)
  have hl := lv_sub hl [0, 1, 2, 3] rfl
  exact loop 12 (Nat.le_refl _) 0 ls hl
set_option maxHeartbeats 4000000 in
set_option maxRecDepth 100000 in
theorem m1_member (l : Launch) (dC : Nat → ClassId) (dI : Nat → Nat → Nat) (h0 h1 h2 h3 : Nat) (c1 c2 c3 : ClassId) (mem dsk sto : Nat → Int32) (dn en pw wr cm : Int32) (x0 : Int32) (x1 : Int32) : Met l yX1_member wsX1_member ({ frames := 0, cells := 0, slots := 0, locals := 0 }) (pcR (dC, dI) (k1 c1 c2 c3) (w1 h0 h1 h2 h3 c1 c2 c3 (mem, dsk, sto, dn, en, pw, wr, cm)) [.ref h0, .int x0, .int x1]) (QcRead (f1_member mem dsk sto dn en pw wr cm x0 x1)) 0 0 (fun _ => False) := by
  refine Met.ofW (cc := cX1_member) (maxL := 5) (ret := (some .int)) (by decide) rfl ?_
  intro p e s m args below meth c s₁ B hml hv
  obtain ⟨rfl, hP, hK⟩ := hv
  have hx := B.exec
  have hb := B.bytes
  have hr := B.returns
  have hts := atoms_spec (ws := wsX1_member) B.pre
  have hown : s.vm.findClass RX1 = some m.cls := findClass_of_methodNamed B.named
  have hlocks := B.notSynchronized
  have hP : va_P (dC, dI) vwCl [(h0, .inr (1, [.ref h1, .ref h2, .ref h3, .int dn, .int en, .int pw, .int wr, .int cm])), (h1, .inl (c1, 96, .inl mem)), (h2, .inl (c2, 200, .inl dsk)), (h3, .inl (c3, 12, .inl sto))] s.heap := hP
  have hl := lv_entry ([.ref h0, .int x0, .int x1]) (n := 5) (Nat.le_of_ble_eq_true rfl)
  rw [lg_entry_eq]
  generalize (lg_sl ([.ref h0, .int x0, .int x1]) ++ List.replicate (5 - (lg_sl ([.ref h0, .int x0, .int x1])).length) Slot.unset).toArray = ls at hl ⊢
  have hl : lv_has ls 5 [(0, .ref h0), (1, .int x0), (2, .int x1)] := hl
  have loop : ∀ (n : Nat), n ≤ 12 → ∀ (a : Int32) (ls : Array Slot), lv_has ls 5 [(4, .int (nI (12 - n))), (3, .int a), (0, .ref h0), (1, .int x0), (2, .int x1)] → W p l e (headSpec wsX1_member ({ frames := 0, cells := 0, slots := 0, locals := 0 })).room s m #[Value.ref h0, Value.int x0, Value.int x1] below meth c s.heap [] 0 0 (MQ below (QcRead (f1_mb x0 n a)) #[Value.ref h0, Value.int x0, Value.int x1] s 0 0 (fun _ => False)) (F0 m 5 ls []) := by
    intro n
    induction n with
    | zero =>
      intro hn a ls hl
      have hl : lv_has ls 5 [(4, .int (nI 12)), (3, .int a), (0, .ref h0), (1, .int x0), (2, .int x1)] := hl
      refine lv_iload hx hb dX1_member_5 (lv_at hl 0 rfl) ?_
      refine lv_bipush (v := 12) hx hb dX1_member_7 (by decide) ?_
      refine lv_icmp_ge (tgt := 38) hx hb dX1_member_9 (by decide) (fun c_9 => ?_) (fun c_9 => ?_)
      · skip
        refine lv_iconst (v := 0) hx hb dX1_member_38 (by decide) ?_
        exact retP hx hb hr hlocks rfl rfl rfl dX1_member_39
      · skip
        exact absurd (by decide) c_9
    | succ n ih =>
      intro hn a ls hl
      have enx : 12 - (n + 1) = 11 - n := by omega
      rw [enx] at hl
      have ei : nI (11 - n) + 1 = nI (12 - n) := by rw [nI_1]; congr 1; omega
      have hl : lv_has ls 5 [(4, .int (nI (11 - n))), (3, .int a), (0, .ref h0), (1, .int x0), (2, .int x1)] := hl
      refine lv_iload hx hb dX1_member_5 (lv_at hl 0 rfl) ?_
      refine lv_bipush (v := 12) hx hb dX1_member_7 (by decide) ?_
      refine lv_icmp_ge (tgt := 38) hx hb dX1_member_9 (by decide) (fun c_9 => ?_) (fun c_9 => ?_)
      · skip
        exact absurd c_9 (nI_ge (a := 11 - n) (b := 12) (by omega) (by decide))
      · skip
        refine lv_iload_n hx hb dX1_member_12 rfl (lv_at hl 3 rfl) ?_
        refine lv_iload hx hb dX1_member_13 (lv_at hl 0 rfl) ?_
        refine lv_ishr hx hb dX1_member_15 ?_
        refine lv_iconst (v := 1) hx hb dX1_member_16 (by decide) ?_
        refine lv_iand hx hb dX1_member_17 ?_
        refine lv_iconst (v := 1) hx hb dX1_member_18 (by decide) ?_
        refine lv_icmp_ne (tgt := 32) hx hb dX1_member_19 (by decide) (fun c_19 => ?_) (fun c_19 => ?_)
        · skip
          refine lv_iinc (v := ((nI (11 - n)) + 1)) (lv' := [(4, .int ((nI (11 - n)) + 1)), (3, .int a), (0, .ref h0), (1, .int x0), (2, .int x1)]) hx hb dX1_member_32 hl (k := 0) rfl rfl (by decide) rfl (fun ls hl => ?_)
          refine lv_goto (tgt := 5) hx hb dX1_member_35 (by decide) ?_
          have e9 : f1_mb x0 (n + 1) a = f1_mb x0 n a := by rw [f1_mb]; rw [if_neg c_19]
          rw [e9]
          rw [ei] at hl
          exact ih (by omega) a ls (lv_sub hl [0, 1, 2, 3, 4] rfl)
        · skip
          refine lv_iload_n hx hb dX1_member_22 rfl (lv_at hl 1 rfl) ?_
          refine lv_if_ne (tgt := 29) hx hb dX1_member_23 (by decide) (fun c_23 => ?_) (fun c_23 => ?_)
          · skip
            refine lv_iinc (v := (a + (-1))) (lv' := [(3, .int (a + (-1))), (4, .int (nI (11 - n))), (0, .ref h0), (1, .int x0), (2, .int x1)]) hx hb dX1_member_29 hl (k := 1) rfl rfl (by decide) rfl (fun ls hl => ?_)
            refine lv_iinc (v := ((nI (11 - n)) + 1)) (lv' := [(4, .int ((nI (11 - n)) + 1)), (3, .int (a + (-1))), (0, .ref h0), (1, .int x0), (2, .int x1)]) hx hb dX1_member_32 hl (k := 1) rfl rfl (by decide) rfl (fun ls hl => ?_)
            refine lv_goto (tgt := 5) hx hb dX1_member_35 (by decide) ?_
            have e9 : f1_mb x0 (n + 1) a = f1_mb x0 n (a + (-1)) := by rw [f1_mb]; rw [if_pos c_19, if_neg c_23]
            rw [e9]
            rw [ei] at hl
            exact ih (by omega) (a + (-1)) ls (lv_sub hl [0, 1, 2, 3, 4] rfl)
          · skip
            refine lv_iload hx hb dX1_member_26 (lv_at hl 0 rfl) ?_
            have e9 : f1_mb x0 (n + 1) a = (nI (11 - n)) := by rw [f1_mb]; rw [if_pos c_19, if_pos c_23]
            rw [e9]
            exact retP hx hb hr hlocks rfl rfl rfl dX1_member_28
  refine lv_iload_n hx hb dX1_member_0 rfl (lv_at hl 2 rfl) ?_
  refine lv_istore_n (lv' := [(3, .int x1), (0, .ref h0), (1, .int x0), (2, .int x1)]) hx hb dX1_member_1 rfl hl (by decide) rfl (fun ls hl => ?_)
  refine lv_iconst (v := 0) hx hb dX1_member_2 (by decide) ?_
  refine lv_istore (lv' := [(4, .int 0), (3, .int x1), (0, .ref h0), (1, .int x0), (2, .int x1)]) hx hb dX1_member_3 hl (by decide) rfl (fun ls hl => ?_)
  have hl := lv_sub hl [0, 1, 2, 3, 4] rfl
  exact loop 12 (Nat.le_refl _) x1 ls hl
set_option maxHeartbeats 4000000 in
set_option maxRecDepth 100000 in
theorem m1_dirty (l : Launch) (dC : Nat → ClassId) (dI : Nat → Nat → Nat) (h0 h1 h2 h3 : Nat) (c1 c2 c3 : ClassId) (mem dsk sto : Nat → Int32) (dn en pw wr cm : Int32) : Met l yX1_dirty wsX1_dirty ({ frames := 0, cells := 0, slots := 0, locals := 0 }) (pcR (dC, dI) (k1 c1 c2 c3) (w1 h0 h1 h2 h3 c1 c2 c3 (mem, dsk, sto, dn, en, pw, wr, cm)) [.ref h0]) (QcRead (f1_dirty mem dsk sto dn en pw wr cm)) 0 0 (fun _ => False) := by
  refine Met.ofW (cc := cX1_dirty) (maxL := 3) (ret := (some .int)) (by decide) rfl ?_
  intro p e s m args below meth c s₁ B hml hv
  obtain ⟨rfl, hP, hK⟩ := hv
  have hx := B.exec
  have hb := B.bytes
  have hr := B.returns
  have hts := atoms_spec (ws := wsX1_dirty) B.pre
  have hown : s.vm.findClass RX1 = some m.cls := findClass_of_methodNamed B.named
  have hlocks := B.notSynchronized
  have hin : ∀ w ∈ wsX10, w ∈ wsX1_dirty := fun _ h => List.mem_cons_of_mem _ (List.mem_append_right _ h)
  have hP : va_P (dC, dI) vwCl [(h0, .inr (1, [.ref h1, .ref h2, .ref h3, .int dn, .int en, .int pw, .int wr, .int cm])), (h1, .inl (c1, 96, .inl mem)), (h2, .inl (c2, 200, .inl dsk)), (h3, .inl (c3, 12, .inl sto))] s.heap := hP
  have hl := lv_entry ([.ref h0]) (n := 3) (Nat.le_of_ble_eq_true rfl)
  rw [lg_entry_eq]
  generalize (lg_sl ([.ref h0]) ++ List.replicate (3 - (lg_sl ([.ref h0])).length) Slot.unset).toArray = ls at hl ⊢
  have hl : lv_has ls 3 [(0, .ref h0)] := hl
  have loop : ∀ (n : Nat), n ≤ 12 → ∀ (a : Int32) (ls : Array Slot), lv_has ls 3 [(2, .int (nI (12 - n))), (1, .int a), (0, .ref h0)] → W p l e (headSpec wsX1_dirty ({ frames := 0, cells := 0, slots := 0, locals := 0 })).room s m #[Value.ref h0] below meth c s.heap [] 0 0 (MQ below (QcRead (f1_dt sto n a)) #[Value.ref h0] s 0 0 (fun _ => False)) (F0 m 13 ls []) := by
    intro n
    induction n with
    | zero =>
      intro hn a ls hl
      have hl : lv_has ls 3 [(2, .int (nI 12)), (1, .int a), (0, .ref h0)] := hl
      refine lv_iload_n hx hb dX1_dirty_13 rfl (lv_at hl 0 rfl) ?_
      refine lv_bipush (v := 12) hx hb dX1_dirty_14 (by decide) ?_
      refine lv_icmp_ge (tgt := 40) hx hb dX1_dirty_16 (by decide) (fun c_16 => ?_) (fun c_16 => ?_)
      · skip
        refine lv_iload_n hx hb dX1_dirty_40 rfl (lv_at hl 1 rfl) ?_
        exact retP hx hb hr hlocks rfl rfl rfl dX1_dirty_41
      · skip
        exact absurd (by decide) c_16
    | succ n ih =>
      intro hn a ls hl
      have enx : 12 - (n + 1) = 11 - n := by omega
      rw [enx] at hl
      have ei : nI (11 - n) + 1 = nI (12 - n) := by rw [nI_1]; congr 1; omega
      have hl : lv_has ls 3 [(2, .int (nI (11 - n))), (1, .int a), (0, .ref h0)] := hl
      refine lv_iload_n hx hb dX1_dirty_13 rfl (lv_at hl 0 rfl) ?_
      refine lv_bipush (v := 12) hx hb dX1_dirty_14 (by decide) ?_
      refine lv_icmp_ge (tgt := 40) hx hb dX1_dirty_16 (by decide) (fun c_16 => ?_) (fun c_16 => ?_)
      · skip
        exact absurd c_16 (nI_ge (a := 11 - n) (b := 12) (by omega) (by decide))
      · skip
        refine lv_aload_n hx hb dX1_dirty_19 rfl (lv_at hl 2 rfl) ?_
        refine va_get (D := (dC, dI)) (ci := 1) (v := .ref h3) (C := RX1) (T := TX1) (N := 8) hx hb hts hin hown hK hP 0 rfl rfl 2 (by decide) (hts (.fieldLink RX1 16 "CapStoreModel" "stored" "[Z") (by decide +kernel)) (fun _ h9 => h9) rfl dX1_dirty_20 ?_
        refine lv_iload_n hx hb dX1_dirty_23 rfl (lv_at hl 0 rfl) ?_
        refine va_zald hx hb hK hP 3 2 rfl rfl (vp_in_nI (by omega) (by decide)) dX1_dirty_24 ?_
        refine lv_if_eq (tgt := 34) hx hb dX1_dirty_25 (by decide) (fun c_25 => ?_) (fun c_25 => ?_)
        · skip
          refine lv_iinc (v := ((nI (11 - n)) + 1)) (lv' := [(2, .int ((nI (11 - n)) + 1)), (1, .int a), (0, .ref h0)]) hx hb dX1_dirty_34 hl (k := 0) rfl rfl (by decide) rfl (fun ls hl => ?_)
          refine lv_goto (tgt := 13) hx hb dX1_dirty_37 (by decide) ?_
          have e9 : f1_dt sto (n + 1) a = f1_dt sto n a := by rw [f1_dt]; rw [if_pos c_25]
          rw [e9]
          rw [ei] at hl
          exact ih (by omega) a ls (lv_sub hl [0, 1, 2] rfl)
        · skip
          refine lv_iload_n hx hb dX1_dirty_28 rfl (lv_at hl 1 rfl) ?_
          refine lv_iconst (v := 1) hx hb dX1_dirty_29 (by decide) ?_
          refine lv_iload_n hx hb dX1_dirty_30 rfl (lv_at hl 0 rfl) ?_
          refine lv_ishl hx hb dX1_dirty_31 ?_
          refine lv_iadd hx hb dX1_dirty_32 ?_
          refine lv_istore_n (lv' := [(1, .int (a + ((1 : Int32) <<< ((nI (11 - n)) &&& 31)))), (2, .int (nI (11 - n))), (0, .ref h0)]) hx hb dX1_dirty_33 rfl hl (by decide) rfl (fun ls hl => ?_)
          refine lv_iinc (v := ((nI (11 - n)) + 1)) (lv' := [(2, .int ((nI (11 - n)) + 1)), (1, .int (a + ((1 : Int32) <<< ((nI (11 - n)) &&& 31)))), (0, .ref h0)]) hx hb dX1_dirty_34 hl (k := 1) rfl rfl (by decide) rfl (fun ls hl => ?_)
          refine lv_goto (tgt := 13) hx hb dX1_dirty_37 (by decide) ?_
          have e9 : f1_dt sto (n + 1) a = f1_dt sto n (a + ((1 : Int32) <<< ((nI (11 - n)) &&& 31))) := by rw [f1_dt]; rw [if_neg c_25]
          rw [e9]
          rw [ei] at hl
          exact ih (by omega) (a + ((1 : Int32) <<< ((nI (11 - n)) &&& 31))) ls (lv_sub hl [0, 1, 2] rfl)
  refine lv_aload_n hx hb dX1_dirty_0 rfl (lv_at hl 0 rfl) ?_
  refine va_get (D := (dC, dI)) (ci := 1) (v := .int dn) (C := RX1) (T := TX1) (N := 8) hx hb hts hin hown hK hP 0 rfl rfl 3 (by decide) (hts (.fieldLink RX1 28 "CapStoreModel" "down" "Z") (by decide +kernel)) (fun _ h9 => h9) rfl dX1_dirty_1 ?_
  refine lv_if_eq (tgt := 9) hx hb dX1_dirty_4 (by decide) (fun c_4 => ?_) (fun c_4 => ?_)
  · skip
    refine lv_iconst (v := 0) hx hb dX1_dirty_9 (by decide) ?_
    refine lv_istore_n (lv' := [(1, .int 0), (0, .ref h0)]) hx hb dX1_dirty_10 rfl hl (by decide) rfl (fun ls hl => ?_)
    refine lv_iconst (v := 0) hx hb dX1_dirty_11 (by decide) ?_
    refine lv_istore_n (lv' := [(2, .int 0), (1, .int 0), (0, .ref h0)]) hx hb dX1_dirty_12 rfl hl (by decide) rfl (fun ls hl => ?_)
    have hl := lv_sub hl [0, 1, 2] rfl
    have e9 : f1_dirty mem dsk sto dn en pw wr cm = f1_dt sto 12 0 := by unfold f1_dirty; rw [if_pos c_4]
    rw [e9]
    exact loop 12 (Nat.le_refl _) 0 ls hl
  · skip
    refine lv_iconst (v := (-1)) hx hb dX1_dirty_7 (by decide) ?_
    exact retP hx hb hr hlocks rfl (by unfold f1_dirty; rw [if_neg c_4]) rfl dX1_dirty_8
set_option maxHeartbeats 4000000 in
set_option maxRecDepth 100000 in
theorem m1_refusal (l : Launch) (dC : Nat → ClassId) (dI : Nat → Nat → Nat) (h0 h1 h2 h3 : Nat) (c1 c2 c3 : ClassId) (mem dsk sto : Nat → Int32) (dn en pw wr cm : Int32) (x0 : Int32) (x1 : Int32) (x2 : Int32) (x3 : Int32) (x4 : Int32) : Met l yX1_refusal wsX1_refusal ({ frames := 1, cells := 0, slots := 0, locals := 20 }) (pcR (dC, dI) (k1 c1 c2 c3) (w1 h0 h1 h2 h3 c1 c2 c3 (mem, dsk, sto, dn, en, pw, wr, cm)) [.ref h0, .int x0, .int x1, .int x2, .int x3, .int x4]) (QcRead (f1_refusal mem dsk sto dn en pw wr cm x0 x1 x2 x3 x4)) 0 0 (fun _ => False) := by
  refine Met.ofW (cc := cX1_refusal) (maxL := 8) (ret := (some .int)) (by decide) rfl ?_
  intro p e s m args below meth c s₁ B hml hv
  obtain ⟨rfl, hP, hK⟩ := hv
  have hx := B.exec
  have hb := B.bytes
  have hr := B.returns
  have hts := atoms_spec (ws := wsX1_refusal) B.pre
  have hown : s.vm.findClass RX1 = some m.cls := findClass_of_methodNamed B.named
  have hlocks := B.notSynchronized
  have hin : ∀ w ∈ wsX10, w ∈ wsX1_refusal := fun _ h => List.mem_cons_of_mem _ (List.mem_append_right _ h)
  have hP : va_P (dC, dI) vwCl [(h0, .inr (1, [.ref h1, .ref h2, .ref h3, .int dn, .int en, .int pw, .int wr, .int cm])), (h1, .inl (c1, 96, .inl mem)), (h2, .inl (c2, 200, .inl dsk)), (h3, .inl (c3, 12, .inl sto))] s.heap := hP
  have hl := lv_entry ([.ref h0, .int x0, .int x1, .int x2, .int x3, .int x4]) (n := 8) (Nat.le_of_ble_eq_true rfl)
  rw [lg_entry_eq]
  generalize (lg_sl ([.ref h0, .int x0, .int x1, .int x2, .int x3, .int x4]) ++ List.replicate (8 - (lg_sl ([.ref h0, .int x0, .int x1, .int x2, .int x3, .int x4])).length) Slot.unset).toArray = ls at hl ⊢
  have hl : lv_has ls 8 [(0, .ref h0), (1, .int x0), (2, .int x1), (3, .int x2), (4, .int x3), (5, .int x4)] := hl
  refine lv_aload_n hx hb dX1_refusal_0 rfl (lv_at hl 0 rfl) ?_
  refine va_get (D := (dC, dI)) (ci := 1) (v := .int dn) (C := RX1) (T := TX1) (N := 8) hx hb hts hin hown hK hP 0 rfl rfl 3 (by decide) (hts (.fieldLink RX1 28 "CapStoreModel" "down" "Z") (by decide +kernel)) (fun _ h9 => h9) rfl dX1_refusal_1 ?_
  refine lv_if_eq (tgt := 9) hx hb dX1_refusal_4 (by decide) (fun c_4 => ?_) (fun c_4 => ?_)
  · skip
    refine lv_iload_n hx hb dX1_refusal_9 rfl (lv_at hl 1 rfl) ?_
    refine callSi (As := [.int x0]) (rest := []) (m1_third l x0) ⟨hx, hb, hml, hown, hts⟩ (va_cwS 1 hts gX1_refusal_X1_third rfl rfl rfl (by decide +kernel) ⟨Nat.le_of_ble_eq_true rfl, Nat.le_of_ble_eq_true rfl⟩) rfl hl.1 rfl (Nat.le_of_ble_eq_true rfl) dX1_refusal_10 ⟨Nat.zero_le _, Nat.zero_le _⟩ ?_
    refine lv_if_eq (tgt := 30) hx hb dX1_refusal_13 (by decide) (fun c_13 => ?_) (fun c_13 => ?_)
    · skip
      refine lv_bipush (v := (-2)) hx hb dX1_refusal_30 (by decide) ?_
      exact retP hx hb hr hlocks rfl (by unfold f1_refusal; rw [if_pos c_4, if_pos c_13]) rfl dX1_refusal_32
    · skip
      refine lv_iload_n hx hb dX1_refusal_16 rfl (lv_at hl 2 rfl) ?_
      refine callSi (As := [.int x1]) (rest := []) (m1_eight l x1) ⟨hx, hb, hml, hown, hts⟩ (va_cwS 1 hts gX1_refusal_X1_eight rfl rfl rfl (by decide +kernel) ⟨Nat.le_of_ble_eq_true rfl, Nat.le_of_ble_eq_true rfl⟩) rfl hl.1 rfl (Nat.le_of_ble_eq_true rfl) dX1_refusal_17 ⟨Nat.zero_le _, Nat.zero_le _⟩ ?_
      refine lv_if_eq (tgt := 30) hx hb dX1_refusal_20 (by decide) (fun c_20 => ?_) (fun c_20 => ?_)
      · skip
        refine lv_bipush (v := (-2)) hx hb dX1_refusal_30 (by decide) ?_
        exact retP hx hb hr hlocks rfl (by unfold f1_refusal; rw [if_pos c_4, if_neg c_13, if_pos c_20]) rfl dX1_refusal_32
      · skip
        refine lv_iload_n hx hb dX1_refusal_23 rfl (lv_at hl 3 rfl) ?_
        refine callSi (As := [.int x2]) (rest := []) (m1_eight l x2) ⟨hx, hb, hml, hown, hts⟩ (va_cwS 1 hts gX1_refusal_X1_eight rfl rfl rfl (by decide +kernel) ⟨Nat.le_of_ble_eq_true rfl, Nat.le_of_ble_eq_true rfl⟩) rfl hl.1 rfl (Nat.le_of_ble_eq_true rfl) dX1_refusal_24 ⟨Nat.zero_le _, Nat.zero_le _⟩ ?_
        refine lv_if_ne (tgt := 33) hx hb dX1_refusal_27 (by decide) (fun c_27 => ?_) (fun c_27 => ?_)
        · skip
          refine lv_aload_n hx hb dX1_refusal_33 rfl (lv_at hl 0 rfl) ?_
          refine va_get (D := (dC, dI)) (ci := 1) (v := .ref h1) (C := RX1) (T := TX1) (N := 8) hx hb hts hin hown hK hP 0 rfl rfl 0 (by decide) (hts (.fieldLink RX1 7 "CapStoreModel" "memory" "[I") (by decide +kernel)) (fun _ h9 => h9) rfl dX1_refusal_34 ?_
          refine lv_bipush (v := 8) hx hb dX1_refusal_37 (by decide) ?_
          refine lv_iload_n hx hb dX1_refusal_39 rfl (lv_at hl 1 rfl) ?_
          refine lv_imul hx hb dX1_refusal_40 ?_
          refine lv_iload_n hx hb dX1_refusal_41 rfl (lv_at hl 2 rfl) ?_
          refine lv_iadd hx hb dX1_refusal_42 ?_
          refine va_iald hx hb hK hP 1 0 rfl rfl (sd1_ix c_13 c_20) dX1_refusal_43 ?_
          refine lv_istore (lv' := [(6, .int (mem ((8 * x0) + x1).toNatClampNeg)), (0, .ref h0), (1, .int x0), (2, .int x1), (3, .int x2), (4, .int x3), (5, .int x4)]) hx hb dX1_refusal_44 hl (by decide) rfl (fun ls hl => ?_)
          refine lv_iload hx hb dX1_refusal_46 (lv_at hl 0 rfl) ?_
          refine callSi (As := [.int (mem ((8 * x0) + x1).toNatClampNeg)]) (rest := []) (m1_object l (mem ((8 * x0) + x1).toNatClampNeg)) ⟨hx, hb, hml, hown, hts⟩ (va_cwS 1 hts gX1_refusal_X1_object rfl rfl rfl (by decide +kernel) ⟨Nat.le_of_ble_eq_true rfl, Nat.le_of_ble_eq_true rfl⟩) rfl hl.1 rfl (Nat.le_of_ble_eq_true rfl) dX1_refusal_48 ⟨Nat.zero_le _, Nat.zero_le _⟩ ?_
          refine lv_istore (lv' := [(7, .int (f1_object (mem ((8 * x0) + x1).toNatClampNeg))), (6, .int (mem ((8 * x0) + x1).toNatClampNeg)), (0, .ref h0), (1, .int x0), (2, .int x1), (3, .int x2), (4, .int x3), (5, .int x4)]) hx hb dX1_refusal_51 hl (by decide) rfl (fun ls hl => ?_)
          refine lv_iload hx hb dX1_refusal_53 (lv_at hl 0 rfl) ?_
          refine lv_bipush (v := 12) hx hb dX1_refusal_55 (by decide) ?_
          refine lv_icmp_eq (tgt := 77) hx hb dX1_refusal_57 (by decide) (fun c_57 => ?_) (fun c_57 => ?_)
          · skip
            refine lv_bipush (v := (-3)) hx hb dX1_refusal_77 (by decide) ?_
            exact retP hx hb hr hlocks rfl (by unfold f1_refusal; rw [if_pos c_4, if_neg c_13, if_neg c_20, if_neg c_27, if_pos c_57]) rfl dX1_refusal_79
          · skip
            refine lv_iload hx hb dX1_refusal_60 (lv_at hl 6 rfl) ?_
            refine lv_iload hx hb dX1_refusal_62 (lv_at hl 0 rfl) ?_
            refine lv_bipush (v := 7) hx hb dX1_refusal_64 (by decide) ?_
            refine lv_icmp_le (tgt := 73) hx hb dX1_refusal_66 (by decide) (fun c_66 => ?_) (fun c_66 => ?_)
            · skip
              refine lv_iconst (v := 0) hx hb dX1_refusal_73 (by decide) ?_
              refine lv_icmp_eq (tgt := 80) hx hb dX1_refusal_74 (by decide) (fun c_74 => ?_) (fun c_74 => ?_)
              · skip
                refine lv_iload hx hb dX1_refusal_80 (lv_at hl 7 rfl) ?_
                refine lv_if_eq (tgt := 98) hx hb dX1_refusal_82 (by decide) (fun c_82 => ?_) (fun c_82 => ?_)
                · skip
                  refine lv_iconst (v := 0) hx hb dX1_refusal_98 (by decide) ?_
                  exact retP hx hb hr hlocks rfl (by unfold f1_refusal; rw [if_pos c_4, if_neg c_13, if_neg c_20, if_neg c_27, if_neg c_57, if_pos c_66, if_pos c_74, if_pos c_82]) rfl dX1_refusal_99
                · skip
                  refine lv_iload hx hb dX1_refusal_85 (lv_at hl 1 rfl) ?_
                  refine callSi (As := [.int (mem ((8 * x0) + x1).toNatClampNeg)]) (rest := []) (m1_limits l (mem ((8 * x0) + x1).toNatClampNeg)) ⟨hx, hb, hml, hown, hts⟩ (va_cwS 1 hts gX1_refusal_X1_limits rfl rfl rfl (by decide +kernel) ⟨Nat.le_of_ble_eq_true rfl, Nat.le_of_ble_eq_true rfl⟩) rfl hl.1 rfl (Nat.le_of_ble_eq_true rfl) dX1_refusal_87 ⟨Nat.zero_le _, Nat.zero_le _⟩ ?_
                  refine lv_if_eq (tgt := 98) hx hb dX1_refusal_90 (by decide) (fun c_90 => ?_) (fun c_90 => ?_)
                  · skip
                    refine lv_iconst (v := 0) hx hb dX1_refusal_98 (by decide) ?_
                    exact retP hx hb hr hlocks rfl (by unfold f1_refusal; rw [if_pos c_4, if_neg c_13, if_neg c_20, if_neg c_27, if_neg c_57, if_pos c_66, if_pos c_74, if_neg c_82, if_pos c_90]) rfl dX1_refusal_99
                  · skip
                    refine lv_bipush (v := (-4)) hx hb dX1_refusal_93 (by decide) ?_
                    refine lv_goto (tgt := 99) hx hb dX1_refusal_95 (by decide) ?_
                    exact retP hx hb hr hlocks rfl (by unfold f1_refusal; rw [if_pos c_4, if_neg c_13, if_neg c_20, if_neg c_27, if_neg c_57, if_pos c_66, if_pos c_74, if_neg c_82, if_neg c_90]) rfl dX1_refusal_99
              · skip
                refine lv_bipush (v := (-3)) hx hb dX1_refusal_77 (by decide) ?_
                exact retP hx hb hr hlocks rfl (by unfold f1_refusal; rw [if_pos c_4, if_neg c_13, if_neg c_20, if_neg c_27, if_neg c_57, if_pos c_66, if_neg c_74]) rfl dX1_refusal_79
            · skip
              refine lv_iconst (v := 1) hx hb dX1_refusal_69 (by decide) ?_
              refine lv_goto (tgt := 74) hx hb dX1_refusal_70 (by decide) ?_
              refine lv_icmp_eq (tgt := 80) hx hb dX1_refusal_74 (by decide) (fun c_74 => ?_) (fun c_74 => ?_)
              · skip
                refine lv_iload hx hb dX1_refusal_80 (lv_at hl 7 rfl) ?_
                refine lv_if_eq (tgt := 98) hx hb dX1_refusal_82 (by decide) (fun c_82 => ?_) (fun c_82 => ?_)
                · skip
                  refine lv_iconst (v := 0) hx hb dX1_refusal_98 (by decide) ?_
                  exact retP hx hb hr hlocks rfl (by unfold f1_refusal; rw [if_pos c_4, if_neg c_13, if_neg c_20, if_neg c_27, if_neg c_57, if_neg c_66, if_pos c_74, if_pos c_82]) rfl dX1_refusal_99
                · skip
                  refine lv_iload hx hb dX1_refusal_85 (lv_at hl 1 rfl) ?_
                  refine callSi (As := [.int (mem ((8 * x0) + x1).toNatClampNeg)]) (rest := []) (m1_limits l (mem ((8 * x0) + x1).toNatClampNeg)) ⟨hx, hb, hml, hown, hts⟩ (va_cwS 1 hts gX1_refusal_X1_limits rfl rfl rfl (by decide +kernel) ⟨Nat.le_of_ble_eq_true rfl, Nat.le_of_ble_eq_true rfl⟩) rfl hl.1 rfl (Nat.le_of_ble_eq_true rfl) dX1_refusal_87 ⟨Nat.zero_le _, Nat.zero_le _⟩ ?_
                  refine lv_if_eq (tgt := 98) hx hb dX1_refusal_90 (by decide) (fun c_90 => ?_) (fun c_90 => ?_)
                  · skip
                    refine lv_iconst (v := 0) hx hb dX1_refusal_98 (by decide) ?_
                    exact retP hx hb hr hlocks rfl (by unfold f1_refusal; rw [if_pos c_4, if_neg c_13, if_neg c_20, if_neg c_27, if_neg c_57, if_neg c_66, if_pos c_74, if_neg c_82, if_pos c_90]) rfl dX1_refusal_99
                  · skip
                    refine lv_bipush (v := (-4)) hx hb dX1_refusal_93 (by decide) ?_
                    refine lv_goto (tgt := 99) hx hb dX1_refusal_95 (by decide) ?_
                    exact retP hx hb hr hlocks rfl (by unfold f1_refusal; rw [if_pos c_4, if_neg c_13, if_neg c_20, if_neg c_27, if_neg c_57, if_neg c_66, if_pos c_74, if_neg c_82, if_neg c_90]) rfl dX1_refusal_99
              · skip
                refine lv_bipush (v := (-3)) hx hb dX1_refusal_77 (by decide) ?_
                exact retP hx hb hr hlocks rfl (by unfold f1_refusal; rw [if_pos c_4, if_neg c_13, if_neg c_20, if_neg c_27, if_neg c_57, if_neg c_66, if_neg c_74]) rfl dX1_refusal_79
        · skip
          refine lv_bipush (v := (-2)) hx hb dX1_refusal_30 (by decide) ?_
          exact retP hx hb hr hlocks rfl (by unfold f1_refusal; rw [if_pos c_4, if_neg c_13, if_neg c_20, if_pos c_27]) rfl dX1_refusal_32
  · skip
    refine lv_iconst (v := (-1)) hx hb dX1_refusal_7 (by decide) ?_
    exact retP hx hb hr hlocks rfl (by unfold f1_refusal; rw [if_neg c_4]) rfl dX1_refusal_8
set_option maxHeartbeats 4000000 in
set_option maxRecDepth 100000 in
theorem m1_read (l : Launch) (dC : Nat → ClassId) (dI : Nat → Nat → Nat) (h0 h1 h2 h3 : Nat) (c1 c2 c3 : ClassId) (mem dsk sto : Nat → Int32) (dn en pw wr cm : Int32) (x0 : Int32) (x1 : Int32) (x2 : Int32) (hk : KI mem) : Met l yX1_read wsX1_read ({ frames := 2, cells := 0, slots := 0, locals := 47 }) (pcR (dC, dI) (k1 c1 c2 c3) (w1 h0 h1 h2 h3 c1 c2 c3 (mem, dsk, sto, dn, en, pw, wr, cm)) [.ref h0, .int x0, .int x1, .int x2]) (k2_QcV (.long (f1_read mem dsk sto dn en pw wr cm x0 x1 x2))) 0 0 (fun _ => False) := by
  refine Met.ofW (cc := cX1_read) (maxL := 5) (ret := (some .long)) (by decide) rfl ?_
  intro p e s m args below meth c s₁ B hml hv
  obtain ⟨rfl, hP, hK⟩ := hv
  have hx := B.exec
  have hb := B.bytes
  have hr := B.returns
  have hts := atoms_spec (ws := wsX1_read) B.pre
  have hown : s.vm.findClass RX1 = some m.cls := findClass_of_methodNamed B.named
  have hlocks := B.notSynchronized
  have hin : ∀ w ∈ wsX10, w ∈ wsX1_read := fun _ h => List.mem_cons_of_mem _ (List.mem_append_right _ h)
  have hP : va_P (dC, dI) vwCl [(h0, .inr (1, [.ref h1, .ref h2, .ref h3, .int dn, .int en, .int pw, .int wr, .int cm])), (h1, .inl (c1, 96, .inl mem)), (h2, .inl (c2, 200, .inl dsk)), (h3, .inl (c3, 12, .inl sto))] s.heap := hP
  have hl := lv_entry ([.ref h0, .int x0, .int x1, .int x2]) (n := 5) (Nat.le_of_ble_eq_true rfl)
  rw [lg_entry_eq]
  generalize (lg_sl ([.ref h0, .int x0, .int x1, .int x2]) ++ List.replicate (5 - (lg_sl ([.ref h0, .int x0, .int x1, .int x2])).length) Slot.unset).toArray = ls at hl ⊢
  have hl : lv_has ls 5 [(0, .ref h0), (1, .int x0), (2, .int x1), (3, .int x2)] := hl
  refine lv_aload_n hx hb dX1_read_0 rfl (lv_at hl 0 rfl) ?_
  refine lv_iload_n hx hb dX1_read_1 rfl (lv_at hl 1 rfl) ?_
  refine lv_iload_n hx hb dX1_read_2 rfl (lv_at hl 2 rfl) ?_
  refine lv_iload_n hx hb dX1_read_3 rfl (lv_at hl 3 rfl) ?_
  refine lv_iconst (v := 1) hx hb dX1_read_4 (by decide) ?_
  refine lv_iconst (v := 0) hx hb dX1_read_5 (by decide) ?_
  refine callRi (q := (RX1, TX1, 8)) (ci := 1) (q0 := 0) (As := [.int x0, .int x1, .int x2, .int 1, .int 0]) (rest := []) (m1_refusal l dC dI h0 h1 h2 h3 c1 c2 c3 mem dsk sto dn en pw wr cm x0 x1 x2 1 0 ) ⟨hx, hb, hml, hown, hts⟩ (cwV 5 hts gX1_read_X1_refusal rfl rfl rfl (by decide +kernel) ⟨Nat.le_of_ble_eq_true rfl, Nat.le_of_ble_eq_true rfl⟩) hK hP rfl rfl rfl hl.1 rfl (Nat.le_of_ble_eq_true rfl) dX1_read_6 ⟨Nat.zero_le _, Nat.zero_le _⟩ ?_
  refine lv_istore (lv' := [(4, .int (f1_refusal mem dsk sto dn en pw wr cm x0 x1 x2 1 0)), (0, .ref h0), (1, .int x0), (2, .int x1), (3, .int x2)]) hx hb dX1_read_9 hl (by decide) rfl (fun ls hl => ?_)
  refine lv_iload hx hb dX1_read_11 (lv_at hl 0 rfl) ?_
  refine lv_if_eq (tgt := 26) hx hb dX1_read_13 (by decide) (fun c_13 => ?_) (fun c_13 => ?_)
  · skip
    refine lv_aload_n hx hb dX1_read_26 rfl (lv_at hl 1 rfl) ?_
    refine va_get (D := (dC, dI)) (ci := 1) (v := .ref h1) (C := RX1) (T := TX1) (N := 8) hx hb hts hin hown hK hP 0 rfl rfl 0 (by decide) (hts (.fieldLink RX1 7 "CapStoreModel" "memory" "[I") (by decide +kernel)) (fun _ h9 => h9) rfl dX1_read_27 ?_
    refine lv_bipush (v := 8) hx hb dX1_read_30 (by decide) ?_
    refine lv_aload_n hx hb dX1_read_32 rfl (lv_at hl 1 rfl) ?_
    refine va_get (D := (dC, dI)) (ci := 1) (v := .ref h1) (C := RX1) (T := TX1) (N := 8) hx hb hts hin hown hK hP 0 rfl rfl 0 (by decide) (hts (.fieldLink RX1 7 "CapStoreModel" "memory" "[I") (by decide +kernel)) (fun _ h9 => h9) rfl dX1_read_33 ?_
    refine lv_bipush (v := 8) hx hb dX1_read_36 (by decide) ?_
    refine lv_iload_n hx hb dX1_read_38 rfl (lv_at hl 2 rfl) ?_
    refine lv_imul hx hb dX1_read_39 ?_
    refine lv_iload_n hx hb dX1_read_40 rfl (lv_at hl 3 rfl) ?_
    refine lv_iadd hx hb dX1_read_41 ?_
    refine va_iald hx hb hK hP 1 0 rfl rfl (sd1_r1 c_13) dX1_read_42 ?_
    refine callSi (As := [.int (mem ((8 * x0) + x1).toNatClampNeg)]) (rest := [.int 8, .ref h1]) (m1_object l (mem ((8 * x0) + x1).toNatClampNeg)) ⟨hx, hb, hml, hown, hts⟩ (va_cwS 1 hts gX1_read_X1_object rfl rfl rfl (by decide +kernel) ⟨Nat.le_of_ble_eq_true rfl, Nat.le_of_ble_eq_true rfl⟩) rfl hl.1 rfl (Nat.le_of_ble_eq_true rfl) dX1_read_43 ⟨Nat.zero_le _, Nat.zero_le _⟩ ?_
    refine lv_imul hx hb dX1_read_46 ?_
    refine lv_iload_n hx hb dX1_read_47 rfl (lv_at hl 4 rfl) ?_
    refine lv_iadd hx hb dX1_read_48 ?_
    refine va_iald hx hb hK hP 1 0 rfl rfl (sd1_p hk c_13) dX1_read_49 ?_
    refine lv_i2l (v := (mem ((8 * (f1_object (mem ((8 * x0) + x1).toNatClampNeg))) + x2).toNatClampNeg).toInt64) hx hb dX1_read_50 rfl ?_
    exact retL hx hb hr hlocks (by unfold f1_read; rw [if_pos c_13]) rfl dX1_read_51
  · skip
    refine lv_ldc2 (v := 4294967296) hx hb hown (hts (.constantLong RX1 53 4294967296) (by decide +kernel)) dX1_read_16 ?_
    refine lv_iload hx hb dX1_read_19 (lv_at hl 0 rfl) ?_
    refine lv_i2l (v := (f1_refusal mem dsk sto dn en pw wr cm x0 x1 x2 1 0).toInt64) hx hb dX1_read_21 rfl ?_
    refine lv_ladd hx hb dX1_read_22 ?_
    refine lv_goto (tgt := 51) hx hb dX1_read_23 (by decide) ?_
    exact retL hx hb hr hlocks (by unfold f1_read; rw [if_neg c_13]) rfl dX1_read_51
set_option maxHeartbeats 4000000 in
set_option maxRecDepth 100000 in
theorem m1_isUp (l : Launch) (dC : Nat → ClassId) (dI : Nat → Nat → Nat) (h0 h1 h2 h3 : Nat) (c1 c2 c3 : ClassId) (mem dsk sto : Nat → Int32) (dn en pw wr cm : Int32) : Met l yX1_isUp wsX1_isUp ({ frames := 0, cells := 0, slots := 0, locals := 0 }) (pcR (dC, dI) (k1 c1 c2 c3) (w1 h0 h1 h2 h3 c1 c2 c3 (mem, dsk, sto, dn, en, pw, wr, cm)) [.ref h0]) (QcRead (f1_isUp mem dsk sto dn en pw wr cm)) 0 0 (fun _ => False) := by
  refine Met.ofW (cc := cX1_isUp) (maxL := 1) (ret := (some .boolean)) (by decide) rfl ?_
  intro p e s m args below meth c s₁ B hml hv
  obtain ⟨rfl, hP, hK⟩ := hv
  have hx := B.exec
  have hb := B.bytes
  have hr := B.returns
  have hts := atoms_spec (ws := wsX1_isUp) B.pre
  have hown : s.vm.findClass RX1 = some m.cls := findClass_of_methodNamed B.named
  have hlocks := B.notSynchronized
  have hin : ∀ w ∈ wsX10, w ∈ wsX1_isUp := fun _ h => List.mem_cons_of_mem _ (List.mem_append_right _ h)
  have hP : va_P (dC, dI) vwCl [(h0, .inr (1, [.ref h1, .ref h2, .ref h3, .int dn, .int en, .int pw, .int wr, .int cm])), (h1, .inl (c1, 96, .inl mem)), (h2, .inl (c2, 200, .inl dsk)), (h3, .inl (c3, 12, .inl sto))] s.heap := hP
  have hl := lv_entry ([.ref h0]) (n := 1) (Nat.le_of_ble_eq_true rfl)
  rw [lg_entry_eq]
  generalize (lg_sl ([.ref h0]) ++ List.replicate (1 - (lg_sl ([.ref h0])).length) Slot.unset).toArray = ls at hl ⊢
  have hl : lv_has ls 1 [(0, .ref h0)] := hl
  refine lv_aload_n hx hb dX1_isUp_0 rfl (lv_at hl 0 rfl) ?_
  refine va_get (D := (dC, dI)) (ci := 1) (v := .int dn) (C := RX1) (T := TX1) (N := 8) hx hb hts hin hown hK hP 0 rfl rfl 3 (by decide) (hts (.fieldLink RX1 28 "CapStoreModel" "down" "Z") (by decide +kernel)) (fun _ h9 => h9) rfl dX1_isUp_1 ?_
  refine lv_if_ne (tgt := 11) hx hb dX1_isUp_4 (by decide) (fun c_4 => ?_) (fun c_4 => ?_)
  · skip
    refine lv_iconst (v := 0) hx hb dX1_isUp_11 (by decide) ?_
    exact retP hx hb hr hlocks rfl (by unfold f1_isUp; rw [if_neg c_4]) rfl dX1_isUp_12
  · skip
    refine lv_iconst (v := 1) hx hb dX1_isUp_7 (by decide) ?_
    refine lv_goto (tgt := 12) hx hb dX1_isUp_8 (by decide) ?_
    exact retP hx hb hr hlocks rfl (by unfold f1_isUp; rw [if_pos c_4]) rfl dX1_isUp_12
set_option maxHeartbeats 4000000 in
set_option maxRecDepth 100000 in
theorem m1_writes (l : Launch) (dC : Nat → ClassId) (dI : Nat → Nat → Nat) (h0 h1 h2 h3 : Nat) (c1 c2 c3 : ClassId) (mem dsk sto : Nat → Int32) (dn en pw wr cm : Int32) : Met l yX1_writes wsX1_writes ({ frames := 0, cells := 0, slots := 0, locals := 0 }) (pcR (dC, dI) (k1 c1 c2 c3) (w1 h0 h1 h2 h3 c1 c2 c3 (mem, dsk, sto, dn, en, pw, wr, cm)) [.ref h0]) (QcRead (f1_writes mem dsk sto dn en pw wr cm)) 0 0 (fun _ => False) := by
  refine Met.ofW (cc := cX1_writes) (maxL := 1) (ret := (some .int)) (by decide) rfl ?_
  intro p e s m args below meth c s₁ B hml hv
  obtain ⟨rfl, hP, hK⟩ := hv
  have hx := B.exec
  have hb := B.bytes
  have hr := B.returns
  have hts := atoms_spec (ws := wsX1_writes) B.pre
  have hown : s.vm.findClass RX1 = some m.cls := findClass_of_methodNamed B.named
  have hlocks := B.notSynchronized
  have hin : ∀ w ∈ wsX10, w ∈ wsX1_writes := fun _ h => List.mem_cons_of_mem _ (List.mem_append_right _ h)
  have hP : va_P (dC, dI) vwCl [(h0, .inr (1, [.ref h1, .ref h2, .ref h3, .int dn, .int en, .int pw, .int wr, .int cm])), (h1, .inl (c1, 96, .inl mem)), (h2, .inl (c2, 200, .inl dsk)), (h3, .inl (c3, 12, .inl sto))] s.heap := hP
  have hl := lv_entry ([.ref h0]) (n := 1) (Nat.le_of_ble_eq_true rfl)
  rw [lg_entry_eq]
  generalize (lg_sl ([.ref h0]) ++ List.replicate (1 - (lg_sl ([.ref h0])).length) Slot.unset).toArray = ls at hl ⊢
  have hl : lv_has ls 1 [(0, .ref h0)] := hl
  refine lv_aload_n hx hb dX1_writes_0 rfl (lv_at hl 0 rfl) ?_
  refine va_get (D := (dC, dI)) (ci := 1) (v := .int wr) (C := RX1) (T := TX1) (N := 8) hx hb hts hin hown hK hP 0 rfl rfl 6 (by decide) (hts (.fieldLink RX1 59 "CapStoreModel" "writes" "I") (by decide +kernel)) (fun _ h9 => h9) rfl dX1_writes_1 ?_
  exact retP hx hb hr hlocks rfl (rfl) rfl dX1_writes_4
set_option maxHeartbeats 4000000 in
set_option maxRecDepth 100000 in
theorem m1_commits (l : Launch) (dC : Nat → ClassId) (dI : Nat → Nat → Nat) (h0 h1 h2 h3 : Nat) (c1 c2 c3 : ClassId) (mem dsk sto : Nat → Int32) (dn en pw wr cm : Int32) : Met l yX1_commits wsX1_commits ({ frames := 0, cells := 0, slots := 0, locals := 0 }) (pcR (dC, dI) (k1 c1 c2 c3) (w1 h0 h1 h2 h3 c1 c2 c3 (mem, dsk, sto, dn, en, pw, wr, cm)) [.ref h0]) (QcRead (f1_commits mem dsk sto dn en pw wr cm)) 0 0 (fun _ => False) := by
  refine Met.ofW (cc := cX1_commits) (maxL := 1) (ret := (some .int)) (by decide) rfl ?_
  intro p e s m args below meth c s₁ B hml hv
  obtain ⟨rfl, hP, hK⟩ := hv
  have hx := B.exec
  have hb := B.bytes
  have hr := B.returns
  have hts := atoms_spec (ws := wsX1_commits) B.pre
  have hown : s.vm.findClass RX1 = some m.cls := findClass_of_methodNamed B.named
  have hlocks := B.notSynchronized
  have hin : ∀ w ∈ wsX10, w ∈ wsX1_commits := fun _ h => List.mem_cons_of_mem _ (List.mem_append_right _ h)
  have hP : va_P (dC, dI) vwCl [(h0, .inr (1, [.ref h1, .ref h2, .ref h3, .int dn, .int en, .int pw, .int wr, .int cm])), (h1, .inl (c1, 96, .inl mem)), (h2, .inl (c2, 200, .inl dsk)), (h3, .inl (c3, 12, .inl sto))] s.heap := hP
  have hl := lv_entry ([.ref h0]) (n := 1) (Nat.le_of_ble_eq_true rfl)
  rw [lg_entry_eq]
  generalize (lg_sl ([.ref h0]) ++ List.replicate (1 - (lg_sl ([.ref h0])).length) Slot.unset).toArray = ls at hl ⊢
  have hl : lv_has ls 1 [(0, .ref h0)] := hl
  refine lv_aload_n hx hb dX1_commits_0 rfl (lv_at hl 0 rfl) ?_
  refine va_get (D := (dC, dI)) (ci := 1) (v := .int cm) (C := RX1) (T := TX1) (N := 8) hx hb hts hin hown hK hP 0 rfl rfl 7 (by decide) (hts (.fieldLink RX1 77 "CapStoreModel" "commits" "I") (by decide +kernel)) (fun _ h9 => h9) rfl dX1_commits_1 ?_
  exact retP hx hb hr hlocks rfl (rfl) rfl dX1_commits_4
set_option maxHeartbeats 4000000 in
set_option maxRecDepth 100000 in
theorem m1_key (l : Launch) (dC : Nat → ClassId) (dI : Nat → Nat → Nat) (h0 h1 h2 h3 : Nat) (c1 c2 c3 : ClassId) (mem dsk sto : Nat → Int32) (dn en pw wr cm : Int32) (x0 : Int32) (x1 : Int32) : Met l yX1_key wsX1_key ({ frames := 1, cells := 0, slots := 0, locals := 20 }) (pcR (dC, dI) (k1 c1 c2 c3) (w1 h0 h1 h2 h3 c1 c2 c3 (mem, dsk, sto, dn, en, pw, wr, cm)) [.ref h0, .int x0, .int x1]) (QcRead (f1_key mem dsk sto dn en pw wr cm x0 x1)) 0 0 (fun _ => False) := by
  refine Met.ofW (cc := cX1_key) (maxL := 3) (ret := (some .int)) (by decide) rfl ?_
  intro p e s m args below meth c s₁ B hml hv
  obtain ⟨rfl, hP, hK⟩ := hv
  have hx := B.exec
  have hb := B.bytes
  have hr := B.returns
  have hts := atoms_spec (ws := wsX1_key) B.pre
  have hown : s.vm.findClass RX1 = some m.cls := findClass_of_methodNamed B.named
  have hlocks := B.notSynchronized
  have hin : ∀ w ∈ wsX10, w ∈ wsX1_key := fun _ h => List.mem_cons_of_mem _ (List.mem_append_right _ h)
  have hP : va_P (dC, dI) vwCl [(h0, .inr (1, [.ref h1, .ref h2, .ref h3, .int dn, .int en, .int pw, .int wr, .int cm])), (h1, .inl (c1, 96, .inl mem)), (h2, .inl (c2, 200, .inl dsk)), (h3, .inl (c3, 12, .inl sto))] s.heap := hP
  have hl := lv_entry ([.ref h0, .int x0, .int x1]) (n := 3) (Nat.le_of_ble_eq_true rfl)
  rw [lg_entry_eq]
  generalize (lg_sl ([.ref h0, .int x0, .int x1]) ++ List.replicate (3 - (lg_sl ([.ref h0, .int x0, .int x1])).length) Slot.unset).toArray = ls at hl ⊢
  have hl : lv_has ls 3 [(0, .ref h0), (1, .int x0), (2, .int x1)] := hl
  refine lv_aload_n hx hb dX1_key_0 rfl (lv_at hl 0 rfl) ?_
  refine va_get (D := (dC, dI)) (ci := 1) (v := .int dn) (C := RX1) (T := TX1) (N := 8) hx hb hts hin hown hK hP 0 rfl rfl 3 (by decide) (hts (.fieldLink RX1 28 "CapStoreModel" "down" "Z") (by decide +kernel)) (fun _ h9 => h9) rfl dX1_key_1 ?_
  refine lv_if_eq (tgt := 9) hx hb dX1_key_4 (by decide) (fun c_4 => ?_) (fun c_4 => ?_)
  · skip
    refine lv_iload_n hx hb dX1_key_9 rfl (lv_at hl 1 rfl) ?_
    refine callSi (As := [.int x0]) (rest := []) (m1_eight l x0) ⟨hx, hb, hml, hown, hts⟩ (va_cwS 1 hts gX1_key_X1_eight rfl rfl rfl (by decide +kernel) ⟨Nat.le_of_ble_eq_true rfl, Nat.le_of_ble_eq_true rfl⟩) rfl hl.1 rfl (Nat.le_of_ble_eq_true rfl) dX1_key_10 ⟨Nat.zero_le _, Nat.zero_le _⟩ ?_
    refine lv_if_eq (tgt := 37) hx hb dX1_key_13 (by decide) (fun c_13 => ?_) (fun c_13 => ?_)
    · skip
      refine lv_bipush (v := (-2)) hx hb dX1_key_37 (by decide) ?_
      exact retP hx hb hr hlocks rfl (by unfold f1_key; rw [if_pos c_4, if_pos c_13]) rfl dX1_key_39
    · skip
      refine lv_iload_n hx hb dX1_key_16 rfl (lv_at hl 2 rfl) ?_
      refine callSi (As := [.int x1]) (rest := []) (m1_eight l x1) ⟨hx, hb, hml, hown, hts⟩ (va_cwS 1 hts gX1_key_X1_eight rfl rfl rfl (by decide +kernel) ⟨Nat.le_of_ble_eq_true rfl, Nat.le_of_ble_eq_true rfl⟩) rfl hl.1 rfl (Nat.le_of_ble_eq_true rfl) dX1_key_17 ⟨Nat.zero_le _, Nat.zero_le _⟩ ?_
      refine lv_if_eq (tgt := 37) hx hb dX1_key_20 (by decide) (fun c_20 => ?_) (fun c_20 => ?_)
      · skip
        refine lv_bipush (v := (-2)) hx hb dX1_key_37 (by decide) ?_
        exact retP hx hb hr hlocks rfl (by unfold f1_key; rw [if_pos c_4, if_neg c_13, if_pos c_20]) rfl dX1_key_39
      · skip
        refine lv_aload_n hx hb dX1_key_23 rfl (lv_at hl 0 rfl) ?_
        refine va_get (D := (dC, dI)) (ci := 1) (v := .ref h1) (C := RX1) (T := TX1) (N := 8) hx hb hts hin hown hK hP 0 rfl rfl 0 (by decide) (hts (.fieldLink RX1 7 "CapStoreModel" "memory" "[I") (by decide +kernel)) (fun _ h9 => h9) rfl dX1_key_24 ?_
        refine lv_bipush (v := 8) hx hb dX1_key_27 (by decide) ?_
        refine lv_iload_n hx hb dX1_key_29 rfl (lv_at hl 1 rfl) ?_
        refine lv_imul hx hb dX1_key_30 ?_
        refine lv_iload_n hx hb dX1_key_31 rfl (lv_at hl 2 rfl) ?_
        refine lv_iadd hx hb dX1_key_32 ?_
        refine va_iald hx hb hK hP 1 0 rfl rfl (sd1_key c_13 c_20) dX1_key_33 ?_
        refine lv_goto (tgt := 39) hx hb dX1_key_34 (by decide) ?_
        exact retP hx hb hr hlocks rfl (by unfold f1_key; rw [if_pos c_4, if_neg c_13, if_neg c_20]) rfl dX1_key_39
  · skip
    refine lv_iconst (v := (-1)) hx hb dX1_key_7 (by decide) ?_
    exact retP hx hb hr hlocks rfl (by unfold f1_key; rw [if_neg c_4]) rfl dX1_key_8
set_option maxHeartbeats 4000000 in
set_option maxRecDepth 100000 in
theorem m1_word (l : Launch) (dC : Nat → ClassId) (dI : Nat → Nat → Nat) (h0 h1 h2 h3 : Nat) (c1 c2 c3 : ClassId) (mem dsk sto : Nat → Int32) (dn en pw wr cm : Int32) (x0 : Int32) (x1 : Int32) : Met l yX1_word wsX1_word ({ frames := 1, cells := 0, slots := 0, locals := 20 }) (pcR (dC, dI) (k1 c1 c2 c3) (w1 h0 h1 h2 h3 c1 c2 c3 (mem, dsk, sto, dn, en, pw, wr, cm)) [.ref h0, .int x0, .int x1]) (k2_QcV (.long (f1_word mem dsk sto dn en pw wr cm x0 x1))) 0 0 (fun _ => False) := by
  refine Met.ofW (cc := cX1_word) (maxL := 3) (ret := (some .long)) (by decide) rfl ?_
  intro p e s m args below meth c s₁ B hml hv
  obtain ⟨rfl, hP, hK⟩ := hv
  have hx := B.exec
  have hb := B.bytes
  have hr := B.returns
  have hts := atoms_spec (ws := wsX1_word) B.pre
  have hown : s.vm.findClass RX1 = some m.cls := findClass_of_methodNamed B.named
  have hlocks := B.notSynchronized
  have hin : ∀ w ∈ wsX10, w ∈ wsX1_word := fun _ h => List.mem_cons_of_mem _ (List.mem_append_right _ h)
  have hP : va_P (dC, dI) vwCl [(h0, .inr (1, [.ref h1, .ref h2, .ref h3, .int dn, .int en, .int pw, .int wr, .int cm])), (h1, .inl (c1, 96, .inl mem)), (h2, .inl (c2, 200, .inl dsk)), (h3, .inl (c3, 12, .inl sto))] s.heap := hP
  have hl := lv_entry ([.ref h0, .int x0, .int x1]) (n := 3) (Nat.le_of_ble_eq_true rfl)
  rw [lg_entry_eq]
  generalize (lg_sl ([.ref h0, .int x0, .int x1]) ++ List.replicate (3 - (lg_sl ([.ref h0, .int x0, .int x1])).length) Slot.unset).toArray = ls at hl ⊢
  have hl : lv_has ls 3 [(0, .ref h0), (1, .int x0), (2, .int x1)] := hl
  refine lv_aload_n hx hb dX1_word_0 rfl (lv_at hl 0 rfl) ?_
  refine va_get (D := (dC, dI)) (ci := 1) (v := .int dn) (C := RX1) (T := TX1) (N := 8) hx hb hts hin hown hK hP 0 rfl rfl 3 (by decide) (hts (.fieldLink RX1 28 "CapStoreModel" "down" "Z") (by decide +kernel)) (fun _ h9 => h9) rfl dX1_word_1 ?_
  refine lv_if_eq (tgt := 11) hx hb dX1_word_4 (by decide) (fun c_4 => ?_) (fun c_4 => ?_)
  · skip
    refine lv_iload_n hx hb dX1_word_11 rfl (lv_at hl 1 rfl) ?_
    refine lv_bipush (v := 8) hx hb dX1_word_12 (by decide) ?_
    refine lv_icmp_lt (tgt := 45) hx hb dX1_word_14 (by decide) (fun c_14 => ?_) (fun c_14 => ?_)
    · skip
      refine lv_ldc2 (v := 4294967294) hx hb hown (hts (.constantLong RX1 85 4294967294) (by decide +kernel)) dX1_word_45 ?_
      exact retL hx hb hr hlocks (by unfold f1_word; rw [if_pos c_4, if_pos c_14]) rfl dX1_word_48
    · skip
      refine lv_iload_n hx hb dX1_word_17 rfl (lv_at hl 1 rfl) ?_
      refine lv_bipush (v := 11) hx hb dX1_word_18 (by decide) ?_
      refine lv_icmp_gt (tgt := 45) hx hb dX1_word_20 (by decide) (fun c_20 => ?_) (fun c_20 => ?_)
      · skip
        refine lv_ldc2 (v := 4294967294) hx hb hown (hts (.constantLong RX1 85 4294967294) (by decide +kernel)) dX1_word_45 ?_
        exact retL hx hb hr hlocks (by unfold f1_word; rw [if_pos c_4, if_neg c_14, if_pos c_20]) rfl dX1_word_48
      · skip
        refine lv_iload_n hx hb dX1_word_23 rfl (lv_at hl 2 rfl) ?_
        refine callSi (As := [.int x1]) (rest := []) (m1_eight l x1) ⟨hx, hb, hml, hown, hts⟩ (va_cwS 1 hts gX1_word_X1_eight rfl rfl rfl (by decide +kernel) ⟨Nat.le_of_ble_eq_true rfl, Nat.le_of_ble_eq_true rfl⟩) rfl hl.1 rfl (Nat.le_of_ble_eq_true rfl) dX1_word_24 ⟨Nat.zero_le _, Nat.zero_le _⟩ ?_
        refine lv_if_eq (tgt := 45) hx hb dX1_word_27 (by decide) (fun c_27 => ?_) (fun c_27 => ?_)
        · skip
          refine lv_ldc2 (v := 4294967294) hx hb hown (hts (.constantLong RX1 85 4294967294) (by decide +kernel)) dX1_word_45 ?_
          exact retL hx hb hr hlocks (by unfold f1_word; rw [if_pos c_4, if_neg c_14, if_neg c_20, if_pos c_27]) rfl dX1_word_48
        · skip
          refine lv_aload_n hx hb dX1_word_30 rfl (lv_at hl 0 rfl) ?_
          refine va_get (D := (dC, dI)) (ci := 1) (v := .ref h1) (C := RX1) (T := TX1) (N := 8) hx hb hts hin hown hK hP 0 rfl rfl 0 (by decide) (hts (.fieldLink RX1 7 "CapStoreModel" "memory" "[I") (by decide +kernel)) (fun _ h9 => h9) rfl dX1_word_31 ?_
          refine lv_bipush (v := 8) hx hb dX1_word_34 (by decide) ?_
          refine lv_iload_n hx hb dX1_word_36 rfl (lv_at hl 1 rfl) ?_
          refine lv_imul hx hb dX1_word_37 ?_
          refine lv_iload_n hx hb dX1_word_38 rfl (lv_at hl 2 rfl) ?_
          refine lv_iadd hx hb dX1_word_39 ?_
          refine va_iald hx hb hK hP 1 0 rfl rfl (sd1_word c_14 c_20 c_27) dX1_word_40 ?_
          refine lv_i2l (v := (mem ((8 * x0) + x1).toNatClampNeg).toInt64) hx hb dX1_word_41 rfl ?_
          refine lv_goto (tgt := 48) hx hb dX1_word_42 (by decide) ?_
          exact retL hx hb hr hlocks (by unfold f1_word; rw [if_pos c_4, if_neg c_14, if_neg c_20, if_neg c_27]) rfl dX1_word_48
  · skip
    refine lv_ldc2 (v := 4294967295) hx hb hown (hts (.constantLong RX1 83 4294967295) (by decide +kernel)) dX1_word_7 ?_
    exact retL hx hb hr hlocks (by unfold f1_word; rw [if_neg c_4]) rfl dX1_word_10
set_option maxHeartbeats 4000000 in
set_option maxRecDepth 100000 in
theorem m1_disk (l : Launch) (dC : Nat → ClassId) (dI : Nat → Nat → Nat) (h0 h1 h2 h3 : Nat) (c1 c2 c3 : ClassId) (mem dsk sto : Nat → Int32) (dn en pw wr cm : Int32) (x0 : Int32) (x1 : Int32) : Met l yX1_disk wsX1_disk ({ frames := 1, cells := 0, slots := 0, locals := 20 }) (pcR (dC, dI) (k1 c1 c2 c3) (w1 h0 h1 h2 h3 c1 c2 c3 (mem, dsk, sto, dn, en, pw, wr, cm)) [.ref h0, .int x0, .int x1]) (QcRead (f1_disk mem dsk sto dn en pw wr cm x0 x1)) 0 0 (fun _ => False) := by
  refine Met.ofW (cc := cX1_disk) (maxL := 3) (ret := (some .int)) (by decide) rfl ?_
  intro p e s m args below meth c s₁ B hml hv
  obtain ⟨rfl, hP, hK⟩ := hv
  have hx := B.exec
  have hb := B.bytes
  have hr := B.returns
  have hts := atoms_spec (ws := wsX1_disk) B.pre
  have hown : s.vm.findClass RX1 = some m.cls := findClass_of_methodNamed B.named
  have hlocks := B.notSynchronized
  have hin : ∀ w ∈ wsX10, w ∈ wsX1_disk := fun _ h => List.mem_cons_of_mem _ (List.mem_append_right _ h)
  have hP : va_P (dC, dI) vwCl [(h0, .inr (1, [.ref h1, .ref h2, .ref h3, .int dn, .int en, .int pw, .int wr, .int cm])), (h1, .inl (c1, 96, .inl mem)), (h2, .inl (c2, 200, .inl dsk)), (h3, .inl (c3, 12, .inl sto))] s.heap := hP
  have hl := lv_entry ([.ref h0, .int x0, .int x1]) (n := 3) (Nat.le_of_ble_eq_true rfl)
  rw [lg_entry_eq]
  generalize (lg_sl ([.ref h0, .int x0, .int x1]) ++ List.replicate (3 - (lg_sl ([.ref h0, .int x0, .int x1])).length) Slot.unset).toArray = ls at hl ⊢
  have hl : lv_has ls 3 [(0, .ref h0), (1, .int x0), (2, .int x1)] := hl
  refine lv_iload_n hx hb dX1_disk_0 rfl (lv_at hl 1 rfl) ?_
  refine lv_if_lt (tgt := 31) hx hb dX1_disk_1 (by decide) (fun c_1 => ?_) (fun c_1 => ?_)
  · skip
    refine lv_iconst (v := 0) hx hb dX1_disk_31 (by decide) ?_
    exact retP hx hb hr hlocks rfl (by unfold f1_disk; rw [if_pos c_1]) rfl dX1_disk_32
  · skip
    refine lv_iload_n hx hb dX1_disk_4 rfl (lv_at hl 1 rfl) ?_
    refine lv_bipush (v := 24) hx hb dX1_disk_5 (by decide) ?_
    refine lv_icmp_gt (tgt := 31) hx hb dX1_disk_7 (by decide) (fun c_7 => ?_) (fun c_7 => ?_)
    · skip
      refine lv_iconst (v := 0) hx hb dX1_disk_31 (by decide) ?_
      exact retP hx hb hr hlocks rfl (by unfold f1_disk; rw [if_neg c_1, if_pos c_7]) rfl dX1_disk_32
    · skip
      refine lv_iload_n hx hb dX1_disk_10 rfl (lv_at hl 2 rfl) ?_
      refine callSi (As := [.int x1]) (rest := []) (m1_eight l x1) ⟨hx, hb, hml, hown, hts⟩ (va_cwS 1 hts gX1_disk_X1_eight rfl rfl rfl (by decide +kernel) ⟨Nat.le_of_ble_eq_true rfl, Nat.le_of_ble_eq_true rfl⟩) rfl hl.1 rfl (Nat.le_of_ble_eq_true rfl) dX1_disk_11 ⟨Nat.zero_le _, Nat.zero_le _⟩ ?_
      refine lv_if_eq (tgt := 31) hx hb dX1_disk_14 (by decide) (fun c_14 => ?_) (fun c_14 => ?_)
      · skip
        refine lv_iconst (v := 0) hx hb dX1_disk_31 (by decide) ?_
        exact retP hx hb hr hlocks rfl (by unfold f1_disk; rw [if_neg c_1, if_neg c_7, if_pos c_14]) rfl dX1_disk_32
      · skip
        refine lv_aload_n hx hb dX1_disk_17 rfl (lv_at hl 0 rfl) ?_
        refine va_get (D := (dC, dI)) (ci := 1) (v := .ref h2) (C := RX1) (T := TX1) (N := 8) hx hb hts hin hown hK hP 0 rfl rfl 1 (by decide) (hts (.fieldLink RX1 13 "CapStoreModel" "disk" "[I") (by decide +kernel)) (fun _ h9 => h9) rfl dX1_disk_18 ?_
        refine lv_bipush (v := 8) hx hb dX1_disk_21 (by decide) ?_
        refine lv_iload_n hx hb dX1_disk_23 rfl (lv_at hl 1 rfl) ?_
        refine lv_imul hx hb dX1_disk_24 ?_
        refine lv_iload_n hx hb dX1_disk_25 rfl (lv_at hl 2 rfl) ?_
        refine lv_iadd hx hb dX1_disk_26 ?_
        refine va_iald hx hb hK hP 2 1 rfl rfl (sd1_disk c_1 c_7 c_14) dX1_disk_27 ?_
        refine lv_goto (tgt := 32) hx hb dX1_disk_28 (by decide) ?_
        exact retP hx hb hr hlocks rfl (by unfold f1_disk; rw [if_neg c_1, if_neg c_7, if_neg c_14]) rfl dX1_disk_32
set_option maxHeartbeats 4000000 in
set_option maxRecDepth 100000 in
theorem m1_put (l : Launch) (dC : Nat → ClassId) (dI : Nat → Nat → Nat) (h0 h1 h2 h3 : Nat) (c1 c2 c3 : ClassId) (sz : Nat) (mem dsk sto : Nat → Int32) (dn en pw wr cm : Int32) (x0 : Int32) (x1 : Int32) (x2 : Int32) (hi : vp_in (8 * x0 + x1) 96) (hj : vp_in x0 12) : Met l yX1_put wsX1_put ({ frames := 0, cells := 0, slots := 0, locals := 0 }) (pcW (dC, dI) (k1 c1 c2 c3) (w1 h0 h1 h2 h3 c1 c2 c3 (mem, dsk, sto, dn, en, pw, wr, cm)) sz [.ref h0, .int x0, .int x1, .int x2]) (qcWv (dC, dI) (k1 c1 c2 c3) (w1 h0 h1 h2 h3 c1 c2 c3 (mem, dsk, sto, dn, en, pw, wr, cm)) (w1 h0 h1 h2 h3 c1 c2 c3 (F1_put mem dsk sto dn en pw wr cm x0 x1 x2)) sz) 0 0 (va_A (w1 h0 h1 h2 h3 c1 c2 c3 (mem, dsk, sto, dn, en, pw, wr, cm)) sz) := by
  refine Met.ofW (cc := cX1_put) (maxL := 4) (ret := none) (by decide) rfl ?_
  intro p e s m args below meth c s₁ B hml hv
  obtain ⟨rfl, hsz, hP, hK, hD0⟩ := hv
  have hx := B.exec
  have hb := B.bytes
  have hr := B.returns
  have hts := atoms_spec (ws := wsX1_put) B.pre
  have hown : s.vm.findClass RX1 = some m.cls := findClass_of_methodNamed B.named
  have hlocks := B.notSynchronized
  have hin : ∀ w ∈ wsX10, w ∈ wsX1_put := fun _ h => List.mem_cons_of_mem _ (List.mem_append_right _ h)
  have hP : va_P (dC, dI) vwCl [(h0, .inr (1, [.ref h1, .ref h2, .ref h3, .int dn, .int en, .int pw, .int wr, .int cm])), (h1, .inl (c1, 96, .inl mem)), (h2, .inl (c2, 200, .inl dsk)), (h3, .inl (c3, 12, .inl sto))] s.heap := hP
  subst hsz
  have hD := hD0.self (sz := s.heap.size)
  have hA : ∀ q : Nat, s.heap.size ≤ q → (va_A (w1 h0 h1 h2 h3 c1 c2 c3 (mem, dsk, sto, dn, en, pw, wr, cm)) s.heap.size) q := fun q h => Or.inr h
  have hS : va_S (va_A (w1 h0 h1 h2 h3 c1 c2 c3 (mem, dsk, sto, dn, en, pw, wr, cm)) s.heap.size) s.heap s.heap [] := va_S.rf
  have hl := lv_entry ([.ref h0, .int x0, .int x1, .int x2]) (n := 4) (Nat.le_of_ble_eq_true rfl)
  rw [lg_entry_eq]
  generalize (lg_sl ([.ref h0, .int x0, .int x1, .int x2]) ++ List.replicate (4 - (lg_sl ([.ref h0, .int x0, .int x1, .int x2])).length) Slot.unset).toArray = ls at hl ⊢
  have hl : lv_has ls 4 [(0, .ref h0), (1, .int x0), (2, .int x1), (3, .int x2)] := hl
  refine lv_aload_n hx hb dX1_put_0 rfl (lv_at hl 0 rfl) ?_
  refine va_get (D := (dC, dI)) (ci := 1) (v := .ref h1) (C := RX1) (T := TX1) (N := 8) hx hb hts hin hown hK hP 0 rfl rfl 0 (by decide) (hts (.fieldLink RX1 7 "CapStoreModel" "memory" "[I") (by decide +kernel)) (fun _ h9 => h9) rfl dX1_put_1 ?_
  refine lv_bipush (v := 8) hx hb dX1_put_4 (by decide) ?_
  refine lv_iload_n hx hb dX1_put_6 rfl (lv_at hl 1 rfl) ?_
  refine lv_imul hx hb dX1_put_7 ?_
  refine lv_iload_n hx hb dX1_put_8 rfl (lv_at hl 2 rfl) ?_
  refine lv_iadd hx hb dX1_put_9 ?_
  refine lv_iload_n hx hb dX1_put_10 rfl (lv_at hl 3 rfl) ?_
  refine va_iast hx hb hK hP hD hS 1 0 rfl rfl hi dX1_put_11 (fun H locs hP hD hS => ?_)
  have hP : va_P (dC, dI) vwCl [(h0, .inr (1, [.ref h1, .ref h2, .ref h3, .int dn, .int en, .int pw, .int wr, .int cm])), (h1, .inl (c1, 96, .inl (upd mem ((8 * x0) + x1).toNatClampNeg x2))), (h2, .inl (c2, 200, .inl dsk)), (h3, .inl (c3, 12, .inl sto))] _ := hP
  have hD : va_D _ [(h0, .inr (1, [.ref h1, .ref h2, .ref h3, .int dn, .int en, .int pw, .int wr, .int cm])), (h1, .inl (c1, 96, .inl (upd mem ((8 * x0) + x1).toNatClampNeg x2))), (h2, .inl (c2, 200, .inl dsk)), (h3, .inl (c3, 12, .inl sto))] := hD
  refine lv_aload_n hx hb dX1_put_12 rfl (lv_at hl 0 rfl) ?_
  refine va_get (D := (dC, dI)) (ci := 1) (v := .ref h3) (C := RX1) (T := TX1) (N := 8) hx hb hts hin hown hK hP 0 rfl rfl 2 (by decide) (hts (.fieldLink RX1 16 "CapStoreModel" "stored" "[Z") (by decide +kernel)) (fun _ h9 => h9) rfl dX1_put_13 ?_
  refine lv_iload_n hx hb dX1_put_16 rfl (lv_at hl 1 rfl) ?_
  refine lv_iconst (v := 1) hx hb dX1_put_17 (by decide) ?_
  refine va_zast hx hb hK hP hD hS 3 2 rfl rfl hj dX1_put_18 (fun H locs hP hD hS => ?_)
  have hP : va_P (dC, dI) vwCl [(h0, .inr (1, [.ref h1, .ref h2, .ref h3, .int dn, .int en, .int pw, .int wr, .int cm])), (h1, .inl (c1, 96, .inl (upd mem ((8 * x0) + x1).toNatClampNeg x2))), (h2, .inl (c2, 200, .inl dsk)), (h3, .inl (c3, 12, .inl (upd sto x0.toNatClampNeg (vp_nar .boolean 1))))] _ := hP
  have hD : va_D _ [(h0, .inr (1, [.ref h1, .ref h2, .ref h3, .int dn, .int en, .int pw, .int wr, .int cm])), (h1, .inl (c1, 96, .inl (upd mem ((8 * x0) + x1).toNatClampNeg x2))), (h2, .inl (c2, 200, .inl dsk)), (h3, .inl (c3, 12, .inl (upd sto x0.toNatClampNeg (vp_nar .boolean 1))))] := hD
  have e9 : F1_put mem dsk sto dn en pw wr cm x0 x1 x2 = ((upd mem ((8 * x0) + x1).toNatClampNeg x2), dsk, (upd sto x0.toNatClampNeg (vp_nar .boolean 1)), dn, en, pw, wr, cm) := rfl
  rw [e9]
  exact retWv hx hb hr hlocks rfl hK hP hD hS dX1_put_19
set_option maxHeartbeats 4000000 in
set_option maxRecDepth 100000 in
theorem m1_place (l : Launch) (dC : Nat → ClassId) (dI : Nat → Nat → Nat) (h0 h1 h2 h3 : Nat) (c1 c2 c3 : ClassId) (sz : Nat) (mem dsk sto : Nat → Int32) (dn en pw wr cm : Int32) (x0 : Int32) (x1 : Int32) (x2 : Int32) : Met l yX1_place wsX1_place ({ frames := 1, cells := 0, slots := 0, locals := 23 }) (pcW (dC, dI) (k1 c1 c2 c3) (w1 h0 h1 h2 h3 c1 c2 c3 (mem, dsk, sto, dn, en, pw, wr, cm)) sz [.ref h0, .int x0, .int x1, .int x2]) (qcWi (dC, dI) (k1 c1 c2 c3) (w1 h0 h1 h2 h3 c1 c2 c3 (mem, dsk, sto, dn, en, pw, wr, cm)) (w1 h0 h1 h2 h3 c1 c2 c3 (F1_place mem dsk sto dn en pw wr cm x0 x1 x2).2) sz (F1_place mem dsk sto dn en pw wr cm x0 x1 x2).1) 0 0 (va_A (w1 h0 h1 h2 h3 c1 c2 c3 (mem, dsk, sto, dn, en, pw, wr, cm)) sz) := by
  refine Met.ofW (cc := cX1_place) (maxL := 4) (ret := (some .int)) (by decide) rfl ?_
  intro p e s m args below meth c s₁ B hml hv
  obtain ⟨rfl, hsz, hP, hK, hD0⟩ := hv
  have hx := B.exec
  have hb := B.bytes
  have hr := B.returns
  have hts := atoms_spec (ws := wsX1_place) B.pre
  have hown : s.vm.findClass RX1 = some m.cls := findClass_of_methodNamed B.named
  have hlocks := B.notSynchronized
  have hin : ∀ w ∈ wsX10, w ∈ wsX1_place := fun _ h => List.mem_cons_of_mem _ (List.mem_append_right _ h)
  have hP : va_P (dC, dI) vwCl [(h0, .inr (1, [.ref h1, .ref h2, .ref h3, .int dn, .int en, .int pw, .int wr, .int cm])), (h1, .inl (c1, 96, .inl mem)), (h2, .inl (c2, 200, .inl dsk)), (h3, .inl (c3, 12, .inl sto))] s.heap := hP
  subst hsz
  have hD := hD0.self (sz := s.heap.size)
  have hA : ∀ q : Nat, s.heap.size ≤ q → (va_A (w1 h0 h1 h2 h3 c1 c2 c3 (mem, dsk, sto, dn, en, pw, wr, cm)) s.heap.size) q := fun q h => Or.inr h
  have hS : va_S (va_A (w1 h0 h1 h2 h3 c1 c2 c3 (mem, dsk, sto, dn, en, pw, wr, cm)) s.heap.size) s.heap s.heap [] := va_S.rf
  have hl := lv_entry ([.ref h0, .int x0, .int x1, .int x2]) (n := 4) (Nat.le_of_ble_eq_true rfl)
  rw [lg_entry_eq]
  generalize (lg_sl ([.ref h0, .int x0, .int x1, .int x2]) ++ List.replicate (4 - (lg_sl ([.ref h0, .int x0, .int x1, .int x2])).length) Slot.unset).toArray = ls at hl ⊢
  have hl : lv_has ls 4 [(0, .ref h0), (1, .int x0), (2, .int x1), (3, .int x2)] := hl
  refine lv_aload_n hx hb dX1_place_0 rfl (lv_at hl 0 rfl) ?_
  refine va_get (D := (dC, dI)) (ci := 1) (v := .int dn) (C := RX1) (T := TX1) (N := 8) hx hb hts hin hown hK hP 0 rfl rfl 3 (by decide) (hts (.fieldLink RX1 28 "CapStoreModel" "down" "Z") (by decide +kernel)) (fun _ h9 => h9) rfl dX1_place_1 ?_
  refine lv_if_eq (tgt := 9) hx hb dX1_place_4 (by decide) (fun c_4 => ?_) (fun c_4 => ?_)
  · skip
    refine lv_iload_n hx hb dX1_place_9 rfl (lv_at hl 1 rfl) ?_
    refine callSi (As := [.int x0]) (rest := []) (m1_eight l x0) ⟨hx, hb, hml, hown, hts⟩ (va_cwS 1 hts gX1_place_X1_eight rfl rfl rfl (by decide +kernel) ⟨Nat.le_of_ble_eq_true rfl, Nat.le_of_ble_eq_true rfl⟩) rfl hl.1 rfl (Nat.le_of_ble_eq_true rfl) dX1_place_10 ⟨Nat.zero_le _, Nat.zero_le _⟩ ?_
    refine lv_if_eq (tgt := 33) hx hb dX1_place_13 (by decide) (fun c_13 => ?_) (fun c_13 => ?_)
    · skip
      refine lv_bipush (v := (-2)) hx hb dX1_place_33 (by decide) ?_
      have e9 : F1_place mem dsk sto dn en pw wr cm x0 x1 x2 = ((-2), mem, dsk, sto, dn, en, pw, wr, cm) := by unfold F1_place; rw [if_pos c_4, if_pos c_13]
      rw [e9]
      exact retWi hx hb hr hlocks rfl rfl rfl hK hP hD hS dX1_place_35
    · skip
      refine lv_iload_n hx hb dX1_place_16 rfl (lv_at hl 2 rfl) ?_
      refine callSi (As := [.int x1]) (rest := []) (m1_eight l x1) ⟨hx, hb, hml, hown, hts⟩ (va_cwS 1 hts gX1_place_X1_eight rfl rfl rfl (by decide +kernel) ⟨Nat.le_of_ble_eq_true rfl, Nat.le_of_ble_eq_true rfl⟩) rfl hl.1 rfl (Nat.le_of_ble_eq_true rfl) dX1_place_17 ⟨Nat.zero_le _, Nat.zero_le _⟩ ?_
      refine lv_if_eq (tgt := 33) hx hb dX1_place_20 (by decide) (fun c_20 => ?_) (fun c_20 => ?_)
      · skip
        refine lv_bipush (v := (-2)) hx hb dX1_place_33 (by decide) ?_
        have e9 : F1_place mem dsk sto dn en pw wr cm x0 x1 x2 = ((-2), mem, dsk, sto, dn, en, pw, wr, cm) := by unfold F1_place; rw [if_pos c_4, if_neg c_13, if_pos c_20]
        rw [e9]
        exact retWi hx hb hr hlocks rfl rfl rfl hK hP hD hS dX1_place_35
      · skip
        refine lv_iload_n hx hb dX1_place_23 rfl (lv_at hl 3 rfl) ?_
        refine lv_if_lt (tgt := 33) hx hb dX1_place_24 (by decide) (fun c_24 => ?_) (fun c_24 => ?_)
        · skip
          refine lv_bipush (v := (-2)) hx hb dX1_place_33 (by decide) ?_
          have e9 : F1_place mem dsk sto dn en pw wr cm x0 x1 x2 = ((-2), mem, dsk, sto, dn, en, pw, wr, cm) := by unfold F1_place; rw [if_pos c_4, if_neg c_13, if_neg c_20, if_pos c_24]
          rw [e9]
          exact retWi hx hb hr hlocks rfl rfl rfl hK hP hD hS dX1_place_35
        · skip
          refine lv_iload_n hx hb dX1_place_27 rfl (lv_at hl 3 rfl) ?_
          refine lv_bipush (v := 48) hx hb dX1_place_28 (by decide) ?_
          refine lv_icmp_le (tgt := 36) hx hb dX1_place_30 (by decide) (fun c_30 => ?_) (fun c_30 => ?_)
          · skip
            refine lv_aload_n hx hb dX1_place_36 rfl (lv_at hl 0 rfl) ?_
            refine lv_iload_n hx hb dX1_place_37 rfl (lv_at hl 1 rfl) ?_
            refine lv_iload_n hx hb dX1_place_38 rfl (lv_at hl 2 rfl) ?_
            refine lv_iload_n hx hb dX1_place_39 rfl (lv_at hl 3 rfl) ?_
            refine callWv (q := (RX1, TX1, 8)) (ci := 1) (q0 := 0) (As := [.int x0, .int x1, .int x2]) (rest := []) (wr := []) (m1_put l dC dI h0 h1 h2 h3 c1 c2 c3 _ mem dsk sto dn en pw wr cm x0 x1 x2 (sd1_key c_13 c_20) (sd1_k12 c_13)) ⟨hx, hb, hml, hown, hts⟩ (cwV 3 hts gX1_place_X1_put rfl rfl rfl (by decide +kernel) ⟨Nat.le_of_ble_eq_true rfl, Nat.le_of_ble_eq_true rfl⟩) hK hP hD hS hA rfl rfl [0, 1, 2, 3] [] rfl rfl rfl (by decide) (by decide) (by decide) rfl hl.1 rfl (Nat.le_of_ble_eq_true rfl) dX1_place_40 ⟨Nat.zero_le _, Nat.zero_le _⟩ (fun H locs hP hD hS => ?_)
            have hP : va_P (dC, dI) vwCl [(h0, .inr (1, [.ref h1, .ref h2, .ref h3, .int dn, .int en, .int pw, .int wr, .int cm])), (h1, .inl (c1, 96, .inl (upd mem ((8 * x0) + x1).toNatClampNeg x2))), (h2, .inl (c2, 200, .inl dsk)), (h3, .inl (c3, 12, .inl (upd sto x0.toNatClampNeg (vp_nar .boolean 1))))] _ := hP
            have hD : va_D _ [(h0, .inr (1, [.ref h1, .ref h2, .ref h3, .int dn, .int en, .int pw, .int wr, .int cm])), (h1, .inl (c1, 96, .inl (upd mem ((8 * x0) + x1).toNatClampNeg x2))), (h2, .inl (c2, 200, .inl dsk)), (h3, .inl (c3, 12, .inl (upd sto x0.toNatClampNeg (vp_nar .boolean 1))))] := hD
            refine lv_iconst (v := 0) hx hb dX1_place_43 (by decide) ?_
            have e9 : F1_place mem dsk sto dn en pw wr cm x0 x1 x2 = (0, (upd mem ((8 * x0) + x1).toNatClampNeg x2), dsk, (upd sto x0.toNatClampNeg (vp_nar .boolean 1)), dn, en, pw, wr, cm) := by unfold F1_place; rw [if_pos c_4, if_neg c_13, if_neg c_20, if_neg c_24, if_pos c_30]
            rw [e9]
            exact retWi hx hb hr hlocks rfl rfl rfl hK hP hD hS dX1_place_44
          · skip
            refine lv_bipush (v := (-2)) hx hb dX1_place_33 (by decide) ?_
            have e9 : F1_place mem dsk sto dn en pw wr cm x0 x1 x2 = ((-2), mem, dsk, sto, dn, en, pw, wr, cm) := by unfold F1_place; rw [if_pos c_4, if_neg c_13, if_neg c_20, if_neg c_24, if_neg c_30]
            rw [e9]
            exact retWi hx hb hr hlocks rfl rfl rfl hK hP hD hS dX1_place_35
  · skip
    refine lv_iconst (v := (-1)) hx hb dX1_place_7 (by decide) ?_
    have e9 : F1_place mem dsk sto dn en pw wr cm x0 x1 x2 = ((-1), mem, dsk, sto, dn, en, pw, wr, cm) := by unfold F1_place; rw [if_neg c_4]
    rw [e9]
    exact retWi hx hb hr hlocks rfl rfl rfl hK hP hD hS dX1_place_8
set_option maxHeartbeats 4000000 in
set_option maxRecDepth 100000 in
theorem m1_fetch (l : Launch) (dC : Nat → ClassId) (dI : Nat → Nat → Nat) (h0 h1 h2 h3 : Nat) (c1 c2 c3 : ClassId) (sz : Nat) (mem dsk sto : Nat → Int32) (dn en pw wr cm : Int32) (x0 : Int32) (x1 : Int32) (x2 : Int32) (x3 : Int32) (hk : KI mem) : Met l yX1_fetch wsX1_fetch ({ frames := 2, cells := 0, slots := 0, locals := 47 }) (pcW (dC, dI) (k1 c1 c2 c3) (w1 h0 h1 h2 h3 c1 c2 c3 (mem, dsk, sto, dn, en, pw, wr, cm)) sz [.ref h0, .int x0, .int x1, .int x2, .int x3]) (qcWi (dC, dI) (k1 c1 c2 c3) (w1 h0 h1 h2 h3 c1 c2 c3 (mem, dsk, sto, dn, en, pw, wr, cm)) (w1 h0 h1 h2 h3 c1 c2 c3 (F1_fetch mem dsk sto dn en pw wr cm x0 x1 x2 x3).2) sz (F1_fetch mem dsk sto dn en pw wr cm x0 x1 x2 x3).1) 0 0 (va_A (w1 h0 h1 h2 h3 c1 c2 c3 (mem, dsk, sto, dn, en, pw, wr, cm)) sz) := by
  refine Met.ofW (cc := cX1_fetch) (maxL := 8) (ret := (some .int)) (by decide) rfl ?_
  intro p e s m args below meth c s₁ B hml hv
  obtain ⟨rfl, hsz, hP, hK, hD0⟩ := hv
  have hx := B.exec
  have hb := B.bytes
  have hr := B.returns
  have hts := atoms_spec (ws := wsX1_fetch) B.pre
  have hown : s.vm.findClass RX1 = some m.cls := findClass_of_methodNamed B.named
  have hlocks := B.notSynchronized
  have hin : ∀ w ∈ wsX10, w ∈ wsX1_fetch := fun _ h => List.mem_cons_of_mem _ (List.mem_append_right _ h)
  have hP : va_P (dC, dI) vwCl [(h0, .inr (1, [.ref h1, .ref h2, .ref h3, .int dn, .int en, .int pw, .int wr, .int cm])), (h1, .inl (c1, 96, .inl mem)), (h2, .inl (c2, 200, .inl dsk)), (h3, .inl (c3, 12, .inl sto))] s.heap := hP
  subst hsz
  have hD := hD0.self (sz := s.heap.size)
  have hA : ∀ q : Nat, s.heap.size ≤ q → (va_A (w1 h0 h1 h2 h3 c1 c2 c3 (mem, dsk, sto, dn, en, pw, wr, cm)) s.heap.size) q := fun q h => Or.inr h
  have hS : va_S (va_A (w1 h0 h1 h2 h3 c1 c2 c3 (mem, dsk, sto, dn, en, pw, wr, cm)) s.heap.size) s.heap s.heap [] := va_S.rf
  have hl := lv_entry ([.ref h0, .int x0, .int x1, .int x2, .int x3]) (n := 8) (Nat.le_of_ble_eq_true rfl)
  rw [lg_entry_eq]
  generalize (lg_sl ([.ref h0, .int x0, .int x1, .int x2, .int x3]) ++ List.replicate (8 - (lg_sl ([.ref h0, .int x0, .int x1, .int x2, .int x3])).length) Slot.unset).toArray = ls at hl ⊢
  have hl : lv_has ls 8 [(0, .ref h0), (1, .int x0), (2, .int x1), (3, .int x2), (4, .int x3)] := hl
  refine lv_aload_n hx hb dX1_fetch_0 rfl (lv_at hl 0 rfl) ?_
  refine lv_iload_n hx hb dX1_fetch_1 rfl (lv_at hl 1 rfl) ?_
  refine lv_iload_n hx hb dX1_fetch_2 rfl (lv_at hl 2 rfl) ?_
  refine lv_iload_n hx hb dX1_fetch_3 rfl (lv_at hl 3 rfl) ?_
  refine lv_iconst (v := 0) hx hb dX1_fetch_4 (by decide) ?_
  refine lv_iconst (v := 0) hx hb dX1_fetch_5 (by decide) ?_
  refine callRi (q := (RX1, TX1, 8)) (ci := 1) (q0 := 0) (As := [.int x0, .int x1, .int x2, .int 0, .int 0]) (rest := []) (m1_refusal l dC dI h0 h1 h2 h3 c1 c2 c3 mem dsk sto dn en pw wr cm x0 x1 x2 0 0 ) ⟨hx, hb, hml, hown, hts⟩ (cwV 5 hts gX1_fetch_X1_refusal rfl rfl rfl (by decide +kernel) ⟨Nat.le_of_ble_eq_true rfl, Nat.le_of_ble_eq_true rfl⟩) hK hP rfl rfl rfl hl.1 rfl (Nat.le_of_ble_eq_true rfl) dX1_fetch_6 ⟨Nat.zero_le _, Nat.zero_le _⟩ ?_
  refine lv_istore (lv' := [(5, .int (f1_refusal mem dsk sto dn en pw wr cm x0 x1 x2 0 0)), (0, .ref h0), (1, .int x0), (2, .int x1), (3, .int x2), (4, .int x3)]) hx hb dX1_fetch_9 hl (by decide) rfl (fun ls hl => ?_)
  refine lv_iload hx hb dX1_fetch_11 (lv_at hl 0 rfl) ?_
  refine lv_iconst (v := (-1)) hx hb dX1_fetch_13 (by decide) ?_
  refine lv_icmp_eq (tgt := 29) hx hb dX1_fetch_14 (by decide) (fun c_14 => ?_) (fun c_14 => ?_)
  · skip
    refine lv_iload hx hb dX1_fetch_29 (lv_at hl 0 rfl) ?_
    refine lv_if_eq (tgt := 37) hx hb dX1_fetch_31 (by decide) (fun c_31 => ?_) (fun c_31 => ?_)
    · skip
      exact absurd c_31 (by rw [c_14]; decide)
    · skip
      refine lv_iload hx hb dX1_fetch_34 (lv_at hl 0 rfl) ?_
      have e9 : F1_fetch mem dsk sto dn en pw wr cm x0 x1 x2 x3 = ((f1_refusal mem dsk sto dn en pw wr cm x0 x1 x2 0 0), mem, dsk, sto, dn, en, pw, wr, cm) := by unfold F1_fetch; rw [if_pos c_14]
      rw [e9]
      exact retWi hx hb hr hlocks rfl rfl rfl hK hP hD hS dX1_fetch_36
  · skip
    refine lv_iload hx hb dX1_fetch_17 (lv_at hl 5 rfl) ?_
    refine callSi (As := [.int x3]) (rest := []) (m1_eight l x3) ⟨hx, hb, hml, hown, hts⟩ (va_cwS 1 hts gX1_fetch_X1_eight rfl rfl rfl (by decide +kernel) ⟨Nat.le_of_ble_eq_true rfl, Nat.le_of_ble_eq_true rfl⟩) rfl hl.1 rfl (Nat.le_of_ble_eq_true rfl) dX1_fetch_19 ⟨Nat.zero_le _, Nat.zero_le _⟩ ?_
    refine lv_if_ne (tgt := 29) hx hb dX1_fetch_22 (by decide) (fun c_22 => ?_) (fun c_22 => ?_)
    · skip
      refine lv_iload hx hb dX1_fetch_29 (lv_at hl 0 rfl) ?_
      refine lv_if_eq (tgt := 37) hx hb dX1_fetch_31 (by decide) (fun c_31 => ?_) (fun c_31 => ?_)
      · skip
        refine lv_aload_n hx hb dX1_fetch_37 rfl (lv_at hl 1 rfl) ?_
        refine va_get (D := (dC, dI)) (ci := 1) (v := .ref h1) (C := RX1) (T := TX1) (N := 8) hx hb hts hin hown hK hP 0 rfl rfl 0 (by decide) (hts (.fieldLink RX1 7 "CapStoreModel" "memory" "[I") (by decide +kernel)) (fun _ h9 => h9) rfl dX1_fetch_38 ?_
        refine lv_bipush (v := 8) hx hb dX1_fetch_41 (by decide) ?_
        refine lv_iload_n hx hb dX1_fetch_43 rfl (lv_at hl 2 rfl) ?_
        refine lv_imul hx hb dX1_fetch_44 ?_
        refine lv_iload_n hx hb dX1_fetch_45 rfl (lv_at hl 3 rfl) ?_
        refine lv_iadd hx hb dX1_fetch_46 ?_
        refine va_iald hx hb hK hP 1 0 rfl rfl (sd1_r1 c_31) dX1_fetch_47 ?_
        refine lv_istore (lv' := [(6, .int (mem ((8 * x0) + x1).toNatClampNeg)), (5, .int (f1_refusal mem dsk sto dn en pw wr cm x0 x1 x2 0 0)), (0, .ref h0), (1, .int x0), (2, .int x1), (3, .int x2), (4, .int x3)]) hx hb dX1_fetch_48 hl (by decide) rfl (fun ls hl => ?_)
        refine lv_aload_n hx hb dX1_fetch_50 rfl (lv_at hl 2 rfl) ?_
        refine va_get (D := (dC, dI)) (ci := 1) (v := .ref h1) (C := RX1) (T := TX1) (N := 8) hx hb hts hin hown hK hP 0 rfl rfl 0 (by decide) (hts (.fieldLink RX1 7 "CapStoreModel" "memory" "[I") (by decide +kernel)) (fun _ h9 => h9) rfl dX1_fetch_51 ?_
        refine lv_bipush (v := 8) hx hb dX1_fetch_54 (by decide) ?_
        refine lv_iload hx hb dX1_fetch_56 (lv_at hl 0 rfl) ?_
        refine callSi (As := [.int (mem ((8 * x0) + x1).toNatClampNeg)]) (rest := [.int 8, .ref h1]) (m1_object l (mem ((8 * x0) + x1).toNatClampNeg)) ⟨hx, hb, hml, hown, hts⟩ (va_cwS 1 hts gX1_fetch_X1_object rfl rfl rfl (by decide +kernel) ⟨Nat.le_of_ble_eq_true rfl, Nat.le_of_ble_eq_true rfl⟩) rfl hl.1 rfl (Nat.le_of_ble_eq_true rfl) dX1_fetch_58 ⟨Nat.zero_le _, Nat.zero_le _⟩ ?_
        refine lv_imul hx hb dX1_fetch_61 ?_
        refine lv_iload_n hx hb dX1_fetch_62 rfl (lv_at hl 5 rfl) ?_
        refine lv_iadd hx hb dX1_fetch_63 ?_
        refine va_iald hx hb hK hP 1 0 rfl rfl (sd1_n hk c_31) dX1_fetch_64 ?_
        refine lv_istore (lv' := [(7, .int (mem ((8 * (f1_object (mem ((8 * x0) + x1).toNatClampNeg))) + x2).toNatClampNeg)), (6, .int (mem ((8 * x0) + x1).toNatClampNeg)), (5, .int (f1_refusal mem dsk sto dn en pw wr cm x0 x1 x2 0 0)), (0, .ref h0), (1, .int x0), (2, .int x1), (3, .int x2), (4, .int x3)]) hx hb dX1_fetch_65 hl (by decide) rfl (fun ls hl => ?_)
        refine w_cut 91 [.int x3, .int x0, .ref h0] (z1_fetch_91 mem x0 x1 x2) (fun z ez => ?_) (fun K => ?_)
        · subst ez
          refine callWv (q := (RX1, TX1, 8)) (ci := 1) (q0 := 0) (As := [.int x0, .int x3, .int (z1_fetch_91 mem x0 x1 x2)]) (rest := []) (wr := []) (m1_put l dC dI h0 h1 h2 h3 c1 c2 c3 _ mem dsk sto dn en pw wr cm x0 x3 (z1_fetch_91 mem x0 x1 x2) (sd1_f3 c_31 c_22) (sd1_f4 c_31)) ⟨hx, hb, hml, hown, hts⟩ (cwV 3 hts gX1_fetch_X1_put rfl rfl rfl (by decide +kernel) ⟨Nat.le_of_ble_eq_true rfl, Nat.le_of_ble_eq_true rfl⟩) hK hP hD hS hA rfl rfl [0, 1, 2, 3] [] rfl rfl rfl (by decide) (by decide) (by decide) rfl hl.1 rfl (Nat.le_of_ble_eq_true rfl) dX1_fetch_91 ⟨Nat.zero_le _, Nat.zero_le _⟩ (fun H locs hP hD hS => ?_)
          have hP : va_P (dC, dI) vwCl [(h0, .inr (1, [.ref h1, .ref h2, .ref h3, .int dn, .int en, .int pw, .int wr, .int cm])), (h1, .inl (c1, 96, .inl (upd mem ((8 * x0) + x3).toNatClampNeg (z1_fetch_91 mem x0 x1 x2)))), (h2, .inl (c2, 200, .inl dsk)), (h3, .inl (c3, 12, .inl (upd sto x0.toNatClampNeg (vp_nar .boolean 1))))] _ := hP
          have hD : va_D _ [(h0, .inr (1, [.ref h1, .ref h2, .ref h3, .int dn, .int en, .int pw, .int wr, .int cm])), (h1, .inl (c1, 96, .inl (upd mem ((8 * x0) + x3).toNatClampNeg (z1_fetch_91 mem x0 x1 x2)))), (h2, .inl (c2, 200, .inl dsk)), (h3, .inl (c3, 12, .inl (upd sto x0.toNatClampNeg (vp_nar .boolean 1))))] := hD
          refine lv_iconst (v := 0) hx hb dX1_fetch_94 (by decide) ?_
          have e9 : F1_fetch mem dsk sto dn en pw wr cm x0 x1 x2 x3 = (0, (upd mem ((8 * x0) + x3).toNatClampNeg (z1_fetch_91 mem x0 x1 x2)), dsk, (upd sto x0.toNatClampNeg (vp_nar .boolean 1)), dn, en, pw, wr, cm) := by unfold F1_fetch; rw [if_neg c_14, if_neg c_22, if_pos c_31]
          rw [e9]
          exact retWi hx hb hr hlocks rfl rfl rfl hK hP hD hS dX1_fetch_95
        · skip
          refine lv_aload_n hx hb dX1_fetch_67 rfl (lv_at hl 3 rfl) ?_
          refine lv_iload_n hx hb dX1_fetch_68 rfl (lv_at hl 4 rfl) ?_
          refine lv_iload hx hb dX1_fetch_69 (lv_at hl 7 rfl) ?_
          refine lv_iload hx hb dX1_fetch_71 (lv_at hl 1 rfl) ?_
          refine callSi (As := [.int (mem ((8 * x0) + x1).toNatClampNeg)]) (rest := [.int x3, .int x0, .ref h0]) (m1_limits l (mem ((8 * x0) + x1).toNatClampNeg)) ⟨hx, hb, hml, hown, hts⟩ (va_cwS 1 hts gX1_fetch_X1_limits rfl rfl rfl (by decide +kernel) ⟨Nat.le_of_ble_eq_true rfl, Nat.le_of_ble_eq_true rfl⟩) rfl hl.1 rfl (Nat.le_of_ble_eq_true rfl) dX1_fetch_73 ⟨Nat.zero_le _, Nat.zero_le _⟩ ?_
          refine lv_iconst (v := 2) hx hb dX1_fetch_76 (by decide) ?_
          refine lv_icmp_lt (tgt := 89) hx hb dX1_fetch_77 (by decide) (fun c_77 => ?_) (fun c_77 => ?_)
          · skip
            refine lv_iload hx hb dX1_fetch_89 (lv_at hl 0 rfl) ?_
            exact K (mem ((8 * (f1_object (mem ((8 * x0) + x1).toNatClampNeg))) + x2).toNatClampNeg) (by unfold z1_fetch_91; rw [if_pos c_77])
          · skip
            refine lv_iload hx hb dX1_fetch_80 (lv_at hl 0 rfl) ?_
            refine lv_iconst (v := 3) hx hb dX1_fetch_82 (by decide) ?_
            refine callSi (As := [.int (mem ((8 * (f1_object (mem ((8 * x0) + x1).toNatClampNeg))) + x2).toNatClampNeg), .int 3]) (rest := [.int x3, .int x0, .ref h0]) (m1_limited l (mem ((8 * (f1_object (mem ((8 * x0) + x1).toNatClampNeg))) + x2).toNatClampNeg) 3) ⟨hx, hb, hml, hown, hts⟩ (va_cwS 2 hts gX1_fetch_X1_limited rfl rfl rfl (by decide +kernel) ⟨Nat.le_of_ble_eq_true rfl, Nat.le_of_ble_eq_true rfl⟩) rfl hl.1 rfl (Nat.le_of_ble_eq_true rfl) dX1_fetch_83 ⟨Nat.zero_le _, Nat.zero_le _⟩ ?_
            refine lv_goto (tgt := 91) hx hb dX1_fetch_86 (by decide) ?_
            exact K (f1_limited (mem ((8 * (f1_object (mem ((8 * x0) + x1).toNatClampNeg))) + x2).toNatClampNeg) 3) (by unfold z1_fetch_91; rw [if_neg c_77])
      · skip
        refine lv_iload hx hb dX1_fetch_34 (lv_at hl 0 rfl) ?_
        have e9 : F1_fetch mem dsk sto dn en pw wr cm x0 x1 x2 x3 = ((f1_refusal mem dsk sto dn en pw wr cm x0 x1 x2 0 0), mem, dsk, sto, dn, en, pw, wr, cm) := by unfold F1_fetch; rw [if_neg c_14, if_neg c_22, if_neg c_31]
        rw [e9]
        exact retWi hx hb hr hlocks rfl rfl rfl hK hP hD hS dX1_fetch_36
    · skip
      refine lv_bipush (v := (-2)) hx hb dX1_fetch_25 (by decide) ?_
      refine lv_istore (lv' := [(5, .int (-2)), (0, .ref h0), (1, .int x0), (2, .int x1), (3, .int x2), (4, .int x3)]) hx hb dX1_fetch_27 hl (by decide) rfl (fun ls hl => ?_)
      refine lv_iload hx hb dX1_fetch_29 (lv_at hl 0 rfl) ?_
      refine lv_if_eq (tgt := 37) hx hb dX1_fetch_31 (by decide) (fun c_31 => ?_) (fun c_31 => ?_)
      · skip
        exact absurd c_31 (by decide)
      · skip
        refine lv_iload hx hb dX1_fetch_34 (lv_at hl 0 rfl) ?_
        have e9 : F1_fetch mem dsk sto dn en pw wr cm x0 x1 x2 x3 = ((-2), mem, dsk, sto, dn, en, pw, wr, cm) := by unfold F1_fetch; rw [if_neg c_14, if_pos c_22]
        rw [e9]
        exact retWi hx hb hr hlocks rfl rfl rfl hK hP hD hS dX1_fetch_36
set_option maxHeartbeats 4000000 in
set_option maxRecDepth 100000 in
theorem m1_store (l : Launch) (dC : Nat → ClassId) (dI : Nat → Nat → Nat) (h0 h1 h2 h3 : Nat) (c1 c2 c3 : ClassId) (sz : Nat) (mem dsk sto : Nat → Int32) (dn en pw wr cm : Int32) (x0 : Int32) (x1 : Int32) (x2 : Int32) (x3 : Int32) (hk : KI mem) : Met l yX1_store wsX1_store ({ frames := 2, cells := 0, slots := 0, locals := 47 }) (pcW (dC, dI) (k1 c1 c2 c3) (w1 h0 h1 h2 h3 c1 c2 c3 (mem, dsk, sto, dn, en, pw, wr, cm)) sz [.ref h0, .int x0, .int x1, .int x2, .int x3]) (qcWi (dC, dI) (k1 c1 c2 c3) (w1 h0 h1 h2 h3 c1 c2 c3 (mem, dsk, sto, dn, en, pw, wr, cm)) (w1 h0 h1 h2 h3 c1 c2 c3 (F1_store mem dsk sto dn en pw wr cm x0 x1 x2 x3).2) sz (F1_store mem dsk sto dn en pw wr cm x0 x1 x2 x3).1) 0 0 (va_A (w1 h0 h1 h2 h3 c1 c2 c3 (mem, dsk, sto, dn, en, pw, wr, cm)) sz) := by
  refine Met.ofW (cc := cX1_store) (maxL := 6) (ret := (some .int)) (by decide) rfl ?_
  intro p e s m args below meth c s₁ B hml hv
  obtain ⟨rfl, hsz, hP, hK, hD0⟩ := hv
  have hx := B.exec
  have hb := B.bytes
  have hr := B.returns
  have hts := atoms_spec (ws := wsX1_store) B.pre
  have hown : s.vm.findClass RX1 = some m.cls := findClass_of_methodNamed B.named
  have hlocks := B.notSynchronized
  have hin : ∀ w ∈ wsX10, w ∈ wsX1_store := fun _ h => List.mem_cons_of_mem _ (List.mem_append_right _ h)
  have hP : va_P (dC, dI) vwCl [(h0, .inr (1, [.ref h1, .ref h2, .ref h3, .int dn, .int en, .int pw, .int wr, .int cm])), (h1, .inl (c1, 96, .inl mem)), (h2, .inl (c2, 200, .inl dsk)), (h3, .inl (c3, 12, .inl sto))] s.heap := hP
  subst hsz
  have hD := hD0.self (sz := s.heap.size)
  have hA : ∀ q : Nat, s.heap.size ≤ q → (va_A (w1 h0 h1 h2 h3 c1 c2 c3 (mem, dsk, sto, dn, en, pw, wr, cm)) s.heap.size) q := fun q h => Or.inr h
  have hS : va_S (va_A (w1 h0 h1 h2 h3 c1 c2 c3 (mem, dsk, sto, dn, en, pw, wr, cm)) s.heap.size) s.heap s.heap [] := va_S.rf
  have hl := lv_entry ([.ref h0, .int x0, .int x1, .int x2, .int x3]) (n := 6) (Nat.le_of_ble_eq_true rfl)
  rw [lg_entry_eq]
  generalize (lg_sl ([.ref h0, .int x0, .int x1, .int x2, .int x3]) ++ List.replicate (6 - (lg_sl ([.ref h0, .int x0, .int x1, .int x2, .int x3])).length) Slot.unset).toArray = ls at hl ⊢
  have hl : lv_has ls 6 [(0, .ref h0), (1, .int x0), (2, .int x1), (3, .int x2), (4, .int x3)] := hl
  refine lv_aload_n hx hb dX1_store_0 rfl (lv_at hl 0 rfl) ?_
  refine lv_iload_n hx hb dX1_store_1 rfl (lv_at hl 1 rfl) ?_
  refine lv_iload_n hx hb dX1_store_2 rfl (lv_at hl 2 rfl) ?_
  refine lv_iload_n hx hb dX1_store_3 rfl (lv_at hl 3 rfl) ?_
  refine lv_iconst (v := 0) hx hb dX1_store_4 (by decide) ?_
  refine lv_iconst (v := 1) hx hb dX1_store_5 (by decide) ?_
  refine callRi (q := (RX1, TX1, 8)) (ci := 1) (q0 := 0) (As := [.int x0, .int x1, .int x2, .int 0, .int 1]) (rest := []) (m1_refusal l dC dI h0 h1 h2 h3 c1 c2 c3 mem dsk sto dn en pw wr cm x0 x1 x2 0 1 ) ⟨hx, hb, hml, hown, hts⟩ (cwV 5 hts gX1_store_X1_refusal rfl rfl rfl (by decide +kernel) ⟨Nat.le_of_ble_eq_true rfl, Nat.le_of_ble_eq_true rfl⟩) hK hP rfl rfl rfl hl.1 rfl (Nat.le_of_ble_eq_true rfl) dX1_store_6 ⟨Nat.zero_le _, Nat.zero_le _⟩ ?_
  refine lv_istore (lv' := [(5, .int (f1_refusal mem dsk sto dn en pw wr cm x0 x1 x2 0 1)), (0, .ref h0), (1, .int x0), (2, .int x1), (3, .int x2), (4, .int x3)]) hx hb dX1_store_9 hl (by decide) rfl (fun ls hl => ?_)
  refine lv_iload hx hb dX1_store_11 (lv_at hl 0 rfl) ?_
  refine lv_iconst (v := (-1)) hx hb dX1_store_13 (by decide) ?_
  refine lv_icmp_eq (tgt := 29) hx hb dX1_store_14 (by decide) (fun c_14 => ?_) (fun c_14 => ?_)
  · skip
    refine lv_iload hx hb dX1_store_29 (lv_at hl 0 rfl) ?_
    refine lv_if_eq (tgt := 37) hx hb dX1_store_31 (by decide) (fun c_31 => ?_) (fun c_31 => ?_)
    · skip
      exact absurd c_31 (by rw [c_14]; decide)
    · skip
      refine lv_iload hx hb dX1_store_34 (lv_at hl 0 rfl) ?_
      have e9 : F1_store mem dsk sto dn en pw wr cm x0 x1 x2 x3 = ((f1_refusal mem dsk sto dn en pw wr cm x0 x1 x2 0 1), mem, dsk, sto, dn, en, pw, wr, cm) := by unfold F1_store; rw [if_pos c_14]
      rw [e9]
      exact retWi hx hb hr hlocks rfl rfl rfl hK hP hD hS dX1_store_36
  · skip
    refine lv_iload hx hb dX1_store_17 (lv_at hl 5 rfl) ?_
    refine callSi (As := [.int x3]) (rest := []) (m1_eight l x3) ⟨hx, hb, hml, hown, hts⟩ (va_cwS 1 hts gX1_store_X1_eight rfl rfl rfl (by decide +kernel) ⟨Nat.le_of_ble_eq_true rfl, Nat.le_of_ble_eq_true rfl⟩) rfl hl.1 rfl (Nat.le_of_ble_eq_true rfl) dX1_store_19 ⟨Nat.zero_le _, Nat.zero_le _⟩ ?_
    refine lv_if_ne (tgt := 29) hx hb dX1_store_22 (by decide) (fun c_22 => ?_) (fun c_22 => ?_)
    · skip
      refine lv_iload hx hb dX1_store_29 (lv_at hl 0 rfl) ?_
      refine lv_if_eq (tgt := 37) hx hb dX1_store_31 (by decide) (fun c_31 => ?_) (fun c_31 => ?_)
      · skip
        refine lv_aload_n hx hb dX1_store_37 rfl (lv_at hl 1 rfl) ?_
        refine lv_aload_n hx hb dX1_store_38 rfl (lv_at hl 1 rfl) ?_
        refine va_get (D := (dC, dI)) (ci := 1) (v := .ref h1) (C := RX1) (T := TX1) (N := 8) hx hb hts hin hown hK hP 0 rfl rfl 0 (by decide) (hts (.fieldLink RX1 7 "CapStoreModel" "memory" "[I") (by decide +kernel)) (fun _ h9 => h9) rfl dX1_store_39 ?_
        refine lv_bipush (v := 8) hx hb dX1_store_42 (by decide) ?_
        refine lv_iload_n hx hb dX1_store_44 rfl (lv_at hl 2 rfl) ?_
        refine lv_imul hx hb dX1_store_45 ?_
        refine lv_iload_n hx hb dX1_store_46 rfl (lv_at hl 3 rfl) ?_
        refine lv_iadd hx hb dX1_store_47 ?_
        refine va_iald hx hb hK hP 1 0 rfl rfl (sd1_r1 c_31) dX1_store_48 ?_
        refine callSi (As := [.int (mem ((8 * x0) + x1).toNatClampNeg)]) (rest := [.ref h0]) (m1_object l (mem ((8 * x0) + x1).toNatClampNeg)) ⟨hx, hb, hml, hown, hts⟩ (va_cwS 1 hts gX1_store_X1_object rfl rfl rfl (by decide +kernel) ⟨Nat.le_of_ble_eq_true rfl, Nat.le_of_ble_eq_true rfl⟩) rfl hl.1 rfl (Nat.le_of_ble_eq_true rfl) dX1_store_49 ⟨Nat.zero_le _, Nat.zero_le _⟩ ?_
        refine lv_iload_n hx hb dX1_store_52 rfl (lv_at hl 4 rfl) ?_
        refine lv_aload_n hx hb dX1_store_53 rfl (lv_at hl 1 rfl) ?_
        refine va_get (D := (dC, dI)) (ci := 1) (v := .ref h1) (C := RX1) (T := TX1) (N := 8) hx hb hts hin hown hK hP 0 rfl rfl 0 (by decide) (hts (.fieldLink RX1 7 "CapStoreModel" "memory" "[I") (by decide +kernel)) (fun _ h9 => h9) rfl dX1_store_54 ?_
        refine lv_bipush (v := 8) hx hb dX1_store_57 (by decide) ?_
        refine lv_iload_n hx hb dX1_store_59 rfl (lv_at hl 2 rfl) ?_
        refine lv_imul hx hb dX1_store_60 ?_
        refine lv_iload hx hb dX1_store_61 (lv_at hl 5 rfl) ?_
        refine lv_iadd hx hb dX1_store_63 ?_
        refine va_iald hx hb hK hP 1 0 rfl rfl (sd1_f3 c_31 c_22) dX1_store_64 ?_
        refine callWv (q := (RX1, TX1, 8)) (ci := 1) (q0 := 0) (As := [.int (f1_object (mem ((8 * x0) + x1).toNatClampNeg)), .int x2, .int (mem ((8 * x0) + x3).toNatClampNeg)]) (rest := []) (wr := []) (m1_put l dC dI h0 h1 h2 h3 c1 c2 c3 _ mem dsk sto dn en pw wr cm (f1_object (mem ((8 * x0) + x1).toNatClampNeg)) x2 (mem ((8 * x0) + x3).toNatClampNeg) (sd1_n hk c_31) (sd1_nj hk c_31)) ⟨hx, hb, hml, hown, hts⟩ (cwV 3 hts gX1_store_X1_put rfl rfl rfl (by decide +kernel) ⟨Nat.le_of_ble_eq_true rfl, Nat.le_of_ble_eq_true rfl⟩) hK hP hD hS hA rfl rfl [0, 1, 2, 3] [] rfl rfl rfl (by decide) (by decide) (by decide) rfl hl.1 rfl (Nat.le_of_ble_eq_true rfl) dX1_store_65 ⟨Nat.zero_le _, Nat.zero_le _⟩ (fun H locs hP hD hS => ?_)
        have hP : va_P (dC, dI) vwCl [(h0, .inr (1, [.ref h1, .ref h2, .ref h3, .int dn, .int en, .int pw, .int wr, .int cm])), (h1, .inl (c1, 96, .inl (upd mem ((8 * (f1_object (mem ((8 * x0) + x1).toNatClampNeg))) + x2).toNatClampNeg (mem ((8 * x0) + x3).toNatClampNeg)))), (h2, .inl (c2, 200, .inl dsk)), (h3, .inl (c3, 12, .inl (upd sto (f1_object (mem ((8 * x0) + x1).toNatClampNeg)).toNatClampNeg (vp_nar .boolean 1))))] _ := hP
        have hD : va_D _ [(h0, .inr (1, [.ref h1, .ref h2, .ref h3, .int dn, .int en, .int pw, .int wr, .int cm])), (h1, .inl (c1, 96, .inl (upd mem ((8 * (f1_object (mem ((8 * x0) + x1).toNatClampNeg))) + x2).toNatClampNeg (mem ((8 * x0) + x3).toNatClampNeg)))), (h2, .inl (c2, 200, .inl dsk)), (h3, .inl (c3, 12, .inl (upd sto (f1_object (mem ((8 * x0) + x1).toNatClampNeg)).toNatClampNeg (vp_nar .boolean 1))))] := hD
        refine lv_iconst (v := 0) hx hb dX1_store_68 (by decide) ?_
        have e9 : F1_store mem dsk sto dn en pw wr cm x0 x1 x2 x3 = (0, (upd mem ((8 * (f1_object (mem ((8 * x0) + x1).toNatClampNeg))) + x2).toNatClampNeg (mem ((8 * x0) + x3).toNatClampNeg)), dsk, (upd sto (f1_object (mem ((8 * x0) + x1).toNatClampNeg)).toNatClampNeg (vp_nar .boolean 1)), dn, en, pw, wr, cm) := by unfold F1_store; rw [if_neg c_14, if_neg c_22, if_pos c_31]
        rw [e9]
        exact retWi hx hb hr hlocks rfl rfl rfl hK hP hD hS dX1_store_69
      · skip
        refine lv_iload hx hb dX1_store_34 (lv_at hl 0 rfl) ?_
        have e9 : F1_store mem dsk sto dn en pw wr cm x0 x1 x2 x3 = ((f1_refusal mem dsk sto dn en pw wr cm x0 x1 x2 0 1), mem, dsk, sto, dn, en, pw, wr, cm) := by unfold F1_store; rw [if_neg c_14, if_neg c_22, if_neg c_31]
        rw [e9]
        exact retWi hx hb hr hlocks rfl rfl rfl hK hP hD hS dX1_store_36
    · skip
      refine lv_bipush (v := (-2)) hx hb dX1_store_25 (by decide) ?_
      refine lv_istore (lv' := [(5, .int (-2)), (0, .ref h0), (1, .int x0), (2, .int x1), (3, .int x2), (4, .int x3)]) hx hb dX1_store_27 hl (by decide) rfl (fun ls hl => ?_)
      refine lv_iload hx hb dX1_store_29 (lv_at hl 0 rfl) ?_
      refine lv_if_eq (tgt := 37) hx hb dX1_store_31 (by decide) (fun c_31 => ?_) (fun c_31 => ?_)
      · skip
        exact absurd c_31 (by decide)
      · skip
        refine lv_iload hx hb dX1_store_34 (lv_at hl 0 rfl) ?_
        have e9 : F1_store mem dsk sto dn en pw wr cm x0 x1 x2 x3 = ((-2), mem, dsk, sto, dn, en, pw, wr, cm) := by unfold F1_store; rw [if_neg c_14, if_pos c_22]
        rw [e9]
        exact retWi hx hb hr hlocks rfl rfl rfl hK hP hD hS dX1_store_36
set_option maxHeartbeats 4000000 in
set_option maxRecDepth 100000 in
theorem m1_write (l : Launch) (dC : Nat → ClassId) (dI : Nat → Nat → Nat) (h0 h1 h2 h3 : Nat) (c1 c2 c3 : ClassId) (sz : Nat) (mem dsk sto : Nat → Int32) (dn en pw wr cm : Int32) (x0 : Int32) (x1 : Int32) (x2 : Int32) (x3 : Int32) (hk : KI mem) : Met l yX1_write wsX1_write ({ frames := 2, cells := 0, slots := 0, locals := 47 }) (pcW (dC, dI) (k1 c1 c2 c3) (w1 h0 h1 h2 h3 c1 c2 c3 (mem, dsk, sto, dn, en, pw, wr, cm)) sz [.ref h0, .int x0, .int x1, .int x2, .int x3]) (qcWi (dC, dI) (k1 c1 c2 c3) (w1 h0 h1 h2 h3 c1 c2 c3 (mem, dsk, sto, dn, en, pw, wr, cm)) (w1 h0 h1 h2 h3 c1 c2 c3 (F1_write mem dsk sto dn en pw wr cm x0 x1 x2 x3).2) sz (F1_write mem dsk sto dn en pw wr cm x0 x1 x2 x3).1) 0 0 (va_A (w1 h0 h1 h2 h3 c1 c2 c3 (mem, dsk, sto, dn, en, pw, wr, cm)) sz) := by
  refine Met.ofW (cc := cX1_write) (maxL := 6) (ret := (some .int)) (by decide) rfl ?_
  intro p e s m args below meth c s₁ B hml hv
  obtain ⟨rfl, hsz, hP, hK, hD0⟩ := hv
  have hx := B.exec
  have hb := B.bytes
  have hr := B.returns
  have hts := atoms_spec (ws := wsX1_write) B.pre
  have hown : s.vm.findClass RX1 = some m.cls := findClass_of_methodNamed B.named
  have hlocks := B.notSynchronized
  have hin : ∀ w ∈ wsX10, w ∈ wsX1_write := fun _ h => List.mem_cons_of_mem _ (List.mem_append_right _ h)
  have hP : va_P (dC, dI) vwCl [(h0, .inr (1, [.ref h1, .ref h2, .ref h3, .int dn, .int en, .int pw, .int wr, .int cm])), (h1, .inl (c1, 96, .inl mem)), (h2, .inl (c2, 200, .inl dsk)), (h3, .inl (c3, 12, .inl sto))] s.heap := hP
  subst hsz
  have hD := hD0.self (sz := s.heap.size)
  have hA : ∀ q : Nat, s.heap.size ≤ q → (va_A (w1 h0 h1 h2 h3 c1 c2 c3 (mem, dsk, sto, dn, en, pw, wr, cm)) s.heap.size) q := fun q h => Or.inr h
  have hS : va_S (va_A (w1 h0 h1 h2 h3 c1 c2 c3 (mem, dsk, sto, dn, en, pw, wr, cm)) s.heap.size) s.heap s.heap [] := va_S.rf
  have hl := lv_entry ([.ref h0, .int x0, .int x1, .int x2, .int x3]) (n := 6) (Nat.le_of_ble_eq_true rfl)
  rw [lg_entry_eq]
  generalize (lg_sl ([.ref h0, .int x0, .int x1, .int x2, .int x3]) ++ List.replicate (6 - (lg_sl ([.ref h0, .int x0, .int x1, .int x2, .int x3])).length) Slot.unset).toArray = ls at hl ⊢
  have hl : lv_has ls 6 [(0, .ref h0), (1, .int x0), (2, .int x1), (3, .int x2), (4, .int x3)] := hl
  refine lv_aload_n hx hb dX1_write_0 rfl (lv_at hl 0 rfl) ?_
  refine lv_iload_n hx hb dX1_write_1 rfl (lv_at hl 1 rfl) ?_
  refine lv_iload_n hx hb dX1_write_2 rfl (lv_at hl 2 rfl) ?_
  refine lv_iload_n hx hb dX1_write_3 rfl (lv_at hl 3 rfl) ?_
  refine lv_iconst (v := 1) hx hb dX1_write_4 (by decide) ?_
  refine lv_iconst (v := 1) hx hb dX1_write_5 (by decide) ?_
  refine callRi (q := (RX1, TX1, 8)) (ci := 1) (q0 := 0) (As := [.int x0, .int x1, .int x2, .int 1, .int 1]) (rest := []) (m1_refusal l dC dI h0 h1 h2 h3 c1 c2 c3 mem dsk sto dn en pw wr cm x0 x1 x2 1 1 ) ⟨hx, hb, hml, hown, hts⟩ (cwV 5 hts gX1_write_X1_refusal rfl rfl rfl (by decide +kernel) ⟨Nat.le_of_ble_eq_true rfl, Nat.le_of_ble_eq_true rfl⟩) hK hP rfl rfl rfl hl.1 rfl (Nat.le_of_ble_eq_true rfl) dX1_write_6 ⟨Nat.zero_le _, Nat.zero_le _⟩ ?_
  refine lv_istore (lv' := [(5, .int (f1_refusal mem dsk sto dn en pw wr cm x0 x1 x2 1 1)), (0, .ref h0), (1, .int x0), (2, .int x1), (3, .int x2), (4, .int x3)]) hx hb dX1_write_9 hl (by decide) rfl (fun ls hl => ?_)
  refine lv_iload hx hb dX1_write_11 (lv_at hl 0 rfl) ?_
  refine lv_if_ne (tgt := 37) hx hb dX1_write_13 (by decide) (fun c_13 => ?_) (fun c_13 => ?_)
  · skip
    refine lv_iload hx hb dX1_write_37 (lv_at hl 0 rfl) ?_
    have e9 : F1_write mem dsk sto dn en pw wr cm x0 x1 x2 x3 = ((f1_refusal mem dsk sto dn en pw wr cm x0 x1 x2 1 1), mem, dsk, sto, dn, en, pw, wr, cm) := by unfold F1_write; rw [if_neg c_13]
    rw [e9]
    exact retWi hx hb hr hlocks rfl rfl rfl hK hP hD hS dX1_write_39
  · skip
    refine lv_aload_n hx hb dX1_write_16 rfl (lv_at hl 1 rfl) ?_
    refine lv_aload_n hx hb dX1_write_17 rfl (lv_at hl 1 rfl) ?_
    refine va_get (D := (dC, dI)) (ci := 1) (v := .ref h1) (C := RX1) (T := TX1) (N := 8) hx hb hts hin hown hK hP 0 rfl rfl 0 (by decide) (hts (.fieldLink RX1 7 "CapStoreModel" "memory" "[I") (by decide +kernel)) (fun _ h9 => h9) rfl dX1_write_18 ?_
    refine lv_bipush (v := 8) hx hb dX1_write_21 (by decide) ?_
    refine lv_iload_n hx hb dX1_write_23 rfl (lv_at hl 2 rfl) ?_
    refine lv_imul hx hb dX1_write_24 ?_
    refine lv_iload_n hx hb dX1_write_25 rfl (lv_at hl 3 rfl) ?_
    refine lv_iadd hx hb dX1_write_26 ?_
    refine va_iald hx hb hK hP 1 0 rfl rfl (sd1_r1 c_13) dX1_write_27 ?_
    refine callSi (As := [.int (mem ((8 * x0) + x1).toNatClampNeg)]) (rest := [.ref h0]) (m1_object l (mem ((8 * x0) + x1).toNatClampNeg)) ⟨hx, hb, hml, hown, hts⟩ (va_cwS 1 hts gX1_write_X1_object rfl rfl rfl (by decide +kernel) ⟨Nat.le_of_ble_eq_true rfl, Nat.le_of_ble_eq_true rfl⟩) rfl hl.1 rfl (Nat.le_of_ble_eq_true rfl) dX1_write_28 ⟨Nat.zero_le _, Nat.zero_le _⟩ ?_
    refine lv_iload_n hx hb dX1_write_31 rfl (lv_at hl 4 rfl) ?_
    refine lv_iload hx hb dX1_write_32 (lv_at hl 5 rfl) ?_
    refine callWv (q := (RX1, TX1, 8)) (ci := 1) (q0 := 0) (As := [.int (f1_object (mem ((8 * x0) + x1).toNatClampNeg)), .int x2, .int x3]) (rest := []) (wr := []) (m1_put l dC dI h0 h1 h2 h3 c1 c2 c3 _ mem dsk sto dn en pw wr cm (f1_object (mem ((8 * x0) + x1).toNatClampNeg)) x2 x3 (sd1_p hk c_13) (sd1_pj hk c_13)) ⟨hx, hb, hml, hown, hts⟩ (cwV 3 hts gX1_write_X1_put rfl rfl rfl (by decide +kernel) ⟨Nat.le_of_ble_eq_true rfl, Nat.le_of_ble_eq_true rfl⟩) hK hP hD hS hA rfl rfl [0, 1, 2, 3] [] rfl rfl rfl (by decide) (by decide) (by decide) rfl hl.1 rfl (Nat.le_of_ble_eq_true rfl) dX1_write_34 ⟨Nat.zero_le _, Nat.zero_le _⟩ (fun H locs hP hD hS => ?_)
    have hP : va_P (dC, dI) vwCl [(h0, .inr (1, [.ref h1, .ref h2, .ref h3, .int dn, .int en, .int pw, .int wr, .int cm])), (h1, .inl (c1, 96, .inl (upd mem ((8 * (f1_object (mem ((8 * x0) + x1).toNatClampNeg))) + x2).toNatClampNeg x3))), (h2, .inl (c2, 200, .inl dsk)), (h3, .inl (c3, 12, .inl (upd sto (f1_object (mem ((8 * x0) + x1).toNatClampNeg)).toNatClampNeg (vp_nar .boolean 1))))] _ := hP
    have hD : va_D _ [(h0, .inr (1, [.ref h1, .ref h2, .ref h3, .int dn, .int en, .int pw, .int wr, .int cm])), (h1, .inl (c1, 96, .inl (upd mem ((8 * (f1_object (mem ((8 * x0) + x1).toNatClampNeg))) + x2).toNatClampNeg x3))), (h2, .inl (c2, 200, .inl dsk)), (h3, .inl (c3, 12, .inl (upd sto (f1_object (mem ((8 * x0) + x1).toNatClampNeg)).toNatClampNeg (vp_nar .boolean 1))))] := hD
    refine lv_iload hx hb dX1_write_37 (lv_at hl 0 rfl) ?_
    have e9 : F1_write mem dsk sto dn en pw wr cm x0 x1 x2 x3 = ((f1_refusal mem dsk sto dn en pw wr cm x0 x1 x2 1 1), (upd mem ((8 * (f1_object (mem ((8 * x0) + x1).toNatClampNeg))) + x2).toNatClampNeg x3), dsk, (upd sto (f1_object (mem ((8 * x0) + x1).toNatClampNeg)).toNatClampNeg (vp_nar .boolean 1)), dn, en, pw, wr, cm) := by unfold F1_write; rw [if_pos c_13]
    rw [e9]
    exact retWi hx hb hr hlocks rfl rfl rfl hK hP hD hS dX1_write_39
set_option maxHeartbeats 4000000 in
set_option maxRecDepth 100000 in
theorem m1_restrict (l : Launch) (dC : Nat → ClassId) (dI : Nat → Nat → Nat) (h0 h1 h2 h3 : Nat) (c1 c2 c3 : ClassId) (sz : Nat) (mem dsk sto : Nat → Int32) (dn en pw wr cm : Int32) (x0 : Int32) (x1 : Int32) (x2 : Int32) (x3 : Int32) : Met l yX1_restrict wsX1_restrict ({ frames := 2, cells := 0, slots := 0, locals := 41 }) (pcW (dC, dI) (k1 c1 c2 c3) (w1 h0 h1 h2 h3 c1 c2 c3 (mem, dsk, sto, dn, en, pw, wr, cm)) sz [.ref h0, .int x0, .int x1, .int x2, .int x3]) (qcWi (dC, dI) (k1 c1 c2 c3) (w1 h0 h1 h2 h3 c1 c2 c3 (mem, dsk, sto, dn, en, pw, wr, cm)) (w1 h0 h1 h2 h3 c1 c2 c3 (F1_restrict mem dsk sto dn en pw wr cm x0 x1 x2 x3).2) sz (F1_restrict mem dsk sto dn en pw wr cm x0 x1 x2 x3).1) 0 0 (va_A (w1 h0 h1 h2 h3 c1 c2 c3 (mem, dsk, sto, dn, en, pw, wr, cm)) sz) := by
  refine Met.ofW (cc := cX1_restrict) (maxL := 5) (ret := (some .int)) (by decide) rfl ?_
  intro p e s m args below meth c s₁ B hml hv
  obtain ⟨rfl, hsz, hP, hK, hD0⟩ := hv
  have hx := B.exec
  have hb := B.bytes
  have hr := B.returns
  have hts := atoms_spec (ws := wsX1_restrict) B.pre
  have hown : s.vm.findClass RX1 = some m.cls := findClass_of_methodNamed B.named
  have hlocks := B.notSynchronized
  have hin : ∀ w ∈ wsX10, w ∈ wsX1_restrict := fun _ h => List.mem_cons_of_mem _ (List.mem_append_right _ h)
  have hP : va_P (dC, dI) vwCl [(h0, .inr (1, [.ref h1, .ref h2, .ref h3, .int dn, .int en, .int pw, .int wr, .int cm])), (h1, .inl (c1, 96, .inl mem)), (h2, .inl (c2, 200, .inl dsk)), (h3, .inl (c3, 12, .inl sto))] s.heap := hP
  subst hsz
  have hD := hD0.self (sz := s.heap.size)
  have hA : ∀ q : Nat, s.heap.size ≤ q → (va_A (w1 h0 h1 h2 h3 c1 c2 c3 (mem, dsk, sto, dn, en, pw, wr, cm)) s.heap.size) q := fun q h => Or.inr h
  have hS : va_S (va_A (w1 h0 h1 h2 h3 c1 c2 c3 (mem, dsk, sto, dn, en, pw, wr, cm)) s.heap.size) s.heap s.heap [] := va_S.rf
  have hl := lv_entry ([.ref h0, .int x0, .int x1, .int x2, .int x3]) (n := 5) (Nat.le_of_ble_eq_true rfl)
  rw [lg_entry_eq]
  generalize (lg_sl ([.ref h0, .int x0, .int x1, .int x2, .int x3]) ++ List.replicate (5 - (lg_sl ([.ref h0, .int x0, .int x1, .int x2, .int x3])).length) Slot.unset).toArray = ls at hl ⊢
  have hl : lv_has ls 5 [(0, .ref h0), (1, .int x0), (2, .int x1), (3, .int x2), (4, .int x3)] := hl
  refine lv_aload_n hx hb dX1_restrict_0 rfl (lv_at hl 0 rfl) ?_
  refine va_get (D := (dC, dI)) (ci := 1) (v := .int dn) (C := RX1) (T := TX1) (N := 8) hx hb hts hin hown hK hP 0 rfl rfl 3 (by decide) (hts (.fieldLink RX1 28 "CapStoreModel" "down" "Z") (by decide +kernel)) (fun _ h9 => h9) rfl dX1_restrict_1 ?_
  refine lv_if_eq (tgt := 9) hx hb dX1_restrict_4 (by decide) (fun c_4 => ?_) (fun c_4 => ?_)
  · skip
    refine lv_iload_n hx hb dX1_restrict_9 rfl (lv_at hl 1 rfl) ?_
    refine callSi (As := [.int x0]) (rest := []) (m1_third l x0) ⟨hx, hb, hml, hown, hts⟩ (va_cwS 1 hts gX1_restrict_X1_third rfl rfl rfl (by decide +kernel) ⟨Nat.le_of_ble_eq_true rfl, Nat.le_of_ble_eq_true rfl⟩) rfl hl.1 rfl (Nat.le_of_ble_eq_true rfl) dX1_restrict_10 ⟨Nat.zero_le _, Nat.zero_le _⟩ ?_
    refine lv_if_eq (tgt := 40) hx hb dX1_restrict_13 (by decide) (fun c_13 => ?_) (fun c_13 => ?_)
    · skip
      refine lv_bipush (v := (-2)) hx hb dX1_restrict_40 (by decide) ?_
      have e9 : F1_restrict mem dsk sto dn en pw wr cm x0 x1 x2 x3 = ((-2), mem, dsk, sto, dn, en, pw, wr, cm) := by unfold F1_restrict; rw [if_pos c_4, if_pos c_13]
      rw [e9]
      exact retWi hx hb hr hlocks rfl rfl rfl hK hP hD hS dX1_restrict_42
    · skip
      refine lv_iload_n hx hb dX1_restrict_16 rfl (lv_at hl 2 rfl) ?_
      refine callSi (As := [.int x1]) (rest := []) (m1_eight l x1) ⟨hx, hb, hml, hown, hts⟩ (va_cwS 1 hts gX1_restrict_X1_eight rfl rfl rfl (by decide +kernel) ⟨Nat.le_of_ble_eq_true rfl, Nat.le_of_ble_eq_true rfl⟩) rfl hl.1 rfl (Nat.le_of_ble_eq_true rfl) dX1_restrict_17 ⟨Nat.zero_le _, Nat.zero_le _⟩ ?_
      refine lv_if_eq (tgt := 40) hx hb dX1_restrict_20 (by decide) (fun c_20 => ?_) (fun c_20 => ?_)
      · skip
        refine lv_bipush (v := (-2)) hx hb dX1_restrict_40 (by decide) ?_
        have e9 : F1_restrict mem dsk sto dn en pw wr cm x0 x1 x2 x3 = ((-2), mem, dsk, sto, dn, en, pw, wr, cm) := by unfold F1_restrict; rw [if_pos c_4, if_neg c_13, if_pos c_20]
        rw [e9]
        exact retWi hx hb hr hlocks rfl rfl rfl hK hP hD hS dX1_restrict_42
      · skip
        refine lv_iload hx hb dX1_restrict_23 (lv_at hl 4 rfl) ?_
        refine callSi (As := [.int x3]) (rest := []) (m1_eight l x3) ⟨hx, hb, hml, hown, hts⟩ (va_cwS 1 hts gX1_restrict_X1_eight rfl rfl rfl (by decide +kernel) ⟨Nat.le_of_ble_eq_true rfl, Nat.le_of_ble_eq_true rfl⟩) rfl hl.1 rfl (Nat.le_of_ble_eq_true rfl) dX1_restrict_25 ⟨Nat.zero_le _, Nat.zero_le _⟩ ?_
        refine lv_if_eq (tgt := 40) hx hb dX1_restrict_28 (by decide) (fun c_28 => ?_) (fun c_28 => ?_)
        · skip
          refine lv_bipush (v := (-2)) hx hb dX1_restrict_40 (by decide) ?_
          have e9 : F1_restrict mem dsk sto dn en pw wr cm x0 x1 x2 x3 = ((-2), mem, dsk, sto, dn, en, pw, wr, cm) := by unfold F1_restrict; rw [if_pos c_4, if_neg c_13, if_neg c_20, if_pos c_28]
          rw [e9]
          exact retWi hx hb hr hlocks rfl rfl rfl hK hP hD hS dX1_restrict_42
        · skip
          refine lv_iload_n hx hb dX1_restrict_31 rfl (lv_at hl 3 rfl) ?_
          refine lv_if_lt (tgt := 40) hx hb dX1_restrict_32 (by decide) (fun c_32 => ?_) (fun c_32 => ?_)
          · skip
            refine lv_bipush (v := (-2)) hx hb dX1_restrict_40 (by decide) ?_
            have e9 : F1_restrict mem dsk sto dn en pw wr cm x0 x1 x2 x3 = ((-2), mem, dsk, sto, dn, en, pw, wr, cm) := by unfold F1_restrict; rw [if_pos c_4, if_neg c_13, if_neg c_20, if_neg c_28, if_pos c_32]
            rw [e9]
            exact retWi hx hb hr hlocks rfl rfl rfl hK hP hD hS dX1_restrict_42
          · skip
            refine lv_iload_n hx hb dX1_restrict_35 rfl (lv_at hl 3 rfl) ?_
            refine lv_iconst (v := 3) hx hb dX1_restrict_36 (by decide) ?_
            refine lv_icmp_le (tgt := 43) hx hb dX1_restrict_37 (by decide) (fun c_37 => ?_) (fun c_37 => ?_)
            · skip
              refine lv_aload_n hx hb dX1_restrict_43 rfl (lv_at hl 0 rfl) ?_
              refine lv_iload_n hx hb dX1_restrict_44 rfl (lv_at hl 1 rfl) ?_
              refine lv_iload hx hb dX1_restrict_45 (lv_at hl 4 rfl) ?_
              refine lv_aload_n hx hb dX1_restrict_47 rfl (lv_at hl 0 rfl) ?_
              refine va_get (D := (dC, dI)) (ci := 1) (v := .ref h1) (C := RX1) (T := TX1) (N := 8) hx hb hts hin hown hK hP 0 rfl rfl 0 (by decide) (hts (.fieldLink RX1 7 "CapStoreModel" "memory" "[I") (by decide +kernel)) (fun _ h9 => h9) rfl dX1_restrict_48 ?_
              refine lv_bipush (v := 8) hx hb dX1_restrict_51 (by decide) ?_
              refine lv_iload_n hx hb dX1_restrict_53 rfl (lv_at hl 1 rfl) ?_
              refine lv_imul hx hb dX1_restrict_54 ?_
              refine lv_iload_n hx hb dX1_restrict_55 rfl (lv_at hl 2 rfl) ?_
              refine lv_iadd hx hb dX1_restrict_56 ?_
              refine va_iald hx hb hK hP 1 0 rfl rfl (sd1_ix c_13 c_20) dX1_restrict_57 ?_
              refine lv_iload_n hx hb dX1_restrict_58 rfl (lv_at hl 3 rfl) ?_
              refine callSi (As := [.int (mem ((8 * x0) + x1).toNatClampNeg), .int x2]) (rest := [.int x3, .int x0, .ref h0]) (m1_limited l (mem ((8 * x0) + x1).toNatClampNeg) x2) ⟨hx, hb, hml, hown, hts⟩ (va_cwS 2 hts gX1_restrict_X1_limited rfl rfl rfl (by decide +kernel) ⟨Nat.le_of_ble_eq_true rfl, Nat.le_of_ble_eq_true rfl⟩) rfl hl.1 rfl (Nat.le_of_ble_eq_true rfl) dX1_restrict_59 ⟨Nat.zero_le _, Nat.zero_le _⟩ ?_
              refine callWv (q := (RX1, TX1, 8)) (ci := 1) (q0 := 0) (As := [.int x0, .int x3, .int (f1_limited (mem ((8 * x0) + x1).toNatClampNeg) x2)]) (rest := []) (wr := []) (m1_put l dC dI h0 h1 h2 h3 c1 c2 c3 _ mem dsk sto dn en pw wr cm x0 x3 (f1_limited (mem ((8 * x0) + x1).toNatClampNeg) x2) (sd1_ix c_13 c_28) (sd1_t12 c_13)) ⟨hx, hb, hml, hown, hts⟩ (cwV 3 hts gX1_restrict_X1_put rfl rfl rfl (by decide +kernel) ⟨Nat.le_of_ble_eq_true rfl, Nat.le_of_ble_eq_true rfl⟩) hK hP hD hS hA rfl rfl [0, 1, 2, 3] [] rfl rfl rfl (by decide) (by decide) (by decide) rfl hl.1 rfl (Nat.le_of_ble_eq_true rfl) dX1_restrict_62 ⟨Nat.zero_le _, Nat.zero_le _⟩ (fun H locs hP hD hS => ?_)
              have hP : va_P (dC, dI) vwCl [(h0, .inr (1, [.ref h1, .ref h2, .ref h3, .int dn, .int en, .int pw, .int wr, .int cm])), (h1, .inl (c1, 96, .inl (upd mem ((8 * x0) + x3).toNatClampNeg (f1_limited (mem ((8 * x0) + x1).toNatClampNeg) x2)))), (h2, .inl (c2, 200, .inl dsk)), (h3, .inl (c3, 12, .inl (upd sto x0.toNatClampNeg (vp_nar .boolean 1))))] _ := hP
              have hD : va_D _ [(h0, .inr (1, [.ref h1, .ref h2, .ref h3, .int dn, .int en, .int pw, .int wr, .int cm])), (h1, .inl (c1, 96, .inl (upd mem ((8 * x0) + x3).toNatClampNeg (f1_limited (mem ((8 * x0) + x1).toNatClampNeg) x2)))), (h2, .inl (c2, 200, .inl dsk)), (h3, .inl (c3, 12, .inl (upd sto x0.toNatClampNeg (vp_nar .boolean 1))))] := hD
              refine lv_iconst (v := 0) hx hb dX1_restrict_65 (by decide) ?_
              have e9 : F1_restrict mem dsk sto dn en pw wr cm x0 x1 x2 x3 = (0, (upd mem ((8 * x0) + x3).toNatClampNeg (f1_limited (mem ((8 * x0) + x1).toNatClampNeg) x2)), dsk, (upd sto x0.toNatClampNeg (vp_nar .boolean 1)), dn, en, pw, wr, cm) := by unfold F1_restrict; rw [if_pos c_4, if_neg c_13, if_neg c_20, if_neg c_28, if_neg c_32, if_pos c_37]
              rw [e9]
              exact retWi hx hb hr hlocks rfl rfl rfl hK hP hD hS dX1_restrict_66
            · skip
              refine lv_bipush (v := (-2)) hx hb dX1_restrict_40 (by decide) ?_
              have e9 : F1_restrict mem dsk sto dn en pw wr cm x0 x1 x2 x3 = ((-2), mem, dsk, sto, dn, en, pw, wr, cm) := by unfold F1_restrict; rw [if_pos c_4, if_neg c_13, if_neg c_20, if_neg c_28, if_neg c_32, if_neg c_37]
              rw [e9]
              exact retWi hx hb hr hlocks rfl rfl rfl hK hP hD hS dX1_restrict_42
  · skip
    refine lv_iconst (v := (-1)) hx hb dX1_restrict_7 (by decide) ?_
    have e9 : F1_restrict mem dsk sto dn en pw wr cm x0 x1 x2 x3 = ((-1), mem, dsk, sto, dn, en, pw, wr, cm) := by unfold F1_restrict; rw [if_neg c_4]
    rw [e9]
    exact retWi hx hb hr hlocks rfl rfl rfl hK hP hD hS dX1_restrict_8
set_option maxHeartbeats 4000000 in
set_option maxRecDepth 100000 in
theorem m1_clear (l : Launch) (dC : Nat → ClassId) (dI : Nat → Nat → Nat) (h0 h1 h2 h3 : Nat) (c1 c2 c3 : ClassId) (sz : Nat) (mem dsk sto : Nat → Int32) (dn en pw wr cm : Int32) (x0 : Int32) (x1 : Int32) : Met l yX1_clear wsX1_clear ({ frames := 1, cells := 0, slots := 0, locals := 23 }) (pcW (dC, dI) (k1 c1 c2 c3) (w1 h0 h1 h2 h3 c1 c2 c3 (mem, dsk, sto, dn, en, pw, wr, cm)) sz [.ref h0, .int x0, .int x1]) (qcWi (dC, dI) (k1 c1 c2 c3) (w1 h0 h1 h2 h3 c1 c2 c3 (mem, dsk, sto, dn, en, pw, wr, cm)) (w1 h0 h1 h2 h3 c1 c2 c3 (F1_clear mem dsk sto dn en pw wr cm x0 x1).2) sz (F1_clear mem dsk sto dn en pw wr cm x0 x1).1) 0 0 (va_A (w1 h0 h1 h2 h3 c1 c2 c3 (mem, dsk, sto, dn, en, pw, wr, cm)) sz) := by
  refine Met.ofW (cc := cX1_clear) (maxL := 3) (ret := (some .int)) (by decide) rfl ?_
  intro p e s m args below meth c s₁ B hml hv
  obtain ⟨rfl, hsz, hP, hK, hD0⟩ := hv
  have hx := B.exec
  have hb := B.bytes
  have hr := B.returns
  have hts := atoms_spec (ws := wsX1_clear) B.pre
  have hown : s.vm.findClass RX1 = some m.cls := findClass_of_methodNamed B.named
  have hlocks := B.notSynchronized
  have hin : ∀ w ∈ wsX10, w ∈ wsX1_clear := fun _ h => List.mem_cons_of_mem _ (List.mem_append_right _ h)
  have hP : va_P (dC, dI) vwCl [(h0, .inr (1, [.ref h1, .ref h2, .ref h3, .int dn, .int en, .int pw, .int wr, .int cm])), (h1, .inl (c1, 96, .inl mem)), (h2, .inl (c2, 200, .inl dsk)), (h3, .inl (c3, 12, .inl sto))] s.heap := hP
  subst hsz
  have hD := hD0.self (sz := s.heap.size)
  have hA : ∀ q : Nat, s.heap.size ≤ q → (va_A (w1 h0 h1 h2 h3 c1 c2 c3 (mem, dsk, sto, dn, en, pw, wr, cm)) s.heap.size) q := fun q h => Or.inr h
  have hS : va_S (va_A (w1 h0 h1 h2 h3 c1 c2 c3 (mem, dsk, sto, dn, en, pw, wr, cm)) s.heap.size) s.heap s.heap [] := va_S.rf
  have hl := lv_entry ([.ref h0, .int x0, .int x1]) (n := 3) (Nat.le_of_ble_eq_true rfl)
  rw [lg_entry_eq]
  generalize (lg_sl ([.ref h0, .int x0, .int x1]) ++ List.replicate (3 - (lg_sl ([.ref h0, .int x0, .int x1])).length) Slot.unset).toArray = ls at hl ⊢
  have hl : lv_has ls 3 [(0, .ref h0), (1, .int x0), (2, .int x1)] := hl
  refine lv_aload_n hx hb dX1_clear_0 rfl (lv_at hl 0 rfl) ?_
  refine va_get (D := (dC, dI)) (ci := 1) (v := .int dn) (C := RX1) (T := TX1) (N := 8) hx hb hts hin hown hK hP 0 rfl rfl 3 (by decide) (hts (.fieldLink RX1 28 "CapStoreModel" "down" "Z") (by decide +kernel)) (fun _ h9 => h9) rfl dX1_clear_1 ?_
  refine lv_if_eq (tgt := 9) hx hb dX1_clear_4 (by decide) (fun c_4 => ?_) (fun c_4 => ?_)
  · skip
    refine lv_iload_n hx hb dX1_clear_9 rfl (lv_at hl 1 rfl) ?_
    refine callSi (As := [.int x0]) (rest := []) (m1_third l x0) ⟨hx, hb, hml, hown, hts⟩ (va_cwS 1 hts gX1_clear_X1_third rfl rfl rfl (by decide +kernel) ⟨Nat.le_of_ble_eq_true rfl, Nat.le_of_ble_eq_true rfl⟩) rfl hl.1 rfl (Nat.le_of_ble_eq_true rfl) dX1_clear_10 ⟨Nat.zero_le _, Nat.zero_le _⟩ ?_
    refine lv_if_eq (tgt := 23) hx hb dX1_clear_13 (by decide) (fun c_13 => ?_) (fun c_13 => ?_)
    · skip
      refine lv_bipush (v := (-2)) hx hb dX1_clear_23 (by decide) ?_
      have e9 : F1_clear mem dsk sto dn en pw wr cm x0 x1 = ((-2), mem, dsk, sto, dn, en, pw, wr, cm) := by unfold F1_clear; rw [if_pos c_4, if_pos c_13]
      rw [e9]
      exact retWi hx hb hr hlocks rfl rfl rfl hK hP hD hS dX1_clear_25
    · skip
      refine lv_iload_n hx hb dX1_clear_16 rfl (lv_at hl 2 rfl) ?_
      refine callSi (As := [.int x1]) (rest := []) (m1_eight l x1) ⟨hx, hb, hml, hown, hts⟩ (va_cwS 1 hts gX1_clear_X1_eight rfl rfl rfl (by decide +kernel) ⟨Nat.le_of_ble_eq_true rfl, Nat.le_of_ble_eq_true rfl⟩) rfl hl.1 rfl (Nat.le_of_ble_eq_true rfl) dX1_clear_17 ⟨Nat.zero_le _, Nat.zero_le _⟩ ?_
      refine lv_if_ne (tgt := 26) hx hb dX1_clear_20 (by decide) (fun c_20 => ?_) (fun c_20 => ?_)
      · skip
        refine lv_aload_n hx hb dX1_clear_26 rfl (lv_at hl 0 rfl) ?_
        refine lv_iload_n hx hb dX1_clear_27 rfl (lv_at hl 1 rfl) ?_
        refine lv_iload_n hx hb dX1_clear_28 rfl (lv_at hl 2 rfl) ?_
        refine lv_iconst (v := 0) hx hb dX1_clear_29 (by decide) ?_
        refine callWv (q := (RX1, TX1, 8)) (ci := 1) (q0 := 0) (As := [.int x0, .int x1, .int 0]) (rest := []) (wr := []) (m1_put l dC dI h0 h1 h2 h3 c1 c2 c3 _ mem dsk sto dn en pw wr cm x0 x1 0 (sd1_ix c_13 c_20) (sd1_t12 c_13)) ⟨hx, hb, hml, hown, hts⟩ (cwV 3 hts gX1_clear_X1_put rfl rfl rfl (by decide +kernel) ⟨Nat.le_of_ble_eq_true rfl, Nat.le_of_ble_eq_true rfl⟩) hK hP hD hS hA rfl rfl [0, 1, 2, 3] [] rfl rfl rfl (by decide) (by decide) (by decide) rfl hl.1 rfl (Nat.le_of_ble_eq_true rfl) dX1_clear_30 ⟨Nat.zero_le _, Nat.zero_le _⟩ (fun H locs hP hD hS => ?_)
        have hP : va_P (dC, dI) vwCl [(h0, .inr (1, [.ref h1, .ref h2, .ref h3, .int dn, .int en, .int pw, .int wr, .int cm])), (h1, .inl (c1, 96, .inl (upd mem ((8 * x0) + x1).toNatClampNeg 0))), (h2, .inl (c2, 200, .inl dsk)), (h3, .inl (c3, 12, .inl (upd sto x0.toNatClampNeg (vp_nar .boolean 1))))] _ := hP
        have hD : va_D _ [(h0, .inr (1, [.ref h1, .ref h2, .ref h3, .int dn, .int en, .int pw, .int wr, .int cm])), (h1, .inl (c1, 96, .inl (upd mem ((8 * x0) + x1).toNatClampNeg 0))), (h2, .inl (c2, 200, .inl dsk)), (h3, .inl (c3, 12, .inl (upd sto x0.toNatClampNeg (vp_nar .boolean 1))))] := hD
        refine lv_iconst (v := 0) hx hb dX1_clear_33 (by decide) ?_
        have e9 : F1_clear mem dsk sto dn en pw wr cm x0 x1 = (0, (upd mem ((8 * x0) + x1).toNatClampNeg 0), dsk, (upd sto x0.toNatClampNeg (vp_nar .boolean 1)), dn, en, pw, wr, cm) := by unfold F1_clear; rw [if_pos c_4, if_neg c_13, if_neg c_20]
        rw [e9]
        exact retWi hx hb hr hlocks rfl rfl rfl hK hP hD hS dX1_clear_34
      · skip
        refine lv_bipush (v := (-2)) hx hb dX1_clear_23 (by decide) ?_
        have e9 : F1_clear mem dsk sto dn en pw wr cm x0 x1 = ((-2), mem, dsk, sto, dn, en, pw, wr, cm) := by unfold F1_clear; rw [if_pos c_4, if_neg c_13, if_pos c_20]
        rw [e9]
        exact retWi hx hb hr hlocks rfl rfl rfl hK hP hD hS dX1_clear_25
  · skip
    refine lv_iconst (v := (-1)) hx hb dX1_clear_7 (by decide) ?_
    have e9 : F1_clear mem dsk sto dn en pw wr cm x0 x1 = ((-1), mem, dsk, sto, dn, en, pw, wr, cm) := by unfold F1_clear; rw [if_neg c_4]
    rw [e9]
    exact retWi hx hb hr hlocks rfl rfl rfl hK hP hD hS dX1_clear_8
set_option maxHeartbeats 4000000 in
set_option maxRecDepth 100000 in
theorem m1_power (l : Launch) (dC : Nat → ClassId) (dI : Nat → Nat → Nat) (h0 h1 h2 h3 : Nat) (c1 c2 c3 : ClassId) (sz : Nat) (mem dsk sto : Nat → Int32) (dn en pw wr cm : Int32) (x0 : Int32) : Met l yX1_power wsX1_power ({ frames := 0, cells := 0, slots := 0, locals := 0 }) (pcW (dC, dI) (k1 c1 c2 c3) (w1 h0 h1 h2 h3 c1 c2 c3 (mem, dsk, sto, dn, en, pw, wr, cm)) sz [.ref h0, .int x0]) (qcWi (dC, dI) (k1 c1 c2 c3) (w1 h0 h1 h2 h3 c1 c2 c3 (mem, dsk, sto, dn, en, pw, wr, cm)) (w1 h0 h1 h2 h3 c1 c2 c3 (F1_power mem dsk sto dn en pw wr cm x0).2) sz (F1_power mem dsk sto dn en pw wr cm x0).1) 0 0 (va_A (w1 h0 h1 h2 h3 c1 c2 c3 (mem, dsk, sto, dn, en, pw, wr, cm)) sz) := by
  refine Met.ofW (cc := cX1_power) (maxL := 2) (ret := (some .int)) (by decide) rfl ?_
  intro p e s m args below meth c s₁ B hml hv
  obtain ⟨rfl, hsz, hP, hK, hD0⟩ := hv
  have hx := B.exec
  have hb := B.bytes
  have hr := B.returns
  have hts := atoms_spec (ws := wsX1_power) B.pre
  have hown : s.vm.findClass RX1 = some m.cls := findClass_of_methodNamed B.named
  have hlocks := B.notSynchronized
  have hin : ∀ w ∈ wsX10, w ∈ wsX1_power := fun _ h => List.mem_cons_of_mem _ (List.mem_append_right _ h)
  have hP : va_P (dC, dI) vwCl [(h0, .inr (1, [.ref h1, .ref h2, .ref h3, .int dn, .int en, .int pw, .int wr, .int cm])), (h1, .inl (c1, 96, .inl mem)), (h2, .inl (c2, 200, .inl dsk)), (h3, .inl (c3, 12, .inl sto))] s.heap := hP
  subst hsz
  have hD := hD0.self (sz := s.heap.size)
  have hA : ∀ q : Nat, s.heap.size ≤ q → (va_A (w1 h0 h1 h2 h3 c1 c2 c3 (mem, dsk, sto, dn, en, pw, wr, cm)) s.heap.size) q := fun q h => Or.inr h
  have hS : va_S (va_A (w1 h0 h1 h2 h3 c1 c2 c3 (mem, dsk, sto, dn, en, pw, wr, cm)) s.heap.size) s.heap s.heap [] := va_S.rf
  have hl := lv_entry ([.ref h0, .int x0]) (n := 2) (Nat.le_of_ble_eq_true rfl)
  rw [lg_entry_eq]
  generalize (lg_sl ([.ref h0, .int x0]) ++ List.replicate (2 - (lg_sl ([.ref h0, .int x0])).length) Slot.unset).toArray = ls at hl ⊢
  have hl : lv_has ls 2 [(0, .ref h0), (1, .int x0)] := hl
  refine lv_aload_n hx hb dX1_power_0 rfl (lv_at hl 0 rfl) ?_
  refine va_get (D := (dC, dI)) (ci := 1) (v := .int dn) (C := RX1) (T := TX1) (N := 8) hx hb hts hin hown hK hP 0 rfl rfl 3 (by decide) (hts (.fieldLink RX1 28 "CapStoreModel" "down" "Z") (by decide +kernel)) (fun _ h9 => h9) rfl dX1_power_1 ?_
  refine lv_if_eq (tgt := 9) hx hb dX1_power_4 (by decide) (fun c_4 => ?_) (fun c_4 => ?_)
  · skip
    refine lv_iload_n hx hb dX1_power_9 rfl (lv_at hl 1 rfl) ?_
    refine lv_iconst (v := (-1)) hx hb dX1_power_10 (by decide) ?_
    refine lv_icmp_lt (tgt := 20) hx hb dX1_power_11 (by decide) (fun c_11 => ?_) (fun c_11 => ?_)
    · skip
      refine lv_bipush (v := (-2)) hx hb dX1_power_20 (by decide) ?_
      have e9 : F1_power mem dsk sto dn en pw wr cm x0 = ((-2), mem, dsk, sto, dn, en, pw, wr, cm) := by unfold F1_power; rw [if_pos c_4, if_pos c_11]
      rw [e9]
      exact retWi hx hb hr hlocks rfl rfl rfl hK hP hD hS dX1_power_22
    · skip
      refine lv_iload_n hx hb dX1_power_14 rfl (lv_at hl 1 rfl) ?_
      refine lv_bipush (v := 63) hx hb dX1_power_15 (by decide) ?_
      refine lv_icmp_le (tgt := 23) hx hb dX1_power_17 (by decide) (fun c_17 => ?_) (fun c_17 => ?_)
      · skip
        refine lv_aload_n hx hb dX1_power_23 rfl (lv_at hl 0 rfl) ?_
        refine lv_iload_n hx hb dX1_power_24 rfl (lv_at hl 1 rfl) ?_
        refine lv_iconst (v := (-1)) hx hb dX1_power_25 (by decide) ?_
        refine lv_icmp_ne (tgt := 33) hx hb dX1_power_26 (by decide) (fun c_26 => ?_) (fun c_26 => ?_)
        · skip
          refine lv_iconst (v := 0) hx hb dX1_power_33 (by decide) ?_
          refine va_put (D := (dC, dI)) (ci := 1) (v := .int 0) (ty := .boolean) (C := RX1) (T := TX1) (N := 8) hx hb hts hin tyX1 tyX1_ok nmX1 hown hK hP hD hS 0 rfl rfl 4 (by decide) (hts (.fieldLink RX1 20 "CapStoreModel" "endless" "Z") (by decide +kernel)) (fun _ h9 => h9) rfl (by decide +kernel) rfl rfl (Nat.le_of_ble_eq_true rfl) dX1_power_34 (fun H locs hP hD hS => ?_)
          have hP : va_P (dC, dI) vwCl [(h0, .inr (1, [.ref h1, .ref h2, .ref h3, .int dn, .int 0, .int pw, .int wr, .int cm])), (h1, .inl (c1, 96, .inl mem)), (h2, .inl (c2, 200, .inl dsk)), (h3, .inl (c3, 12, .inl sto))] _ := hP
          have hD : va_D _ [(h0, .inr (1, [.ref h1, .ref h2, .ref h3, .int dn, .int 0, .int pw, .int wr, .int cm])), (h1, .inl (c1, 96, .inl mem)), (h2, .inl (c2, 200, .inl dsk)), (h3, .inl (c3, 12, .inl sto))] := hD
          refine lv_aload_n hx hb dX1_power_37 rfl (lv_at hl 0 rfl) ?_
          refine lv_iload_n hx hb dX1_power_38 rfl (lv_at hl 1 rfl) ?_
          refine va_put (D := (dC, dI)) (ci := 1) (v := .int x0) (ty := .int) (C := RX1) (T := TX1) (N := 8) hx hb hts hin tyX1 tyX1_ok nmX1 hown hK hP hD hS 0 rfl rfl 5 (by decide) (hts (.fieldLink RX1 55 "CapStoreModel" "power" "I") (by decide +kernel)) (fun _ h9 => h9) rfl (by decide +kernel) rfl rfl (Nat.le_of_ble_eq_true rfl) dX1_power_39 (fun H locs hP hD hS => ?_)
          have hP : va_P (dC, dI) vwCl [(h0, .inr (1, [.ref h1, .ref h2, .ref h3, .int dn, .int 0, .int x0, .int wr, .int cm])), (h1, .inl (c1, 96, .inl mem)), (h2, .inl (c2, 200, .inl dsk)), (h3, .inl (c3, 12, .inl sto))] _ := hP
          have hD : va_D _ [(h0, .inr (1, [.ref h1, .ref h2, .ref h3, .int dn, .int 0, .int x0, .int wr, .int cm])), (h1, .inl (c1, 96, .inl mem)), (h2, .inl (c2, 200, .inl dsk)), (h3, .inl (c3, 12, .inl sto))] := hD
          refine lv_iconst (v := 0) hx hb dX1_power_42 (by decide) ?_
          have e9 : F1_power mem dsk sto dn en pw wr cm x0 = (0, mem, dsk, sto, dn, 0, x0, wr, cm) := by unfold F1_power; rw [if_pos c_4, if_neg c_11, if_pos c_17, if_neg c_26]
          rw [e9]
          exact retWi hx hb hr hlocks rfl rfl rfl hK hP hD hS dX1_power_43
        · skip
          refine lv_iconst (v := 1) hx hb dX1_power_29 (by decide) ?_
          refine lv_goto (tgt := 34) hx hb dX1_power_30 (by decide) ?_
          refine va_put (D := (dC, dI)) (ci := 1) (v := .int 1) (ty := .boolean) (C := RX1) (T := TX1) (N := 8) hx hb hts hin tyX1 tyX1_ok nmX1 hown hK hP hD hS 0 rfl rfl 4 (by decide) (hts (.fieldLink RX1 20 "CapStoreModel" "endless" "Z") (by decide +kernel)) (fun _ h9 => h9) rfl (by decide +kernel) rfl rfl (Nat.le_of_ble_eq_true rfl) dX1_power_34 (fun H locs hP hD hS => ?_)
          have hP : va_P (dC, dI) vwCl [(h0, .inr (1, [.ref h1, .ref h2, .ref h3, .int dn, .int 1, .int pw, .int wr, .int cm])), (h1, .inl (c1, 96, .inl mem)), (h2, .inl (c2, 200, .inl dsk)), (h3, .inl (c3, 12, .inl sto))] _ := hP
          have hD : va_D _ [(h0, .inr (1, [.ref h1, .ref h2, .ref h3, .int dn, .int 1, .int pw, .int wr, .int cm])), (h1, .inl (c1, 96, .inl mem)), (h2, .inl (c2, 200, .inl dsk)), (h3, .inl (c3, 12, .inl sto))] := hD
          refine lv_aload_n hx hb dX1_power_37 rfl (lv_at hl 0 rfl) ?_
          refine lv_iload_n hx hb dX1_power_38 rfl (lv_at hl 1 rfl) ?_
          refine va_put (D := (dC, dI)) (ci := 1) (v := .int x0) (ty := .int) (C := RX1) (T := TX1) (N := 8) hx hb hts hin tyX1 tyX1_ok nmX1 hown hK hP hD hS 0 rfl rfl 5 (by decide) (hts (.fieldLink RX1 55 "CapStoreModel" "power" "I") (by decide +kernel)) (fun _ h9 => h9) rfl (by decide +kernel) rfl rfl (Nat.le_of_ble_eq_true rfl) dX1_power_39 (fun H locs hP hD hS => ?_)
          have hP : va_P (dC, dI) vwCl [(h0, .inr (1, [.ref h1, .ref h2, .ref h3, .int dn, .int 1, .int x0, .int wr, .int cm])), (h1, .inl (c1, 96, .inl mem)), (h2, .inl (c2, 200, .inl dsk)), (h3, .inl (c3, 12, .inl sto))] _ := hP
          have hD : va_D _ [(h0, .inr (1, [.ref h1, .ref h2, .ref h3, .int dn, .int 1, .int x0, .int wr, .int cm])), (h1, .inl (c1, 96, .inl mem)), (h2, .inl (c2, 200, .inl dsk)), (h3, .inl (c3, 12, .inl sto))] := hD
          refine lv_iconst (v := 0) hx hb dX1_power_42 (by decide) ?_
          have e9 : F1_power mem dsk sto dn en pw wr cm x0 = (0, mem, dsk, sto, dn, 1, x0, wr, cm) := by unfold F1_power; rw [if_pos c_4, if_neg c_11, if_pos c_17, if_pos c_26]
          rw [e9]
          exact retWi hx hb hr hlocks rfl rfl rfl hK hP hD hS dX1_power_43
      · skip
        refine lv_bipush (v := (-2)) hx hb dX1_power_20 (by decide) ?_
        have e9 : F1_power mem dsk sto dn en pw wr cm x0 = ((-2), mem, dsk, sto, dn, en, pw, wr, cm) := by unfold F1_power; rw [if_pos c_4, if_neg c_11, if_neg c_17]
        rw [e9]
        exact retWi hx hb hr hlocks rfl rfl rfl hK hP hD hS dX1_power_22
  · skip
    refine lv_iconst (v := (-1)) hx hb dX1_power_7 (by decide) ?_
    have e9 : F1_power mem dsk sto dn en pw wr cm x0 = ((-1), mem, dsk, sto, dn, en, pw, wr, cm) := by unfold F1_power; rw [if_neg c_4]
    rw [e9]
    exact retWi hx hb hr hlocks rfl rfl rfl hK hP hD hS dX1_power_8
set_option maxHeartbeats 4000000 in
set_option maxRecDepth 100000 in
theorem m1_crash (l : Launch) (dC : Nat → ClassId) (dI : Nat → Nat → Nat) (h0 h1 h2 h3 : Nat) (c1 c2 c3 : ClassId) (sz : Nat) (mem dsk sto : Nat → Int32) (dn en pw wr cm : Int32) : Met l yX1_crash wsX1_crash ({ frames := 0, cells := 0, slots := 0, locals := 0 }) (pcW (dC, dI) (k1 c1 c2 c3) (w1 h0 h1 h2 h3 c1 c2 c3 (mem, dsk, sto, dn, en, pw, wr, cm)) sz [.ref h0]) (qcWi (dC, dI) (k1 c1 c2 c3) (w1 h0 h1 h2 h3 c1 c2 c3 (mem, dsk, sto, dn, en, pw, wr, cm)) (w1 h0 h1 h2 h3 c1 c2 c3 (F1_crash mem dsk sto dn en pw wr cm).2) sz (F1_crash mem dsk sto dn en pw wr cm).1) 0 0 (va_A (w1 h0 h1 h2 h3 c1 c2 c3 (mem, dsk, sto, dn, en, pw, wr, cm)) sz) := by
  refine Met.ofW (cc := cX1_crash) (maxL := 2) (ret := (some .boolean)) (by decide) rfl ?_
  intro p e s m args below meth c s₁ B hml hv
  obtain ⟨rfl, hsz, hP, hK, hD0⟩ := hv
  have hx := B.exec
  have hb := B.bytes
  have hr := B.returns
  have hts := atoms_spec (ws := wsX1_crash) B.pre
  have hown : s.vm.findClass RX1 = some m.cls := findClass_of_methodNamed B.named
  have hlocks := B.notSynchronized
  have hin : ∀ w ∈ wsX10, w ∈ wsX1_crash := fun _ h => List.mem_cons_of_mem _ (List.mem_append_right _ h)
  have hP : va_P (dC, dI) vwCl [(h0, .inr (1, [.ref h1, .ref h2, .ref h3, .int dn, .int en, .int pw, .int wr, .int cm])), (h1, .inl (c1, 96, .inl mem)), (h2, .inl (c2, 200, .inl dsk)), (h3, .inl (c3, 12, .inl sto))] s.heap := hP
  subst hsz
  have hD := hD0.self (sz := s.heap.size)
  have hA : ∀ q : Nat, s.heap.size ≤ q → (va_A (w1 h0 h1 h2 h3 c1 c2 c3 (mem, dsk, sto, dn, en, pw, wr, cm)) s.heap.size) q := fun q h => Or.inr h
  have hS : va_S (va_A (w1 h0 h1 h2 h3 c1 c2 c3 (mem, dsk, sto, dn, en, pw, wr, cm)) s.heap.size) s.heap s.heap [] := va_S.rf
  have hl := lv_entry ([.ref h0]) (n := 2) (Nat.le_of_ble_eq_true rfl)
  rw [lg_entry_eq]
  generalize (lg_sl ([.ref h0]) ++ List.replicate (2 - (lg_sl ([.ref h0])).length) Slot.unset).toArray = ls at hl ⊢
  have hl : lv_has ls 2 [(0, .ref h0)] := hl
  refine lv_aload_n hx hb dX1_crash_0 rfl (lv_at hl 0 rfl) ?_
  refine va_get (D := (dC, dI)) (ci := 1) (v := .int dn) (C := RX1) (T := TX1) (N := 8) hx hb hts hin hown hK hP 0 rfl rfl 3 (by decide) (hts (.fieldLink RX1 28 "CapStoreModel" "down" "Z") (by decide +kernel)) (fun _ h9 => h9) rfl dX1_crash_1 ?_
  refine lv_istore_n (lv' := [(1, .int dn), (0, .ref h0)]) hx hb dX1_crash_4 rfl hl (by decide) rfl (fun ls hl => ?_)
  refine lv_aload_n hx hb dX1_crash_5 rfl (lv_at hl 1 rfl) ?_
  refine lv_iconst (v := 1) hx hb dX1_crash_6 (by decide) ?_
  refine va_put (D := (dC, dI)) (ci := 1) (v := .int 1) (ty := .boolean) (C := RX1) (T := TX1) (N := 8) hx hb hts hin tyX1 tyX1_ok nmX1 hown hK hP hD hS 0 rfl rfl 3 (by decide) (hts (.fieldLink RX1 28 "CapStoreModel" "down" "Z") (by decide +kernel)) (fun _ h9 => h9) rfl (by decide +kernel) rfl rfl (Nat.le_of_ble_eq_true rfl) dX1_crash_7 (fun H locs hP hD hS => ?_)
  have hP : va_P (dC, dI) vwCl [(h0, .inr (1, [.ref h1, .ref h2, .ref h3, .int 1, .int en, .int pw, .int wr, .int cm])), (h1, .inl (c1, 96, .inl mem)), (h2, .inl (c2, 200, .inl dsk)), (h3, .inl (c3, 12, .inl sto))] _ := hP
  have hD : va_D _ [(h0, .inr (1, [.ref h1, .ref h2, .ref h3, .int 1, .int en, .int pw, .int wr, .int cm])), (h1, .inl (c1, 96, .inl mem)), (h2, .inl (c2, 200, .inl dsk)), (h3, .inl (c3, 12, .inl sto))] := hD
  refine lv_iload_n hx hb dX1_crash_10 rfl (lv_at hl 0 rfl) ?_
  refine lv_if_ne (tgt := 18) hx hb dX1_crash_11 (by decide) (fun c_11 => ?_) (fun c_11 => ?_)
  · skip
    refine lv_iconst (v := 0) hx hb dX1_crash_18 (by decide) ?_
    have e9 : F1_crash mem dsk sto dn en pw wr cm = (0, mem, dsk, sto, 1, en, pw, wr, cm) := by unfold F1_crash; rw [if_neg c_11]
    rw [e9]
    exact retWi hx hb hr hlocks rfl rfl rfl hK hP hD hS dX1_crash_19
  · skip
    refine lv_iconst (v := 1) hx hb dX1_crash_14 (by decide) ?_
    refine lv_goto (tgt := 19) hx hb dX1_crash_15 (by decide) ?_
    have e9 : F1_crash mem dsk sto dn en pw wr cm = (1, mem, dsk, sto, 1, en, pw, wr, cm) := by unfold F1_crash; rw [if_pos c_11]
    rw [e9]
    exact retWi hx hb hr hlocks rfl rfl rfl hK hP hD hS dX1_crash_19
set_option maxHeartbeats 4000000 in
set_option maxRecDepth 100000 in
theorem m1_may (l : Launch) (dC : Nat → ClassId) (dI : Nat → Nat → Nat) (h0 h1 h2 h3 : Nat) (c1 c2 c3 : ClassId) (sz : Nat) (mem dsk sto : Nat → Int32) (dn en pw wr cm : Int32) : Met l yX1_may wsX1_may ({ frames := 0, cells := 0, slots := 0, locals := 0 }) (pcW (dC, dI) (k1 c1 c2 c3) (w1 h0 h1 h2 h3 c1 c2 c3 (mem, dsk, sto, dn, en, pw, wr, cm)) sz [.ref h0]) (qcWi (dC, dI) (k1 c1 c2 c3) (w1 h0 h1 h2 h3 c1 c2 c3 (mem, dsk, sto, dn, en, pw, wr, cm)) (w1 h0 h1 h2 h3 c1 c2 c3 (F1_may mem dsk sto dn en pw wr cm).2) sz (F1_may mem dsk sto dn en pw wr cm).1) 0 0 (va_A (w1 h0 h1 h2 h3 c1 c2 c3 (mem, dsk, sto, dn, en, pw, wr, cm)) sz) := by
  refine Met.ofW (cc := cX1_may) (maxL := 1) (ret := (some .boolean)) (by decide) rfl ?_
  intro p e s m args below meth c s₁ B hml hv
  obtain ⟨rfl, hsz, hP, hK, hD0⟩ := hv
  have hx := B.exec
  have hb := B.bytes
  have hr := B.returns
  have hts := atoms_spec (ws := wsX1_may) B.pre
  have hown : s.vm.findClass RX1 = some m.cls := findClass_of_methodNamed B.named
  have hlocks := B.notSynchronized
  have hin : ∀ w ∈ wsX10, w ∈ wsX1_may := fun _ h => List.mem_cons_of_mem _ (List.mem_append_right _ h)
  have hP : va_P (dC, dI) vwCl [(h0, .inr (1, [.ref h1, .ref h2, .ref h3, .int dn, .int en, .int pw, .int wr, .int cm])), (h1, .inl (c1, 96, .inl mem)), (h2, .inl (c2, 200, .inl dsk)), (h3, .inl (c3, 12, .inl sto))] s.heap := hP
  subst hsz
  have hD := hD0.self (sz := s.heap.size)
  have hA : ∀ q : Nat, s.heap.size ≤ q → (va_A (w1 h0 h1 h2 h3 c1 c2 c3 (mem, dsk, sto, dn, en, pw, wr, cm)) s.heap.size) q := fun q h => Or.inr h
  have hS : va_S (va_A (w1 h0 h1 h2 h3 c1 c2 c3 (mem, dsk, sto, dn, en, pw, wr, cm)) s.heap.size) s.heap s.heap [] := va_S.rf
  have hl := lv_entry ([.ref h0]) (n := 1) (Nat.le_of_ble_eq_true rfl)
  rw [lg_entry_eq]
  generalize (lg_sl ([.ref h0]) ++ List.replicate (1 - (lg_sl ([.ref h0])).length) Slot.unset).toArray = ls at hl ⊢
  have hl : lv_has ls 1 [(0, .ref h0)] := hl
  refine lv_aload_n hx hb dX1_may_0 rfl (lv_at hl 0 rfl) ?_
  refine va_get (D := (dC, dI)) (ci := 1) (v := .int en) (C := RX1) (T := TX1) (N := 8) hx hb hts hin hown hK hP 0 rfl rfl 4 (by decide) (hts (.fieldLink RX1 20 "CapStoreModel" "endless" "Z") (by decide +kernel)) (fun _ h9 => h9) rfl dX1_may_1 ?_
  refine lv_if_ne (tgt := 21) hx hb dX1_may_4 (by decide) (fun c_4 => ?_) (fun c_4 => ?_)
  · skip
    refine lv_aload_n hx hb dX1_may_21 rfl (lv_at hl 0 rfl) ?_
    refine va_get (D := (dC, dI)) (ci := 1) (v := .int en) (C := RX1) (T := TX1) (N := 8) hx hb hts hin hown hK hP 0 rfl rfl 4 (by decide) (hts (.fieldLink RX1 20 "CapStoreModel" "endless" "Z") (by decide +kernel)) (fun _ h9 => h9) rfl dX1_may_22 ?_
    refine lv_if_ne (tgt := 38) hx hb dX1_may_25 (by decide) (fun c_25 => ?_) (fun c_25 => ?_)
    · skip
      refine lv_aload_n hx hb dX1_may_38 rfl (lv_at hl 0 rfl) ?_
      refine lv_dup hx hb dX1_may_39 rfl ?_
      refine va_get (D := (dC, dI)) (ci := 1) (v := .int wr) (C := RX1) (T := TX1) (N := 8) hx hb hts hin hown hK hP 0 rfl rfl 6 (by decide) (hts (.fieldLink RX1 59 "CapStoreModel" "writes" "I") (by decide +kernel)) (fun _ h9 => h9) rfl dX1_may_40 ?_
      refine lv_iconst (v := 1) hx hb dX1_may_43 (by decide) ?_
      refine lv_iadd hx hb dX1_may_44 ?_
      refine va_put (D := (dC, dI)) (ci := 1) (v := .int (wr + 1)) (ty := .int) (C := RX1) (T := TX1) (N := 8) hx hb hts hin tyX1 tyX1_ok nmX1 hown hK hP hD hS 0 rfl rfl 6 (by decide) (hts (.fieldLink RX1 59 "CapStoreModel" "writes" "I") (by decide +kernel)) (fun _ h9 => h9) rfl (by decide +kernel) rfl rfl (Nat.le_of_ble_eq_true rfl) dX1_may_45 (fun H locs hP hD hS => ?_)
      have hP : va_P (dC, dI) vwCl [(h0, .inr (1, [.ref h1, .ref h2, .ref h3, .int dn, .int en, .int pw, .int (wr + 1), .int cm])), (h1, .inl (c1, 96, .inl mem)), (h2, .inl (c2, 200, .inl dsk)), (h3, .inl (c3, 12, .inl sto))] _ := hP
      have hD : va_D _ [(h0, .inr (1, [.ref h1, .ref h2, .ref h3, .int dn, .int en, .int pw, .int (wr + 1), .int cm])), (h1, .inl (c1, 96, .inl mem)), (h2, .inl (c2, 200, .inl dsk)), (h3, .inl (c3, 12, .inl sto))] := hD
      refine lv_iconst (v := 1) hx hb dX1_may_48 (by decide) ?_
      have e9 : F1_may mem dsk sto dn en pw wr cm = (1, mem, dsk, sto, dn, en, pw, (wr + 1), cm) := by unfold F1_may; rw [if_neg c_4]
      rw [e9]
      exact retWi hx hb hr hlocks rfl rfl rfl hK hP hD hS dX1_may_49
    · skip
      exact absurd c_25 (c_4)
  · skip
    refine lv_aload_n hx hb dX1_may_7 rfl (lv_at hl 0 rfl) ?_
    refine va_get (D := (dC, dI)) (ci := 1) (v := .int pw) (C := RX1) (T := TX1) (N := 8) hx hb hts hin hown hK hP 0 rfl rfl 5 (by decide) (hts (.fieldLink RX1 55 "CapStoreModel" "power" "I") (by decide +kernel)) (fun _ h9 => h9) rfl dX1_may_8 ?_
    refine lv_if_ne (tgt := 21) hx hb dX1_may_11 (by decide) (fun c_11 => ?_) (fun c_11 => ?_)
    · skip
      refine lv_aload_n hx hb dX1_may_21 rfl (lv_at hl 0 rfl) ?_
      refine va_get (D := (dC, dI)) (ci := 1) (v := .int en) (C := RX1) (T := TX1) (N := 8) hx hb hts hin hown hK hP 0 rfl rfl 4 (by decide) (hts (.fieldLink RX1 20 "CapStoreModel" "endless" "Z") (by decide +kernel)) (fun _ h9 => h9) rfl dX1_may_22 ?_
      refine lv_if_ne (tgt := 38) hx hb dX1_may_25 (by decide) (fun c_25 => ?_) (fun c_25 => ?_)
      · skip
        exact absurd (c_4) c_25
      · skip
        refine lv_aload_n hx hb dX1_may_28 rfl (lv_at hl 0 rfl) ?_
        refine lv_dup hx hb dX1_may_29 rfl ?_
        refine va_get (D := (dC, dI)) (ci := 1) (v := .int pw) (C := RX1) (T := TX1) (N := 8) hx hb hts hin hown hK hP 0 rfl rfl 5 (by decide) (hts (.fieldLink RX1 55 "CapStoreModel" "power" "I") (by decide +kernel)) (fun _ h9 => h9) rfl dX1_may_30 ?_
        refine lv_iconst (v := 1) hx hb dX1_may_33 (by decide) ?_
        refine lv_isub hx hb dX1_may_34 ?_
        refine va_put (D := (dC, dI)) (ci := 1) (v := .int (pw - 1)) (ty := .int) (C := RX1) (T := TX1) (N := 8) hx hb hts hin tyX1 tyX1_ok nmX1 hown hK hP hD hS 0 rfl rfl 5 (by decide) (hts (.fieldLink RX1 55 "CapStoreModel" "power" "I") (by decide +kernel)) (fun _ h9 => h9) rfl (by decide +kernel) rfl rfl (Nat.le_of_ble_eq_true rfl) dX1_may_35 (fun H locs hP hD hS => ?_)
        have hP : va_P (dC, dI) vwCl [(h0, .inr (1, [.ref h1, .ref h2, .ref h3, .int dn, .int en, .int (pw - 1), .int wr, .int cm])), (h1, .inl (c1, 96, .inl mem)), (h2, .inl (c2, 200, .inl dsk)), (h3, .inl (c3, 12, .inl sto))] _ := hP
        have hD : va_D _ [(h0, .inr (1, [.ref h1, .ref h2, .ref h3, .int dn, .int en, .int (pw - 1), .int wr, .int cm])), (h1, .inl (c1, 96, .inl mem)), (h2, .inl (c2, 200, .inl dsk)), (h3, .inl (c3, 12, .inl sto))] := hD
        refine lv_aload_n hx hb dX1_may_38 rfl (lv_at hl 0 rfl) ?_
        refine lv_dup hx hb dX1_may_39 rfl ?_
        refine va_get (D := (dC, dI)) (ci := 1) (v := .int wr) (C := RX1) (T := TX1) (N := 8) hx hb hts hin hown hK hP 0 rfl rfl 6 (by decide) (hts (.fieldLink RX1 59 "CapStoreModel" "writes" "I") (by decide +kernel)) (fun _ h9 => h9) rfl dX1_may_40 ?_
        refine lv_iconst (v := 1) hx hb dX1_may_43 (by decide) ?_
        refine lv_iadd hx hb dX1_may_44 ?_
        refine va_put (D := (dC, dI)) (ci := 1) (v := .int (wr + 1)) (ty := .int) (C := RX1) (T := TX1) (N := 8) hx hb hts hin tyX1 tyX1_ok nmX1 hown hK hP hD hS 0 rfl rfl 6 (by decide) (hts (.fieldLink RX1 59 "CapStoreModel" "writes" "I") (by decide +kernel)) (fun _ h9 => h9) rfl (by decide +kernel) rfl rfl (Nat.le_of_ble_eq_true rfl) dX1_may_45 (fun H locs hP hD hS => ?_)
        have hP : va_P (dC, dI) vwCl [(h0, .inr (1, [.ref h1, .ref h2, .ref h3, .int dn, .int en, .int (pw - 1), .int (wr + 1), .int cm])), (h1, .inl (c1, 96, .inl mem)), (h2, .inl (c2, 200, .inl dsk)), (h3, .inl (c3, 12, .inl sto))] _ := hP
        have hD : va_D _ [(h0, .inr (1, [.ref h1, .ref h2, .ref h3, .int dn, .int en, .int (pw - 1), .int (wr + 1), .int cm])), (h1, .inl (c1, 96, .inl mem)), (h2, .inl (c2, 200, .inl dsk)), (h3, .inl (c3, 12, .inl sto))] := hD
        refine lv_iconst (v := 1) hx hb dX1_may_48 (by decide) ?_
        have e9 : F1_may mem dsk sto dn en pw wr cm = (1, mem, dsk, sto, dn, en, (pw - 1), (wr + 1), cm) := by unfold F1_may; rw [if_pos c_4, if_neg c_11]
        rw [e9]
        exact retWi hx hb hr hlocks rfl rfl rfl hK hP hD hS dX1_may_49
    · skip
      refine lv_aload_n hx hb dX1_may_14 rfl (lv_at hl 0 rfl) ?_
      refine lv_iconst (v := 1) hx hb dX1_may_15 (by decide) ?_
      refine va_put (D := (dC, dI)) (ci := 1) (v := .int 1) (ty := .boolean) (C := RX1) (T := TX1) (N := 8) hx hb hts hin tyX1 tyX1_ok nmX1 hown hK hP hD hS 0 rfl rfl 3 (by decide) (hts (.fieldLink RX1 28 "CapStoreModel" "down" "Z") (by decide +kernel)) (fun _ h9 => h9) rfl (by decide +kernel) rfl rfl (Nat.le_of_ble_eq_true rfl) dX1_may_16 (fun H locs hP hD hS => ?_)
      have hP : va_P (dC, dI) vwCl [(h0, .inr (1, [.ref h1, .ref h2, .ref h3, .int 1, .int en, .int pw, .int wr, .int cm])), (h1, .inl (c1, 96, .inl mem)), (h2, .inl (c2, 200, .inl dsk)), (h3, .inl (c3, 12, .inl sto))] _ := hP
      have hD : va_D _ [(h0, .inr (1, [.ref h1, .ref h2, .ref h3, .int 1, .int en, .int pw, .int wr, .int cm])), (h1, .inl (c1, 96, .inl mem)), (h2, .inl (c2, 200, .inl dsk)), (h3, .inl (c3, 12, .inl sto))] := hD
      refine lv_iconst (v := 0) hx hb dX1_may_19 (by decide) ?_
      have e9 : F1_may mem dsk sto dn en pw wr cm = (0, mem, dsk, sto, 1, en, pw, wr, cm) := by unfold F1_may; rw [if_pos c_4, if_pos c_11]
      rw [e9]
      exact retWi hx hb hr hlocks rfl rfl rfl hK hP hD hS dX1_may_20
set_option maxHeartbeats 4000000 in
set_option maxRecDepth 100000 in
theorem m1_header (l : Launch) (dC : Nat → ClassId) (dI : Nat → Nat → Nat) (h0 h1 h2 h3 : Nat) (c1 c2 c3 : ClassId) (sz : Nat) (mem dsk sto : Nat → Int32) (dn en pw wr cm : Int32) (x0 : Int32) : Met l yX1_header wsX1_header ({ frames := 0, cells := 0, slots := 0, locals := 0 }) (pcW (dC, dI) (k1 c1 c2 c3) (w1 h0 h1 h2 h3 c1 c2 c3 (mem, dsk, sto, dn, en, pw, wr, cm)) sz [.ref h0, .int x0]) (qcWv (dC, dI) (k1 c1 c2 c3) (w1 h0 h1 h2 h3 c1 c2 c3 (mem, dsk, sto, dn, en, pw, wr, cm)) (w1 h0 h1 h2 h3 c1 c2 c3 (F1_header mem dsk sto dn en pw wr cm x0)) sz) 0 0 (va_A (w1 h0 h1 h2 h3 c1 c2 c3 (mem, dsk, sto, dn, en, pw, wr, cm)) sz) := by
  refine Met.ofW (cc := cX1_header) (maxL := 2) (ret := none) (by decide) rfl ?_
  intro p e s m args below meth c s₁ B hml hv
  obtain ⟨rfl, hsz, hP, hK, hD0⟩ := hv
  have hx := B.exec
  have hb := B.bytes
  have hr := B.returns
  have hts := atoms_spec (ws := wsX1_header) B.pre
  have hown : s.vm.findClass RX1 = some m.cls := findClass_of_methodNamed B.named
  have hlocks := B.notSynchronized
  have hin : ∀ w ∈ wsX10, w ∈ wsX1_header := fun _ h => List.mem_cons_of_mem _ (List.mem_append_right _ h)
  have hP : va_P (dC, dI) vwCl [(h0, .inr (1, [.ref h1, .ref h2, .ref h3, .int dn, .int en, .int pw, .int wr, .int cm])), (h1, .inl (c1, 96, .inl mem)), (h2, .inl (c2, 200, .inl dsk)), (h3, .inl (c3, 12, .inl sto))] s.heap := hP
  subst hsz
  have hD := hD0.self (sz := s.heap.size)
  have hA : ∀ q : Nat, s.heap.size ≤ q → (va_A (w1 h0 h1 h2 h3 c1 c2 c3 (mem, dsk, sto, dn, en, pw, wr, cm)) s.heap.size) q := fun q h => Or.inr h
  have hS : va_S (va_A (w1 h0 h1 h2 h3 c1 c2 c3 (mem, dsk, sto, dn, en, pw, wr, cm)) s.heap.size) s.heap s.heap [] := va_S.rf
  have hl := lv_entry ([.ref h0, .int x0]) (n := 2) (Nat.le_of_ble_eq_true rfl)
  rw [lg_entry_eq]
  generalize (lg_sl ([.ref h0, .int x0]) ++ List.replicate (2 - (lg_sl ([.ref h0, .int x0])).length) Slot.unset).toArray = ls at hl ⊢
  have hl : lv_has ls 2 [(0, .ref h0), (1, .int x0)] := hl
  refine lv_aload_n hx hb dX1_header_0 rfl (lv_at hl 0 rfl) ?_
  refine va_get (D := (dC, dI)) (ci := 1) (v := .ref h2) (C := RX1) (T := TX1) (N := 8) hx hb hts hin hown hK hP 0 rfl rfl 1 (by decide) (hts (.fieldLink RX1 13 "CapStoreModel" "disk" "[I") (by decide +kernel)) (fun _ h9 => h9) rfl dX1_header_1 ?_
  refine lv_sipush (v := 192) hx hb dX1_header_4 (by decide) ?_
  refine lv_iload_n hx hb dX1_header_7 rfl (lv_at hl 1 rfl) ?_
  refine va_iast hx hb hK hP hD hS 2 1 rfl rfl (vp_in_nI (n := 192) (by decide) (by decide)) dX1_header_8 (fun H locs hP hD hS => ?_)
  have hP : va_P (dC, dI) vwCl [(h0, .inr (1, [.ref h1, .ref h2, .ref h3, .int dn, .int en, .int pw, .int wr, .int cm])), (h1, .inl (c1, 96, .inl mem)), (h2, .inl (c2, 200, .inl (upd dsk (192 : Int32).toNatClampNeg x0))), (h3, .inl (c3, 12, .inl sto))] _ := hP
  have hD : va_D _ [(h0, .inr (1, [.ref h1, .ref h2, .ref h3, .int dn, .int en, .int pw, .int wr, .int cm])), (h1, .inl (c1, 96, .inl mem)), (h2, .inl (c2, 200, .inl (upd dsk (192 : Int32).toNatClampNeg x0))), (h3, .inl (c3, 12, .inl sto))] := hD
  have e9 : F1_header mem dsk sto dn en pw wr cm x0 = (mem, (upd dsk (192 : Int32).toNatClampNeg x0), sto, dn, en, pw, wr, cm) := rfl
  rw [e9]
  exact retWv hx hb hr hlocks rfl hK hP hD hS dX1_header_9
end
section
def cpm (mem : Nat → Int32) (t o : Int32) : Nat → (Nat → Int32) → Nat → Int32
  | 0, d => d
  | n + 1, d => cpm mem t o n (upd d ((8 * t) + (nI (7 - n))).toNatClampNeg (mem ((8 * o) + (nI (7 - n))).toNatClampNeg))
def cpd (o : Int32) : Nat → (Nat → Int32) → Nat → Int32
  | 0, d => d
  | n + 1, d => cpd o n (upd d ((8 * o) + (nI (7 - n))).toNatClampNeg (d ((96 + (8 * o)) + (nI (7 - n))).toNatClampNeg))
def ldm (dsk : Nat → Int32) : Nat → (Nat → Int32) → Nat → Int32
  | 0, f => f
  | n + 1, f => ldm dsk n (upd f (nI (95 - n)).toNatClampNeg (dsk (nI (95 - n)).toNatClampNeg))
def rst : Nat → (Nat → Int32) → Nat → Int32
  | 0, f => f
  | n + 1, f => rst n (upd f (nI (11 - n)).toNatClampNeg (vp_nar .boolean 0))
def F1_cp (x n : Int32) : Nat → Int32 → S0 → Int32 × S0
  | 0, _, u => (2 * n + 2, u.1, u.2.1, rst 12 u.2.2.1, u.2.2.2.1, u.2.2.2.2.1, u.2.2.2.2.2.1, u.2.2.2.2.2.2.1, u.2.2.2.2.2.2.2)
  | f + 1, k, u => (match F1_may u.1 u.2.1 u.2.2.1 u.2.2.2.1 u.2.2.2.2.1 u.2.2.2.2.2.1 u.2.2.2.2.2.2.1 u.2.2.2.2.2.2.2 with
    | (r, mem, dsk, sto, dn, en, pw, wr, cm) => if r = 0 then ((-2), mem, dsk, sto, dn, en, pw, wr, cm) else
      (if k = n then F1_cp x n f (k + 1) (mem, upd dsk (192 : Int32).toNatClampNeg x, sto, dn, en, pw, wr, cm + 1) else
       (if k ≤ 2 * n then
         (if n ≤ k then F1_cp x n f (k + 1) (mem, cpm mem (f1_member mem dsk sto dn en pw wr cm x (k - n - 1)) (f1_member mem dsk sto dn en pw wr cm x (k - n - 1)) 8 dsk, sto, dn, en, pw, wr, cm)
          else F1_cp x n f (k + 1) (mem, cpm mem (12 + f1_member mem dsk sto dn en pw wr cm x k) (f1_member mem dsk sto dn en pw wr cm x k) 8 dsk, sto, dn, en, pw, wr, cm))
        else F1_cp x n f (k + 1) (mem, upd dsk (192 : Int32).toNatClampNeg 0, sto, dn, en, pw, wr, cm))))
def F1_checkpoint (mem dsk sto : Nat → Int32) (dn en pw wr cm : Int32) : Int32 × S0 := (if dn = 0 then (if (f1_inSet mem dsk sto dn en pw wr cm (f1_dirty mem dsk sto dn en pw wr cm)) = 0 then (0, mem, dsk, sto, dn, en, pw, wr, cm) else F1_cp (f1_dirty mem dsk sto dn en pw wr cm) (f1_inSet mem dsk sto dn en pw wr cm (f1_dirty mem dsk sto dn en pw wr cm)) (2 * (f1_inSet mem dsk sto dn en pw wr cm (f1_dirty mem dsk sto dn en pw wr cm)).toNatClampNeg + 2) 0 (mem, dsk, sto, dn, en, pw, wr, cm)) else ((-1), mem, dsk, sto, dn, en, pw, wr, cm))
def F1_st (x n : Int32) : Nat → Int32 → S0 → Int32 × S0
  | 0, _, u => (n, ldm u.2.1 96 u.1, u.2.1, rst 12 u.2.2.1, 0, u.2.2.2.2.1, u.2.2.2.2.2.1, u.2.2.2.2.2.2.1, u.2.2.2.2.2.2.2)
  | f + 1, k, u => (match F1_may u.1 u.2.1 u.2.2.1 u.2.2.2.1 u.2.2.2.2.1 u.2.2.2.2.2.1 u.2.2.2.2.2.2.1 u.2.2.2.2.2.2.2 with
    | (r, mem, dsk, sto, dn, en, pw, wr, cm) => if r = 0 then ((-3), mem, dsk, sto, dn, en, pw, wr, cm) else
      (if k = n - 1 then F1_st x n f (k + 1) (mem, upd dsk (192 : Int32).toNatClampNeg 0, sto, dn, en, pw, wr, cm) else
       F1_st x n f (k + 1) (mem, cpd (f1_member mem dsk sto dn en pw wr cm x k) 8 dsk, sto, dn, en, pw, wr, cm)))
def z1_start_34 (x0 : Int32) : Int32 := (if x0 = (-1) then 1 else 0)
def z1_start_66 (mem : Nat → Int32) (dsk : Nat → Int32) (sto : Nat → Int32) (dn : Int32) (wr : Int32) (cm : Int32) (x0 : Int32) : Int32 := (if (dsk (192 : Int32).toNatClampNeg) = 0 then 0 else ((f1_inSet mem dsk sto dn (z1_start_34 x0) x0 wr cm (dsk (192 : Int32).toNatClampNeg)) + 1))
def F1_start (mem dsk sto : Nat → Int32) (dn en pw wr cm : Int32) (x0 : Int32) : Int32 × S0 := (if dn = 0 then ((-1), mem, dsk, sto, dn, en, pw, wr, cm) else (if x0 < (-1) then ((-2), mem, dsk, sto, dn, en, pw, wr, cm) else (if x0 ≤ 63 then F1_st (dsk (192 : Int32).toNatClampNeg) (z1_start_66 mem dsk sto dn wr cm x0) ((z1_start_66 mem dsk sto dn wr cm x0).toNatClampNeg) 0 (mem, dsk, sto, dn, (z1_start_34 x0), x0, wr, cm) else ((-2), mem, dsk, sto, dn, en, pw, wr, cm))))
end
section
theorem bit_01 (x y : Int32) : ∃ j : Nat, j < 2 ∧ (x >>> y) &&& 1 = nI j := pk_andE (x >>> y) 1 (by decide)
theorem is_le (x : Int32) : ∀ (n a : Nat), ∃ b : Nat, b ≤ a + n ∧ f1_is x n (nI a) = nI b := by
  intro n
  induction n with
  | zero => intro a; exact ⟨a, by omega, rfl⟩
  | succ n ih =>
    intro a
    obtain ⟨j, hj, e⟩ := bit_01 x (nI (11 - n) &&& 31)
    rw [f1_is, e, nI_add]
    obtain ⟨b, hb, e2⟩ := ih (a + j)
    exact ⟨b, by omega, e2⟩
theorem is_ok (x : Int32) : ∃ nn : Nat, nn ≤ 12 ∧ f1_is x 12 0 = nI nn := by
  obtain ⟨b, hb, e⟩ := is_le x 12 0
  exact ⟨b, by omega, e⟩
theorem mb_le (x : Int32) : ∀ (n : Nat) (a : Int32), ∃ j : Nat, j < 12 ∧ f1_mb x n a = nI j := by
  intro n
  induction n with
  | zero => intro a; exact ⟨0, by omega, rfl⟩
  | succ n ih =>
    intro a
    rw [f1_mb]
    by_cases c1 : ((x >>> (nI (11 - n) &&& 31)) &&& 1) = 1
    · rw [if_pos c1]
      by_cases c2 : a = 0
      · rw [if_pos c2]; exact ⟨11 - n, by omega, rfl⟩
      · rw [if_neg c2]; exact ih _
    · rw [if_neg c1]; exact ih _
theorem mb_ok (x a : Int32) : ∃ j : Nat, j < 12 ∧ f1_mb x 12 a = nI j := mb_le x 12 a
theorem sdc_1 {O : Int32} (h : ∃ j : Nat, j < 12 ∧ O = nI j) {i : Nat} (hi : i < 8) : vp_in (8 * O + nI i) 96 := by
  obtain ⟨j, hj, rfl⟩ := h
  exact ix1_in (by decide) (by omega)
theorem sdc_2 {O : Int32} (h : ∃ j : Nat, j < 12 ∧ O = nI j) {i : Nat} (hi : i < 8) : vp_in (8 * O + nI i) 200 := by
  obtain ⟨j, hj, rfl⟩ := h
  exact ix1_in (by decide) (by omega)
theorem sdc_3 {O : Int32} (h : ∃ j : Nat, j < 12 ∧ O = nI j) {i : Nat} (hi : i < 8) : vp_in (8 * (12 + O) + nI i) 200 := by
  obtain ⟨j, hj, rfl⟩ := h
  rw [show (12 : Int32) = nI 12 from rfl, nI_add]
  exact ix1_in (by decide) (by omega)
theorem sdc_4 {O : Int32} (h : ∃ j : Nat, j < 12 ∧ O = nI j) {i : Nat} (hi : i < 8) : vp_in (96 + 8 * O + nI i) 200 := by
  obtain ⟨j, hj, rfl⟩ := h
  rw [show (96 : Int32) = nI 96 from rfl, show (8 : Int32) = nI 8 from rfl, pk_mul, nI_add, nI_add]
  exact vp_in_nI (by omega) (by decide)
theorem ck_t (nn : Nat) : 2 * nI nn + 2 = nI (2 * nn + 2) := by
  rw [show (2 : Int32) = nI 2 from rfl, pk_mul, nI_add]
theorem ck_out {nn : Nat} {mny k : Int32} (hnn : nn ≤ 12) (en : mny = nI nn) (ek : k = nI (2 * nn + 2 - 0)) : 2 * mny + 2 ≤ k := by
  rw [en, ek, ck_t]; exact nI_le (by omega) (by omega)
theorem ck_in {nn f : Nat} {mny k : Int32} (hnn : nn ≤ 12) (hf : f + 1 ≤ 2 * nn + 2) (en : mny = nI nn) (ek : k = nI (2 * nn + 2 - (f + 1))) : ¬ 2 * mny + 2 ≤ k := by
  rw [en, ek, ck_t]; exact nI_ge (by omega) (by omega)
theorem ck_nxt {nn f : Nat} {k : Int32} (hf : f + 1 ≤ 2 * nn + 2) (ek : k = nI (2 * nn + 2 - (f + 1))) : k + 1 = nI (2 * nn + 2 - f) := by
  rw [ek, nI_1]; congr 1; omega
theorem st_out {nn : Nat} {mny k : Int32} (hnn : nn ≤ 13) (en : mny = nI nn) (ek : k = nI (nn - 0)) : mny ≤ k := by
  rw [en, ek]; exact nI_le (by omega) (by omega)
theorem st_in {nn f : Nat} {mny k : Int32} (hnn : nn ≤ 13) (hf : f + 1 ≤ nn) (en : mny = nI nn) (ek : k = nI (nn - (f + 1))) : ¬ mny ≤ k := by
  rw [en, ek]; exact nI_ge (by omega) (by omega)
theorem st_nxt {nn f : Nat} {k : Int32} (hf : f + 1 ≤ nn) (ek : k = nI (nn - (f + 1))) : k + 1 = nI (nn - f) := by
  rw [ek, nI_1]; congr 1; omega
theorem st_ok (mem dsk sto : Nat → Int32) (dn wr cm x0 : Int32) : ∃ nn : Nat, nn ≤ 13 ∧ z1_start_66 mem dsk sto dn wr cm x0 = nI nn := by
  unfold z1_start_66
  by_cases c1 : dsk (192 : Int32).toNatClampNeg = 0
  · rw [if_pos c1]; exact ⟨0, by omega, rfl⟩
  · rw [if_neg c1]
    obtain ⟨b, hb, e⟩ := is_ok (dsk (192 : Int32).toNatClampNeg)
    refine ⟨b + 1, by omega, ?_⟩
    unfold f1_inSet
    rw [e, nI_1]
theorem z34_01 (x0 : Int32) : z1_start_34 x0 = 0 ∨ z1_start_34 x0 = 1 := by
  unfold z1_start_34
  by_cases c1 : x0 = -1
  · rw [if_pos c1]; exact Or.inr rfl
  · rw [if_neg c1]; exact Or.inl rfl
theorem nar_z34 (x0 : Int32) : narrow .boolean (.int (z1_start_34 x0)) = .int (z1_start_34 x0) := by
  rcases z34_01 x0 with e | e <;> rw [e] <;> rfl
theorem fit_z34 (x0 : Int32) : fits .boolean (.int (z1_start_34 x0)) = true := by
  rcases z34_01 x0 with e | e <;> rw [e] <;> rfl
end
section
set_option maxHeartbeats 8000000 in
set_option maxRecDepth 100000 in
theorem m1_checkpoint (l : Launch) (dC : Nat → ClassId) (dI : Nat → Nat → Nat) (h0 h1 h2 h3 : Nat) (c1 c2 c3 : ClassId) (sz : Nat) (mem dsk sto : Nat → Int32) (dn en pw wr cm : Int32) : Met l yX1_checkpoint wsX1_checkpoint ({ frames := 1, cells := 0, slots := 0, locals := 24 }) (pcW (dC, dI) (k1 c1 c2 c3) (w1 h0 h1 h2 h3 c1 c2 c3 (mem, dsk, sto, dn, en, pw, wr, cm)) sz [.ref h0]) (qcWi (dC, dI) (k1 c1 c2 c3) (w1 h0 h1 h2 h3 c1 c2 c3 (mem, dsk, sto, dn, en, pw, wr, cm)) (w1 h0 h1 h2 h3 c1 c2 c3 (F1_checkpoint mem dsk sto dn en pw wr cm).2) sz (F1_checkpoint mem dsk sto dn en pw wr cm).1) 0 0 (va_A (w1 h0 h1 h2 h3 c1 c2 c3 (mem, dsk, sto, dn, en, pw, wr, cm)) sz) := by
  refine Met.ofW (cc := cX1_checkpoint) (maxL := 7) (ret := (some .int)) (by decide) rfl ?_
  intro p e s m args below meth c s₁ B hml hv
  obtain ⟨rfl, hsz, hP, hK, hD0⟩ := hv
  have hx := B.exec
  have hb := B.bytes
  have hr := B.returns
  have hts := atoms_spec (ws := wsX1_checkpoint) B.pre
  have hown : s.vm.findClass RX1 = some m.cls := findClass_of_methodNamed B.named
  have hlocks := B.notSynchronized
  have hin : ∀ w ∈ wsX10, w ∈ wsX1_checkpoint := fun _ h => List.mem_cons_of_mem _ (List.mem_append_right _ h)
  have hP : va_P (dC, dI) vwCl [(h0, .inr (1, [.ref h1, .ref h2, .ref h3, .int dn, .int en, .int pw, .int wr, .int cm])), (h1, .inl (c1, 96, .inl mem)), (h2, .inl (c2, 200, .inl dsk)), (h3, .inl (c3, 12, .inl sto))] s.heap := hP
  subst hsz
  have hD := hD0.self (sz := s.heap.size)
  have hA : ∀ q : Nat, s.heap.size ≤ q → (va_A (w1 h0 h1 h2 h3 c1 c2 c3 (mem, dsk, sto, dn, en, pw, wr, cm)) s.heap.size) q := fun q h => Or.inr h
  have hS : va_S (va_A (w1 h0 h1 h2 h3 c1 c2 c3 (mem, dsk, sto, dn, en, pw, wr, cm)) s.heap.size) s.heap s.heap [] := va_S.rf
  have hl := lv_entry ([.ref h0]) (n := 7) (Nat.le_of_ble_eq_true rfl)
  rw [lg_entry_eq]
  generalize (lg_sl ([.ref h0]) ++ List.replicate (7 - (lg_sl ([.ref h0])).length) Slot.unset).toArray = ls at hl ⊢
  have hl : lv_has ls 7 [(0, .ref h0)] := hl
  have loop : ∀ (x mny : Int32) (nn : Nat), nn ≤ 12 → mny = nI nn → ∀ (f : Nat), f ≤ 2 * nn + 2 → ∀ (k : Int32), k = nI (2 * nn + 2 - f) → ∀ (mem_0 dsk_0 sto_0 : Nat → Int32) (dn_0 en_0 pw_0 wr_0 cm_0 : Int32) (H : Heap) (locs : List Loc) (ls : Array Slot), va_P (dC, dI) vwCl [(h0, .inr (1, [.ref h1, .ref h2, .ref h3, .int dn_0, .int en_0, .int pw_0, .int wr_0, .int cm_0])), (h1, .inl (c1, 96, .inl mem_0)), (h2, .inl (c2, 200, .inl dsk_0)), (h3, .inl (c3, 12, .inl sto_0))] H → va_D (va_A (w1 h0 h1 h2 h3 c1 c2 c3 (mem, dsk, sto, dn, en, pw, wr, cm)) s.heap.size) [(h0, .inr (1, [.ref h1, .ref h2, .ref h3, .int dn_0, .int en_0, .int pw_0, .int wr_0, .int cm_0])), (h1, .inl (c1, 96, .inl mem_0)), (h2, .inl (c2, 200, .inl dsk_0)), (h3, .inl (c3, 12, .inl sto_0))] → va_S (va_A (w1 h0 h1 h2 h3 c1 c2 c3 (mem, dsk, sto, dn, en, pw, wr, cm)) s.heap.size) s.heap H locs → lv_has ls 7 [(3, .int k), (2, .int mny), (1, .int x), (0, .ref h0)] →
      W p l e (headSpec wsX1_checkpoint ({ frames := 1, cells := 0, slots := 0, locals := 24 })).room s m #[Value.ref h0] below meth c H locs 0 0 (MQ below (qcWi (dC, dI) (k1 c1 c2 c3) (w1 h0 h1 h2 h3 c1 c2 c3 (mem, dsk, sto, dn, en, pw, wr, cm)) (w1 h0 h1 h2 h3 c1 c2 c3 (F1_cp x mny f k (mem_0, dsk_0, sto_0, dn_0, en_0, pw_0, wr_0, cm_0)).2) s.heap.size (F1_cp x mny f k (mem_0, dsk_0, sto_0, dn_0, en_0, pw_0, wr_0, cm_0)).1) #[Value.ref h0] s 0 0 (va_A (w1 h0 h1 h2 h3 c1 c2 c3 (mem, dsk, sto, dn, en, pw, wr, cm)) s.heap.size)) (F0 m 28 ls []) := by
    intro x mny nn hnn eny f
    induction f with
    | zero =>
      intro hf k ek mem_0 dsk_0 sto_0 dn_0 en_0 pw_0 wr_0 cm_0 H locs ls hP hD hS hl
      refine lv_iload_n hx hb dX1_checkpoint_28 rfl (lv_at hl 0 rfl) ?_
      refine lv_iconst (v := 2) hx hb dX1_checkpoint_29 (by decide) ?_
      refine lv_iload_n hx hb dX1_checkpoint_30 rfl (lv_at hl 1 rfl) ?_
      refine lv_imul hx hb dX1_checkpoint_31 ?_
      refine lv_iconst (v := 2) hx hb dX1_checkpoint_32 (by decide) ?_
      refine lv_iadd hx hb dX1_checkpoint_33 ?_
      refine lv_icmp_ge (tgt := 171) hx hb dX1_checkpoint_34 (by decide) (fun c_34 => ?_) (fun c_34 => ?_)
      · skip
        refine lv_iconst (v := 0) hx hb dX1_checkpoint_171 (by decide) ?_
        refine lv_istore_n (lv' := [(3, .int 0), (2, .int mny), (1, .int x), (0, .ref h0)]) hx hb dX1_checkpoint_172 rfl hl (by decide) rfl (fun ls hl => ?_)
        have lp1 : ∀ (Q : State → Prop) (n : Nat), n ≤ 12 → ∀ (v2_1 : Nat → Int32) (H : Heap) (locs : List Loc) (ls : Array Slot), va_P (dC, dI) vwCl [(h0, .inr (1, [.ref h1, .ref h2, .ref h3, .int dn_0, .int en_0, .int pw_0, .int wr_0, .int cm_0])), (h1, .inl (c1, 96, .inl mem_0)), (h2, .inl (c2, 200, .inl dsk_0)), (h3, .inl (c3, 12, .inl v2_1))] H → va_D (va_A (w1 h0 h1 h2 h3 c1 c2 c3 (mem, dsk, sto, dn, en, pw, wr, cm)) s.heap.size) [(h0, .inr (1, [.ref h1, .ref h2, .ref h3, .int dn_0, .int en_0, .int pw_0, .int wr_0, .int cm_0])), (h1, .inl (c1, 96, .inl mem_0)), (h2, .inl (c2, 200, .inl dsk_0)), (h3, .inl (c3, 12, .inl v2_1))] → va_S (va_A (w1 h0 h1 h2 h3 c1 c2 c3 (mem, dsk, sto, dn, en, pw, wr, cm)) s.heap.size) s.heap H locs → lv_has ls 7 [(3, .int (nI (12 - n))), (2, .int mny), (1, .int x), (0, .ref h0)] →
            (∀ (H : Heap) (locs : List Loc) (ls : Array Slot), va_P (dC, dI) vwCl [(h0, .inr (1, [.ref h1, .ref h2, .ref h3, .int dn_0, .int en_0, .int pw_0, .int wr_0, .int cm_0])), (h1, .inl (c1, 96, .inl mem_0)), (h2, .inl (c2, 200, .inl dsk_0)), (h3, .inl (c3, 12, .inl (rst n v2_1)))] H → va_D (va_A (w1 h0 h1 h2 h3 c1 c2 c3 (mem, dsk, sto, dn, en, pw, wr, cm)) s.heap.size) [(h0, .inr (1, [.ref h1, .ref h2, .ref h3, .int dn_0, .int en_0, .int pw_0, .int wr_0, .int cm_0])), (h1, .inl (c1, 96, .inl mem_0)), (h2, .inl (c2, 200, .inl dsk_0)), (h3, .inl (c3, 12, .inl (rst n v2_1)))] → va_S (va_A (w1 h0 h1 h2 h3 c1 c2 c3 (mem, dsk, sto, dn, en, pw, wr, cm)) s.heap.size) s.heap H locs → lv_has ls 7 [(3, .int (nI 12)), (2, .int mny), (1, .int x), (0, .ref h0)] → W p l e (headSpec wsX1_checkpoint ({ frames := 1, cells := 0, slots := 0, locals := 24 })).room s m #[Value.ref h0] below meth c H locs 0 0 Q (F0 m 192 ls [])) → W p l e (headSpec wsX1_checkpoint ({ frames := 1, cells := 0, slots := 0, locals := 24 })).room s m #[Value.ref h0] below meth c H locs 0 0 Q (F0 m 173 ls []) := by
          intro Q n
          induction n with
          | zero =>
            intro hn v2_1 H locs ls hP hD hS hl K
            have hl : lv_has ls 7 [(3, .int (nI 12)), (2, .int mny), (1, .int x), (0, .ref h0)] := hl
            refine lv_iload_n hx hb dX1_checkpoint_173 rfl (lv_at hl 0 rfl) ?_
            refine lv_bipush (v := 12) hx hb dX1_checkpoint_174 (by decide) ?_
            refine lv_icmp_ge (tgt := 192) hx hb dX1_checkpoint_176 (by decide) (fun c_176 => ?_) (fun c_176 => ?_)
            · skip
              exact K H locs ls hP hD hS hl
            · skip
              exact absurd (by decide) c_176
          | succ n ih =>
            intro hn v2_1 H locs ls hP hD hS hl K
            have enx : 12 - (n + 1) = 11 - n := by omega
            rw [enx] at hl
            have ei : nI (11 - n) + 1 = nI (12 - n) := by rw [nI_1]; congr 1; omega
            have hl : lv_has ls 7 [(3, .int (nI (11 - n))), (2, .int mny), (1, .int x), (0, .ref h0)] := hl
            refine lv_iload_n hx hb dX1_checkpoint_173 rfl (lv_at hl 0 rfl) ?_
            refine lv_bipush (v := 12) hx hb dX1_checkpoint_174 (by decide) ?_
            refine lv_icmp_ge (tgt := 192) hx hb dX1_checkpoint_176 (by decide) (fun c_176 => ?_) (fun c_176 => ?_)
            · skip
              exact absurd c_176 (nI_ge (a := 11 - n) (b := 12) (by omega) (by decide))
            · skip
              refine lv_aload_n hx hb dX1_checkpoint_179 rfl (lv_at hl 3 rfl) ?_
              refine va_get (D := (dC, dI)) (ci := 1) (v := .ref h3) (C := RX1) (T := TX1) (N := 8) hx hb hts hin hown hK hP 0 rfl rfl 2 (by decide) (hts (.fieldLink RX1 16 "CapStoreModel" "stored" "[Z") (by decide +kernel)) (fun _ h9 => h9) rfl dX1_checkpoint_180 ?_
              refine lv_iload_n hx hb dX1_checkpoint_183 rfl (lv_at hl 0 rfl) ?_
              refine lv_iconst (v := 0) hx hb dX1_checkpoint_184 (by decide) ?_
              refine va_zast hx hb hK hP hD hS 3 2 rfl rfl (vp_in_nI (by omega) (by decide)) dX1_checkpoint_185 (fun H locs hP hD hS => ?_)
              have hP : va_P (dC, dI) vwCl [(h0, .inr (1, [.ref h1, .ref h2, .ref h3, .int dn_0, .int en_0, .int pw_0, .int wr_0, .int cm_0])), (h1, .inl (c1, 96, .inl mem_0)), (h2, .inl (c2, 200, .inl dsk_0)), (h3, .inl (c3, 12, .inl (upd v2_1 (nI (11 - n)).toNatClampNeg (vp_nar .boolean 0))))] _ := hP
              have hD : va_D _ [(h0, .inr (1, [.ref h1, .ref h2, .ref h3, .int dn_0, .int en_0, .int pw_0, .int wr_0, .int cm_0])), (h1, .inl (c1, 96, .inl mem_0)), (h2, .inl (c2, 200, .inl dsk_0)), (h3, .inl (c3, 12, .inl (upd v2_1 (nI (11 - n)).toNatClampNeg (vp_nar .boolean 0))))] := hD
              refine lv_iinc (v := ((nI (11 - n)) + 1)) (lv' := [(3, .int ((nI (11 - n)) + 1)), (2, .int mny), (1, .int x), (0, .ref h0)]) hx hb dX1_checkpoint_186 hl (k := 0) rfl rfl (by decide) rfl (fun ls hl => ?_)
              refine lv_goto (tgt := 173) hx hb dX1_checkpoint_189 (by decide) ?_
              rw [ei] at hl
              exact ih (by omega) (upd v2_1 (nI (11 - n)).toNatClampNeg (vp_nar .boolean 0)) _ _ ls hP hD hS (lv_sub hl [0, 1, 2, 3] rfl) K
        refine lp1 _ 12 (Nat.le_refl _) sto_0 _ _ ls hP hD hS (lv_sub hl [0, 1, 2, 3] rfl) (fun H locs ls hP hD hS hl => ?_)
        have hP : va_P (dC, dI) vwCl [(h0, .inr (1, [.ref h1, .ref h2, .ref h3, .int dn_0, .int en_0, .int pw_0, .int wr_0, .int cm_0])), (h1, .inl (c1, 96, .inl mem_0)), (h2, .inl (c2, 200, .inl dsk_0)), (h3, .inl (c3, 12, .inl (rst 12 sto_0)))] _ := hP
        have hD : va_D _ [(h0, .inr (1, [.ref h1, .ref h2, .ref h3, .int dn_0, .int en_0, .int pw_0, .int wr_0, .int cm_0])), (h1, .inl (c1, 96, .inl mem_0)), (h2, .inl (c2, 200, .inl dsk_0)), (h3, .inl (c3, 12, .inl (rst 12 sto_0)))] := hD
        refine lv_iconst (v := 2) hx hb dX1_checkpoint_192 (by decide) ?_
        refine lv_iload_n hx hb dX1_checkpoint_193 rfl (lv_at hl 1 rfl) ?_
        refine lv_imul hx hb dX1_checkpoint_194 ?_
        refine lv_iconst (v := 2) hx hb dX1_checkpoint_195 (by decide) ?_
        refine lv_iadd hx hb dX1_checkpoint_196 ?_
        have e9 : F1_cp x mny 0 k (mem_0, dsk_0, sto_0, dn_0, en_0, pw_0, wr_0, cm_0) = (((2 * mny) + 2), mem_0, dsk_0, (rst 12 sto_0), dn_0, en_0, pw_0, wr_0, cm_0) := by rw [F1_cp]
        rw [e9]
        exact retWi hx hb hr hlocks rfl rfl rfl hK hP hD hS dX1_checkpoint_197
      · skip
        exact absurd (ck_out hnn eny ek) c_34
    | succ f ih =>
      intro hf k ek mem_0 dsk_0 sto_0 dn_0 en_0 pw_0 wr_0 cm_0 H locs ls hP hD hS hl
      refine lv_iload_n hx hb dX1_checkpoint_28 rfl (lv_at hl 0 rfl) ?_
      refine lv_iconst (v := 2) hx hb dX1_checkpoint_29 (by decide) ?_
      refine lv_iload_n hx hb dX1_checkpoint_30 rfl (lv_at hl 1 rfl) ?_
      refine lv_imul hx hb dX1_checkpoint_31 ?_
      refine lv_iconst (v := 2) hx hb dX1_checkpoint_32 (by decide) ?_
      refine lv_iadd hx hb dX1_checkpoint_33 ?_
      refine lv_icmp_ge (tgt := 171) hx hb dX1_checkpoint_34 (by decide) (fun c_34 => ?_) (fun c_34 => ?_)
      · skip
        exact absurd c_34 (ck_in hnn hf eny ek)
      · skip
        refine lv_aload_n hx hb dX1_checkpoint_37 rfl (lv_at hl 3 rfl) ?_
        refine callWi (q := (RX1, TX1, 8)) (ci := 1) (q0 := 0) (As := []) (rest := []) (wr := []) (m1_may l dC dI h0 h1 h2 h3 c1 c2 c3 _ mem_0 dsk_0 sto_0 dn_0 en_0 pw_0 wr_0 cm_0  ) ⟨hx, hb, hml, hown, hts⟩ (cwV 0 hts gX1_checkpoint_X1_may rfl rfl rfl (by decide +kernel) ⟨Nat.le_of_ble_eq_true rfl, Nat.le_of_ble_eq_true rfl⟩) hK hP hD hS hA rfl rfl [0, 1, 2, 3] [] rfl rfl rfl (by decide) (by decide) (by decide) rfl hl.1 rfl (Nat.le_of_ble_eq_true rfl) dX1_checkpoint_38 ⟨Nat.zero_le _, Nat.zero_le _⟩ (fun H locs hP hD hS => ?_)
        generalize hF1 : (F1_may mem_0 dsk_0 sto_0 dn_0 en_0 pw_0 wr_0 cm_0) = u at hP hD ⊢
        obtain ⟨r_1, mem_1, dsk_1, sto_1, dn_1, en_1, pw_1, wr_1, cm_1⟩ := u
        have hP : va_P (dC, dI) vwCl [(h0, .inr (1, [.ref h1, .ref h2, .ref h3, .int dn_1, .int en_1, .int pw_1, .int wr_1, .int cm_1])), (h1, .inl (c1, 96, .inl mem_1)), (h2, .inl (c2, 200, .inl dsk_1)), (h3, .inl (c3, 12, .inl sto_1))] _ := hP
        have hD : va_D _ [(h0, .inr (1, [.ref h1, .ref h2, .ref h3, .int dn_1, .int en_1, .int pw_1, .int wr_1, .int cm_1])), (h1, .inl (c1, 96, .inl mem_1)), (h2, .inl (c2, 200, .inl dsk_1)), (h3, .inl (c3, 12, .inl sto_1))] := hD
        show W _ _ _ _ _ _ _ _ _ _ _ _ _ _ _ (F0 m 41 ls [.int r_1])
        refine lv_if_ne (tgt := 47) hx hb dX1_checkpoint_41 (by decide) (fun c_41 => ?_) (fun c_41 => ?_)
        · skip
          refine lv_iload_n hx hb dX1_checkpoint_47 rfl (lv_at hl 0 rfl) ?_
          refine lv_iload_n hx hb dX1_checkpoint_48 rfl (lv_at hl 1 rfl) ?_
          refine lv_icmp_ne (tgt := 70) hx hb dX1_checkpoint_49 (by decide) (fun c_49 => ?_) (fun c_49 => ?_)
          · skip
            refine lv_iload_n hx hb dX1_checkpoint_70 rfl (lv_at hl 0 rfl) ?_
            refine lv_iconst (v := 2) hx hb dX1_checkpoint_71 (by decide) ?_
            refine lv_iload_n hx hb dX1_checkpoint_72 rfl (lv_at hl 1 rfl) ?_
            refine lv_imul hx hb dX1_checkpoint_73 ?_
            refine lv_icmp_le (tgt := 85) hx hb dX1_checkpoint_74 (by decide) (fun c_74 => ?_) (fun c_74 => ?_)
            · skip
              refine lv_aload_n hx hb dX1_checkpoint_85 rfl (lv_at hl 3 rfl) ?_
              refine lv_iload_n hx hb dX1_checkpoint_86 rfl (lv_at hl 2 rfl) ?_
              refine lv_iload_n hx hb dX1_checkpoint_87 rfl (lv_at hl 0 rfl) ?_
              refine lv_iload_n hx hb dX1_checkpoint_88 rfl (lv_at hl 1 rfl) ?_
              refine lv_icmp_ge (tgt := 96) hx hb dX1_checkpoint_89 (by decide) (fun c_89 => ?_) (fun c_89 => ?_)
              · skip
                refine lv_iload_n hx hb dX1_checkpoint_96 rfl (lv_at hl 0 rfl) ?_
                refine lv_iload_n hx hb dX1_checkpoint_97 rfl (lv_at hl 1 rfl) ?_
                refine lv_isub hx hb dX1_checkpoint_98 ?_
                refine lv_iconst (v := 1) hx hb dX1_checkpoint_99 (by decide) ?_
                refine lv_isub hx hb dX1_checkpoint_100 ?_
                refine callRi (q := (RX1, TX1, 8)) (ci := 1) (q0 := 0) (As := [.int x, .int ((k - mny) - 1)]) (rest := []) (m1_member l dC dI h0 h1 h2 h3 c1 c2 c3 mem_1 dsk_1 sto_1 dn_1 en_1 pw_1 wr_1 cm_1 x ((k - mny) - 1) ) ⟨hx, hb, hml, hown, hts⟩ (cwV 2 hts gX1_checkpoint_X1_member rfl rfl rfl (by decide +kernel) ⟨Nat.le_of_ble_eq_true rfl, Nat.le_of_ble_eq_true rfl⟩) hK hP rfl rfl rfl hl.1 rfl (Nat.le_of_ble_eq_true rfl) dX1_checkpoint_101 ⟨Nat.zero_le _, Nat.zero_le _⟩ ?_
                refine lv_istore (lv' := [(4, .int (f1_member mem_1 dsk_1 sto_1 dn_1 en_1 pw_1 wr_1 cm_1 x ((k - mny) - 1))), (3, .int k), (2, .int mny), (1, .int x), (0, .ref h0)]) hx hb dX1_checkpoint_104 hl (by decide) rfl (fun ls hl => ?_)
                refine lv_iload_n hx hb dX1_checkpoint_106 rfl (lv_at hl 1 rfl) ?_
                refine lv_iload_n hx hb dX1_checkpoint_107 rfl (lv_at hl 2 rfl) ?_
                refine lv_icmp_ge (tgt := 119) hx hb dX1_checkpoint_108 (by decide) (fun c_108 => ?_) (fun c_108 => ?_)
                · skip
                  refine lv_iload hx hb dX1_checkpoint_119 (lv_at hl 0 rfl) ?_
                  refine lv_istore (lv' := [(5, .int (f1_member mem_1 dsk_1 sto_1 dn_1 en_1 pw_1 wr_1 cm_1 x ((k - mny) - 1))), (4, .int (f1_member mem_1 dsk_1 sto_1 dn_1 en_1 pw_1 wr_1 cm_1 x ((k - mny) - 1))), (3, .int k), (2, .int mny), (1, .int x), (0, .ref h0)]) hx hb dX1_checkpoint_121 hl (by decide) rfl (fun ls hl => ?_)
                  refine lv_iconst (v := 0) hx hb dX1_checkpoint_123 (by decide) ?_
                  refine lv_istore (lv' := [(6, .int 0), (5, .int (f1_member mem_1 dsk_1 sto_1 dn_1 en_1 pw_1 wr_1 cm_1 x ((k - mny) - 1))), (4, .int (f1_member mem_1 dsk_1 sto_1 dn_1 en_1 pw_1 wr_1 cm_1 x ((k - mny) - 1))), (3, .int k), (2, .int mny), (1, .int x), (0, .ref h0)]) hx hb dX1_checkpoint_124 hl (by decide) rfl (fun ls hl => ?_)
                  have lp2 : ∀ (Q : State → Prop) (n : Nat), n ≤ 8 → ∀ (v1_2 : Nat → Int32) (H : Heap) (locs : List Loc) (ls : Array Slot), va_P (dC, dI) vwCl [(h0, .inr (1, [.ref h1, .ref h2, .ref h3, .int dn_1, .int en_1, .int pw_1, .int wr_1, .int cm_1])), (h1, .inl (c1, 96, .inl mem_1)), (h2, .inl (c2, 200, .inl v1_2)), (h3, .inl (c3, 12, .inl sto_1))] H → va_D (va_A (w1 h0 h1 h2 h3 c1 c2 c3 (mem, dsk, sto, dn, en, pw, wr, cm)) s.heap.size) [(h0, .inr (1, [.ref h1, .ref h2, .ref h3, .int dn_1, .int en_1, .int pw_1, .int wr_1, .int cm_1])), (h1, .inl (c1, 96, .inl mem_1)), (h2, .inl (c2, 200, .inl v1_2)), (h3, .inl (c3, 12, .inl sto_1))] → va_S (va_A (w1 h0 h1 h2 h3 c1 c2 c3 (mem, dsk, sto, dn, en, pw, wr, cm)) s.heap.size) s.heap H locs → lv_has ls 7 [(6, .int (nI (8 - n))), (5, .int (f1_member mem_1 dsk_1 sto_1 dn_1 en_1 pw_1 wr_1 cm_1 x ((k - mny) - 1))), (4, .int (f1_member mem_1 dsk_1 sto_1 dn_1 en_1 pw_1 wr_1 cm_1 x ((k - mny) - 1))), (3, .int k), (2, .int mny), (1, .int x), (0, .ref h0)] →
                      (∀ (H : Heap) (locs : List Loc) (ls : Array Slot), va_P (dC, dI) vwCl [(h0, .inr (1, [.ref h1, .ref h2, .ref h3, .int dn_1, .int en_1, .int pw_1, .int wr_1, .int cm_1])), (h1, .inl (c1, 96, .inl mem_1)), (h2, .inl (c2, 200, .inl (cpm mem_1 (f1_member mem_1 dsk_1 sto_1 dn_1 en_1 pw_1 wr_1 cm_1 x ((k - mny) - 1)) (f1_member mem_1 dsk_1 sto_1 dn_1 en_1 pw_1 wr_1 cm_1 x ((k - mny) - 1)) n v1_2))), (h3, .inl (c3, 12, .inl sto_1))] H → va_D (va_A (w1 h0 h1 h2 h3 c1 c2 c3 (mem, dsk, sto, dn, en, pw, wr, cm)) s.heap.size) [(h0, .inr (1, [.ref h1, .ref h2, .ref h3, .int dn_1, .int en_1, .int pw_1, .int wr_1, .int cm_1])), (h1, .inl (c1, 96, .inl mem_1)), (h2, .inl (c2, 200, .inl (cpm mem_1 (f1_member mem_1 dsk_1 sto_1 dn_1 en_1 pw_1 wr_1 cm_1 x ((k - mny) - 1)) (f1_member mem_1 dsk_1 sto_1 dn_1 en_1 pw_1 wr_1 cm_1 x ((k - mny) - 1)) n v1_2))), (h3, .inl (c3, 12, .inl sto_1))] → va_S (va_A (w1 h0 h1 h2 h3 c1 c2 c3 (mem, dsk, sto, dn, en, pw, wr, cm)) s.heap.size) s.heap H locs → lv_has ls 7 [(6, .int (nI 8)), (5, .int (f1_member mem_1 dsk_1 sto_1 dn_1 en_1 pw_1 wr_1 cm_1 x ((k - mny) - 1))), (4, .int (f1_member mem_1 dsk_1 sto_1 dn_1 en_1 pw_1 wr_1 cm_1 x ((k - mny) - 1))), (3, .int k), (2, .int mny), (1, .int x), (0, .ref h0)] → W p l e (headSpec wsX1_checkpoint ({ frames := 1, cells := 0, slots := 0, locals := 24 })).room s m #[Value.ref h0] below meth c H locs 0 0 Q (F0 m 165 ls [])) → W p l e (headSpec wsX1_checkpoint ({ frames := 1, cells := 0, slots := 0, locals := 24 })).room s m #[Value.ref h0] below meth c H locs 0 0 Q (F0 m 126 ls []) := by
                    intro Q n
                    induction n with
                    | zero =>
                      intro hn v1_2 H locs ls hP hD hS hl K
                      have hl : lv_has ls 7 [(6, .int (nI 8)), (5, .int (f1_member mem_1 dsk_1 sto_1 dn_1 en_1 pw_1 wr_1 cm_1 x ((k - mny) - 1))), (4, .int (f1_member mem_1 dsk_1 sto_1 dn_1 en_1 pw_1 wr_1 cm_1 x ((k - mny) - 1))), (3, .int k), (2, .int mny), (1, .int x), (0, .ref h0)] := hl
                      refine lv_iload hx hb dX1_checkpoint_126 (lv_at hl 0 rfl) ?_
                      refine lv_bipush (v := 8) hx hb dX1_checkpoint_128 (by decide) ?_
                      refine lv_icmp_ge (tgt := 165) hx hb dX1_checkpoint_130 (by decide) (fun c_130 => ?_) (fun c_130 => ?_)
                      · skip
                        exact K H locs ls hP hD hS hl
                      · skip
                        exact absurd (by decide) c_130
                    | succ n ih =>
                      intro hn v1_2 H locs ls hP hD hS hl K
                      have enx : 8 - (n + 1) = 7 - n := by omega
                      rw [enx] at hl
                      have ei : nI (7 - n) + 1 = nI (8 - n) := by rw [nI_1]; congr 1; omega
                      have hl : lv_has ls 7 [(6, .int (nI (7 - n))), (5, .int (f1_member mem_1 dsk_1 sto_1 dn_1 en_1 pw_1 wr_1 cm_1 x ((k - mny) - 1))), (4, .int (f1_member mem_1 dsk_1 sto_1 dn_1 en_1 pw_1 wr_1 cm_1 x ((k - mny) - 1))), (3, .int k), (2, .int mny), (1, .int x), (0, .ref h0)] := hl
                      refine lv_iload hx hb dX1_checkpoint_126 (lv_at hl 0 rfl) ?_
                      refine lv_bipush (v := 8) hx hb dX1_checkpoint_128 (by decide) ?_
                      refine lv_icmp_ge (tgt := 165) hx hb dX1_checkpoint_130 (by decide) (fun c_130 => ?_) (fun c_130 => ?_)
                      · skip
                        exact absurd c_130 (nI_ge (a := 7 - n) (b := 8) (by omega) (by decide))
                      · skip
                        refine lv_aload_n hx hb dX1_checkpoint_133 rfl (lv_at hl 6 rfl) ?_
                        refine va_get (D := (dC, dI)) (ci := 1) (v := .ref h2) (C := RX1) (T := TX1) (N := 8) hx hb hts hin hown hK hP 0 rfl rfl 1 (by decide) (hts (.fieldLink RX1 13 "CapStoreModel" "disk" "[I") (by decide +kernel)) (fun _ h9 => h9) rfl dX1_checkpoint_134 ?_
                        refine lv_bipush (v := 8) hx hb dX1_checkpoint_137 (by decide) ?_
                        refine lv_iload hx hb dX1_checkpoint_139 (lv_at hl 1 rfl) ?_
                        refine lv_imul hx hb dX1_checkpoint_141 ?_
                        refine lv_iload hx hb dX1_checkpoint_142 (lv_at hl 0 rfl) ?_
                        refine lv_iadd hx hb dX1_checkpoint_144 ?_
                        refine lv_aload_n hx hb dX1_checkpoint_145 rfl (lv_at hl 6 rfl) ?_
                        refine va_get (D := (dC, dI)) (ci := 1) (v := .ref h1) (C := RX1) (T := TX1) (N := 8) hx hb hts hin hown hK hP 0 rfl rfl 0 (by decide) (hts (.fieldLink RX1 7 "CapStoreModel" "memory" "[I") (by decide +kernel)) (fun _ h9 => h9) rfl dX1_checkpoint_146 ?_
                        refine lv_bipush (v := 8) hx hb dX1_checkpoint_149 (by decide) ?_
                        refine lv_iload hx hb dX1_checkpoint_151 (lv_at hl 2 rfl) ?_
                        refine lv_imul hx hb dX1_checkpoint_153 ?_
                        refine lv_iload hx hb dX1_checkpoint_154 (lv_at hl 0 rfl) ?_
                        refine lv_iadd hx hb dX1_checkpoint_156 ?_
                        refine va_iald hx hb hK hP 1 0 rfl rfl (sdc_1 (mb_ok _ _) (by omega)) dX1_checkpoint_157 ?_
                        refine va_iast hx hb hK hP hD hS 2 1 rfl rfl (sdc_2 (mb_ok _ _) (by omega)) dX1_checkpoint_158 (fun H locs hP hD hS => ?_)
                        have hP : va_P (dC, dI) vwCl [(h0, .inr (1, [.ref h1, .ref h2, .ref h3, .int dn_1, .int en_1, .int pw_1, .int wr_1, .int cm_1])), (h1, .inl (c1, 96, .inl mem_1)), (h2, .inl (c2, 200, .inl (upd v1_2 ((8 * (f1_member mem_1 dsk_1 sto_1 dn_1 en_1 pw_1 wr_1 cm_1 x ((k - mny) - 1))) + (nI (7 - n))).toNatClampNeg (mem_1 ((8 * (f1_member mem_1 dsk_1 sto_1 dn_1 en_1 pw_1 wr_1 cm_1 x ((k - mny) - 1))) + (nI (7 - n))).toNatClampNeg)))), (h3, .inl (c3, 12, .inl sto_1))] _ := hP
                        have hD : va_D _ [(h0, .inr (1, [.ref h1, .ref h2, .ref h3, .int dn_1, .int en_1, .int pw_1, .int wr_1, .int cm_1])), (h1, .inl (c1, 96, .inl mem_1)), (h2, .inl (c2, 200, .inl (upd v1_2 ((8 * (f1_member mem_1 dsk_1 sto_1 dn_1 en_1 pw_1 wr_1 cm_1 x ((k - mny) - 1))) + (nI (7 - n))).toNatClampNeg (mem_1 ((8 * (f1_member mem_1 dsk_1 sto_1 dn_1 en_1 pw_1 wr_1 cm_1 x ((k - mny) - 1))) + (nI (7 - n))).toNatClampNeg)))), (h3, .inl (c3, 12, .inl sto_1))] := hD
                        refine lv_iinc (v := ((nI (7 - n)) + 1)) (lv' := [(6, .int ((nI (7 - n)) + 1)), (5, .int (f1_member mem_1 dsk_1 sto_1 dn_1 en_1 pw_1 wr_1 cm_1 x ((k - mny) - 1))), (4, .int (f1_member mem_1 dsk_1 sto_1 dn_1 en_1 pw_1 wr_1 cm_1 x ((k - mny) - 1))), (3, .int k), (2, .int mny), (1, .int x), (0, .ref h0)]) hx hb dX1_checkpoint_159 hl (k := 0) rfl rfl (by decide) rfl (fun ls hl => ?_)
                        refine lv_goto (tgt := 126) hx hb dX1_checkpoint_162 (by decide) ?_
                        rw [ei] at hl
                        exact ih (by omega) (upd v1_2 ((8 * (f1_member mem_1 dsk_1 sto_1 dn_1 en_1 pw_1 wr_1 cm_1 x ((k - mny) - 1))) + (nI (7 - n))).toNatClampNeg (mem_1 ((8 * (f1_member mem_1 dsk_1 sto_1 dn_1 en_1 pw_1 wr_1 cm_1 x ((k - mny) - 1))) + (nI (7 - n))).toNatClampNeg)) _ _ ls hP hD hS (lv_sub hl [0, 1, 2, 3, 4, 5, 6] rfl) K
                  refine lp2 _ 8 (Nat.le_refl _) dsk_1 _ _ ls hP hD hS (lv_sub hl [0, 1, 2, 3, 4, 5, 6] rfl) (fun H locs ls hP hD hS hl => ?_)
                  have hP : va_P (dC, dI) vwCl [(h0, .inr (1, [.ref h1, .ref h2, .ref h3, .int dn_1, .int en_1, .int pw_1, .int wr_1, .int cm_1])), (h1, .inl (c1, 96, .inl mem_1)), (h2, .inl (c2, 200, .inl (cpm mem_1 (f1_member mem_1 dsk_1 sto_1 dn_1 en_1 pw_1 wr_1 cm_1 x ((k - mny) - 1)) (f1_member mem_1 dsk_1 sto_1 dn_1 en_1 pw_1 wr_1 cm_1 x ((k - mny) - 1)) 8 dsk_1))), (h3, .inl (c3, 12, .inl sto_1))] _ := hP
                  have hD : va_D _ [(h0, .inr (1, [.ref h1, .ref h2, .ref h3, .int dn_1, .int en_1, .int pw_1, .int wr_1, .int cm_1])), (h1, .inl (c1, 96, .inl mem_1)), (h2, .inl (c2, 200, .inl (cpm mem_1 (f1_member mem_1 dsk_1 sto_1 dn_1 en_1 pw_1 wr_1 cm_1 x ((k - mny) - 1)) (f1_member mem_1 dsk_1 sto_1 dn_1 en_1 pw_1 wr_1 cm_1 x ((k - mny) - 1)) 8 dsk_1))), (h3, .inl (c3, 12, .inl sto_1))] := hD
                  refine lv_iinc (v := (k + 1)) (lv' := [(3, .int (k + 1)), (6, .int (nI 8)), (5, .int (f1_member mem_1 dsk_1 sto_1 dn_1 en_1 pw_1 wr_1 cm_1 x ((k - mny) - 1))), (4, .int (f1_member mem_1 dsk_1 sto_1 dn_1 en_1 pw_1 wr_1 cm_1 x ((k - mny) - 1))), (2, .int mny), (1, .int x), (0, .ref h0)]) hx hb dX1_checkpoint_165 hl (k := 3) rfl rfl (by decide) rfl (fun ls hl => ?_)
                  refine lv_goto (tgt := 28) hx hb dX1_checkpoint_168 (by decide) ?_
                  have e9 : F1_cp x mny (f + 1) k (mem_0, dsk_0, sto_0, dn_0, en_0, pw_0, wr_0, cm_0) = F1_cp x mny f (k + 1) (mem_1, (cpm mem_1 (f1_member mem_1 dsk_1 sto_1 dn_1 en_1 pw_1 wr_1 cm_1 x ((k - mny) - 1)) (f1_member mem_1 dsk_1 sto_1 dn_1 en_1 pw_1 wr_1 cm_1 x ((k - mny) - 1)) 8 dsk_1), sto_1, dn_1, en_1, pw_1, wr_1, cm_1) := by rw [F1_cp]; (try dsimp only); rw [hF1]; (try dsimp only); rw [if_neg c_41, if_neg c_49, if_pos c_74, if_pos c_89]
                  rw [e9]
                  exact ih (by omega) (k + 1) (ck_nxt hf ek) mem_1 (cpm mem_1 (f1_member mem_1 dsk_1 sto_1 dn_1 en_1 pw_1 wr_1 cm_1 x ((k - mny) - 1)) (f1_member mem_1 dsk_1 sto_1 dn_1 en_1 pw_1 wr_1 cm_1 x ((k - mny) - 1)) 8 dsk_1) sto_1 dn_1 en_1 pw_1 wr_1 cm_1 _ _ ls hP hD hS (lv_sub hl [0, 4, 5, 6] rfl)
                · skip
                  exact absurd (c_89) c_108
              · skip
                refine lv_iload_n hx hb dX1_checkpoint_92 rfl (lv_at hl 0 rfl) ?_
                refine lv_goto (tgt := 101) hx hb dX1_checkpoint_93 (by decide) ?_
                refine callRi (q := (RX1, TX1, 8)) (ci := 1) (q0 := 0) (As := [.int x, .int k]) (rest := []) (m1_member l dC dI h0 h1 h2 h3 c1 c2 c3 mem_1 dsk_1 sto_1 dn_1 en_1 pw_1 wr_1 cm_1 x k ) ⟨hx, hb, hml, hown, hts⟩ (cwV 2 hts gX1_checkpoint_X1_member rfl rfl rfl (by decide +kernel) ⟨Nat.le_of_ble_eq_true rfl, Nat.le_of_ble_eq_true rfl⟩) hK hP rfl rfl rfl hl.1 rfl (Nat.le_of_ble_eq_true rfl) dX1_checkpoint_101 ⟨Nat.zero_le _, Nat.zero_le _⟩ ?_
                refine lv_istore (lv' := [(4, .int (f1_member mem_1 dsk_1 sto_1 dn_1 en_1 pw_1 wr_1 cm_1 x k)), (3, .int k), (2, .int mny), (1, .int x), (0, .ref h0)]) hx hb dX1_checkpoint_104 hl (by decide) rfl (fun ls hl => ?_)
                refine lv_iload_n hx hb dX1_checkpoint_106 rfl (lv_at hl 1 rfl) ?_
                refine lv_iload_n hx hb dX1_checkpoint_107 rfl (lv_at hl 2 rfl) ?_
                refine lv_icmp_ge (tgt := 119) hx hb dX1_checkpoint_108 (by decide) (fun c_108 => ?_) (fun c_108 => ?_)
                · skip
                  exact absurd c_108 (c_89)
                · skip
                  refine lv_bipush (v := 12) hx hb dX1_checkpoint_111 (by decide) ?_
                  refine lv_iload hx hb dX1_checkpoint_113 (lv_at hl 0 rfl) ?_
                  refine lv_iadd hx hb dX1_checkpoint_115 ?_
                  refine lv_goto (tgt := 121) hx hb dX1_checkpoint_116 (by decide) ?_
                  refine lv_istore (lv' := [(5, .int (12 + (f1_member mem_1 dsk_1 sto_1 dn_1 en_1 pw_1 wr_1 cm_1 x k))), (4, .int (f1_member mem_1 dsk_1 sto_1 dn_1 en_1 pw_1 wr_1 cm_1 x k)), (3, .int k), (2, .int mny), (1, .int x), (0, .ref h0)]) hx hb dX1_checkpoint_121 hl (by decide) rfl (fun ls hl => ?_)
                  refine lv_iconst (v := 0) hx hb dX1_checkpoint_123 (by decide) ?_
                  refine lv_istore (lv' := [(6, .int 0), (5, .int (12 + (f1_member mem_1 dsk_1 sto_1 dn_1 en_1 pw_1 wr_1 cm_1 x k))), (4, .int (f1_member mem_1 dsk_1 sto_1 dn_1 en_1 pw_1 wr_1 cm_1 x k)), (3, .int k), (2, .int mny), (1, .int x), (0, .ref h0)]) hx hb dX1_checkpoint_124 hl (by decide) rfl (fun ls hl => ?_)
                  have lp3 : ∀ (Q : State → Prop) (n : Nat), n ≤ 8 → ∀ (v1_3 : Nat → Int32) (H : Heap) (locs : List Loc) (ls : Array Slot), va_P (dC, dI) vwCl [(h0, .inr (1, [.ref h1, .ref h2, .ref h3, .int dn_1, .int en_1, .int pw_1, .int wr_1, .int cm_1])), (h1, .inl (c1, 96, .inl mem_1)), (h2, .inl (c2, 200, .inl v1_3)), (h3, .inl (c3, 12, .inl sto_1))] H → va_D (va_A (w1 h0 h1 h2 h3 c1 c2 c3 (mem, dsk, sto, dn, en, pw, wr, cm)) s.heap.size) [(h0, .inr (1, [.ref h1, .ref h2, .ref h3, .int dn_1, .int en_1, .int pw_1, .int wr_1, .int cm_1])), (h1, .inl (c1, 96, .inl mem_1)), (h2, .inl (c2, 200, .inl v1_3)), (h3, .inl (c3, 12, .inl sto_1))] → va_S (va_A (w1 h0 h1 h2 h3 c1 c2 c3 (mem, dsk, sto, dn, en, pw, wr, cm)) s.heap.size) s.heap H locs → lv_has ls 7 [(6, .int (nI (8 - n))), (5, .int (12 + (f1_member mem_1 dsk_1 sto_1 dn_1 en_1 pw_1 wr_1 cm_1 x k))), (4, .int (f1_member mem_1 dsk_1 sto_1 dn_1 en_1 pw_1 wr_1 cm_1 x k)), (3, .int k), (2, .int mny), (1, .int x), (0, .ref h0)] →
                      (∀ (H : Heap) (locs : List Loc) (ls : Array Slot), va_P (dC, dI) vwCl [(h0, .inr (1, [.ref h1, .ref h2, .ref h3, .int dn_1, .int en_1, .int pw_1, .int wr_1, .int cm_1])), (h1, .inl (c1, 96, .inl mem_1)), (h2, .inl (c2, 200, .inl (cpm mem_1 (12 + (f1_member mem_1 dsk_1 sto_1 dn_1 en_1 pw_1 wr_1 cm_1 x k)) (f1_member mem_1 dsk_1 sto_1 dn_1 en_1 pw_1 wr_1 cm_1 x k) n v1_3))), (h3, .inl (c3, 12, .inl sto_1))] H → va_D (va_A (w1 h0 h1 h2 h3 c1 c2 c3 (mem, dsk, sto, dn, en, pw, wr, cm)) s.heap.size) [(h0, .inr (1, [.ref h1, .ref h2, .ref h3, .int dn_1, .int en_1, .int pw_1, .int wr_1, .int cm_1])), (h1, .inl (c1, 96, .inl mem_1)), (h2, .inl (c2, 200, .inl (cpm mem_1 (12 + (f1_member mem_1 dsk_1 sto_1 dn_1 en_1 pw_1 wr_1 cm_1 x k)) (f1_member mem_1 dsk_1 sto_1 dn_1 en_1 pw_1 wr_1 cm_1 x k) n v1_3))), (h3, .inl (c3, 12, .inl sto_1))] → va_S (va_A (w1 h0 h1 h2 h3 c1 c2 c3 (mem, dsk, sto, dn, en, pw, wr, cm)) s.heap.size) s.heap H locs → lv_has ls 7 [(6, .int (nI 8)), (5, .int (12 + (f1_member mem_1 dsk_1 sto_1 dn_1 en_1 pw_1 wr_1 cm_1 x k))), (4, .int (f1_member mem_1 dsk_1 sto_1 dn_1 en_1 pw_1 wr_1 cm_1 x k)), (3, .int k), (2, .int mny), (1, .int x), (0, .ref h0)] → W p l e (headSpec wsX1_checkpoint ({ frames := 1, cells := 0, slots := 0, locals := 24 })).room s m #[Value.ref h0] below meth c H locs 0 0 Q (F0 m 165 ls [])) → W p l e (headSpec wsX1_checkpoint ({ frames := 1, cells := 0, slots := 0, locals := 24 })).room s m #[Value.ref h0] below meth c H locs 0 0 Q (F0 m 126 ls []) := by
                    intro Q n
                    induction n with
                    | zero =>
                      intro hn v1_3 H locs ls hP hD hS hl K
                      have hl : lv_has ls 7 [(6, .int (nI 8)), (5, .int (12 + (f1_member mem_1 dsk_1 sto_1 dn_1 en_1 pw_1 wr_1 cm_1 x k))), (4, .int (f1_member mem_1 dsk_1 sto_1 dn_1 en_1 pw_1 wr_1 cm_1 x k)), (3, .int k), (2, .int mny), (1, .int x), (0, .ref h0)] := hl
                      refine lv_iload hx hb dX1_checkpoint_126 (lv_at hl 0 rfl) ?_
                      refine lv_bipush (v := 8) hx hb dX1_checkpoint_128 (by decide) ?_
                      refine lv_icmp_ge (tgt := 165) hx hb dX1_checkpoint_130 (by decide) (fun c_130 => ?_) (fun c_130 => ?_)
                      · skip
                        exact K H locs ls hP hD hS hl
                      · skip
                        exact absurd (by decide) c_130
                    | succ n ih =>
                      intro hn v1_3 H locs ls hP hD hS hl K
                      have enx : 8 - (n + 1) = 7 - n := by omega
                      rw [enx] at hl
                      have ei : nI (7 - n) + 1 = nI (8 - n) := by rw [nI_1]; congr 1; omega
                      have hl : lv_has ls 7 [(6, .int (nI (7 - n))), (5, .int (12 + (f1_member mem_1 dsk_1 sto_1 dn_1 en_1 pw_1 wr_1 cm_1 x k))), (4, .int (f1_member mem_1 dsk_1 sto_1 dn_1 en_1 pw_1 wr_1 cm_1 x k)), (3, .int k), (2, .int mny), (1, .int x), (0, .ref h0)] := hl
                      refine lv_iload hx hb dX1_checkpoint_126 (lv_at hl 0 rfl) ?_
                      refine lv_bipush (v := 8) hx hb dX1_checkpoint_128 (by decide) ?_
                      refine lv_icmp_ge (tgt := 165) hx hb dX1_checkpoint_130 (by decide) (fun c_130 => ?_) (fun c_130 => ?_)
                      · skip
                        exact absurd c_130 (nI_ge (a := 7 - n) (b := 8) (by omega) (by decide))
                      · skip
                        refine lv_aload_n hx hb dX1_checkpoint_133 rfl (lv_at hl 6 rfl) ?_
                        refine va_get (D := (dC, dI)) (ci := 1) (v := .ref h2) (C := RX1) (T := TX1) (N := 8) hx hb hts hin hown hK hP 0 rfl rfl 1 (by decide) (hts (.fieldLink RX1 13 "CapStoreModel" "disk" "[I") (by decide +kernel)) (fun _ h9 => h9) rfl dX1_checkpoint_134 ?_
                        refine lv_bipush (v := 8) hx hb dX1_checkpoint_137 (by decide) ?_
                        refine lv_iload hx hb dX1_checkpoint_139 (lv_at hl 1 rfl) ?_
                        refine lv_imul hx hb dX1_checkpoint_141 ?_
                        refine lv_iload hx hb dX1_checkpoint_142 (lv_at hl 0 rfl) ?_
                        refine lv_iadd hx hb dX1_checkpoint_144 ?_
                        refine lv_aload_n hx hb dX1_checkpoint_145 rfl (lv_at hl 6 rfl) ?_
                        refine va_get (D := (dC, dI)) (ci := 1) (v := .ref h1) (C := RX1) (T := TX1) (N := 8) hx hb hts hin hown hK hP 0 rfl rfl 0 (by decide) (hts (.fieldLink RX1 7 "CapStoreModel" "memory" "[I") (by decide +kernel)) (fun _ h9 => h9) rfl dX1_checkpoint_146 ?_
                        refine lv_bipush (v := 8) hx hb dX1_checkpoint_149 (by decide) ?_
                        refine lv_iload hx hb dX1_checkpoint_151 (lv_at hl 2 rfl) ?_
                        refine lv_imul hx hb dX1_checkpoint_153 ?_
                        refine lv_iload hx hb dX1_checkpoint_154 (lv_at hl 0 rfl) ?_
                        refine lv_iadd hx hb dX1_checkpoint_156 ?_
                        refine va_iald hx hb hK hP 1 0 rfl rfl (sdc_1 (mb_ok _ _) (by omega)) dX1_checkpoint_157 ?_
                        refine va_iast hx hb hK hP hD hS 2 1 rfl rfl (sdc_3 (mb_ok _ _) (by omega)) dX1_checkpoint_158 (fun H locs hP hD hS => ?_)
                        have hP : va_P (dC, dI) vwCl [(h0, .inr (1, [.ref h1, .ref h2, .ref h3, .int dn_1, .int en_1, .int pw_1, .int wr_1, .int cm_1])), (h1, .inl (c1, 96, .inl mem_1)), (h2, .inl (c2, 200, .inl (upd v1_3 ((8 * (12 + (f1_member mem_1 dsk_1 sto_1 dn_1 en_1 pw_1 wr_1 cm_1 x k))) + (nI (7 - n))).toNatClampNeg (mem_1 ((8 * (f1_member mem_1 dsk_1 sto_1 dn_1 en_1 pw_1 wr_1 cm_1 x k)) + (nI (7 - n))).toNatClampNeg)))), (h3, .inl (c3, 12, .inl sto_1))] _ := hP
                        have hD : va_D _ [(h0, .inr (1, [.ref h1, .ref h2, .ref h3, .int dn_1, .int en_1, .int pw_1, .int wr_1, .int cm_1])), (h1, .inl (c1, 96, .inl mem_1)), (h2, .inl (c2, 200, .inl (upd v1_3 ((8 * (12 + (f1_member mem_1 dsk_1 sto_1 dn_1 en_1 pw_1 wr_1 cm_1 x k))) + (nI (7 - n))).toNatClampNeg (mem_1 ((8 * (f1_member mem_1 dsk_1 sto_1 dn_1 en_1 pw_1 wr_1 cm_1 x k)) + (nI (7 - n))).toNatClampNeg)))), (h3, .inl (c3, 12, .inl sto_1))] := hD
                        refine lv_iinc (v := ((nI (7 - n)) + 1)) (lv' := [(6, .int ((nI (7 - n)) + 1)), (5, .int (12 + (f1_member mem_1 dsk_1 sto_1 dn_1 en_1 pw_1 wr_1 cm_1 x k))), (4, .int (f1_member mem_1 dsk_1 sto_1 dn_1 en_1 pw_1 wr_1 cm_1 x k)), (3, .int k), (2, .int mny), (1, .int x), (0, .ref h0)]) hx hb dX1_checkpoint_159 hl (k := 0) rfl rfl (by decide) rfl (fun ls hl => ?_)
                        refine lv_goto (tgt := 126) hx hb dX1_checkpoint_162 (by decide) ?_
                        rw [ei] at hl
                        exact ih (by omega) (upd v1_3 ((8 * (12 + (f1_member mem_1 dsk_1 sto_1 dn_1 en_1 pw_1 wr_1 cm_1 x k))) + (nI (7 - n))).toNatClampNeg (mem_1 ((8 * (f1_member mem_1 dsk_1 sto_1 dn_1 en_1 pw_1 wr_1 cm_1 x k)) + (nI (7 - n))).toNatClampNeg)) _ _ ls hP hD hS (lv_sub hl [0, 1, 2, 3, 4, 5, 6] rfl) K
                  refine lp3 _ 8 (Nat.le_refl _) dsk_1 _ _ ls hP hD hS (lv_sub hl [0, 1, 2, 3, 4, 5, 6] rfl) (fun H locs ls hP hD hS hl => ?_)
                  have hP : va_P (dC, dI) vwCl [(h0, .inr (1, [.ref h1, .ref h2, .ref h3, .int dn_1, .int en_1, .int pw_1, .int wr_1, .int cm_1])), (h1, .inl (c1, 96, .inl mem_1)), (h2, .inl (c2, 200, .inl (cpm mem_1 (12 + (f1_member mem_1 dsk_1 sto_1 dn_1 en_1 pw_1 wr_1 cm_1 x k)) (f1_member mem_1 dsk_1 sto_1 dn_1 en_1 pw_1 wr_1 cm_1 x k) 8 dsk_1))), (h3, .inl (c3, 12, .inl sto_1))] _ := hP
                  have hD : va_D _ [(h0, .inr (1, [.ref h1, .ref h2, .ref h3, .int dn_1, .int en_1, .int pw_1, .int wr_1, .int cm_1])), (h1, .inl (c1, 96, .inl mem_1)), (h2, .inl (c2, 200, .inl (cpm mem_1 (12 + (f1_member mem_1 dsk_1 sto_1 dn_1 en_1 pw_1 wr_1 cm_1 x k)) (f1_member mem_1 dsk_1 sto_1 dn_1 en_1 pw_1 wr_1 cm_1 x k) 8 dsk_1))), (h3, .inl (c3, 12, .inl sto_1))] := hD
                  refine lv_iinc (v := (k + 1)) (lv' := [(3, .int (k + 1)), (6, .int (nI 8)), (5, .int (12 + (f1_member mem_1 dsk_1 sto_1 dn_1 en_1 pw_1 wr_1 cm_1 x k))), (4, .int (f1_member mem_1 dsk_1 sto_1 dn_1 en_1 pw_1 wr_1 cm_1 x k)), (2, .int mny), (1, .int x), (0, .ref h0)]) hx hb dX1_checkpoint_165 hl (k := 3) rfl rfl (by decide) rfl (fun ls hl => ?_)
                  refine lv_goto (tgt := 28) hx hb dX1_checkpoint_168 (by decide) ?_
                  have e9 : F1_cp x mny (f + 1) k (mem_0, dsk_0, sto_0, dn_0, en_0, pw_0, wr_0, cm_0) = F1_cp x mny f (k + 1) (mem_1, (cpm mem_1 (12 + (f1_member mem_1 dsk_1 sto_1 dn_1 en_1 pw_1 wr_1 cm_1 x k)) (f1_member mem_1 dsk_1 sto_1 dn_1 en_1 pw_1 wr_1 cm_1 x k) 8 dsk_1), sto_1, dn_1, en_1, pw_1, wr_1, cm_1) := by rw [F1_cp]; (try dsimp only); rw [hF1]; (try dsimp only); rw [if_neg c_41, if_neg c_49, if_pos c_74, if_neg c_89]
                  rw [e9]
                  exact ih (by omega) (k + 1) (ck_nxt hf ek) mem_1 (cpm mem_1 (12 + (f1_member mem_1 dsk_1 sto_1 dn_1 en_1 pw_1 wr_1 cm_1 x k)) (f1_member mem_1 dsk_1 sto_1 dn_1 en_1 pw_1 wr_1 cm_1 x k) 8 dsk_1) sto_1 dn_1 en_1 pw_1 wr_1 cm_1 _ _ ls hP hD hS (lv_sub hl [0, 4, 5, 6] rfl)
            · skip
              refine lv_aload_n hx hb dX1_checkpoint_77 rfl (lv_at hl 3 rfl) ?_
              refine lv_iconst (v := 0) hx hb dX1_checkpoint_78 (by decide) ?_
              refine callWv (q := (RX1, TX1, 8)) (ci := 1) (q0 := 0) (As := [.int 0]) (rest := []) (wr := []) (m1_header l dC dI h0 h1 h2 h3 c1 c2 c3 _ mem_1 dsk_1 sto_1 dn_1 en_1 pw_1 wr_1 cm_1 0 ) ⟨hx, hb, hml, hown, hts⟩ (cwV 1 hts gX1_checkpoint_X1_header rfl rfl rfl (by decide +kernel) ⟨Nat.le_of_ble_eq_true rfl, Nat.le_of_ble_eq_true rfl⟩) hK hP hD hS hA rfl rfl [0, 1, 2, 3] [] rfl rfl rfl (by decide) (by decide) (by decide) rfl hl.1 rfl (Nat.le_of_ble_eq_true rfl) dX1_checkpoint_79 ⟨Nat.zero_le _, Nat.zero_le _⟩ (fun H locs hP hD hS => ?_)
              have hP : va_P (dC, dI) vwCl [(h0, .inr (1, [.ref h1, .ref h2, .ref h3, .int dn_1, .int en_1, .int pw_1, .int wr_1, .int cm_1])), (h1, .inl (c1, 96, .inl mem_1)), (h2, .inl (c2, 200, .inl (upd dsk_1 (192 : Int32).toNatClampNeg 0))), (h3, .inl (c3, 12, .inl sto_1))] _ := hP
              have hD : va_D _ [(h0, .inr (1, [.ref h1, .ref h2, .ref h3, .int dn_1, .int en_1, .int pw_1, .int wr_1, .int cm_1])), (h1, .inl (c1, 96, .inl mem_1)), (h2, .inl (c2, 200, .inl (upd dsk_1 (192 : Int32).toNatClampNeg 0))), (h3, .inl (c3, 12, .inl sto_1))] := hD
              refine lv_goto (tgt := 165) hx hb dX1_checkpoint_82 (by decide) ?_
              refine lv_iinc (v := (k + 1)) (lv' := [(3, .int (k + 1)), (2, .int mny), (1, .int x), (0, .ref h0)]) hx hb dX1_checkpoint_165 hl (k := 0) rfl rfl (by decide) rfl (fun ls hl => ?_)
              refine lv_goto (tgt := 28) hx hb dX1_checkpoint_168 (by decide) ?_
              have e9 : F1_cp x mny (f + 1) k (mem_0, dsk_0, sto_0, dn_0, en_0, pw_0, wr_0, cm_0) = F1_cp x mny f (k + 1) (mem_1, (upd dsk_1 (192 : Int32).toNatClampNeg 0), sto_1, dn_1, en_1, pw_1, wr_1, cm_1) := by rw [F1_cp]; (try dsimp only); rw [hF1]; (try dsimp only); rw [if_neg c_41, if_neg c_49, if_neg c_74]
              rw [e9]
              exact ih (by omega) (k + 1) (ck_nxt hf ek) mem_1 (upd dsk_1 (192 : Int32).toNatClampNeg 0) sto_1 dn_1 en_1 pw_1 wr_1 cm_1 _ _ ls hP hD hS (lv_sub hl [0, 1, 2, 3] rfl)
          · skip
            refine lv_aload_n hx hb dX1_checkpoint_52 rfl (lv_at hl 3 rfl) ?_
            refine lv_iload_n hx hb dX1_checkpoint_53 rfl (lv_at hl 2 rfl) ?_
            refine callWv (q := (RX1, TX1, 8)) (ci := 1) (q0 := 0) (As := [.int x]) (rest := []) (wr := []) (m1_header l dC dI h0 h1 h2 h3 c1 c2 c3 _ mem_1 dsk_1 sto_1 dn_1 en_1 pw_1 wr_1 cm_1 x ) ⟨hx, hb, hml, hown, hts⟩ (cwV 1 hts gX1_checkpoint_X1_header rfl rfl rfl (by decide +kernel) ⟨Nat.le_of_ble_eq_true rfl, Nat.le_of_ble_eq_true rfl⟩) hK hP hD hS hA rfl rfl [0, 1, 2, 3] [] rfl rfl rfl (by decide) (by decide) (by decide) rfl hl.1 rfl (Nat.le_of_ble_eq_true rfl) dX1_checkpoint_54 ⟨Nat.zero_le _, Nat.zero_le _⟩ (fun H locs hP hD hS => ?_)
            have hP : va_P (dC, dI) vwCl [(h0, .inr (1, [.ref h1, .ref h2, .ref h3, .int dn_1, .int en_1, .int pw_1, .int wr_1, .int cm_1])), (h1, .inl (c1, 96, .inl mem_1)), (h2, .inl (c2, 200, .inl (upd dsk_1 (192 : Int32).toNatClampNeg x))), (h3, .inl (c3, 12, .inl sto_1))] _ := hP
            have hD : va_D _ [(h0, .inr (1, [.ref h1, .ref h2, .ref h3, .int dn_1, .int en_1, .int pw_1, .int wr_1, .int cm_1])), (h1, .inl (c1, 96, .inl mem_1)), (h2, .inl (c2, 200, .inl (upd dsk_1 (192 : Int32).toNatClampNeg x))), (h3, .inl (c3, 12, .inl sto_1))] := hD
            refine lv_aload_n hx hb dX1_checkpoint_57 rfl (lv_at hl 3 rfl) ?_
            refine lv_dup hx hb dX1_checkpoint_58 rfl ?_
            refine va_get (D := (dC, dI)) (ci := 1) (v := .int cm_1) (C := RX1) (T := TX1) (N := 8) hx hb hts hin hown hK hP 0 rfl rfl 7 (by decide) (hts (.fieldLink RX1 77 "CapStoreModel" "commits" "I") (by decide +kernel)) (fun _ h9 => h9) rfl dX1_checkpoint_59 ?_
            refine lv_iconst (v := 1) hx hb dX1_checkpoint_62 (by decide) ?_
            refine lv_iadd hx hb dX1_checkpoint_63 ?_
            refine va_put (D := (dC, dI)) (ci := 1) (v := .int (cm_1 + 1)) (ty := .int) (C := RX1) (T := TX1) (N := 8) hx hb hts hin tyX1 tyX1_ok nmX1 hown hK hP hD hS 0 rfl rfl 7 (by decide) (hts (.fieldLink RX1 77 "CapStoreModel" "commits" "I") (by decide +kernel)) (fun _ h9 => h9) rfl (by decide +kernel) rfl rfl (Nat.le_of_ble_eq_true rfl) dX1_checkpoint_64 (fun H locs hP hD hS => ?_)
            have hP : va_P (dC, dI) vwCl [(h0, .inr (1, [.ref h1, .ref h2, .ref h3, .int dn_1, .int en_1, .int pw_1, .int wr_1, .int (cm_1 + 1)])), (h1, .inl (c1, 96, .inl mem_1)), (h2, .inl (c2, 200, .inl (upd dsk_1 (192 : Int32).toNatClampNeg x))), (h3, .inl (c3, 12, .inl sto_1))] _ := hP
            have hD : va_D _ [(h0, .inr (1, [.ref h1, .ref h2, .ref h3, .int dn_1, .int en_1, .int pw_1, .int wr_1, .int (cm_1 + 1)])), (h1, .inl (c1, 96, .inl mem_1)), (h2, .inl (c2, 200, .inl (upd dsk_1 (192 : Int32).toNatClampNeg x))), (h3, .inl (c3, 12, .inl sto_1))] := hD
            refine lv_goto (tgt := 165) hx hb dX1_checkpoint_67 (by decide) ?_
            refine lv_iinc (v := (k + 1)) (lv' := [(3, .int (k + 1)), (2, .int mny), (1, .int x), (0, .ref h0)]) hx hb dX1_checkpoint_165 hl (k := 0) rfl rfl (by decide) rfl (fun ls hl => ?_)
            refine lv_goto (tgt := 28) hx hb dX1_checkpoint_168 (by decide) ?_
            have e9 : F1_cp x mny (f + 1) k (mem_0, dsk_0, sto_0, dn_0, en_0, pw_0, wr_0, cm_0) = F1_cp x mny f (k + 1) (mem_1, (upd dsk_1 (192 : Int32).toNatClampNeg x), sto_1, dn_1, en_1, pw_1, wr_1, (cm_1 + 1)) := by rw [F1_cp]; (try dsimp only); rw [hF1]; (try dsimp only); rw [if_neg c_41, if_pos c_49]
            rw [e9]
            exact ih (by omega) (k + 1) (ck_nxt hf ek) mem_1 (upd dsk_1 (192 : Int32).toNatClampNeg x) sto_1 dn_1 en_1 pw_1 wr_1 (cm_1 + 1) _ _ ls hP hD hS (lv_sub hl [0, 1, 2, 3] rfl)
        · skip
          refine lv_bipush (v := (-2)) hx hb dX1_checkpoint_44 (by decide) ?_
          have e9 : F1_cp x mny (f + 1) k (mem_0, dsk_0, sto_0, dn_0, en_0, pw_0, wr_0, cm_0) = ((-2), mem_1, dsk_1, sto_1, dn_1, en_1, pw_1, wr_1, cm_1) := by rw [F1_cp]; (try dsimp only); rw [hF1]; (try dsimp only); rw [if_pos c_41]
          rw [e9]
          exact retWi hx hb hr hlocks rfl rfl rfl hK hP hD hS dX1_checkpoint_46
  refine lv_aload_n hx hb dX1_checkpoint_0 rfl (lv_at hl 0 rfl) ?_
  refine va_get (D := (dC, dI)) (ci := 1) (v := .int dn) (C := RX1) (T := TX1) (N := 8) hx hb hts hin hown hK hP 0 rfl rfl 3 (by decide) (hts (.fieldLink RX1 28 "CapStoreModel" "down" "Z") (by decide +kernel)) (fun _ h9 => h9) rfl dX1_checkpoint_1 ?_
  refine lv_if_eq (tgt := 9) hx hb dX1_checkpoint_4 (by decide) (fun c_4 => ?_) (fun c_4 => ?_)
  · skip
    refine lv_aload_n hx hb dX1_checkpoint_9 rfl (lv_at hl 0 rfl) ?_
    refine callRi (q := (RX1, TX1, 8)) (ci := 1) (q0 := 0) (As := []) (rest := []) (m1_dirty l dC dI h0 h1 h2 h3 c1 c2 c3 mem dsk sto dn en pw wr cm  ) ⟨hx, hb, hml, hown, hts⟩ (cwV 0 hts gX1_checkpoint_X1_dirty rfl rfl rfl (by decide +kernel) ⟨Nat.le_of_ble_eq_true rfl, Nat.le_of_ble_eq_true rfl⟩) hK hP rfl rfl rfl hl.1 rfl (Nat.le_of_ble_eq_true rfl) dX1_checkpoint_10 ⟨Nat.zero_le _, Nat.zero_le _⟩ ?_
    refine lv_istore_n (lv' := [(1, .int (f1_dirty mem dsk sto dn en pw wr cm)), (0, .ref h0)]) hx hb dX1_checkpoint_13 rfl hl (by decide) rfl (fun ls hl => ?_)
    refine lv_aload_n hx hb dX1_checkpoint_14 rfl (lv_at hl 1 rfl) ?_
    refine lv_iload_n hx hb dX1_checkpoint_15 rfl (lv_at hl 0 rfl) ?_
    refine callRi (q := (RX1, TX1, 8)) (ci := 1) (q0 := 0) (As := [.int (f1_dirty mem dsk sto dn en pw wr cm)]) (rest := []) (m1_inSet l dC dI h0 h1 h2 h3 c1 c2 c3 mem dsk sto dn en pw wr cm (f1_dirty mem dsk sto dn en pw wr cm) ) ⟨hx, hb, hml, hown, hts⟩ (cwV 1 hts gX1_checkpoint_X1_inSet rfl rfl rfl (by decide +kernel) ⟨Nat.le_of_ble_eq_true rfl, Nat.le_of_ble_eq_true rfl⟩) hK hP rfl rfl rfl hl.1 rfl (Nat.le_of_ble_eq_true rfl) dX1_checkpoint_16 ⟨Nat.zero_le _, Nat.zero_le _⟩ ?_
    refine lv_istore_n (lv' := [(2, .int (f1_inSet mem dsk sto dn en pw wr cm (f1_dirty mem dsk sto dn en pw wr cm))), (1, .int (f1_dirty mem dsk sto dn en pw wr cm)), (0, .ref h0)]) hx hb dX1_checkpoint_19 rfl hl (by decide) rfl (fun ls hl => ?_)
    refine lv_iload_n hx hb dX1_checkpoint_20 rfl (lv_at hl 0 rfl) ?_
    refine lv_if_ne (tgt := 26) hx hb dX1_checkpoint_21 (by decide) (fun c_21 => ?_) (fun c_21 => ?_)
    · skip
      refine lv_iconst (v := 0) hx hb dX1_checkpoint_26 (by decide) ?_
      refine lv_istore_n (lv' := [(3, .int 0), (2, .int (f1_inSet mem dsk sto dn en pw wr cm (f1_dirty mem dsk sto dn en pw wr cm))), (1, .int (f1_dirty mem dsk sto dn en pw wr cm)), (0, .ref h0)]) hx hb dX1_checkpoint_27 rfl hl (by decide) rfl (fun ls hl => ?_)
      obtain ⟨nn, hnn, enn⟩ : ∃ nn : Nat, nn ≤ 12 ∧ (f1_inSet mem dsk sto dn en pw wr cm (f1_dirty mem dsk sto dn en pw wr cm)) = nI nn := is_ok (f1_dirty mem dsk sto dn en pw wr cm)
      have ec : (f1_inSet mem dsk sto dn en pw wr cm (f1_dirty mem dsk sto dn en pw wr cm)).toNatClampNeg = nn := by rw [enn]; exact nI_clamp (by omega)
      have e9 : F1_checkpoint mem dsk sto dn en pw wr cm = F1_cp (f1_dirty mem dsk sto dn en pw wr cm) (f1_inSet mem dsk sto dn en pw wr cm (f1_dirty mem dsk sto dn en pw wr cm)) (2 * nn + 2) 0 (mem, dsk, sto, dn, en, pw, wr, cm) := by unfold F1_checkpoint; rw [if_pos c_4, if_neg c_21]; rw [ec]
      rw [e9]
      exact loop (f1_dirty mem dsk sto dn en pw wr cm) (f1_inSet mem dsk sto dn en pw wr cm (f1_dirty mem dsk sto dn en pw wr cm)) nn hnn enn (2 * nn + 2) (Nat.le_refl _) 0 (by rw [Nat.sub_self]; rfl) mem dsk sto dn en pw wr cm _ _ ls hP hD hS (lv_sub hl [0, 1, 2, 3] rfl)
    · skip
      refine lv_iconst (v := 0) hx hb dX1_checkpoint_24 (by decide) ?_
      have e9 : F1_checkpoint mem dsk sto dn en pw wr cm = (0, mem, dsk, sto, dn, en, pw, wr, cm) := by unfold F1_checkpoint; rw [if_pos c_4, if_pos c_21]
      rw [e9]
      exact retWi hx hb hr hlocks rfl rfl rfl hK hP hD hS dX1_checkpoint_25
  · skip
    refine lv_iconst (v := (-1)) hx hb dX1_checkpoint_7 (by decide) ?_
    have e9 : F1_checkpoint mem dsk sto dn en pw wr cm = ((-1), mem, dsk, sto, dn, en, pw, wr, cm) := by unfold F1_checkpoint; rw [if_neg c_4]
    rw [e9]
    exact retWi hx hb hr hlocks rfl rfl rfl hK hP hD hS dX1_checkpoint_8
set_option maxHeartbeats 8000000 in
set_option maxRecDepth 100000 in
theorem m1_start (l : Launch) (dC : Nat → ClassId) (dI : Nat → Nat → Nat) (h0 h1 h2 h3 : Nat) (c1 c2 c3 : ClassId) (sz : Nat) (mem dsk sto : Nat → Int32) (dn en pw wr cm : Int32) (x0 : Int32) : Met l yX1_start wsX1_start ({ frames := 1, cells := 0, slots := 0, locals := 24 }) (pcW (dC, dI) (k1 c1 c2 c3) (w1 h0 h1 h2 h3 c1 c2 c3 (mem, dsk, sto, dn, en, pw, wr, cm)) sz [.ref h0, .int x0]) (qcWi (dC, dI) (k1 c1 c2 c3) (w1 h0 h1 h2 h3 c1 c2 c3 (mem, dsk, sto, dn, en, pw, wr, cm)) (w1 h0 h1 h2 h3 c1 c2 c3 (F1_start mem dsk sto dn en pw wr cm x0).2) sz (F1_start mem dsk sto dn en pw wr cm x0).1) 0 0 (va_A (w1 h0 h1 h2 h3 c1 c2 c3 (mem, dsk, sto, dn, en, pw, wr, cm)) sz) := by
  refine Met.ofW (cc := cX1_start) (maxL := 7) (ret := (some .int)) (by decide) rfl ?_
  intro p e s m args below meth c s₁ B hml hv
  obtain ⟨rfl, hsz, hP, hK, hD0⟩ := hv
  have hx := B.exec
  have hb := B.bytes
  have hr := B.returns
  have hts := atoms_spec (ws := wsX1_start) B.pre
  have hown : s.vm.findClass RX1 = some m.cls := findClass_of_methodNamed B.named
  have hlocks := B.notSynchronized
  have hin : ∀ w ∈ wsX10, w ∈ wsX1_start := fun _ h => List.mem_cons_of_mem _ (List.mem_append_right _ h)
  have hP : va_P (dC, dI) vwCl [(h0, .inr (1, [.ref h1, .ref h2, .ref h3, .int dn, .int en, .int pw, .int wr, .int cm])), (h1, .inl (c1, 96, .inl mem)), (h2, .inl (c2, 200, .inl dsk)), (h3, .inl (c3, 12, .inl sto))] s.heap := hP
  subst hsz
  have hD := hD0.self (sz := s.heap.size)
  have hA : ∀ q : Nat, s.heap.size ≤ q → (va_A (w1 h0 h1 h2 h3 c1 c2 c3 (mem, dsk, sto, dn, en, pw, wr, cm)) s.heap.size) q := fun q h => Or.inr h
  have hS : va_S (va_A (w1 h0 h1 h2 h3 c1 c2 c3 (mem, dsk, sto, dn, en, pw, wr, cm)) s.heap.size) s.heap s.heap [] := va_S.rf
  have hl := lv_entry ([.ref h0, .int x0]) (n := 7) (Nat.le_of_ble_eq_true rfl)
  rw [lg_entry_eq]
  generalize (lg_sl ([.ref h0, .int x0]) ++ List.replicate (7 - (lg_sl ([.ref h0, .int x0])).length) Slot.unset).toArray = ls at hl ⊢
  have hl : lv_has ls 7 [(0, .ref h0), (1, .int x0)] := hl
  have loop : ∀ (x mny : Int32) (nn : Nat), nn ≤ 13 → mny = nI nn → ∀ (f : Nat), f ≤ nn → ∀ (k : Int32), k = nI (nn - f) → ∀ (mem_0 dsk_0 sto_0 : Nat → Int32) (dn_0 en_0 pw_0 wr_0 cm_0 : Int32) (H : Heap) (locs : List Loc) (ls : Array Slot), va_P (dC, dI) vwCl [(h0, .inr (1, [.ref h1, .ref h2, .ref h3, .int dn_0, .int en_0, .int pw_0, .int wr_0, .int cm_0])), (h1, .inl (c1, 96, .inl mem_0)), (h2, .inl (c2, 200, .inl dsk_0)), (h3, .inl (c3, 12, .inl sto_0))] H → va_D (va_A (w1 h0 h1 h2 h3 c1 c2 c3 (mem, dsk, sto, dn, en, pw, wr, cm)) s.heap.size) [(h0, .inr (1, [.ref h1, .ref h2, .ref h3, .int dn_0, .int en_0, .int pw_0, .int wr_0, .int cm_0])), (h1, .inl (c1, 96, .inl mem_0)), (h2, .inl (c2, 200, .inl dsk_0)), (h3, .inl (c3, 12, .inl sto_0))] → va_S (va_A (w1 h0 h1 h2 h3 c1 c2 c3 (mem, dsk, sto, dn, en, pw, wr, cm)) s.heap.size) s.heap H locs → lv_has ls 7 [(4, .int k), (3, .int mny), (2, .int x), (1, .int x0), (0, .ref h0)] →
      W p l e (headSpec wsX1_start ({ frames := 1, cells := 0, slots := 0, locals := 24 })).room s m #[Value.ref h0, Value.int x0] below meth c H locs 0 0 (MQ below (qcWi (dC, dI) (k1 c1 c2 c3) (w1 h0 h1 h2 h3 c1 c2 c3 (mem, dsk, sto, dn, en, pw, wr, cm)) (w1 h0 h1 h2 h3 c1 c2 c3 (F1_st x mny f k (mem_0, dsk_0, sto_0, dn_0, en_0, pw_0, wr_0, cm_0)).2) s.heap.size (F1_st x mny f k (mem_0, dsk_0, sto_0, dn_0, en_0, pw_0, wr_0, cm_0)).1) #[Value.ref h0, Value.int x0] s 0 0 (va_A (w1 h0 h1 h2 h3 c1 c2 c3 (mem, dsk, sto, dn, en, pw, wr, cm)) s.heap.size)) (F0 m 70 ls []) := by
    intro x mny nn hnn eny f
    induction f with
    | zero =>
      intro hf k ek mem_0 dsk_0 sto_0 dn_0 en_0 pw_0 wr_0 cm_0 H locs ls hP hD hS hl
      refine lv_iload hx hb dX1_start_70 (lv_at hl 0 rfl) ?_
      refine lv_iload_n hx hb dX1_start_72 rfl (lv_at hl 1 rfl) ?_
      refine lv_icmp_ge (tgt := 162) hx hb dX1_start_73 (by decide) (fun c_73 => ?_) (fun c_73 => ?_)
      · skip
        refine lv_iconst (v := 0) hx hb dX1_start_162 (by decide) ?_
        refine lv_istore (lv' := [(4, .int 0), (3, .int mny), (2, .int x), (1, .int x0), (0, .ref h0)]) hx hb dX1_start_163 hl (by decide) rfl (fun ls hl => ?_)
        have lp1 : ∀ (Q : State → Prop) (n : Nat), n ≤ 96 → ∀ (v0_1 : Nat → Int32) (H : Heap) (locs : List Loc) (ls : Array Slot), va_P (dC, dI) vwCl [(h0, .inr (1, [.ref h1, .ref h2, .ref h3, .int dn_0, .int en_0, .int pw_0, .int wr_0, .int cm_0])), (h1, .inl (c1, 96, .inl v0_1)), (h2, .inl (c2, 200, .inl dsk_0)), (h3, .inl (c3, 12, .inl sto_0))] H → va_D (va_A (w1 h0 h1 h2 h3 c1 c2 c3 (mem, dsk, sto, dn, en, pw, wr, cm)) s.heap.size) [(h0, .inr (1, [.ref h1, .ref h2, .ref h3, .int dn_0, .int en_0, .int pw_0, .int wr_0, .int cm_0])), (h1, .inl (c1, 96, .inl v0_1)), (h2, .inl (c2, 200, .inl dsk_0)), (h3, .inl (c3, 12, .inl sto_0))] → va_S (va_A (w1 h0 h1 h2 h3 c1 c2 c3 (mem, dsk, sto, dn, en, pw, wr, cm)) s.heap.size) s.heap H locs → lv_has ls 7 [(4, .int (nI (96 - n))), (3, .int mny), (2, .int x), (1, .int x0), (0, .ref h0)] →
            (∀ (H : Heap) (locs : List Loc) (ls : Array Slot), va_P (dC, dI) vwCl [(h0, .inr (1, [.ref h1, .ref h2, .ref h3, .int dn_0, .int en_0, .int pw_0, .int wr_0, .int cm_0])), (h1, .inl (c1, 96, .inl (ldm dsk_0 n v0_1))), (h2, .inl (c2, 200, .inl dsk_0)), (h3, .inl (c3, 12, .inl sto_0))] H → va_D (va_A (w1 h0 h1 h2 h3 c1 c2 c3 (mem, dsk, sto, dn, en, pw, wr, cm)) s.heap.size) [(h0, .inr (1, [.ref h1, .ref h2, .ref h3, .int dn_0, .int en_0, .int pw_0, .int wr_0, .int cm_0])), (h1, .inl (c1, 96, .inl (ldm dsk_0 n v0_1))), (h2, .inl (c2, 200, .inl dsk_0)), (h3, .inl (c3, 12, .inl sto_0))] → va_S (va_A (w1 h0 h1 h2 h3 c1 c2 c3 (mem, dsk, sto, dn, en, pw, wr, cm)) s.heap.size) s.heap H locs → lv_has ls 7 [(4, .int (nI 96)), (3, .int mny), (2, .int x), (1, .int x0), (0, .ref h0)] → W p l e (headSpec wsX1_start ({ frames := 1, cells := 0, slots := 0, locals := 24 })).room s m #[Value.ref h0, Value.int x0] below meth c H locs 0 0 Q (F0 m 192 ls [])) → W p l e (headSpec wsX1_start ({ frames := 1, cells := 0, slots := 0, locals := 24 })).room s m #[Value.ref h0, Value.int x0] below meth c H locs 0 0 Q (F0 m 165 ls []) := by
          intro Q n
          induction n with
          | zero =>
            intro hn v0_1 H locs ls hP hD hS hl K
            have hl : lv_has ls 7 [(4, .int (nI 96)), (3, .int mny), (2, .int x), (1, .int x0), (0, .ref h0)] := hl
            refine lv_iload hx hb dX1_start_165 (lv_at hl 0 rfl) ?_
            refine lv_bipush (v := 96) hx hb dX1_start_167 (by decide) ?_
            refine lv_icmp_ge (tgt := 192) hx hb dX1_start_169 (by decide) (fun c_169 => ?_) (fun c_169 => ?_)
            · skip
              exact K H locs ls hP hD hS hl
            · skip
              exact absurd (by decide) c_169
          | succ n ih =>
            intro hn v0_1 H locs ls hP hD hS hl K
            have enx : 96 - (n + 1) = 95 - n := by omega
            rw [enx] at hl
            have ei : nI (95 - n) + 1 = nI (96 - n) := by rw [nI_1]; congr 1; omega
            have hl : lv_has ls 7 [(4, .int (nI (95 - n))), (3, .int mny), (2, .int x), (1, .int x0), (0, .ref h0)] := hl
            refine lv_iload hx hb dX1_start_165 (lv_at hl 0 rfl) ?_
            refine lv_bipush (v := 96) hx hb dX1_start_167 (by decide) ?_
            refine lv_icmp_ge (tgt := 192) hx hb dX1_start_169 (by decide) (fun c_169 => ?_) (fun c_169 => ?_)
            · skip
              exact absurd c_169 (nI_ge (a := 95 - n) (b := 96) (by omega) (by decide))
            · skip
              refine lv_aload_n hx hb dX1_start_172 rfl (lv_at hl 4 rfl) ?_
              refine va_get (D := (dC, dI)) (ci := 1) (v := .ref h1) (C := RX1) (T := TX1) (N := 8) hx hb hts hin hown hK hP 0 rfl rfl 0 (by decide) (hts (.fieldLink RX1 7 "CapStoreModel" "memory" "[I") (by decide +kernel)) (fun _ h9 => h9) rfl dX1_start_173 ?_
              refine lv_iload hx hb dX1_start_176 (lv_at hl 0 rfl) ?_
              refine lv_aload_n hx hb dX1_start_178 rfl (lv_at hl 4 rfl) ?_
              refine va_get (D := (dC, dI)) (ci := 1) (v := .ref h2) (C := RX1) (T := TX1) (N := 8) hx hb hts hin hown hK hP 0 rfl rfl 1 (by decide) (hts (.fieldLink RX1 13 "CapStoreModel" "disk" "[I") (by decide +kernel)) (fun _ h9 => h9) rfl dX1_start_179 ?_
              refine lv_iload hx hb dX1_start_182 (lv_at hl 0 rfl) ?_
              refine va_iald hx hb hK hP 2 1 rfl rfl (vp_in_nI (by omega) (by decide)) dX1_start_184 ?_
              refine va_iast hx hb hK hP hD hS 1 0 rfl rfl (vp_in_nI (by omega) (by decide)) dX1_start_185 (fun H locs hP hD hS => ?_)
              have hP : va_P (dC, dI) vwCl [(h0, .inr (1, [.ref h1, .ref h2, .ref h3, .int dn_0, .int en_0, .int pw_0, .int wr_0, .int cm_0])), (h1, .inl (c1, 96, .inl (upd v0_1 (nI (95 - n)).toNatClampNeg (dsk_0 (nI (95 - n)).toNatClampNeg)))), (h2, .inl (c2, 200, .inl dsk_0)), (h3, .inl (c3, 12, .inl sto_0))] _ := hP
              have hD : va_D _ [(h0, .inr (1, [.ref h1, .ref h2, .ref h3, .int dn_0, .int en_0, .int pw_0, .int wr_0, .int cm_0])), (h1, .inl (c1, 96, .inl (upd v0_1 (nI (95 - n)).toNatClampNeg (dsk_0 (nI (95 - n)).toNatClampNeg)))), (h2, .inl (c2, 200, .inl dsk_0)), (h3, .inl (c3, 12, .inl sto_0))] := hD
              refine lv_iinc (v := ((nI (95 - n)) + 1)) (lv' := [(4, .int ((nI (95 - n)) + 1)), (3, .int mny), (2, .int x), (1, .int x0), (0, .ref h0)]) hx hb dX1_start_186 hl (k := 0) rfl rfl (by decide) rfl (fun ls hl => ?_)
              refine lv_goto (tgt := 165) hx hb dX1_start_189 (by decide) ?_
              rw [ei] at hl
              exact ih (by omega) (upd v0_1 (nI (95 - n)).toNatClampNeg (dsk_0 (nI (95 - n)).toNatClampNeg)) _ _ ls hP hD hS (lv_sub hl [0, 1, 2, 3, 4] rfl) K
        refine lp1 _ 96 (Nat.le_refl _) mem_0 _ _ ls hP hD hS (lv_sub hl [0, 1, 2, 3, 4] rfl) (fun H locs ls hP hD hS hl => ?_)
        have hP : va_P (dC, dI) vwCl [(h0, .inr (1, [.ref h1, .ref h2, .ref h3, .int dn_0, .int en_0, .int pw_0, .int wr_0, .int cm_0])), (h1, .inl (c1, 96, .inl (ldm dsk_0 96 mem_0))), (h2, .inl (c2, 200, .inl dsk_0)), (h3, .inl (c3, 12, .inl sto_0))] _ := hP
        have hD : va_D _ [(h0, .inr (1, [.ref h1, .ref h2, .ref h3, .int dn_0, .int en_0, .int pw_0, .int wr_0, .int cm_0])), (h1, .inl (c1, 96, .inl (ldm dsk_0 96 mem_0))), (h2, .inl (c2, 200, .inl dsk_0)), (h3, .inl (c3, 12, .inl sto_0))] := hD
        refine lv_iconst (v := 0) hx hb dX1_start_192 (by decide) ?_
        refine lv_istore (lv' := [(4, .int 0), (3, .int mny), (2, .int x), (1, .int x0), (0, .ref h0)]) hx hb dX1_start_193 hl (by decide) rfl (fun ls hl => ?_)
        have lp2 : ∀ (Q : State → Prop) (n : Nat), n ≤ 12 → ∀ (v2_2 : Nat → Int32) (H : Heap) (locs : List Loc) (ls : Array Slot), va_P (dC, dI) vwCl [(h0, .inr (1, [.ref h1, .ref h2, .ref h3, .int dn_0, .int en_0, .int pw_0, .int wr_0, .int cm_0])), (h1, .inl (c1, 96, .inl (ldm dsk_0 96 mem_0))), (h2, .inl (c2, 200, .inl dsk_0)), (h3, .inl (c3, 12, .inl v2_2))] H → va_D (va_A (w1 h0 h1 h2 h3 c1 c2 c3 (mem, dsk, sto, dn, en, pw, wr, cm)) s.heap.size) [(h0, .inr (1, [.ref h1, .ref h2, .ref h3, .int dn_0, .int en_0, .int pw_0, .int wr_0, .int cm_0])), (h1, .inl (c1, 96, .inl (ldm dsk_0 96 mem_0))), (h2, .inl (c2, 200, .inl dsk_0)), (h3, .inl (c3, 12, .inl v2_2))] → va_S (va_A (w1 h0 h1 h2 h3 c1 c2 c3 (mem, dsk, sto, dn, en, pw, wr, cm)) s.heap.size) s.heap H locs → lv_has ls 7 [(4, .int (nI (12 - n))), (3, .int mny), (2, .int x), (1, .int x0), (0, .ref h0)] →
            (∀ (H : Heap) (locs : List Loc) (ls : Array Slot), va_P (dC, dI) vwCl [(h0, .inr (1, [.ref h1, .ref h2, .ref h3, .int dn_0, .int en_0, .int pw_0, .int wr_0, .int cm_0])), (h1, .inl (c1, 96, .inl (ldm dsk_0 96 mem_0))), (h2, .inl (c2, 200, .inl dsk_0)), (h3, .inl (c3, 12, .inl (rst n v2_2)))] H → va_D (va_A (w1 h0 h1 h2 h3 c1 c2 c3 (mem, dsk, sto, dn, en, pw, wr, cm)) s.heap.size) [(h0, .inr (1, [.ref h1, .ref h2, .ref h3, .int dn_0, .int en_0, .int pw_0, .int wr_0, .int cm_0])), (h1, .inl (c1, 96, .inl (ldm dsk_0 96 mem_0))), (h2, .inl (c2, 200, .inl dsk_0)), (h3, .inl (c3, 12, .inl (rst n v2_2)))] → va_S (va_A (w1 h0 h1 h2 h3 c1 c2 c3 (mem, dsk, sto, dn, en, pw, wr, cm)) s.heap.size) s.heap H locs → lv_has ls 7 [(4, .int (nI 12)), (3, .int mny), (2, .int x), (1, .int x0), (0, .ref h0)] → W p l e (headSpec wsX1_start ({ frames := 1, cells := 0, slots := 0, locals := 24 })).room s m #[Value.ref h0, Value.int x0] below meth c H locs 0 0 Q (F0 m 216 ls [])) → W p l e (headSpec wsX1_start ({ frames := 1, cells := 0, slots := 0, locals := 24 })).room s m #[Value.ref h0, Value.int x0] below meth c H locs 0 0 Q (F0 m 195 ls []) := by
          intro Q n
          induction n with
          | zero =>
            intro hn v2_2 H locs ls hP hD hS hl K
            have hl : lv_has ls 7 [(4, .int (nI 12)), (3, .int mny), (2, .int x), (1, .int x0), (0, .ref h0)] := hl
            refine lv_iload hx hb dX1_start_195 (lv_at hl 0 rfl) ?_
            refine lv_bipush (v := 12) hx hb dX1_start_197 (by decide) ?_
            refine lv_icmp_ge (tgt := 216) hx hb dX1_start_199 (by decide) (fun c_199 => ?_) (fun c_199 => ?_)
            · skip
              exact K H locs ls hP hD hS hl
            · skip
              exact absurd (by decide) c_199
          | succ n ih =>
            intro hn v2_2 H locs ls hP hD hS hl K
            have enx : 12 - (n + 1) = 11 - n := by omega
            rw [enx] at hl
            have ei : nI (11 - n) + 1 = nI (12 - n) := by rw [nI_1]; congr 1; omega
            have hl : lv_has ls 7 [(4, .int (nI (11 - n))), (3, .int mny), (2, .int x), (1, .int x0), (0, .ref h0)] := hl
            refine lv_iload hx hb dX1_start_195 (lv_at hl 0 rfl) ?_
            refine lv_bipush (v := 12) hx hb dX1_start_197 (by decide) ?_
            refine lv_icmp_ge (tgt := 216) hx hb dX1_start_199 (by decide) (fun c_199 => ?_) (fun c_199 => ?_)
            · skip
              exact absurd c_199 (nI_ge (a := 11 - n) (b := 12) (by omega) (by decide))
            · skip
              refine lv_aload_n hx hb dX1_start_202 rfl (lv_at hl 4 rfl) ?_
              refine va_get (D := (dC, dI)) (ci := 1) (v := .ref h3) (C := RX1) (T := TX1) (N := 8) hx hb hts hin hown hK hP 0 rfl rfl 2 (by decide) (hts (.fieldLink RX1 16 "CapStoreModel" "stored" "[Z") (by decide +kernel)) (fun _ h9 => h9) rfl dX1_start_203 ?_
              refine lv_iload hx hb dX1_start_206 (lv_at hl 0 rfl) ?_
              refine lv_iconst (v := 0) hx hb dX1_start_208 (by decide) ?_
              refine va_zast hx hb hK hP hD hS 3 2 rfl rfl (vp_in_nI (by omega) (by decide)) dX1_start_209 (fun H locs hP hD hS => ?_)
              have hP : va_P (dC, dI) vwCl [(h0, .inr (1, [.ref h1, .ref h2, .ref h3, .int dn_0, .int en_0, .int pw_0, .int wr_0, .int cm_0])), (h1, .inl (c1, 96, .inl (ldm dsk_0 96 mem_0))), (h2, .inl (c2, 200, .inl dsk_0)), (h3, .inl (c3, 12, .inl (upd v2_2 (nI (11 - n)).toNatClampNeg (vp_nar .boolean 0))))] _ := hP
              have hD : va_D _ [(h0, .inr (1, [.ref h1, .ref h2, .ref h3, .int dn_0, .int en_0, .int pw_0, .int wr_0, .int cm_0])), (h1, .inl (c1, 96, .inl (ldm dsk_0 96 mem_0))), (h2, .inl (c2, 200, .inl dsk_0)), (h3, .inl (c3, 12, .inl (upd v2_2 (nI (11 - n)).toNatClampNeg (vp_nar .boolean 0))))] := hD
              refine lv_iinc (v := ((nI (11 - n)) + 1)) (lv' := [(4, .int ((nI (11 - n)) + 1)), (3, .int mny), (2, .int x), (1, .int x0), (0, .ref h0)]) hx hb dX1_start_210 hl (k := 0) rfl rfl (by decide) rfl (fun ls hl => ?_)
              refine lv_goto (tgt := 195) hx hb dX1_start_213 (by decide) ?_
              rw [ei] at hl
              exact ih (by omega) (upd v2_2 (nI (11 - n)).toNatClampNeg (vp_nar .boolean 0)) _ _ ls hP hD hS (lv_sub hl [0, 1, 2, 3, 4] rfl) K
        refine lp2 _ 12 (Nat.le_refl _) sto_0 _ _ ls hP hD hS (lv_sub hl [0, 1, 2, 3, 4] rfl) (fun H locs ls hP hD hS hl => ?_)
        have hP : va_P (dC, dI) vwCl [(h0, .inr (1, [.ref h1, .ref h2, .ref h3, .int dn_0, .int en_0, .int pw_0, .int wr_0, .int cm_0])), (h1, .inl (c1, 96, .inl (ldm dsk_0 96 mem_0))), (h2, .inl (c2, 200, .inl dsk_0)), (h3, .inl (c3, 12, .inl (rst 12 sto_0)))] _ := hP
        have hD : va_D _ [(h0, .inr (1, [.ref h1, .ref h2, .ref h3, .int dn_0, .int en_0, .int pw_0, .int wr_0, .int cm_0])), (h1, .inl (c1, 96, .inl (ldm dsk_0 96 mem_0))), (h2, .inl (c2, 200, .inl dsk_0)), (h3, .inl (c3, 12, .inl (rst 12 sto_0)))] := hD
        refine lv_aload_n hx hb dX1_start_216 rfl (lv_at hl 4 rfl) ?_
        refine lv_iconst (v := 0) hx hb dX1_start_217 (by decide) ?_
        refine va_put (D := (dC, dI)) (ci := 1) (v := .int 0) (ty := .boolean) (C := RX1) (T := TX1) (N := 8) hx hb hts hin tyX1 tyX1_ok nmX1 hown hK hP hD hS 0 rfl rfl 3 (by decide) (hts (.fieldLink RX1 28 "CapStoreModel" "down" "Z") (by decide +kernel)) (fun _ h9 => h9) rfl (by decide +kernel) rfl rfl (Nat.le_of_ble_eq_true rfl) dX1_start_218 (fun H locs hP hD hS => ?_)
        have hP : va_P (dC, dI) vwCl [(h0, .inr (1, [.ref h1, .ref h2, .ref h3, .int 0, .int en_0, .int pw_0, .int wr_0, .int cm_0])), (h1, .inl (c1, 96, .inl (ldm dsk_0 96 mem_0))), (h2, .inl (c2, 200, .inl dsk_0)), (h3, .inl (c3, 12, .inl (rst 12 sto_0)))] _ := hP
        have hD : va_D _ [(h0, .inr (1, [.ref h1, .ref h2, .ref h3, .int 0, .int en_0, .int pw_0, .int wr_0, .int cm_0])), (h1, .inl (c1, 96, .inl (ldm dsk_0 96 mem_0))), (h2, .inl (c2, 200, .inl dsk_0)), (h3, .inl (c3, 12, .inl (rst 12 sto_0)))] := hD
        refine lv_iload_n hx hb dX1_start_221 rfl (lv_at hl 1 rfl) ?_
        have e9 : F1_st x mny 0 k (mem_0, dsk_0, sto_0, dn_0, en_0, pw_0, wr_0, cm_0) = (mny, (ldm dsk_0 96 mem_0), dsk_0, (rst 12 sto_0), 0, en_0, pw_0, wr_0, cm_0) := by rw [F1_st]
        rw [e9]
        exact retWi hx hb hr hlocks rfl rfl rfl hK hP hD hS dX1_start_222
      · skip
        exact absurd (st_out hnn eny ek) c_73
    | succ f ih =>
      intro hf k ek mem_0 dsk_0 sto_0 dn_0 en_0 pw_0 wr_0 cm_0 H locs ls hP hD hS hl
      refine lv_iload hx hb dX1_start_70 (lv_at hl 0 rfl) ?_
      refine lv_iload_n hx hb dX1_start_72 rfl (lv_at hl 1 rfl) ?_
      refine lv_icmp_ge (tgt := 162) hx hb dX1_start_73 (by decide) (fun c_73 => ?_) (fun c_73 => ?_)
      · skip
        exact absurd c_73 (st_in hnn hf eny ek)
      · skip
        refine lv_aload_n hx hb dX1_start_76 rfl (lv_at hl 4 rfl) ?_
        refine callWi (q := (RX1, TX1, 8)) (ci := 1) (q0 := 0) (As := []) (rest := []) (wr := []) (m1_may l dC dI h0 h1 h2 h3 c1 c2 c3 _ mem_0 dsk_0 sto_0 dn_0 en_0 pw_0 wr_0 cm_0  ) ⟨hx, hb, hml, hown, hts⟩ (cwV 0 hts gX1_start_X1_may rfl rfl rfl (by decide +kernel) ⟨Nat.le_of_ble_eq_true rfl, Nat.le_of_ble_eq_true rfl⟩) hK hP hD hS hA rfl rfl [0, 1, 2, 3] [] rfl rfl rfl (by decide) (by decide) (by decide) rfl hl.1 rfl (Nat.le_of_ble_eq_true rfl) dX1_start_77 ⟨Nat.zero_le _, Nat.zero_le _⟩ (fun H locs hP hD hS => ?_)
        generalize hF1 : (F1_may mem_0 dsk_0 sto_0 dn_0 en_0 pw_0 wr_0 cm_0) = u at hP hD ⊢
        obtain ⟨r_1, mem_1, dsk_1, sto_1, dn_1, en_1, pw_1, wr_1, cm_1⟩ := u
        have hP : va_P (dC, dI) vwCl [(h0, .inr (1, [.ref h1, .ref h2, .ref h3, .int dn_1, .int en_1, .int pw_1, .int wr_1, .int cm_1])), (h1, .inl (c1, 96, .inl mem_1)), (h2, .inl (c2, 200, .inl dsk_1)), (h3, .inl (c3, 12, .inl sto_1))] _ := hP
        have hD : va_D _ [(h0, .inr (1, [.ref h1, .ref h2, .ref h3, .int dn_1, .int en_1, .int pw_1, .int wr_1, .int cm_1])), (h1, .inl (c1, 96, .inl mem_1)), (h2, .inl (c2, 200, .inl dsk_1)), (h3, .inl (c3, 12, .inl sto_1))] := hD
        show W _ _ _ _ _ _ _ _ _ _ _ _ _ _ _ (F0 m 80 ls [.int r_1])
        refine lv_if_ne (tgt := 86) hx hb dX1_start_80 (by decide) (fun c_80 => ?_) (fun c_80 => ?_)
        · skip
          refine lv_iload hx hb dX1_start_86 (lv_at hl 0 rfl) ?_
          refine lv_iload_n hx hb dX1_start_88 rfl (lv_at hl 1 rfl) ?_
          refine lv_iconst (v := 1) hx hb dX1_start_89 (by decide) ?_
          refine lv_isub hx hb dX1_start_90 ?_
          refine lv_icmp_ne (tgt := 102) hx hb dX1_start_91 (by decide) (fun c_91 => ?_) (fun c_91 => ?_)
          · skip
            refine lv_aload_n hx hb dX1_start_102 rfl (lv_at hl 4 rfl) ?_
            refine lv_iload_n hx hb dX1_start_103 rfl (lv_at hl 2 rfl) ?_
            refine lv_iload hx hb dX1_start_104 (lv_at hl 0 rfl) ?_
            refine callRi (q := (RX1, TX1, 8)) (ci := 1) (q0 := 0) (As := [.int x, .int k]) (rest := []) (m1_member l dC dI h0 h1 h2 h3 c1 c2 c3 mem_1 dsk_1 sto_1 dn_1 en_1 pw_1 wr_1 cm_1 x k ) ⟨hx, hb, hml, hown, hts⟩ (cwV 2 hts gX1_start_X1_member rfl rfl rfl (by decide +kernel) ⟨Nat.le_of_ble_eq_true rfl, Nat.le_of_ble_eq_true rfl⟩) hK hP rfl rfl rfl hl.1 rfl (Nat.le_of_ble_eq_true rfl) dX1_start_106 ⟨Nat.zero_le _, Nat.zero_le _⟩ ?_
            refine lv_istore (lv' := [(5, .int (f1_member mem_1 dsk_1 sto_1 dn_1 en_1 pw_1 wr_1 cm_1 x k)), (4, .int k), (3, .int mny), (2, .int x), (1, .int x0), (0, .ref h0)]) hx hb dX1_start_109 hl (by decide) rfl (fun ls hl => ?_)
            refine lv_iconst (v := 0) hx hb dX1_start_111 (by decide) ?_
            refine lv_istore (lv' := [(6, .int 0), (5, .int (f1_member mem_1 dsk_1 sto_1 dn_1 en_1 pw_1 wr_1 cm_1 x k)), (4, .int k), (3, .int mny), (2, .int x), (1, .int x0), (0, .ref h0)]) hx hb dX1_start_112 hl (by decide) rfl (fun ls hl => ?_)
            have lp3 : ∀ (Q : State → Prop) (n : Nat), n ≤ 8 → ∀ (v1_3 : Nat → Int32) (H : Heap) (locs : List Loc) (ls : Array Slot), va_P (dC, dI) vwCl [(h0, .inr (1, [.ref h1, .ref h2, .ref h3, .int dn_1, .int en_1, .int pw_1, .int wr_1, .int cm_1])), (h1, .inl (c1, 96, .inl mem_1)), (h2, .inl (c2, 200, .inl v1_3)), (h3, .inl (c3, 12, .inl sto_1))] H → va_D (va_A (w1 h0 h1 h2 h3 c1 c2 c3 (mem, dsk, sto, dn, en, pw, wr, cm)) s.heap.size) [(h0, .inr (1, [.ref h1, .ref h2, .ref h3, .int dn_1, .int en_1, .int pw_1, .int wr_1, .int cm_1])), (h1, .inl (c1, 96, .inl mem_1)), (h2, .inl (c2, 200, .inl v1_3)), (h3, .inl (c3, 12, .inl sto_1))] → va_S (va_A (w1 h0 h1 h2 h3 c1 c2 c3 (mem, dsk, sto, dn, en, pw, wr, cm)) s.heap.size) s.heap H locs → lv_has ls 7 [(6, .int (nI (8 - n))), (5, .int (f1_member mem_1 dsk_1 sto_1 dn_1 en_1 pw_1 wr_1 cm_1 x k)), (4, .int k), (3, .int mny), (2, .int x), (1, .int x0), (0, .ref h0)] →
                (∀ (H : Heap) (locs : List Loc) (ls : Array Slot), va_P (dC, dI) vwCl [(h0, .inr (1, [.ref h1, .ref h2, .ref h3, .int dn_1, .int en_1, .int pw_1, .int wr_1, .int cm_1])), (h1, .inl (c1, 96, .inl mem_1)), (h2, .inl (c2, 200, .inl (cpd (f1_member mem_1 dsk_1 sto_1 dn_1 en_1 pw_1 wr_1 cm_1 x k) n v1_3))), (h3, .inl (c3, 12, .inl sto_1))] H → va_D (va_A (w1 h0 h1 h2 h3 c1 c2 c3 (mem, dsk, sto, dn, en, pw, wr, cm)) s.heap.size) [(h0, .inr (1, [.ref h1, .ref h2, .ref h3, .int dn_1, .int en_1, .int pw_1, .int wr_1, .int cm_1])), (h1, .inl (c1, 96, .inl mem_1)), (h2, .inl (c2, 200, .inl (cpd (f1_member mem_1 dsk_1 sto_1 dn_1 en_1 pw_1 wr_1 cm_1 x k) n v1_3))), (h3, .inl (c3, 12, .inl sto_1))] → va_S (va_A (w1 h0 h1 h2 h3 c1 c2 c3 (mem, dsk, sto, dn, en, pw, wr, cm)) s.heap.size) s.heap H locs → lv_has ls 7 [(6, .int (nI 8)), (5, .int (f1_member mem_1 dsk_1 sto_1 dn_1 en_1 pw_1 wr_1 cm_1 x k)), (4, .int k), (3, .int mny), (2, .int x), (1, .int x0), (0, .ref h0)] → W p l e (headSpec wsX1_start ({ frames := 1, cells := 0, slots := 0, locals := 24 })).room s m #[Value.ref h0, Value.int x0] below meth c H locs 0 0 Q (F0 m 156 ls [])) → W p l e (headSpec wsX1_start ({ frames := 1, cells := 0, slots := 0, locals := 24 })).room s m #[Value.ref h0, Value.int x0] below meth c H locs 0 0 Q (F0 m 114 ls []) := by
              intro Q n
              induction n with
              | zero =>
                intro hn v1_3 H locs ls hP hD hS hl K
                have hl : lv_has ls 7 [(6, .int (nI 8)), (5, .int (f1_member mem_1 dsk_1 sto_1 dn_1 en_1 pw_1 wr_1 cm_1 x k)), (4, .int k), (3, .int mny), (2, .int x), (1, .int x0), (0, .ref h0)] := hl
                refine lv_iload hx hb dX1_start_114 (lv_at hl 0 rfl) ?_
                refine lv_bipush (v := 8) hx hb dX1_start_116 (by decide) ?_
                refine lv_icmp_ge (tgt := 156) hx hb dX1_start_118 (by decide) (fun c_118 => ?_) (fun c_118 => ?_)
                · skip
                  exact K H locs ls hP hD hS hl
                · skip
                  exact absurd (by decide) c_118
              | succ n ih =>
                intro hn v1_3 H locs ls hP hD hS hl K
                have enx : 8 - (n + 1) = 7 - n := by omega
                rw [enx] at hl
                have ei : nI (7 - n) + 1 = nI (8 - n) := by rw [nI_1]; congr 1; omega
                have hl : lv_has ls 7 [(6, .int (nI (7 - n))), (5, .int (f1_member mem_1 dsk_1 sto_1 dn_1 en_1 pw_1 wr_1 cm_1 x k)), (4, .int k), (3, .int mny), (2, .int x), (1, .int x0), (0, .ref h0)] := hl
                refine lv_iload hx hb dX1_start_114 (lv_at hl 0 rfl) ?_
                refine lv_bipush (v := 8) hx hb dX1_start_116 (by decide) ?_
                refine lv_icmp_ge (tgt := 156) hx hb dX1_start_118 (by decide) (fun c_118 => ?_) (fun c_118 => ?_)
                · skip
                  exact absurd c_118 (nI_ge (a := 7 - n) (b := 8) (by omega) (by decide))
                · skip
                  refine lv_aload_n hx hb dX1_start_121 rfl (lv_at hl 6 rfl) ?_
                  refine va_get (D := (dC, dI)) (ci := 1) (v := .ref h2) (C := RX1) (T := TX1) (N := 8) hx hb hts hin hown hK hP 0 rfl rfl 1 (by decide) (hts (.fieldLink RX1 13 "CapStoreModel" "disk" "[I") (by decide +kernel)) (fun _ h9 => h9) rfl dX1_start_122 ?_
                  refine lv_bipush (v := 8) hx hb dX1_start_125 (by decide) ?_
                  refine lv_iload hx hb dX1_start_127 (lv_at hl 1 rfl) ?_
                  refine lv_imul hx hb dX1_start_129 ?_
                  refine lv_iload hx hb dX1_start_130 (lv_at hl 0 rfl) ?_
                  refine lv_iadd hx hb dX1_start_132 ?_
                  refine lv_aload_n hx hb dX1_start_133 rfl (lv_at hl 6 rfl) ?_
                  refine va_get (D := (dC, dI)) (ci := 1) (v := .ref h2) (C := RX1) (T := TX1) (N := 8) hx hb hts hin hown hK hP 0 rfl rfl 1 (by decide) (hts (.fieldLink RX1 13 "CapStoreModel" "disk" "[I") (by decide +kernel)) (fun _ h9 => h9) rfl dX1_start_134 ?_
                  refine lv_bipush (v := 96) hx hb dX1_start_137 (by decide) ?_
                  refine lv_bipush (v := 8) hx hb dX1_start_139 (by decide) ?_
                  refine lv_iload hx hb dX1_start_141 (lv_at hl 1 rfl) ?_
                  refine lv_imul hx hb dX1_start_143 ?_
                  refine lv_iadd hx hb dX1_start_144 ?_
                  refine lv_iload hx hb dX1_start_145 (lv_at hl 0 rfl) ?_
                  refine lv_iadd hx hb dX1_start_147 ?_
                  refine va_iald hx hb hK hP 2 1 rfl rfl (sdc_4 (mb_ok _ _) (by omega)) dX1_start_148 ?_
                  refine va_iast hx hb hK hP hD hS 2 1 rfl rfl (sdc_2 (mb_ok _ _) (by omega)) dX1_start_149 (fun H locs hP hD hS => ?_)
                  have hP : va_P (dC, dI) vwCl [(h0, .inr (1, [.ref h1, .ref h2, .ref h3, .int dn_1, .int en_1, .int pw_1, .int wr_1, .int cm_1])), (h1, .inl (c1, 96, .inl mem_1)), (h2, .inl (c2, 200, .inl (upd v1_3 ((8 * (f1_member mem_1 dsk_1 sto_1 dn_1 en_1 pw_1 wr_1 cm_1 x k)) + (nI (7 - n))).toNatClampNeg (v1_3 ((96 + (8 * (f1_member mem_1 dsk_1 sto_1 dn_1 en_1 pw_1 wr_1 cm_1 x k))) + (nI (7 - n))).toNatClampNeg)))), (h3, .inl (c3, 12, .inl sto_1))] _ := hP
                  have hD : va_D _ [(h0, .inr (1, [.ref h1, .ref h2, .ref h3, .int dn_1, .int en_1, .int pw_1, .int wr_1, .int cm_1])), (h1, .inl (c1, 96, .inl mem_1)), (h2, .inl (c2, 200, .inl (upd v1_3 ((8 * (f1_member mem_1 dsk_1 sto_1 dn_1 en_1 pw_1 wr_1 cm_1 x k)) + (nI (7 - n))).toNatClampNeg (v1_3 ((96 + (8 * (f1_member mem_1 dsk_1 sto_1 dn_1 en_1 pw_1 wr_1 cm_1 x k))) + (nI (7 - n))).toNatClampNeg)))), (h3, .inl (c3, 12, .inl sto_1))] := hD
                  refine lv_iinc (v := ((nI (7 - n)) + 1)) (lv' := [(6, .int ((nI (7 - n)) + 1)), (5, .int (f1_member mem_1 dsk_1 sto_1 dn_1 en_1 pw_1 wr_1 cm_1 x k)), (4, .int k), (3, .int mny), (2, .int x), (1, .int x0), (0, .ref h0)]) hx hb dX1_start_150 hl (k := 0) rfl rfl (by decide) rfl (fun ls hl => ?_)
                  refine lv_goto (tgt := 114) hx hb dX1_start_153 (by decide) ?_
                  rw [ei] at hl
                  exact ih (by omega) (upd v1_3 ((8 * (f1_member mem_1 dsk_1 sto_1 dn_1 en_1 pw_1 wr_1 cm_1 x k)) + (nI (7 - n))).toNatClampNeg (v1_3 ((96 + (8 * (f1_member mem_1 dsk_1 sto_1 dn_1 en_1 pw_1 wr_1 cm_1 x k))) + (nI (7 - n))).toNatClampNeg)) _ _ ls hP hD hS (lv_sub hl [0, 1, 2, 3, 4, 5, 6] rfl) K
            refine lp3 _ 8 (Nat.le_refl _) dsk_1 _ _ ls hP hD hS (lv_sub hl [0, 1, 2, 3, 4, 5, 6] rfl) (fun H locs ls hP hD hS hl => ?_)
            have hP : va_P (dC, dI) vwCl [(h0, .inr (1, [.ref h1, .ref h2, .ref h3, .int dn_1, .int en_1, .int pw_1, .int wr_1, .int cm_1])), (h1, .inl (c1, 96, .inl mem_1)), (h2, .inl (c2, 200, .inl (cpd (f1_member mem_1 dsk_1 sto_1 dn_1 en_1 pw_1 wr_1 cm_1 x k) 8 dsk_1))), (h3, .inl (c3, 12, .inl sto_1))] _ := hP
            have hD : va_D _ [(h0, .inr (1, [.ref h1, .ref h2, .ref h3, .int dn_1, .int en_1, .int pw_1, .int wr_1, .int cm_1])), (h1, .inl (c1, 96, .inl mem_1)), (h2, .inl (c2, 200, .inl (cpd (f1_member mem_1 dsk_1 sto_1 dn_1 en_1 pw_1 wr_1 cm_1 x k) 8 dsk_1))), (h3, .inl (c3, 12, .inl sto_1))] := hD
            refine lv_iinc (v := (k + 1)) (lv' := [(4, .int (k + 1)), (6, .int (nI 8)), (5, .int (f1_member mem_1 dsk_1 sto_1 dn_1 en_1 pw_1 wr_1 cm_1 x k)), (3, .int mny), (2, .int x), (1, .int x0), (0, .ref h0)]) hx hb dX1_start_156 hl (k := 2) rfl rfl (by decide) rfl (fun ls hl => ?_)
            refine lv_goto (tgt := 70) hx hb dX1_start_159 (by decide) ?_
            have e9 : F1_st x mny (f + 1) k (mem_0, dsk_0, sto_0, dn_0, en_0, pw_0, wr_0, cm_0) = F1_st x mny f (k + 1) (mem_1, (cpd (f1_member mem_1 dsk_1 sto_1 dn_1 en_1 pw_1 wr_1 cm_1 x k) 8 dsk_1), sto_1, dn_1, en_1, pw_1, wr_1, cm_1) := by rw [F1_st]; (try dsimp only); rw [hF1]; (try dsimp only); rw [if_neg c_80, if_neg c_91]
            rw [e9]
            exact ih (by omega) (k + 1) (st_nxt hf ek) mem_1 (cpd (f1_member mem_1 dsk_1 sto_1 dn_1 en_1 pw_1 wr_1 cm_1 x k) 8 dsk_1) sto_1 dn_1 en_1 pw_1 wr_1 cm_1 _ _ ls hP hD hS (lv_sub hl [0, 3, 4, 5, 6] rfl)
          · skip
            refine lv_aload_n hx hb dX1_start_94 rfl (lv_at hl 4 rfl) ?_
            refine lv_iconst (v := 0) hx hb dX1_start_95 (by decide) ?_
            refine callWv (q := (RX1, TX1, 8)) (ci := 1) (q0 := 0) (As := [.int 0]) (rest := []) (wr := []) (m1_header l dC dI h0 h1 h2 h3 c1 c2 c3 _ mem_1 dsk_1 sto_1 dn_1 en_1 pw_1 wr_1 cm_1 0 ) ⟨hx, hb, hml, hown, hts⟩ (cwV 1 hts gX1_start_X1_header rfl rfl rfl (by decide +kernel) ⟨Nat.le_of_ble_eq_true rfl, Nat.le_of_ble_eq_true rfl⟩) hK hP hD hS hA rfl rfl [0, 1, 2, 3] [] rfl rfl rfl (by decide) (by decide) (by decide) rfl hl.1 rfl (Nat.le_of_ble_eq_true rfl) dX1_start_96 ⟨Nat.zero_le _, Nat.zero_le _⟩ (fun H locs hP hD hS => ?_)
            have hP : va_P (dC, dI) vwCl [(h0, .inr (1, [.ref h1, .ref h2, .ref h3, .int dn_1, .int en_1, .int pw_1, .int wr_1, .int cm_1])), (h1, .inl (c1, 96, .inl mem_1)), (h2, .inl (c2, 200, .inl (upd dsk_1 (192 : Int32).toNatClampNeg 0))), (h3, .inl (c3, 12, .inl sto_1))] _ := hP
            have hD : va_D _ [(h0, .inr (1, [.ref h1, .ref h2, .ref h3, .int dn_1, .int en_1, .int pw_1, .int wr_1, .int cm_1])), (h1, .inl (c1, 96, .inl mem_1)), (h2, .inl (c2, 200, .inl (upd dsk_1 (192 : Int32).toNatClampNeg 0))), (h3, .inl (c3, 12, .inl sto_1))] := hD
            refine lv_goto (tgt := 156) hx hb dX1_start_99 (by decide) ?_
            refine lv_iinc (v := (k + 1)) (lv' := [(4, .int (k + 1)), (3, .int mny), (2, .int x), (1, .int x0), (0, .ref h0)]) hx hb dX1_start_156 hl (k := 0) rfl rfl (by decide) rfl (fun ls hl => ?_)
            refine lv_goto (tgt := 70) hx hb dX1_start_159 (by decide) ?_
            have e9 : F1_st x mny (f + 1) k (mem_0, dsk_0, sto_0, dn_0, en_0, pw_0, wr_0, cm_0) = F1_st x mny f (k + 1) (mem_1, (upd dsk_1 (192 : Int32).toNatClampNeg 0), sto_1, dn_1, en_1, pw_1, wr_1, cm_1) := by rw [F1_st]; (try dsimp only); rw [hF1]; (try dsimp only); rw [if_neg c_80, if_pos c_91]
            rw [e9]
            exact ih (by omega) (k + 1) (st_nxt hf ek) mem_1 (upd dsk_1 (192 : Int32).toNatClampNeg 0) sto_1 dn_1 en_1 pw_1 wr_1 cm_1 _ _ ls hP hD hS (lv_sub hl [0, 1, 2, 3, 4] rfl)
        · skip
          refine lv_bipush (v := (-3)) hx hb dX1_start_83 (by decide) ?_
          have e9 : F1_st x mny (f + 1) k (mem_0, dsk_0, sto_0, dn_0, en_0, pw_0, wr_0, cm_0) = ((-3), mem_1, dsk_1, sto_1, dn_1, en_1, pw_1, wr_1, cm_1) := by rw [F1_st]; (try dsimp only); rw [hF1]; (try dsimp only); rw [if_pos c_80]
          rw [e9]
          exact retWi hx hb hr hlocks rfl rfl rfl hK hP hD hS dX1_start_85
  refine lv_aload_n hx hb dX1_start_0 rfl (lv_at hl 0 rfl) ?_
  refine va_get (D := (dC, dI)) (ci := 1) (v := .int dn) (C := RX1) (T := TX1) (N := 8) hx hb hts hin hown hK hP 0 rfl rfl 3 (by decide) (hts (.fieldLink RX1 28 "CapStoreModel" "down" "Z") (by decide +kernel)) (fun _ h9 => h9) rfl dX1_start_1 ?_
  refine lv_if_ne (tgt := 9) hx hb dX1_start_4 (by decide) (fun c_4 => ?_) (fun c_4 => ?_)
  · skip
    refine lv_iload_n hx hb dX1_start_9 rfl (lv_at hl 1 rfl) ?_
    refine lv_iconst (v := (-1)) hx hb dX1_start_10 (by decide) ?_
    refine lv_icmp_lt (tgt := 20) hx hb dX1_start_11 (by decide) (fun c_11 => ?_) (fun c_11 => ?_)
    · skip
      refine lv_bipush (v := (-2)) hx hb dX1_start_20 (by decide) ?_
      have e9 : F1_start mem dsk sto dn en pw wr cm x0 = ((-2), mem, dsk, sto, dn, en, pw, wr, cm) := by unfold F1_start; rw [if_neg c_4, if_pos c_11]
      rw [e9]
      exact retWi hx hb hr hlocks rfl rfl rfl hK hP hD hS dX1_start_22
    · skip
      refine lv_iload_n hx hb dX1_start_14 rfl (lv_at hl 1 rfl) ?_
      refine lv_bipush (v := 63) hx hb dX1_start_15 (by decide) ?_
      refine lv_icmp_le (tgt := 23) hx hb dX1_start_17 (by decide) (fun c_17 => ?_) (fun c_17 => ?_)
      · skip
        refine w_cut 34 [.ref h0] (z1_start_34 x0) (fun z ez => ?_) (fun K => ?_)
        · subst ez
          refine va_put (D := (dC, dI)) (ci := 1) (v := .int (z1_start_34 x0)) (ty := .boolean) (C := RX1) (T := TX1) (N := 8) hx hb hts hin tyX1 tyX1_ok nmX1 hown hK hP hD hS 0 rfl rfl 4 (by decide) (hts (.fieldLink RX1 20 "CapStoreModel" "endless" "Z") (by decide +kernel)) (fun _ h9 => h9) rfl (by decide +kernel) (nar_z34 x0) (fit_z34 x0) (Nat.le_of_ble_eq_true rfl) dX1_start_34 (fun H locs hP hD hS => ?_)
          have hP : va_P (dC, dI) vwCl [(h0, .inr (1, [.ref h1, .ref h2, .ref h3, .int dn, .int (z1_start_34 x0), .int pw, .int wr, .int cm])), (h1, .inl (c1, 96, .inl mem)), (h2, .inl (c2, 200, .inl dsk)), (h3, .inl (c3, 12, .inl sto))] _ := hP
          have hD : va_D _ [(h0, .inr (1, [.ref h1, .ref h2, .ref h3, .int dn, .int (z1_start_34 x0), .int pw, .int wr, .int cm])), (h1, .inl (c1, 96, .inl mem)), (h2, .inl (c2, 200, .inl dsk)), (h3, .inl (c3, 12, .inl sto))] := hD
          refine lv_aload_n hx hb dX1_start_37 rfl (lv_at hl 0 rfl) ?_
          refine lv_iload_n hx hb dX1_start_38 rfl (lv_at hl 1 rfl) ?_
          refine va_put (D := (dC, dI)) (ci := 1) (v := .int x0) (ty := .int) (C := RX1) (T := TX1) (N := 8) hx hb hts hin tyX1 tyX1_ok nmX1 hown hK hP hD hS 0 rfl rfl 5 (by decide) (hts (.fieldLink RX1 55 "CapStoreModel" "power" "I") (by decide +kernel)) (fun _ h9 => h9) rfl (by decide +kernel) rfl rfl (Nat.le_of_ble_eq_true rfl) dX1_start_39 (fun H locs hP hD hS => ?_)
          have hP : va_P (dC, dI) vwCl [(h0, .inr (1, [.ref h1, .ref h2, .ref h3, .int dn, .int (z1_start_34 x0), .int x0, .int wr, .int cm])), (h1, .inl (c1, 96, .inl mem)), (h2, .inl (c2, 200, .inl dsk)), (h3, .inl (c3, 12, .inl sto))] _ := hP
          have hD : va_D _ [(h0, .inr (1, [.ref h1, .ref h2, .ref h3, .int dn, .int (z1_start_34 x0), .int x0, .int wr, .int cm])), (h1, .inl (c1, 96, .inl mem)), (h2, .inl (c2, 200, .inl dsk)), (h3, .inl (c3, 12, .inl sto))] := hD
          refine lv_aload_n hx hb dX1_start_42 rfl (lv_at hl 0 rfl) ?_
          refine va_get (D := (dC, dI)) (ci := 1) (v := .ref h2) (C := RX1) (T := TX1) (N := 8) hx hb hts hin hown hK hP 0 rfl rfl 1 (by decide) (hts (.fieldLink RX1 13 "CapStoreModel" "disk" "[I") (by decide +kernel)) (fun _ h9 => h9) rfl dX1_start_43 ?_
          refine lv_sipush (v := 192) hx hb dX1_start_46 (by decide) ?_
          refine va_iald hx hb hK hP 2 1 rfl rfl (vp_in_nI (n := 192) (by decide) (by decide)) dX1_start_49 ?_
          refine lv_istore_n (lv' := [(2, .int (dsk (192 : Int32).toNatClampNeg)), (0, .ref h0), (1, .int x0)]) hx hb dX1_start_50 rfl hl (by decide) rfl (fun ls hl => ?_)
          refine w_cut 66 [] (z1_start_66 mem dsk sto dn wr cm x0) (fun z ez => ?_) (fun K => ?_)
          · subst ez
            refine lv_istore_n (lv' := [(3, .int (z1_start_66 mem dsk sto dn wr cm x0)), (2, .int (dsk (192 : Int32).toNatClampNeg)), (0, .ref h0), (1, .int x0)]) hx hb dX1_start_66 rfl hl (by decide) rfl (fun ls hl => ?_)
            refine lv_iconst (v := 0) hx hb dX1_start_67 (by decide) ?_
            refine lv_istore (lv' := [(4, .int 0), (3, .int (z1_start_66 mem dsk sto dn wr cm x0)), (2, .int (dsk (192 : Int32).toNatClampNeg)), (0, .ref h0), (1, .int x0)]) hx hb dX1_start_68 hl (by decide) rfl (fun ls hl => ?_)
            obtain ⟨nn, hnn, enn⟩ : ∃ nn : Nat, nn ≤ 13 ∧ (z1_start_66 mem dsk sto dn wr cm x0) = nI nn := st_ok _ _ _ _ _ _ _
            have ec : (z1_start_66 mem dsk sto dn wr cm x0).toNatClampNeg = nn := by rw [enn]; exact nI_clamp (by omega)
            have e9 : F1_start mem dsk sto dn en pw wr cm x0 = F1_st (dsk (192 : Int32).toNatClampNeg) (z1_start_66 mem dsk sto dn wr cm x0) (nn) 0 (mem, dsk, sto, dn, (z1_start_34 x0), x0, wr, cm) := by unfold F1_start; rw [if_neg c_4, if_neg c_11, if_pos c_17]; rw [ec]
            rw [e9]
            exact loop (dsk (192 : Int32).toNatClampNeg) (z1_start_66 mem dsk sto dn wr cm x0) nn hnn enn (nn) (Nat.le_refl _) 0 (by rw [Nat.sub_self]; rfl) mem dsk sto dn (z1_start_34 x0) x0 wr cm _ _ ls hP hD hS (lv_sub hl [0, 1, 2, 4, 3] rfl)
          · skip
            refine lv_iload_n hx hb dX1_start_51 rfl (lv_at hl 0 rfl) ?_
            refine lv_if_ne (tgt := 59) hx hb dX1_start_52 (by decide) (fun c_52 => ?_) (fun c_52 => ?_)
            · skip
              refine lv_aload_n hx hb dX1_start_59 rfl (lv_at hl 1 rfl) ?_
              refine lv_iload_n hx hb dX1_start_60 rfl (lv_at hl 0 rfl) ?_
              refine callRi (q := (RX1, TX1, 8)) (ci := 1) (q0 := 0) (As := [.int (dsk (192 : Int32).toNatClampNeg)]) (rest := []) (m1_inSet l dC dI h0 h1 h2 h3 c1 c2 c3 mem dsk sto dn (z1_start_34 x0) x0 wr cm (dsk (192 : Int32).toNatClampNeg) ) ⟨hx, hb, hml, hown, hts⟩ (cwV 1 hts gX1_start_X1_inSet rfl rfl rfl (by decide +kernel) ⟨Nat.le_of_ble_eq_true rfl, Nat.le_of_ble_eq_true rfl⟩) hK hP rfl rfl rfl hl.1 rfl (Nat.le_of_ble_eq_true rfl) dX1_start_61 ⟨Nat.zero_le _, Nat.zero_le _⟩ ?_
              refine lv_iconst (v := 1) hx hb dX1_start_64 (by decide) ?_
              refine lv_iadd hx hb dX1_start_65 ?_
              exact K ((f1_inSet mem dsk sto dn (z1_start_34 x0) x0 wr cm (dsk (192 : Int32).toNatClampNeg)) + 1) (by unfold z1_start_66; rw [if_neg c_52])
            · skip
              refine lv_iconst (v := 0) hx hb dX1_start_55 (by decide) ?_
              refine lv_goto (tgt := 66) hx hb dX1_start_56 (by decide) ?_
              exact K 0 (by unfold z1_start_66; rw [if_pos c_52])
        · skip
          refine lv_aload_n hx hb dX1_start_23 rfl (lv_at hl 0 rfl) ?_
          refine lv_iload_n hx hb dX1_start_24 rfl (lv_at hl 1 rfl) ?_
          refine lv_iconst (v := (-1)) hx hb dX1_start_25 (by decide) ?_
          refine lv_icmp_ne (tgt := 33) hx hb dX1_start_26 (by decide) (fun c_26 => ?_) (fun c_26 => ?_)
          · skip
            refine lv_iconst (v := 0) hx hb dX1_start_33 (by decide) ?_
            exact K 0 (by unfold z1_start_34; rw [if_neg c_26])
          · skip
            refine lv_iconst (v := 1) hx hb dX1_start_29 (by decide) ?_
            refine lv_goto (tgt := 34) hx hb dX1_start_30 (by decide) ?_
            exact K 1 (by unfold z1_start_34; rw [if_pos c_26])
      · skip
        refine lv_bipush (v := (-2)) hx hb dX1_start_20 (by decide) ?_
        have e9 : F1_start mem dsk sto dn en pw wr cm x0 = ((-2), mem, dsk, sto, dn, en, pw, wr, cm) := by unfold F1_start; rw [if_neg c_4, if_neg c_11, if_neg c_17]
        rw [e9]
        exact retWi hx hb hr hlocks rfl rfl rfl hK hP hD hS dX1_start_22
  · skip
    refine lv_iconst (v := (-1)) hx hb dX1_start_7 (by decide) ?_
    have e9 : F1_start mem dsk sto dn en pw wr cm x0 = ((-1), mem, dsk, sto, dn, en, pw, wr, cm) := by unfold F1_start; rw [if_pos c_4]
    rw [e9]
    exact retWi hx hb hr hlocks rfl rfl rfl hK hP hD hS dX1_start_8
end
section
/-! numbers of both states -/
theorem nar0 : vp_nar .boolean 0 = 0 := rfl
theorem nar1 : vp_nar .boolean 1 = 1 := rfl
theorem sh_c : ∀ o, o < 12 → ((nI o &&& 31).toBitVec.smod 32).toNat = o := by decide
theorem sh_1 : ∀ o, o < 12 → (1 : Int32) <<< (nI o &&& 31) = nI (2 ^ o) := by decide
theorem bitv {m o : Nat} (hm : m < 2 ^ 31) (ho : o < 12) : ((nI m >>> (nI o &&& 31)) &&& 1) = nI (m / 2 ^ o % 2) := by
  rw [pk_shrN hm _ o (sh_c o ho)]
  have h : m / 2 ^ o < 2 ^ 32 := Nat.lt_of_le_of_lt (Nat.div_le_self _ _) (by omega)
  exact pk_andN h 1 (by decide)
theorem bit_has {m o : Nat} (hm : m < 2 ^ 31) (ho : o < 12) : f0_has (nI m) (nI o) = 0 ↔ ¬ m / 2 ^ o % 2 = 1 := by
  unfold f0_has
  rw [bitv hm ho]
  have h2 : m / 2 ^ o % 2 < 2 := Nat.mod_lt _ (by decide)
  generalize m / 2 ^ o % 2 = b at h2
  rcases (show b = 0 ∨ b = 1 by omega) with rfl | rfl <;> decide
theorem or_tab0 : ∀ a, a < 64 → ∀ b, b < 64 → ∀ o, o < 12 → (64 * a + b) ||| 2 ^ o = if (64 * a + b) / 2 ^ o % 2 = 1 then (64 * a + b) else (64 * a + b) + 2 ^ o := by decide +kernel
theorem or_tab (m : Nat) (hm : m < 4096) (o : Nat) (ho : o < 12) : m ||| 2 ^ o = if m / 2 ^ o % 2 = 1 then m else m + 2 ^ o := by
  have h := or_tab0 (m / 64) (by omega) (m % 64) (by omega) o ho
  rw [Nat.div_add_mod] at h
  exact h
/-- the set of the objects stored to -/
def bq (sto : Nat → Int32) (o : Nat) : Nat := if sto o = 0 then 0 else 1
def sb (sto : Nat → Int32) : Nat := bq sto 0 + 2 * bq sto 1 + 4 * bq sto 2 + 8 * bq sto 3 + 16 * bq sto 4 + 32 * bq sto 5 + 64 * bq sto 6 + 128 * bq sto 7 + 256 * bq sto 8 + 512 * bq sto 9 + 1024 * bq sto 10 + 2048 * bq sto 11
theorem bq_le (sto : Nat → Int32) (o : Nat) : bq sto o ≤ 1 := by
  unfold bq; by_cases c : sto o = 0
  · rw [if_pos c]; omega
  · rw [if_neg c]; omega
theorem dt_step (sto : Nat → Int32) (n a : Nat) (hn : n < 12) : f1_dt sto (n + 1) (nI a) = f1_dt sto n (nI (a + 2 ^ (11 - n) * bq sto (11 - n))) := by
  rw [f1_dt, nI_clamp (by omega), sh_1 _ (by omega), nI_add]
  unfold bq
  by_cases c : sto (11 - n) = 0
  · rw [if_pos c, if_pos c]; rfl
  · rw [if_neg c, if_neg c, Nat.mul_one]
theorem dt_all (sto : Nat → Int32) : f1_dt sto 12 0 = nI (sb sto) := by
  rw [show (0 : Int32) = nI 0 from rfl, dt_step _ _ _ (by decide), dt_step _ _ _ (by decide), dt_step _ _ _ (by decide), dt_step _ _ _ (by decide), dt_step _ _ _ (by decide), dt_step _ _ _ (by decide), dt_step _ _ _ (by decide), dt_step _ _ _ (by decide), dt_step _ _ _ (by decide), dt_step _ _ _ (by decide), dt_step _ _ _ (by decide), dt_step _ _ _ (by decide), f1_dt]
  congr 1
  unfold sb
  simp only [Nat.sub_self, Nat.reduceSub, Nat.reducePow, Nat.zero_add, Nat.one_mul]
theorem sb_lt (sto : Nat → Int32) : sb sto < 4096 := by
  unfold sb
  have := bq_le sto 0; have := bq_le sto 1; have := bq_le sto 2; have := bq_le sto 3; have := bq_le sto 4; have := bq_le sto 5; have := bq_le sto 6; have := bq_le sto 7; have := bq_le sto 8; have := bq_le sto 9; have := bq_le sto 10; have := bq_le sto 11
  omega
theorem sb_bit (sto : Nat → Int32) : ∀ o, o < 12 → sb sto / 2 ^ o % 2 = bq sto o := by
  unfold sb
  have := bq_le sto 0; have := bq_le sto 1; have := bq_le sto 2; have := bq_le sto 3; have := bq_le sto 4; have := bq_le sto 5; have := bq_le sto 6; have := bq_le sto 7; have := bq_le sto 8; have := bq_le sto 9; have := bq_le sto 10; have := bq_le sto 11
  intro o ho
  rcases (show o = 0 ∨ o = 1 ∨ o = 2 ∨ o = 3 ∨ o = 4 ∨ o = 5 ∨ o = 6 ∨ o = 7 ∨ o = 8 ∨ o = 9 ∨ o = 10 ∨ o = 11 by omega) with rfl | rfl | rfl | rfl | rfl | rfl | rfl | rfl | rfl | rfl | rfl | rfl <;> simp only [Nat.reducePow] <;> omega
theorem bq_upd (sto : Nat → Int32) (o j : Nat) : bq (upd sto o 1) j = if j = o then 1 else bq sto j := by
  unfold bq
  by_cases c : j = o
  · subst c; rw [pk_us, if_pos rfl, if_neg (by decide)]
  · rw [pk_un c, if_neg c]
theorem sb_put (sto : Nat → Int32) (o : Nat) (ho : o < 12) : nI (sb sto) ||| nI (2 ^ o) = nI (sb (upd sto o 1)) := by
  have e : ∀ a b : Nat, nI a ||| nI b = nI (a ||| b) := fun a b => by
    apply Int32.toBitVec_inj.mp
    show BitVec.ofNat 32 a ||| BitVec.ofNat 32 b = BitVec.ofNat 32 (a ||| b)
    exact (BitVec.ofNat_or ..).symm
  rw [e, or_tab _ (sb_lt sto) o ho, sb_bit sto o ho]
  congr 1
  have := bq_le sto o
  have q : ∀ j, bq (upd sto o 1) j = if j = o then 1 else bq sto j := bq_upd sto o
  rcases (show o = 0 ∨ o = 1 ∨ o = 2 ∨ o = 3 ∨ o = 4 ∨ o = 5 ∨ o = 6 ∨ o = 7 ∨ o = 8 ∨ o = 9 ∨ o = 10 ∨ o = 11 by omega) with rfl | rfl | rfl | rfl | rfl | rfl | rfl | rfl | rfl | rfl | rfl | rfl <;> (unfold sb; rw [q 0, q 1, q 2, q 3, q 4, q 5, q 6, q 7, q 8, q 9, q 10, q 11]; simp only [Nat.reducePow, Nat.reduceEqDiff, if_true, if_false]; split <;> omega)
/-! copies -/
theorem cpm_at (mem : Nat → Int32) (t o : Nat) (ht : t < 25) (ho : o < 12) : ∀ (n : Nat), n ≤ 8 → ∀ (d : Nat → Int32) (j : Nat), cpm mem (nI t) (nI o) n d j = if t * 8 + (8 - n) ≤ j ∧ j < t * 8 + 8 then mem (o * 8 + (j - t * 8)) else d j := by
  intro n
  induction n with
  | zero => intro hn d j; rw [cpm, if_neg (by omega)]
  | succ n ih =>
    intro hn d j
    rw [cpm, ix1_at (by omega), ix1_at (by omega), ih (by omega)]
    by_cases c : t * 8 + (8 - n) ≤ j ∧ j < t * 8 + 8
    · rw [if_pos c, if_pos (by omega)]
    · rw [if_neg c]
      by_cases c2 : j = t * 8 + (7 - n)
      · subst c2
        rw [pk_us, if_pos (by omega)]; congr 1; omega
      · rw [pk_un c2, if_neg (by omega)]
theorem cpm_eq (mem d : Nat → Int32) (t o : Nat) (ht : t < 25) (ho : o < 12) : cpm mem (nI t) (nI o) 8 d = va_cpy mem d (o * 8) (t * 8) 8 := by
  funext j
  rw [cpm_at mem t o ht ho 8 (Nat.le_refl _)]
  by_cases c : t * 8 ≤ j ∧ j < t * 8 + 8
  · rw [if_pos (by omega), pk_cpy_in c.1 c.2]
  · rw [if_neg (by omega), pk_cpy_out (by omega)]
theorem cpd_at (o : Nat) (ho : o < 12) : ∀ (n : Nat), n ≤ 8 → ∀ (d : Nat → Int32) (j : Nat), cpd (nI o) n d j = if o * 8 + (8 - n) ≤ j ∧ j < o * 8 + 8 then d (96 + j) else d j := by
  intro n
  induction n with
  | zero => intro hn d j; rw [cpd, if_neg (by omega)]
  | succ n ih =>
    intro hn d j
    have e : (96 + 8 * nI o + nI (7 - n)).toNatClampNeg = 96 + (o * 8 + (7 - n)) := by
      rw [show (96 : Int32) = nI 96 from rfl, show (8 : Int32) = nI 8 from rfl, pk_mul, nI_add, nI_add, nI_clamp (by omega)]; omega
    rw [cpd, ix1_at (by omega), e, ih (by omega)]
    by_cases c : o * 8 + (8 - n) ≤ j ∧ j < o * 8 + 8
    · rw [if_pos c, if_pos (by omega), pk_un (by omega)]
    · rw [if_neg c]
      by_cases c2 : j = o * 8 + (7 - n)
      · subst c2
        rw [pk_us, if_pos (by omega)]
      · rw [pk_un c2, if_neg (by omega)]
theorem cpd_eq (d : Nat → Int32) (o : Nat) (ho : o < 12) : cpd (nI o) 8 d = va_cpy d d ((12 + o) * 8) (o * 8) 8 := by
  funext j
  rw [cpd_at o ho 8 (Nat.le_refl _)]
  by_cases c : o * 8 ≤ j ∧ j < o * 8 + 8
  · rw [if_pos (by omega), pk_cpy_in c.1 c.2]; congr 1; omega
  · rw [if_neg (by omega), pk_cpy_out (by omega)]
theorem ldm_at (dsk : Nat → Int32) : ∀ (n : Nat), n ≤ 96 → ∀ (f : Nat → Int32) (j : Nat), ldm dsk n f j = if 96 - n ≤ j ∧ j < 96 then dsk j else f j := by
  intro n
  induction n with
  | zero => intro hn f j; rw [ldm, if_neg (by omega)]
  | succ n ih =>
    intro hn f j
    rw [ldm, nI_clamp (by omega), ih (by omega)]
    by_cases c : 96 - n ≤ j ∧ j < 96
    · rw [if_pos c, if_pos (by omega)]
    · rw [if_neg c]
      by_cases c2 : j = 95 - n
      · subst c2; rw [pk_us, if_pos (by omega)]
      · rw [pk_un c2, if_neg (by omega)]
theorem ldm_eq (dsk f : Nat → Int32) : ldm dsk 96 f = va_cpy dsk f 0 0 96 := by
  funext j
  rw [ldm_at dsk 96 (Nat.le_refl _)]
  by_cases c : j < 96
  · rw [if_pos (by omega), pk_cpy_in (by omega) (by omega)]; congr 1; omega
  · rw [if_neg (by omega), pk_cpy_out (by omega)]
theorem rst_at : ∀ (n : Nat), n ≤ 12 → ∀ (f : Nat → Int32) (j : Nat), rst n f j = if 12 - n ≤ j ∧ j < 12 then 0 else f j := by
  intro n
  induction n with
  | zero => intro hn f j; rw [rst, if_neg (by omega)]
  | succ n ih =>
    intro hn f j
    rw [rst, nI_clamp (by omega), ih (by omega), nar0]
    by_cases c : 12 - n ≤ j ∧ j < 12
    · rw [if_pos c, if_pos (by omega)]
    · rw [if_neg c]
      by_cases c2 : j = 11 - n
      · subst c2; rw [pk_us, if_pos (by omega)]
      · rw [pk_un c2, if_neg (by omega)]
theorem sb_rst (sto : Nat → Int32) : sb (rst 12 sto) = 0 := by
  have q : ∀ j, j < 12 → bq (rst 12 sto) j = 0 := fun j hj => by
    have e := rst_at 12 (Nat.le_refl _) sto j
    rw [if_pos (by omega)] at e
    unfold bq; rw [e]; rfl
  unfold sb
  rw [q 0 (by decide), q 1 (by decide), q 2 (by decide), q 3 (by decide), q 4 (by decide), q 5 (by decide), q 6 (by decide), q 7 (by decide), q 8 (by decide), q 9 (by decide), q 10 (by decide), q 11 (by decide)]
theorem sb_0 : sb (fun _ => 0) = 0 := by decide
theorem hdr_eq (hdr blk : Nat → Int32) (x : Int32) (h1 : ∀ j, 1 ≤ j → j < 8 → hdr j = 0) (h2 : ∀ j, 193 ≤ j → j < 200 → blk j = 0) : va_cpy (upd hdr 0 x) blk 0 192 8 = upd blk 192 x := by
  funext j
  by_cases c : 192 ≤ j ∧ j < 192 + 8
  · rw [pk_cpy_in c.1 c.2]
    by_cases c2 : j = 192
    · subst c2; rw [pk_us]; exact pk_us.symm
    · rw [pk_un (by omega), pk_un c2, h1 _ (by omega) (by omega), h2 j (by omega) (by omega)]
  · rw [pk_cpy_out (by omega), pk_un (by omega)]
end
section
/-! the two states side by side -/
def Inv (mem blk hdr : Nat → Int32) : Prop := (∀ j, 1 ≤ j → j < 8 → hdr j = 0) ∧ (∀ j, 193 ≤ j → j < 200 → blk j = 0) ∧ KI mem ∧ KI blk ∧ KI (fun j => blk (96 + j)) ∧ ∃ m : Nat, m < 4096 ∧ blk 192 = nI m
def PwR (pw en pw' : Int32) : Prop := (en = 1 ∧ pw = -1) ∨ (en = 0 ∧ ∃ n : Nat, n ≤ 63 ∧ pw = nI n ∧ pw' = nI n)
def UpR (rn dn : Int32) : Prop := (rn = 1 ∧ dn = 0) ∨ (rn = 0 ∧ dn = 1)
def Rel (u v : S0) : Prop := ∃ (mem blk hdr sto : Nat → Int32) (pw en pw' rn dn wr cm : Int32), u = (mem, blk, hdr, nI (sb sto), pw, rn, wr, cm) ∧ v = (mem, blk, sto, dn, en, pw', wr, cm) ∧ Inv mem blk hdr ∧ PwR pw en pw' ∧ UpR rn dn
def Sim (a b : Int32 × S0) : Prop := a.1 = b.1 ∧ Rel a.2 b.2
theorem Sim.of {a b : Int32 × S0} {r : Int32} {u v : S0} (e0 : a = (r, u)) (e1 : b = (r, v)) (h : Rel u v) : Sim a b := by
  rw [e0, e1]; exact ⟨rfl, h⟩
theorem e_row (x : Int32) : f0_isInRow x = f1_eight x := by
  unfold f0_isInRow f1_eight
  have h : (8 ≤ x) ↔ (7 < x) := by
    rw [Int32.le_iff_toInt_le, Int32.lt_iff_toInt_lt, show (8 : Int32).toInt = 8 from by decide, show (7 : Int32).toInt = 7 from by decide]; omega
  simp only [h]
theorem e_node (x : Int32) : f0_isNode x = f1_eight x := e_row x
theorem e_reg (x y : Int32) : f0_isRegister x y = if f1_third x = 0 then 0 else if f1_eight y = 0 then 0 else 1 := by
  unfold f0_isRegister f1_third
  have h : (3 ≤ x) ↔ (2 < x) := by
    rw [Int32.le_iff_toInt_le, Int32.lt_iff_toInt_lt, show (3 : Int32).toInt = 3 from by decide, show (2 : Int32).toInt = 2 from by decide]; omega
  rw [e_row]
  simp only [h]
  by_cases c1 : x < 0
  · rw [if_pos c1, if_pos c1]; rfl
  · rw [if_neg c1, if_neg c1]
    by_cases c2 : 2 < x
    · rw [if_pos c2, if_pos c2]; rfl
    · rw [if_neg c2, if_neg c2]; rfl
theorem e_reg0 {x y : Int32} : f0_isRegister x y = 0 ↔ (f1_third x = 0 ∨ f1_eight y = 0) := by
  rw [e_reg]
  by_cases c1 : f1_third x = 0
  · rw [if_pos c1]; exact ⟨fun _ => Or.inl c1, fun _ => rfl⟩
  · rw [if_neg c1]
    by_cases c2 : f1_eight y = 0
    · rw [if_pos c2]; exact ⟨fun _ => Or.inr c2, fun _ => rfl⟩
    · rw [if_neg c2]; exact ⟨fun h => absurd h (by decide), fun h => by rcases h with h | h; exact absurd h c1; exact absurd h c2⟩
section SIM
variable {mem blk hdr sto : Nat → Int32} {pw en pw' rn dn wr cm : Int32}
theorem rel_mk (hI : Inv mem blk hdr) (hp : PwR pw en pw') (hu : UpR rn dn) : Rel (mem, blk, hdr, nI (sb sto), pw, rn, wr, cm) (mem, blk, sto, dn, en, pw', wr, cm) := ⟨mem, blk, hdr, sto, pw, en, pw', rn, dn, wr, cm, rfl, rfl, hI, hp, hu⟩
theorem ki_upd {j n : Nat} (h : KI mem) (hn : n ≤ 48) : KI (upd mem j (nI n)) := by
  intro k hk
  by_cases c : k = j
  · subst c; exact ⟨n, hn, pk_us⟩
  · rw [pk_un c]; exact h k hk
theorem ki_far {j : Nat} {v : Int32} (h : KI mem) (hj : 64 ≤ j) : KI (upd mem j v) := by
  intro k hk
  rw [pk_un (by omega)]; exact h k hk
theorem rel_put {i j : Nat} {v : Int32} (hi : i < 12) (hj : j < 8) (hv : i < 8 → ∃ n : Nat, n ≤ 48 ∧ v = nI n) (hI : Inv mem blk hdr) (hp : PwR pw en pw') (hu : UpR rn dn) :
    Rel (upd mem (nI i * 8 + nI j).toNatClampNeg v, blk, hdr, nI (sb sto) ||| ((1 : Int32) <<< (nI i &&& 31)), pw, rn, wr, cm) (upd mem (8 * nI i + nI j).toNatClampNeg v, blk, upd sto (nI i).toNatClampNeg (vp_nar .boolean 1), dn, en, pw', wr, cm) := by
  rw [ix_at (by omega), ix1_at (by omega), nI_clamp (by omega), nar1, sh_1 i hi, sb_put sto i hi]
  obtain ⟨h1, h2, h3, h4⟩ := hI
  refine rel_mk ⟨h1, h2, ?_, h4⟩ hp hu
  by_cases c : i < 8
  · obtain ⟨n, hn, rfl⟩ := hv c
    exact ki_upd h3 hn
  · exact ki_far h3 (by omega)
theorem ref_dn (ds : Int32) (z : Int32) : f0_refusal mem blk hdr ds pw 0 wr cm z = -1 := rfl
theorem ref_0 (ds : Int32) : f0_refusal mem blk hdr ds pw 1 wr cm 0 = -2 := rfl
theorem ref_1 (ds : Int32) : f0_refusal mem blk hdr ds pw 1 wr cm 1 = 0 := rfl
/-- place -/
theorem z_place {x0 x1 x2 : Int32} (c : ¬ f1_eight x0 = 0 ∧ ¬ f1_eight x1 = 0 ∧ ¬ x2 < 0 ∧ x2 ≤ 48) : z0_place_27 x0 x1 x2 = 1 := by
  unfold z0_place_27 f0_isKey
  rw [e_node, e_row, if_neg c.1, if_neg c.2.1, if_neg c.2.2.1, if_neg (Int32.not_lt.mpr c.2.2.2)]; rfl
theorem z_place0 {x0 x1 x2 : Int32} (c : ¬ (¬ f1_eight x0 = 0 ∧ ¬ f1_eight x1 = 0 ∧ ¬ x2 < 0 ∧ x2 ≤ 48)) : z0_place_27 x0 x1 x2 = 0 := by
  unfold z0_place_27 f0_isKey
  rw [e_node, e_row]
  by_cases c1 : f1_eight x0 = 0
  · rw [if_pos c1]
  by_cases c2 : f1_eight x1 = 0
  · rw [if_neg c1, if_pos c2]
  by_cases c3 : x2 < 0
  · rw [if_neg c1, if_neg c2, if_pos c3]; rfl
  by_cases c4 : 48 < x2
  · rw [if_neg c1, if_neg c2, if_neg c3, if_pos c4]; rfl
  exact absurd ⟨c1, c2, c3, Int32.not_lt.mp c4⟩ c
theorem sim_place (hI : Inv mem blk hdr) (hp : PwR pw en pw') (hu : UpR rn dn) (x0 x1 x2 : Int32) : Sim (F0_place mem blk hdr (nI (sb sto)) pw rn wr cm x0 x1 x2) (F1_place mem blk sto dn en pw' wr cm x0 x1 x2) := by
  rcases hu with ⟨rfl, rfl⟩ | ⟨rfl, rfl⟩
  · by_cases c : ¬ f1_eight x0 = 0 ∧ ¬ f1_eight x1 = 0 ∧ ¬ x2 < 0 ∧ x2 ≤ 48
    · refine Sim.of (by unfold F0_place; rw [z_place c, ref_1, if_pos rfl]) (by unfold F1_place; rw [if_pos rfl, if_neg c.1, if_neg c.2.1, if_neg c.2.2.1, if_pos c.2.2.2]) ?_
      obtain ⟨i, hi, rfl⟩ := r1_eight c.1
      obtain ⟨j, hj, rfl⟩ := r1_eight c.2.1
      obtain ⟨n, hn, rfl⟩ := rg_le 48 rfl (by decide) c.2.2.1 (Int32.not_lt.mpr c.2.2.2)
      exact rel_put (by omega) hj (fun _ => ⟨n, by omega, rfl⟩) hI hp (Or.inl ⟨rfl, rfl⟩)
    · refine Sim.of (r := -2) (by unfold F0_place; rw [z_place0 c, ref_0]; rfl) (v := (mem, blk, sto, 0, en, pw', wr, cm)) ?_ (rel_mk hI hp (Or.inl ⟨rfl, rfl⟩))
      unfold F1_place
      rw [if_pos rfl]
      by_cases c1 : f1_eight x0 = 0
      · rw [if_pos c1]
      by_cases c2 : f1_eight x1 = 0
      · rw [if_neg c1, if_pos c2]
      by_cases c3 : x2 < 0
      · rw [if_neg c1, if_neg c2, if_pos c3]
      by_cases c4 : x2 ≤ 48
      · exact absurd ⟨c1, c2, c3, c4⟩ c
      rw [if_neg c1, if_neg c2, if_neg c3, if_neg c4]
  · exact Sim.of (r := -1) rfl rfl (rel_mk hI hp (Or.inr ⟨rfl, rfl⟩))
/-- clear -/
theorem sim_clear (hI : Inv mem blk hdr) (hp : PwR pw en pw') (hu : UpR rn dn) (x0 x1 : Int32) : Sim (F0_clear mem blk hdr (nI (sb sto)) pw rn wr cm x0 x1) (F1_clear mem blk sto dn en pw' wr cm x0 x1) := by
  rcases hu with ⟨rfl, rfl⟩ | ⟨rfl, rfl⟩
  · by_cases c1 : f1_third x0 = 0
    · exact Sim.of (r := -2) (by unfold F0_clear; rw [e_reg, if_pos c1, ref_0]; rfl) (by unfold F1_clear; rw [if_pos rfl, if_pos c1]) (rel_mk hI hp (Or.inl ⟨rfl, rfl⟩))
    by_cases c2 : f1_eight x1 = 0
    · exact Sim.of (r := -2) (by unfold F0_clear; rw [e_reg, if_neg c1, if_pos c2, ref_0]; rfl) (by unfold F1_clear; rw [if_pos rfl, if_neg c1, if_pos c2]) (rel_mk hI hp (Or.inl ⟨rfl, rfl⟩))
    refine Sim.of (by unfold F0_clear; rw [e_reg, if_neg c1, if_neg c2, ref_1, if_pos rfl]) (by unfold F1_clear; rw [if_pos rfl, if_neg c1, if_neg c2]) ?_
    obtain ⟨i, hi, rfl⟩ := r1_third c1
    obtain ⟨j, hj, rfl⟩ := r1_eight c2
    exact rel_put (by omega) hj (fun _ => ⟨0, by omega, rfl⟩) hI hp (Or.inl ⟨rfl, rfl⟩)
  · exact Sim.of (r := -1) rfl rfl (rel_mk hI hp (Or.inr ⟨rfl, rfl⟩))
/-- power -/
theorem z_pow (x : Int32) : (f0_isPower x = 1 ∧ ¬ x < -1 ∧ x ≤ 63 ∧ (x = -1 ∨ ∃ n : Nat, n ≤ 63 ∧ ¬ x = -1 ∧ x = nI n)) ∨ (f0_isPower x = 0 ∧ (x < -1 ∨ ¬ x ≤ 63)) := by
  unfold f0_isPower
  by_cases c0 : x = -1
  · subst c0; exact Or.inl ⟨rfl, by decide, by decide, Or.inl rfl⟩
  rw [if_neg c0]
  by_cases c1 : x < 0
  · rw [if_pos c1]
    refine Or.inr ⟨rfl, Or.inl ?_⟩
    have h0 : ¬ x.toInt = (-1 : Int32).toInt := fun q => c0 (Int32.toInt_inj.mp q)
    rw [Int32.lt_iff_toInt_lt] at c1 ⊢
    rw [show (-1 : Int32).toInt = -1 from by decide] at h0 ⊢
    rw [show (0 : Int32).toInt = 0 from by decide] at c1
    omega
  rw [if_neg c1]
  by_cases c2 : 63 < x
  · rw [if_pos c2]; exact Or.inr ⟨rfl, Or.inr (Int32.not_le.mpr c2)⟩
  rw [if_neg c2]
  obtain ⟨n, hn, rfl⟩ := rg_le 63 rfl (by decide) c1 c2
  refine Or.inl ⟨rfl, ?_, Int32.not_lt.mp c2, Or.inr ⟨n, by omega, c0, rfl⟩⟩
  intro q
  apply c1
  rw [Int32.lt_iff_toInt_lt] at q ⊢
  rw [show (-1 : Int32).toInt = -1 from by decide] at q
  rw [show (0 : Int32).toInt = 0 from by decide]
  omega
theorem sim_power (hI : Inv mem blk hdr) (hp : PwR pw en pw') (hu : UpR rn dn) (x0 : Int32) : Sim (F0_power mem blk hdr (nI (sb sto)) pw rn wr cm x0) (F1_power mem blk sto dn en pw' wr cm x0) := by
  rcases hu with ⟨rfl, rfl⟩ | ⟨rfl, rfl⟩
  · rcases z_pow x0 with ⟨e, c1, c2, c3⟩ | ⟨e, c⟩
    · rcases c3 with rfl | ⟨n, hn, c4, rfl⟩
      · exact Sim.of (r := 0) (by unfold F0_power; rw [e, ref_1, if_pos rfl]) (by unfold F1_power; rw [if_pos rfl, if_neg c1, if_pos c2, if_pos rfl]) (rel_mk hI (Or.inl ⟨rfl, rfl⟩) (Or.inl ⟨rfl, rfl⟩))
      · exact Sim.of (r := 0) (by unfold F0_power; rw [e, ref_1, if_pos rfl]) (by unfold F1_power; rw [if_pos rfl, if_neg c1, if_pos c2, if_neg c4]) (rel_mk hI (Or.inr ⟨rfl, n, hn, rfl, rfl⟩) (Or.inl ⟨rfl, rfl⟩))
    · refine Sim.of (r := -2) (by unfold F0_power; rw [e, ref_0]; rfl) (v := (mem, blk, sto, 0, en, pw', wr, cm)) ?_ (rel_mk hI hp (Or.inl ⟨rfl, rfl⟩))
      unfold F1_power
      rw [if_pos rfl]
      by_cases c1 : x0 < -1
      · rw [if_pos c1]
      · rcases c with c | c
        · exact absurd c c1
        · rw [if_neg c1, if_neg c]
  · exact Sim.of (r := -1) rfl rfl (rel_mk hI hp (Or.inr ⟨rfl, rfl⟩))
/-- crash, isUp, writes, commits, dirty -/
theorem sim_crash (hI : Inv mem blk hdr) (hp : PwR pw en pw') (hu : UpR rn dn) : Sim (F0_crash mem blk hdr (nI (sb sto)) pw rn wr cm) (F1_crash mem blk sto dn en pw' wr cm) := by
  rcases hu with ⟨rfl, rfl⟩ | ⟨rfl, rfl⟩
  · exact Sim.of (r := 1) rfl rfl (rel_mk hI hp (Or.inr ⟨rfl, rfl⟩))
  · exact Sim.of (r := 0) rfl rfl (rel_mk hI hp (Or.inr ⟨rfl, rfl⟩))
theorem sim_isUp (hu : UpR rn dn) : f0_isUp mem blk hdr (nI (sb sto)) pw rn wr cm = f1_isUp mem blk sto dn en pw' wr cm := by
  rcases hu with ⟨rfl, rfl⟩ | ⟨rfl, rfl⟩ <;> rfl
theorem sim_dirty (hu : UpR rn dn) : f0_dirty mem blk hdr (nI (sb sto)) pw rn wr cm = f1_dirty mem blk sto dn en pw' wr cm := by
  rcases hu with ⟨rfl, rfl⟩ | ⟨rfl, rfl⟩
  · unfold f0_dirty f1_dirty; rw [if_neg (by decide), if_pos rfl, dt_all]
  · rfl
theorem sim_key (hu : UpR rn dn) (x0 x1 : Int32) : f0_key mem blk hdr (nI (sb sto)) pw rn wr cm x0 x1 = f1_key mem blk sto dn en pw' wr cm x0 x1 := by
  rcases hu with ⟨rfl, rfl⟩ | ⟨rfl, rfl⟩
  · unfold f0_key f1_key z0_key_20
    rw [e_node, e_row, if_pos (rfl : (0 : Int32) = 0)]
    by_cases c1 : f1_eight x0 = 0
    · rw [if_pos c1, if_pos c1, ref_0]; rfl
    by_cases c2 : f1_eight x1 = 0
    · rw [if_neg c1, if_pos c2, if_neg c1, if_pos c2, ref_0]; rfl
    rw [if_neg c1, if_neg c2, if_neg c1, if_neg c2, ref_1, if_pos rfl]
    obtain ⟨i, hi, rfl⟩ := r1_eight c1
    obtain ⟨j, hj, rfl⟩ := r1_eight c2
    unfold f0_get
    rw [ix_at (by omega), ix1_at (by omega)]
  · rfl
theorem sim_disk (x0 x1 : Int32) : f0_disk mem blk hdr (nI (sb sto)) pw rn wr cm x0 x1 = f1_disk mem blk sto dn en pw' wr cm x0 x1 := by
  unfold f0_disk f1_disk f0_isBlock
  have h : (25 ≤ x0) ↔ (24 < x0) := by
    rw [Int32.le_iff_toInt_le, Int32.lt_iff_toInt_lt, show (25 : Int32).toInt = 25 from by decide, show (24 : Int32).toInt = 24 from by decide]; omega
  rw [e_row]
  simp only [h]
  by_cases c1 : x0 < 0
  · rw [if_pos c1, if_pos c1]; rfl
  rw [if_neg c1, if_neg c1]
  by_cases c2 : 24 < x0
  · rw [if_pos c2, if_pos c2]; rfl
  rw [if_neg c2, if_neg c2, if_neg (by decide : ¬ (1 : Int32) = 0)]
  by_cases c3 : f1_eight x1 = 0
  · rw [if_pos c3, if_pos c3]
  rw [if_neg c3, if_neg c3]
  obtain ⟨i, hi, rfl⟩ := rg_le 24 rfl (by decide) c1 c2
  obtain ⟨j, hj, rfl⟩ := r1_eight c3
  rw [ix_at (by omega), ix1_at (by omega)]
theorem sim_word (hu : UpR rn dn) (x0 x1 : Int32) : f0_word mem blk hdr (nI (sb sto)) pw rn wr cm x0 x1 = f1_word mem blk sto dn en pw' wr cm x0 x1 := by
  rcases hu with ⟨rfl, rfl⟩ | ⟨rfl, rfl⟩
  · unfold f0_word f1_word z0_word_20 f0_isPage
    have h : (12 ≤ x0) ↔ (11 < x0) := by
      rw [Int32.le_iff_toInt_le, Int32.lt_iff_toInt_lt, show (12 : Int32).toInt = 12 from by decide, show (11 : Int32).toInt = 11 from by decide]; omega
    rw [e_row, if_pos (rfl : (0 : Int32) = 0)]
    simp only [h]
    by_cases c1 : x0 < 8
    · rw [if_pos c1, if_pos c1, if_pos rfl, ref_0]; rfl
    by_cases c2 : 11 < x0
    · rw [if_neg c1, if_pos c2, if_neg c1, if_pos c2, if_pos rfl, ref_0]; rfl
    rw [if_neg c1, if_neg c2, if_neg c1, if_neg c2, if_neg (by decide : ¬ (1 : Int32) = 0)]
    by_cases c3 : f1_eight x1 = 0
    · rw [if_pos c3, if_pos c3, ref_0]; rfl
    rw [if_neg c3, if_neg c3, ref_1, if_pos rfl]
    obtain ⟨i, hi, rfl⟩ := rg_le 11 rfl (by decide) (rg_nn (k := 8) rfl (by decide) c1) c2
    obtain ⟨j, hj, rfl⟩ := r1_eight c3
    unfold f0_get
    rw [ix_at (by omega), ix1_at (by omega)]
  · unfold f0_word f1_word; rw [ref_dn, if_neg (by decide), if_neg (by decide)]; decide
end SIM
end
section
/-! keys: 49 of them, so their tables are looked up -/
theorem kt_obj : ∀ n, n < 49 → (f0_isNodeKey (nI n) = 0 ∧ (f1_object (nI n) = 12 ∨ ¬ f1_object (nI n) ≤ 7)) ∨ (¬ f0_isNodeKey (nI n) = 0 ∧ ¬ f1_object (nI n) = 12 ∧ f1_object (nI n) ≤ 7 ∧ 0 < n ∧ n < 33) := by decide +kernel
theorem kt_pg : ∀ n, n < 49 → (f0_isPageKey (nI n) = 0 ∧ (f1_object (nI n) = 12 ∨ f1_object (nI n) ≤ 7)) ∨ (¬ f0_isPageKey (nI n) = 0 ∧ ¬ f1_object (nI n) = 12 ∧ ¬ f1_object (nI n) ≤ 7 ∧ 32 < n) := by decide +kernel
theorem kt_wr : ∀ n, n < 49 → 0 < n → (f0_isWriting (nI n) = 0 ↔ ¬ f1_limits (nI n) = 0) := by decide +kernel
theorem kt_weak : ∀ n, n < 49 → 0 < n → (f0_isWeak (nI n) = 0 ↔ f1_limits (nI n) < 2) := by decide +kernel
theorem kt_lim : ∀ n, n < 49 → ∀ l, l < 4 → f0_limited (nI n) (nI l) = f1_limited (nI n) (nI l) ∧ (f0_limited (nI n) (nI l)).toNatClampNeg ≤ 48 ∧ f0_limited (nI n) (nI l) = nI (f0_limited (nI n) (nI l)).toNatClampNeg := by decide +kernel
theorem kt_ob : ∀ n, n < 49 → 0 < n → f0_objectOf (nI n) = nI ((n - 1) / 4) ∧ f1_object (nI n) = nI ((n - 1) / 4) := by decide +kernel
section SIM2
variable {mem blk hdr sto : Nat → Int32} {ds pw en pw' rn dn wr cm : Int32} {x0 x1 x2 x3 x4 z : Int32}
theorem nr_bad (h : f1_third x0 = 0 ∨ f1_eight x1 = 0 ∨ z = 0) : f0_nodeRefusal mem blk hdr ds pw 1 wr cm x0 x1 z = -2 := by
  have e : z0_nodeRefusal_18 x0 x1 z = 0 := by
    unfold z0_nodeRefusal_18
    by_cases c : f0_isRegister x0 x1 = 0
    · rw [if_pos c]
    · rw [if_neg c]
      have : z = 0 := by
        rcases h with h | h | h
        · exact absurd (e_reg0.mpr (Or.inl h)) c
        · exact absurd (e_reg0.mpr (Or.inr h)) c
        · exact h
      rw [if_pos this]
  unfold f0_nodeRefusal
  rw [e, ref_0]; rfl
theorem nr_ok (c1 : ¬ f1_third x0 = 0) (c2 : ¬ f1_eight x1 = 0) (c3 : ¬ z = 0) : f0_nodeRefusal mem blk hdr ds pw 1 wr cm x0 x1 z = if f0_isNodeKey (f0_get mem blk hdr ds pw 1 wr cm x0 x1) = 0 then -3 else 0 := by
  have e : z0_nodeRefusal_18 x0 x1 z = 1 := by
    unfold z0_nodeRefusal_18
    rw [e_reg, if_neg c1, if_neg c2, if_neg (by decide), if_neg c3]
  unfold f0_nodeRefusal
  rw [e, ref_1, if_pos rfl]
theorem pr_bad (h : f1_third x0 = 0 ∨ f1_eight x1 = 0 ∨ z = 0) : f0_pageRefusal mem blk hdr ds pw 1 wr cm x0 x1 z = -2 := by
  have e : z0_pageRefusal_18 x0 x1 z = 0 := by
    unfold z0_pageRefusal_18
    by_cases c : f0_isRegister x0 x1 = 0
    · rw [if_pos c]
    · rw [if_neg c]
      have : z = 0 := by
        rcases h with h | h | h
        · exact absurd (e_reg0.mpr (Or.inl h)) c
        · exact absurd (e_reg0.mpr (Or.inr h)) c
        · exact h
      rw [if_pos this]
  unfold f0_pageRefusal
  rw [e, ref_0]; rfl
theorem pr_ok (c1 : ¬ f1_third x0 = 0) (c2 : ¬ f1_eight x1 = 0) (c3 : ¬ z = 0) : f0_pageRefusal mem blk hdr ds pw 1 wr cm x0 x1 z = if f0_isPageKey (f0_get mem blk hdr ds pw 1 wr cm x0 x1) = 0 then -3 else 0 := by
  have e : z0_pageRefusal_18 x0 x1 z = 1 := by
    unfold z0_pageRefusal_18
    rw [e_reg, if_neg c1, if_neg c2, if_neg (by decide), if_neg c3]
  unfold f0_pageRefusal
  rw [e, ref_1, if_pos rfl]
theorem rr_bad (h : f1_third x0 = 0 ∨ f1_eight x1 = 0 ∨ f1_eight x2 = 0) : f1_refusal mem blk sto 0 en pw' wr cm x0 x1 x2 x3 x4 = -2 := by
  unfold f1_refusal
  rw [if_pos rfl]
  by_cases c1 : f1_third x0 = 0
  · rw [if_pos c1]
  by_cases c2 : f1_eight x1 = 0
  · rw [if_neg c1, if_pos c2]
  by_cases c3 : f1_eight x2 = 0
  · rw [if_neg c1, if_neg c2, if_pos c3]
  rcases h with h | h | h
  · exact absurd h c1
  · exact absurd h c2
  · exact absurd h c3
theorem rr_n3 (c1 : ¬ f1_third x0 = 0) (c2 : ¬ f1_eight x1 = 0) (c3 : ¬ f1_eight x2 = 0) (c4 : f1_object (mem (8 * x0 + x1).toNatClampNeg) = 12 ∨ ¬ f1_object (mem (8 * x0 + x1).toNatClampNeg) ≤ 7) : f1_refusal mem blk sto 0 en pw' wr cm x0 x1 x2 0 x4 = -3 := by
  unfold f1_refusal
  rw [if_pos rfl, if_neg c1, if_neg c2, if_neg c3]
  by_cases c : f1_object (mem (8 * x0 + x1).toNatClampNeg) = 12
  · rw [if_pos c]
  · rcases c4 with c4 | c4
    · exact absurd c4 c
    · rw [if_neg c, if_neg c4, if_neg (by decide)]
theorem rr_n0 (c1 : ¬ f1_third x0 = 0) (c2 : ¬ f1_eight x1 = 0) (c3 : ¬ f1_eight x2 = 0) (c4 : ¬ f1_object (mem (8 * x0 + x1).toNatClampNeg) = 12) (c5 : f1_object (mem (8 * x0 + x1).toNatClampNeg) ≤ 7) : f1_refusal mem blk sto 0 en pw' wr cm x0 x1 x2 0 x4 = if x4 = 0 then 0 else if f1_limits (mem (8 * x0 + x1).toNatClampNeg) = 0 then 0 else -4 := by
  unfold f1_refusal
  rw [if_pos rfl, if_neg c1, if_neg c2, if_neg c3, if_neg c4, if_pos c5, if_pos rfl]
theorem rr_p3 (c1 : ¬ f1_third x0 = 0) (c2 : ¬ f1_eight x1 = 0) (c3 : ¬ f1_eight x2 = 0) (c4 : f1_object (mem (8 * x0 + x1).toNatClampNeg) = 12 ∨ f1_object (mem (8 * x0 + x1).toNatClampNeg) ≤ 7) : f1_refusal mem blk sto 0 en pw' wr cm x0 x1 x2 1 x4 = -3 := by
  unfold f1_refusal
  rw [if_pos rfl, if_neg c1, if_neg c2, if_neg c3]
  by_cases c : f1_object (mem (8 * x0 + x1).toNatClampNeg) = 12
  · rw [if_pos c]
  · rcases c4 with c4 | c4
    · exact absurd c4 c
    · rw [if_neg c, if_pos c4, if_neg (by decide)]
theorem rr_p0 (c1 : ¬ f1_third x0 = 0) (c2 : ¬ f1_eight x1 = 0) (c3 : ¬ f1_eight x2 = 0) (c4 : ¬ f1_object (mem (8 * x0 + x1).toNatClampNeg) = 12) (c5 : ¬ f1_object (mem (8 * x0 + x1).toNatClampNeg) ≤ 7) : f1_refusal mem blk sto 0 en pw' wr cm x0 x1 x2 1 x4 = if x4 = 0 then 0 else if f1_limits (mem (8 * x0 + x1).toNatClampNeg) = 0 then 0 else -4 := by
  unfold f1_refusal
  rw [if_pos rfl, if_neg c1, if_neg c2, if_neg c3, if_neg c4, if_neg c5, if_pos rfl]
theorem rr_dn : f1_refusal mem blk sto 1 en pw' wr cm x0 x1 x2 x3 x4 = -1 := rfl
theorem nr_dn : f0_nodeRefusal mem blk hdr ds pw 0 wr cm x0 x1 z = -1 := rfl
theorem pr_dn : f0_pageRefusal mem blk hdr ds pw 0 wr cm x0 x1 z = -1 := rfl
theorem rr_ne1 (hk : KI mem) : ¬ f1_refusal mem blk sto 0 en pw' wr cm x0 x1 x2 0 x4 = -1 := by
  by_cases c1 : f1_third x0 = 0
  · rw [rr_bad (Or.inl c1)]; decide
  by_cases c2 : f1_eight x1 = 0
  · rw [rr_bad (Or.inr (Or.inl c2))]; decide
  by_cases c3 : f1_eight x2 = 0
  · rw [rr_bad (Or.inr (Or.inr c3))]; decide
  by_cases c4 : f1_object (mem (8 * x0 + x1).toNatClampNeg) = 12
  · rw [rr_n3 c1 c2 c3 (Or.inl c4)]; decide
  by_cases c5 : f1_object (mem (8 * x0 + x1).toNatClampNeg) ≤ 7
  · rw [rr_n0 c1 c2 c3 c4 c5]
    by_cases c6 : x4 = 0
    · rw [if_pos c6]; decide
    by_cases c7 : f1_limits (mem (8 * x0 + x1).toNatClampNeg) = 0
    · rw [if_neg c6, if_pos c7]; decide
    · rw [if_neg c6, if_neg c7]; decide
  · rw [rr_n3 c1 c2 c3 (Or.inr c5)]; decide
theorem z_f0 (h : f1_eight x2 = 0 ∨ f1_eight x3 = 0) : z0_fetch_23 x2 x3 = 0 := by
  unfold z0_fetch_23
  rw [e_row, e_row]
  by_cases c1 : f1_eight x2 = 0
  · rw [if_pos c1]
  · rcases h with h | h
    · exact absurd h c1
    · rw [if_neg c1, if_pos h]
theorem z_f1 (c1 : ¬ f1_eight x2 = 0) (c2 : ¬ f1_eight x3 = 0) : z0_fetch_23 x2 x3 = 1 := by
  unfold z0_fetch_23
  rw [e_row, e_row, if_neg c1, if_neg c2]
/-- fetch -/
theorem sim_fetch (hI : Inv mem blk hdr) (hp : PwR pw en pw') (hu : UpR rn dn) (x0 x1 x2 x3 : Int32) : Sim (F0_fetch mem blk hdr (nI (sb sto)) pw rn wr cm x0 x1 x2 x3) (F1_fetch mem blk sto dn en pw' wr cm x0 x1 x2 x3) := by
  have hk : KI mem := hI.2.2.1
  rcases hu with ⟨rfl, rfl⟩ | ⟨rfl, rfl⟩
  · have hu : UpR 1 0 := Or.inl ⟨rfl, rfl⟩
    by_cases c4 : f1_eight x3 = 0
    · exact Sim.of (r := -2) (by unfold F0_fetch; rw [z_f0 (Or.inr c4), nr_bad (Or.inr (Or.inr rfl))]; rfl) (by unfold F1_fetch; rw [if_neg (rr_ne1 hk), if_pos c4]) (rel_mk hI hp hu)
    by_cases cb : f1_third x0 = 0 ∨ f1_eight x1 = 0 ∨ f1_eight x2 = 0
    · refine Sim.of (r := -2) (u := (mem, blk, hdr, nI (sb sto), pw, 1, wr, cm)) ?_ (by unfold F1_fetch; rw [rr_bad cb, if_neg (by decide), if_neg c4, if_neg (by decide)]) (rel_mk hI hp hu)
      unfold F0_fetch
      have e : f0_nodeRefusal mem blk hdr (nI (sb sto)) pw 1 wr cm x0 x1 (z0_fetch_23 x2 x3) = -2 := by
        rcases cb with c | c | c
        · exact nr_bad (Or.inl c)
        · exact nr_bad (Or.inr (Or.inl c))
        · exact nr_bad (Or.inr (Or.inr (z_f0 (Or.inl c))))
      rw [e]; rfl
    have c1 : ¬ f1_third x0 = 0 := fun q => cb (Or.inl q)
    have c2 : ¬ f1_eight x1 = 0 := fun q => cb (Or.inr (Or.inl q))
    have c3 : ¬ f1_eight x2 = 0 := fun q => cb (Or.inr (Or.inr q))
    have en0 := nr_ok (mem := mem) (blk := blk) (hdr := hdr) (ds := nI (sb sto)) (pw := pw) (wr := wr) (cm := cm) c1 c2 (show ¬ z0_fetch_23 x2 x3 = 0 by rw [z_f1 c3 c4]; decide)
    have n3 := rr_n3 (mem := mem) (blk := blk) (sto := sto) (en := en) (pw' := pw') (wr := wr) (cm := cm) (x4 := 0) c1 c2 c3
    have n0 := rr_n0 (mem := mem) (blk := blk) (sto := sto) (en := en) (pw' := pw') (wr := wr) (cm := cm) (x4 := 0) c1 c2 c3
    unfold F0_fetch F1_fetch z0_fetch_79 z1_fetch_91
    rw [en0]
    unfold f0_get
    obtain ⟨i, hi, rfl⟩ := r1_third c1
    obtain ⟨j, hj, rfl⟩ := r1_eight c2
    obtain ⟨b, hb, rfl⟩ := r1_eight c3
    obtain ⟨d, hd, rfl⟩ := r1_eight c4
    rw [ix1_at (by omega)] at n3 n0
    rw [ix_at (a := i) (b := j) (by omega), ix1_at (a := i) (b := j) (by omega)]
    obtain ⟨n, hn, ek⟩ := hk (i * 8 + j) (by omega)
    rw [ek] at n3 n0 ⊢
    rcases kt_obj n (by omega) with ⟨k1, k2⟩ | ⟨k1, k2, k3, k4, k5⟩
    · exact Sim.of (r := -3) (by rw [if_pos k1]; rfl) (by rw [n3 k2, if_neg (by decide), if_neg c4, if_neg (by decide)]) (rel_mk hI hp hu)
    · obtain ⟨o1, o2⟩ := kt_ob n (by omega) k4
      rw [if_neg k1, n0 k2 k3, if_pos rfl, if_pos rfl, if_neg (by decide : ¬ (0 : Int32) = -1), if_neg c4, if_pos rfl, o1, o2, ix_at (a := (n - 1) / 4) (b := b) (by omega), ix1_at (a := (n - 1) / 4) (b := b) (by omega)]
      obtain ⟨n2, hn2, ek2⟩ := hk ((n - 1) / 4 * 8 + b) (by omega)
      rw [ek2]
      by_cases cw : f1_limits (nI n) < 2
      · rw [if_pos ((kt_weak n (by omega) k4).mpr cw), if_pos cw]
        exact ⟨rfl, rel_put (by omega) hd (fun _ => ⟨n2, hn2, rfl⟩) hI hp hu⟩
      · rw [if_neg (fun q => cw ((kt_weak n (by omega) k4).mp q)), if_neg cw]
        obtain ⟨l1, l2, l3⟩ := kt_lim n2 (by omega) 3 (by decide)
        have l1 : f0_limited (nI n2) 3 = f1_limited (nI n2) 3 := l1
        rw [← l1]
        exact ⟨rfl, rel_put (by omega) hd (fun _ => ⟨_, l2, l3⟩) hI hp hu⟩
  · exact Sim.of (r := -1) rfl rfl (rel_mk hI hp (Or.inr ⟨rfl, rfl⟩))
/-- store -/
theorem sim_store (hI : Inv mem blk hdr) (hp : PwR pw en pw') (hu : UpR rn dn) (x0 x1 x2 x3 : Int32) : Sim (F0_store mem blk hdr (nI (sb sto)) pw rn wr cm x0 x1 x2 x3) (F1_store mem blk sto dn en pw' wr cm x0 x1 x2 x3) := by
  have hk : KI mem := hI.2.2.1
  rcases hu with ⟨rfl, rfl⟩ | ⟨rfl, rfl⟩
  · have hu : UpR 1 0 := Or.inl ⟨rfl, rfl⟩
    by_cases c4 : f1_eight x3 = 0
    · exact Sim.of (r := -2) (by unfold F0_store; rw [show z0_store_23 x2 x3 = 0 from z_f0 (Or.inr c4), nr_bad (Or.inr (Or.inr rfl))]; rfl) (by unfold F1_store; rw [if_neg (rr_ne1 hk), if_pos c4]) (rel_mk hI hp hu)
    by_cases cb : f1_third x0 = 0 ∨ f1_eight x1 = 0 ∨ f1_eight x2 = 0
    · refine Sim.of (r := -2) (u := (mem, blk, hdr, nI (sb sto), pw, 1, wr, cm)) ?_ (by unfold F1_store; rw [rr_bad cb, if_neg (by decide), if_neg c4, if_neg (by decide)]) (rel_mk hI hp hu)
      unfold F0_store
      have e : f0_nodeRefusal mem blk hdr (nI (sb sto)) pw 1 wr cm x0 x1 (z0_store_23 x2 x3) = -2 := by
        rcases cb with c | c | c
        · exact nr_bad (Or.inl c)
        · exact nr_bad (Or.inr (Or.inl c))
        · exact nr_bad (Or.inr (Or.inr (z_f0 (Or.inl c))))
      rw [e]; rfl
    have c1 : ¬ f1_third x0 = 0 := fun q => cb (Or.inl q)
    have c2 : ¬ f1_eight x1 = 0 := fun q => cb (Or.inr (Or.inl q))
    have c3 : ¬ f1_eight x2 = 0 := fun q => cb (Or.inr (Or.inr q))
    have en0 := nr_ok (mem := mem) (blk := blk) (hdr := hdr) (ds := nI (sb sto)) (pw := pw) (wr := wr) (cm := cm) c1 c2 (show ¬ z0_store_23 x2 x3 = 0 by rw [show z0_store_23 x2 x3 = 1 from z_f1 c3 c4]; decide)
    have n3 := rr_n3 (mem := mem) (blk := blk) (sto := sto) (en := en) (pw' := pw') (wr := wr) (cm := cm) (x4 := 1) c1 c2 c3
    have n0 := rr_n0 (mem := mem) (blk := blk) (sto := sto) (en := en) (pw' := pw') (wr := wr) (cm := cm) (x4 := 1) c1 c2 c3
    unfold F0_store F1_store
    rw [en0]
    unfold f0_get
    obtain ⟨i, hi, rfl⟩ := r1_third c1
    obtain ⟨j, hj, rfl⟩ := r1_eight c2
    obtain ⟨b, hb, rfl⟩ := r1_eight c3
    obtain ⟨d, hd, rfl⟩ := r1_eight c4
    rw [ix1_at (by omega)] at n3 n0
    rw [ix_at (a := i) (b := j) (by omega), ix1_at (a := i) (b := j) (by omega), ix_at (a := i) (b := d) (by omega), ix1_at (a := i) (b := d) (by omega)]
    obtain ⟨n, hn, ek⟩ := hk (i * 8 + j) (by omega)
    rw [ek] at n3 n0 ⊢
    rcases kt_obj n (by omega) with ⟨k1, k2⟩ | ⟨k1, k2, k3, k4, k5⟩
    · exact Sim.of (r := -3) (by rw [if_pos k1]; rfl) (by rw [n3 k2, if_neg (by decide), if_neg c4, if_neg (by decide)]) (rel_mk hI hp hu)
    · obtain ⟨o1, o2⟩ := kt_ob n (by omega) k4
      rw [if_neg k1, n0 k2 k3, if_pos rfl, if_neg (by decide : ¬ (1 : Int32) = 0), o1, o2]
      by_cases cw : f1_limits (nI n) = 0
      · rw [if_neg (fun q => (kt_wr n (by omega) k4).mp q cw), if_pos cw, if_neg (by decide), if_neg c4, if_pos rfl]
        obtain ⟨n2, hn2, ek2⟩ := hk (i * 8 + d) (by omega)
        exact ⟨rfl, rel_put (by omega) hb (fun _ => ⟨n2, hn2, ek2⟩) hI hp hu⟩
      · rw [if_pos ((kt_wr n (by omega) k4).mpr cw), if_neg cw, if_neg (by decide), if_neg c4, if_neg (by decide)]
        exact ⟨rfl, rel_mk hI hp hu⟩
  · exact Sim.of (r := -1) rfl rfl (rel_mk hI hp (Or.inr ⟨rfl, rfl⟩))
/-- write -/
theorem sim_write (hI : Inv mem blk hdr) (hp : PwR pw en pw') (hu : UpR rn dn) (x0 x1 x2 x3 : Int32) : Sim (F0_write mem blk hdr (nI (sb sto)) pw rn wr cm x0 x1 x2 x3) (F1_write mem blk sto dn en pw' wr cm x0 x1 x2 x3) := by
  have hk : KI mem := hI.2.2.1
  rcases hu with ⟨rfl, rfl⟩ | ⟨rfl, rfl⟩
  · have hu : UpR 1 0 := Or.inl ⟨rfl, rfl⟩
    by_cases cb : f1_third x0 = 0 ∨ f1_eight x1 = 0 ∨ f1_eight x2 = 0
    · refine Sim.of (r := -2) (u := (mem, blk, hdr, nI (sb sto), pw, 1, wr, cm)) ?_ (by unfold F1_write; rw [rr_bad cb, if_neg (by decide)]) (rel_mk hI hp hu)
      unfold F0_write
      have e : f0_pageRefusal mem blk hdr (nI (sb sto)) pw 1 wr cm x0 x1 (f0_isInRow x2) = -2 := by
        rw [e_row]; exact pr_bad cb
      rw [e]; rfl
    have c1 : ¬ f1_third x0 = 0 := fun q => cb (Or.inl q)
    have c2 : ¬ f1_eight x1 = 0 := fun q => cb (Or.inr (Or.inl q))
    have c3 : ¬ f1_eight x2 = 0 := fun q => cb (Or.inr (Or.inr q))
    have en0 := pr_ok (mem := mem) (blk := blk) (hdr := hdr) (ds := nI (sb sto)) (pw := pw) (wr := wr) (cm := cm) c1 c2 (show ¬ f0_isInRow x2 = 0 by rw [e_row]; exact c3)
    have n3 := rr_p3 (mem := mem) (blk := blk) (sto := sto) (en := en) (pw' := pw') (wr := wr) (cm := cm) (x4 := 1) c1 c2 c3
    have n0 := rr_p0 (mem := mem) (blk := blk) (sto := sto) (en := en) (pw' := pw') (wr := wr) (cm := cm) (x4 := 1) c1 c2 c3
    unfold F0_write F1_write
    rw [en0]
    unfold f0_get
    obtain ⟨i, hi, rfl⟩ := r1_third c1
    obtain ⟨j, hj, rfl⟩ := r1_eight c2
    obtain ⟨b, hb, rfl⟩ := r1_eight c3
    rw [ix1_at (by omega)] at n3 n0
    rw [ix_at (a := i) (b := j) (by omega), ix1_at (a := i) (b := j) (by omega)]
    obtain ⟨n, hn, ek⟩ := hk (i * 8 + j) (by omega)
    rw [ek] at n3 n0 ⊢
    rcases kt_pg n (by omega) with ⟨k1, k2⟩ | ⟨k1, k2, k3, k4⟩
    · exact Sim.of (r := -3) (by rw [if_pos k1]; rfl) (by rw [n3 k2, if_neg (by decide)]) (rel_mk hI hp hu)
    · obtain ⟨o1, o2⟩ := kt_ob n (by omega) (by omega)
      rw [if_neg k1, n0 k2 k3, if_pos rfl, if_neg (by decide : ¬ (1 : Int32) = 0), o1, o2]
      by_cases cw : f1_limits (nI n) = 0
      · rw [if_neg (fun q => (kt_wr n (by omega) (by omega)).mp q cw), if_pos cw, if_pos rfl]
        exact ⟨rfl, rel_put (by omega) hb (fun q => by omega) hI hp hu⟩
      · rw [if_pos ((kt_wr n (by omega) (by omega)).mpr cw), if_neg cw, if_neg (by decide)]
        exact ⟨rfl, rel_mk hI hp hu⟩
  · exact Sim.of (r := -1) rfl rfl (rel_mk hI hp (Or.inr ⟨rfl, rfl⟩))
/-- read -/
theorem sim_read (hI : Inv mem blk hdr) (hu : UpR rn dn) (x0 x1 x2 : Int32) : f0_read mem blk hdr (nI (sb sto)) pw rn wr cm x0 x1 x2 = f1_read mem blk sto dn en pw' wr cm x0 x1 x2 := by
  have hk : KI mem := hI.2.2.1
  rcases hu with ⟨rfl, rfl⟩ | ⟨rfl, rfl⟩
  · by_cases cb : f1_third x0 = 0 ∨ f1_eight x1 = 0 ∨ f1_eight x2 = 0
    · unfold f0_read f1_read
      rw [e_row, pr_bad cb, rr_bad cb, if_neg (by decide), if_neg (by decide)]
    have c1 : ¬ f1_third x0 = 0 := fun q => cb (Or.inl q)
    have c2 : ¬ f1_eight x1 = 0 := fun q => cb (Or.inr (Or.inl q))
    have c3 : ¬ f1_eight x2 = 0 := fun q => cb (Or.inr (Or.inr q))
    have en0 := pr_ok (mem := mem) (blk := blk) (hdr := hdr) (ds := nI (sb sto)) (pw := pw) (wr := wr) (cm := cm) c1 c2 (show ¬ f0_isInRow x2 = 0 by rw [e_row]; exact c3)
    have n3 := rr_p3 (mem := mem) (blk := blk) (sto := sto) (en := en) (pw' := pw') (wr := wr) (cm := cm) (x4 := 0) c1 c2 c3
    have n0 := rr_p0 (mem := mem) (blk := blk) (sto := sto) (en := en) (pw' := pw') (wr := wr) (cm := cm) (x4 := 0) c1 c2 c3
    unfold f0_read f1_read
    rw [en0]
    unfold f0_get
    obtain ⟨i, hi, rfl⟩ := r1_third c1
    obtain ⟨j, hj, rfl⟩ := r1_eight c2
    obtain ⟨b, hb, rfl⟩ := r1_eight c3
    rw [ix1_at (by omega)] at n3 n0
    rw [ix_at (a := i) (b := j) (by omega), ix1_at (a := i) (b := j) (by omega)]
    obtain ⟨n, hn, ek⟩ := hk (i * 8 + j) (by omega)
    rw [ek] at n3 n0 ⊢
    rcases kt_pg n (by omega) with ⟨k1, k2⟩ | ⟨k1, k2, k3, k4⟩
    · rw [if_pos k1, n3 k2, if_neg (by decide), if_neg (by decide)]
    · obtain ⟨o1, o2⟩ := kt_ob n (by omega) (by omega)
      rw [if_neg k1, n0 k2 k3, if_pos rfl, if_pos (rfl : (0 : Int32) = 0), if_pos rfl, o1, o2, ix_at (by omega), ix1_at (by omega)]
  · unfold f0_read f1_read; rw [pr_dn, rr_dn, if_neg (by decide), if_neg (by decide)]
/-- restrict -/
theorem sim_restrict (hI : Inv mem blk hdr) (hp : PwR pw en pw') (hu : UpR rn dn) (x0 x1 x2 x3 : Int32) : Sim (F0_restrict mem blk hdr (nI (sb sto)) pw rn wr cm x0 x1 x2 x3) (F1_restrict mem blk sto dn en pw' wr cm x0 x1 x2 x3) := by
  have hk : KI mem := hI.2.2.1
  rcases hu with ⟨rfl, rfl⟩ | ⟨rfl, rfl⟩
  · have hu : UpR 1 0 := Or.inl ⟨rfl, rfl⟩
    by_cases c : ¬ f1_third x0 = 0 ∧ ¬ f1_eight x1 = 0 ∧ ¬ f1_eight x3 = 0 ∧ ¬ x2 < 0 ∧ x2 ≤ 3
    · obtain ⟨c1, c2, c3, c4, c5⟩ := c
      have ez : z0_restrict_29 x0 x1 x2 x3 = 1 := by
        unfold z0_restrict_29 f0_isLimits
        rw [e_reg, e_row, if_neg c1, if_neg c2, if_neg (by decide), if_neg c4, if_neg (Int32.not_lt.mpr c5), if_neg (by decide), if_neg c3]
      unfold F0_restrict F1_restrict
      rw [ez, ref_1, if_pos rfl, if_pos rfl, if_neg c1, if_neg c2, if_neg c3, if_neg c4, if_pos c5]
      unfold f0_get
      obtain ⟨i, hi, rfl⟩ := r1_third c1
      obtain ⟨j, hj, rfl⟩ := r1_eight c2
      obtain ⟨d, hd, rfl⟩ := r1_eight c3
      obtain ⟨k, hk4, rfl⟩ := rg_le 3 rfl (by decide) c4 (Int32.not_lt.mpr c5)
      rw [ix_at (a := i) (b := j) (by omega), ix1_at (a := i) (b := j) (by omega)]
      obtain ⟨n, hn, ek⟩ := hk (i * 8 + j) (by omega)
      rw [ek]
      obtain ⟨l1, l2, l3⟩ := kt_lim n (by omega) k (by omega)
      rw [← l1]
      exact ⟨rfl, rel_put (by omega) hd (fun _ => ⟨_, l2, l3⟩) hI hp hu⟩
    · have ez : z0_restrict_29 x0 x1 x2 x3 = 0 := by
        unfold z0_restrict_29 f0_isLimits
        rw [e_row]
        by_cases c1 : f0_isRegister x0 x1 = 0
        · rw [if_pos c1]
        by_cases c4 : x2 < 0
        · rw [if_neg c1, if_pos c4]; rfl
        by_cases c5 : 3 < x2
        · rw [if_neg c1, if_neg c4, if_pos c5]; rfl
        by_cases c3 : f1_eight x3 = 0
        · rw [if_neg c1, if_neg c4, if_neg c5, if_neg (by decide), if_pos c3]
        · exact absurd ⟨fun q => c1 (e_reg0.mpr (Or.inl q)), fun q => c1 (e_reg0.mpr (Or.inr q)), c3, c4, Int32.not_lt.mp c5⟩ c
      refine Sim.of (r := -2) (by unfold F0_restrict; rw [ez, ref_0]; rfl) (v := (mem, blk, sto, 0, en, pw', wr, cm)) ?_ (rel_mk hI hp hu)
      unfold F1_restrict
      rw [if_pos rfl]
      by_cases c1 : f1_third x0 = 0
      · rw [if_pos c1]
      by_cases c2 : f1_eight x1 = 0
      · rw [if_neg c1, if_pos c2]
      by_cases c3 : f1_eight x3 = 0
      · rw [if_neg c1, if_neg c2, if_pos c3]
      by_cases c4 : x2 < 0
      · rw [if_neg c1, if_neg c2, if_neg c3, if_pos c4]
      by_cases c5 : x2 ≤ 3
      · exact absurd ⟨c1, c2, c3, c4, c5⟩ c
      rw [if_neg c1, if_neg c2, if_neg c3, if_neg c4, if_neg c5]
  · exact Sim.of (r := -1) rfl rfl (rel_mk hI hp (Or.inr ⟨rfl, rfl⟩))
end SIM2
end
section
/-! runs of block writes -/
def mbs (m : Nat) : Nat → List Nat
  | 0 => []
  | n + 1 => if m / 2 ^ (11 - n) % 2 = 1 then (11 - n) :: mbs m n else mbs m n
def runL (w : Nat → S0 → Int32 × S0) : List Nat → S0 → Int32 × S0
  | [], u => (1, u)
  | o :: t, u => (match w o u with
    | (r, u1) => if r = 0 then (0, u1) else runL w t u1)
def wm (x2 x3 : Int32) (o : Nat) (u : S0) : Int32 × S0 := F0_writeBlock_m u.1 u.2.1 u.2.2.1 u.2.2.2.1 u.2.2.2.2.1 u.2.2.2.2.2.1 u.2.2.2.2.2.2.1 u.2.2.2.2.2.2.2 (x3 + nI o) (x2 + nI o)
def wb (x2 x3 : Int32) (o : Nat) (u : S0) : Int32 × S0 := F0_writeBlock_b u.1 u.2.1 u.2.2.1 u.2.2.2.1 u.2.2.2.2.1 u.2.2.2.2.2.1 u.2.2.2.2.2.2.1 u.2.2.2.2.2.2.2 (x3 + nI o) (x2 + nI o)
def mw (g : (Nat → Int32) → (Nat → Int32) → Nat → Int32) (v : S0) : Int32 × S0 := match F1_may v.1 v.2.1 v.2.2.1 v.2.2.2.1 v.2.2.2.2.1 v.2.2.2.2.2.1 v.2.2.2.2.2.2.1 v.2.2.2.2.2.2.2 with
  | (r, mem, dsk, sto, dn, en, pw, wr, cm) => if r = 0 then (0, mem, dsk, sto, dn, en, pw, wr, cm) else (1, mem, g mem dsk, sto, dn, en, pw, wr, cm)
def gl (o : Nat) (mem d : Nat → Int32) : Nat → Int32 := cpm mem (12 + nI o) (nI o) 8 d
def gh (o : Nat) (mem d : Nat → Int32) : Nat → Int32 := cpm mem (nI o) (nI o) 8 d
def gr (o : Nat) (_mem d : Nat → Int32) : Nat → Int32 := cpd (nI o) 8 d
def gx (x : Int32) (_mem d : Nat → Int32) : Nat → Int32 := upd d (192 : Int32).toNatClampNeg x
theorem mbs_lt (m : Nat) : ∀ n, n ≤ 12 → ∀ o, o ∈ mbs m n → o < 12 := by
  intro n
  induction n with
  | zero => intro _ o h; simp [mbs] at h
  | succ n ih =>
    intro hn o h
    rw [mbs] at h
    by_cases c : m / 2 ^ (11 - n) % 2 = 1
    · rw [if_pos c] at h
      rcases List.mem_cons.mp h with h | h
      · omega
      · exact ih (by omega) o h
    · rw [if_neg c] at h; exact ih (by omega) o h
theorem mbs_in (m : Nat) : ∀ n, n ≤ 12 → ∀ o, 12 - n ≤ o → o < 12 → m / 2 ^ o % 2 = 1 → o ∈ mbs m n := by
  intro n
  induction n with
  | zero => intro _ o h1 h2; omega
  | succ n ih =>
    intro hn o h1 h2 h3
    rw [mbs]
    by_cases e : o = 11 - n
    · subst e; rw [if_pos h3]; exact List.mem_cons_self
    · have := ih (by omega) o (by omega) h2 h3
      by_cases c : m / 2 ^ (11 - n) % 2 = 1
      · rw [if_pos c]; exact List.mem_cons_of_mem _ this
      · rw [if_neg c]; exact this
theorem or_any : ∀ a, a < 64 → ∀ b, b < 64 → 64 * a + b = 0 ∨ (List.range 12).any (fun o => decide ((64 * a + b) / 2 ^ o % 2 = 1)) = true := by decide +kernel
theorem mbs_nil {m : Nat} (hm : m < 4096) (h : mbs m 12 = []) : m = 0 := by
  have q := or_any (m / 64) (by omega) (m % 64) (by omega)
  rw [Nat.div_add_mod] at q
  rcases q with q | q
  · exact q
  · obtain ⟨o, ho, c⟩ := List.any_eq_true.mp q
    have := mbs_in m 12 (Nat.le_refl _) o (by omega) (List.mem_range.mp ho) (of_decide_eq_true c)
    rw [h] at this; simp at this
theorem mbs_0 : mbs 0 12 = [] := by decide
theorem mbs_len (m : Nat) : ∀ n, (mbs m n).length ≤ n := by
  intro n
  induction n with
  | zero => exact Nat.le_refl _
  | succ n ih =>
    rw [mbs]
    by_cases c : m / 2 ^ (11 - n) % 2 = 1
    · rw [if_pos c, List.length_cons]; omega
    · rw [if_neg c]; omega
theorem is_len {m : Nat} (hm : m < 2 ^ 31) : ∀ n, n ≤ 12 → ∀ a, f1_is (nI m) n (nI a) = nI (a + (mbs m n).length) := by
  intro n
  induction n with
  | zero => intro _ a; rfl
  | succ n ih =>
    intro hn a
    rw [f1_is, bitv hm (by omega), nI_add, ih (by omega), mbs]
    by_cases c : m / 2 ^ (11 - n) % 2 = 1
    · rw [if_pos c, c, List.length_cons]; congr 1; omega
    · rw [if_neg c, show m / 2 ^ (11 - n) % 2 = 0 by omega]; rfl
theorem mb_get {m : Nat} (hm : m < 2 ^ 31) : ∀ n, n ≤ 12 → ∀ a o, (mbs m n)[a]? = some o → f1_mb (nI m) n (nI a) = nI o := by
  intro n
  induction n with
  | zero => intro _ a o h; simp [mbs] at h
  | succ n ih =>
    intro hn a o h
    rw [mbs] at h
    rw [f1_mb, bitv hm (by omega)]
    by_cases c : m / 2 ^ (11 - n) % 2 = 1
    · rw [if_pos c] at h
      rw [c, if_pos (by decide : nI 1 = 1)]
      cases a with
      | zero =>
        rw [if_pos nI_0]
        simp at h
        rw [h]
      | succ a =>
        have ha : a < n := by
          have h1 := (List.getElem?_eq_some_iff.mp h).1
          have h2 := mbs_len m n
          rw [List.length_cons] at h1
          omega
        rw [if_neg (nI_ne0 (by omega) (by omega)), pk_m1]
        exact ih (by omega) a o (by simpa using h)
    · rw [if_neg c] at h
      rw [show m / 2 ^ (11 - n) % 2 = 0 by omega, if_neg (by decide)]
      exact ih (by omega) a o h
theorem cl_run_m {m : Nat} (hm : m < 2 ^ 31) (x2 x3 : Int32) : ∀ n, n ≤ 12 → ∀ u, F0_cl_m (nI m) x2 x3 n u = runL (wm x2 x3) (mbs m n) u := by
  intro n
  induction n with
  | zero => intro _ u; rfl
  | succ n ih =>
    intro hn u
    rw [F0_cl_m, mbs]
    by_cases c : m / 2 ^ (11 - n) % 2 = 1
    · rw [if_neg (fun q => (bit_has hm (by omega)).mp q c), if_pos c, runL, wm]
      generalize F0_writeBlock_m u.1 u.2.1 u.2.2.1 u.2.2.2.1 u.2.2.2.2.1 u.2.2.2.2.2.1 u.2.2.2.2.2.2.1 u.2.2.2.2.2.2.2 (x3 + nI (11 - n)) (x2 + nI (11 - n)) = w
      obtain ⟨r, u1⟩ := w
      dsimp only
      rw [ih (by omega)]
    · rw [if_pos ((bit_has hm (by omega)).mpr c), if_neg c, ih (by omega)]
theorem cl_run_b {m : Nat} (hm : m < 2 ^ 31) (x2 x3 : Int32) : ∀ n, n ≤ 12 → ∀ u, F0_cl_b (nI m) x2 x3 n u = runL (wb x2 x3) (mbs m n) u := by
  intro n
  induction n with
  | zero => intro _ u; rfl
  | succ n ih =>
    intro hn u
    rw [F0_cl_b, mbs]
    by_cases c : m / 2 ^ (11 - n) % 2 = 1
    · rw [if_neg (fun q => (bit_has hm (by omega)).mp q c), if_pos c, runL, wb]
      generalize F0_writeBlock_b u.1 u.2.1 u.2.2.1 u.2.2.2.1 u.2.2.2.2.1 u.2.2.2.2.2.1 u.2.2.2.2.2.2.1 u.2.2.2.2.2.2.2 (x3 + nI (11 - n)) (x2 + nI (11 - n)) = w
      obtain ⟨r, u1⟩ := w
      dsimp only
      rw [ih (by omega)]
    · rw [if_pos ((bit_has hm (by omega)).mpr c), if_neg c, ih (by omega)]
/-! the reference's rounds -/
theorem two_n (nn : Nat) : 2 * nI nn = nI (2 * nn) := by rw [show (2 : Int32) = nI 2 from rfl, pk_mul]
theorem cp_log {m nn k o f : Nat} (v : S0) (hn : nn ≤ 12) (hk : k < nn) (hmb : f1_mb (nI m) 12 (nI k) = nI o) : F1_cp (nI m) (nI nn) (f + 1) (nI k) v = (match mw (gl o) v with | (r, v1) => if r = 0 then (-2, v1) else F1_cp (nI m) (nI nn) f (nI (k + 1)) v1) := by
  rw [F1_cp, mw]
  generalize F1_may v.1 v.2.1 v.2.2.1 v.2.2.2.1 v.2.2.2.2.1 v.2.2.2.2.2.1 v.2.2.2.2.2.2.1 v.2.2.2.2.2.2.2 = w
  obtain ⟨r, mem, dsk, sto, dn, en, pw, wr, cm⟩ := w
  dsimp only
  by_cases c : r = 0
  · rw [if_pos c, if_pos c]; rfl
  · have e1 : f1_member mem dsk sto dn en pw wr cm (nI m) (nI k) = nI o := hmb
    rw [if_neg c, if_neg c, if_neg (fun q => by have := (nI_eq (by omega) (by omega)).mp q; omega), two_n, if_pos (nI_le (by omega) (by omega)), if_neg (nI_ge hk (by omega)), e1, nI_1]
    rfl
theorem cp_home {m nn k o f : Nat} (v : S0) (hn : nn ≤ 12) (hk : k < nn) (hmb : f1_mb (nI m) 12 (nI k) = nI o) : F1_cp (nI m) (nI nn) (f + 1) (nI (nn + 1 + k)) v = (match mw (gh o) v with | (r, v1) => if r = 0 then (-2, v1) else F1_cp (nI m) (nI nn) f (nI (nn + 1 + k + 1)) v1) := by
  rw [F1_cp, mw]
  generalize F1_may v.1 v.2.1 v.2.2.1 v.2.2.2.1 v.2.2.2.2.1 v.2.2.2.2.2.1 v.2.2.2.2.2.2.1 v.2.2.2.2.2.2.2 = w
  obtain ⟨r, mem, dsk, sto, dn, en, pw, wr, cm⟩ := w
  dsimp only
  by_cases c : r = 0
  · rw [if_pos c, if_pos c]; rfl
  · have e0 : nI (nn + 1 + k) - nI nn - 1 = nI k := by
      rw [pk_sub (by omega), show (1 : Int32) = nI 1 from rfl, pk_sub (by omega)]; congr 1; omega
    have e1 : f1_member mem dsk sto dn en pw wr cm (nI m) (nI k) = nI o := hmb
    rw [if_neg c, if_neg c, if_neg (fun q => by have := (nI_eq (by omega) (by omega)).mp q; omega), two_n, if_pos (nI_le (by omega) (by omega)), if_pos (nI_le (by omega) (by omega)), e0, e1, nI_1]
    rfl
theorem cp_hdr {m nn f : Nat} (v : S0) (hn : nn ≤ 12) : F1_cp (nI m) (nI nn) (f + 1) (nI nn) v = (match mw (gx (nI m)) v with | (r, v1) => if r = 0 then (-2, v1) else F1_cp (nI m) (nI nn) f (nI (nn + 1)) (v1.1, v1.2.1, v1.2.2.1, v1.2.2.2.1, v1.2.2.2.2.1, v1.2.2.2.2.2.1, v1.2.2.2.2.2.2.1, v1.2.2.2.2.2.2.2 + 1)) := by
  rw [F1_cp, mw]
  generalize F1_may v.1 v.2.1 v.2.2.1 v.2.2.2.1 v.2.2.2.2.1 v.2.2.2.2.2.1 v.2.2.2.2.2.2.1 v.2.2.2.2.2.2.2 = w
  obtain ⟨r, mem, dsk, sto, dn, en, pw, wr, cm⟩ := w
  dsimp only
  by_cases c : r = 0
  · rw [if_pos c, if_pos c]; rfl
  · rw [if_neg c, if_neg c, if_pos rfl, nI_1]
    rfl
theorem cp_end {m nn f : Nat} (v : S0) (hn : nn ≤ 12) : F1_cp (nI m) (nI nn) (f + 1) (nI (2 * nn + 1)) v = (match mw (gx 0) v with | (r, v1) => if r = 0 then (-2, v1) else F1_cp (nI m) (nI nn) f (nI (2 * nn + 2)) v1) := by
  rw [F1_cp, mw]
  generalize F1_may v.1 v.2.1 v.2.2.1 v.2.2.2.1 v.2.2.2.2.1 v.2.2.2.2.2.1 v.2.2.2.2.2.2.1 v.2.2.2.2.2.2.2 = w
  obtain ⟨r, mem, dsk, sto, dn, en, pw, wr, cm⟩ := w
  dsimp only
  by_cases c : r = 0
  · rw [if_pos c, if_pos c]; rfl
  · rw [if_neg c, if_neg c, if_neg (fun q => by have := (nI_eq (by omega) (by omega)).mp q; omega), two_n, if_neg (nI_ge (by omega) (by omega)), nI_1]
    rfl
theorem st_rec {m nn k o f : Nat} (v : S0) (hn : nn ≤ 12) (hk : k < nn) (hmb : f1_mb (nI m) 12 (nI k) = nI o) : F1_st (nI m) (nI (nn + 1)) (f + 1) (nI k) v = (match mw (gr o) v with | (r, v1) => if r = 0 then (-3, v1) else F1_st (nI m) (nI (nn + 1)) f (nI (k + 1)) v1) := by
  rw [F1_st, mw]
  generalize F1_may v.1 v.2.1 v.2.2.1 v.2.2.2.1 v.2.2.2.2.1 v.2.2.2.2.2.1 v.2.2.2.2.2.2.1 v.2.2.2.2.2.2.2 = w
  obtain ⟨r, mem, dsk, sto, dn, en, pw, wr, cm⟩ := w
  dsimp only
  by_cases c : r = 0
  · rw [if_pos c, if_pos c]; rfl
  · have e1 : f1_member mem dsk sto dn en pw wr cm (nI m) (nI k) = nI o := hmb
    rw [if_neg c, if_neg c, nI_pred, if_neg (fun q => by have := (nI_eq (by omega) (by omega)).mp q; omega), e1, nI_1]
    rfl
theorem st_end {m nn f : Nat} (v : S0) (hn : nn ≤ 12) : F1_st (nI m) (nI (nn + 1)) (f + 1) (nI nn) v = (match mw (gx 0) v with | (r, v1) => if r = 0 then (-3, v1) else F1_st (nI m) (nI (nn + 1)) f (nI (nn + 1)) v1) := by
  rw [F1_st, mw]
  generalize F1_may v.1 v.2.1 v.2.2.1 v.2.2.2.1 v.2.2.2.2.1 v.2.2.2.2.2.1 v.2.2.2.2.2.2.1 v.2.2.2.2.2.2.2 = w
  obtain ⟨r, mem, dsk, sto, dn, en, pw, wr, cm⟩ := w
  dsimp only
  by_cases c : r = 0
  · rw [if_pos c, if_pos c]; rfl
  · rw [if_neg c, if_neg c, nI_pred, if_pos rfl, nI_1]
    rfl
/-- a run of rounds, over any of the three -/
theorem ph_gen (G : Nat → Int32 → S0 → Int32 × S0) (bad : Int32) (w : Nat → S0 → Int32 × S0) (L : List Nat) (c0 : Nat)
    (hs : ∀ (k o f : Nat) (v : S0), L[k]? = some o → G (f + 1) (nI (c0 + k)) v = (match w o v with | (r, v1) => if r = 0 then (bad, v1) else G f (nI (c0 + k + 1)) v1)) :
    ∀ (t pre : List Nat) (v : S0) (f : Nat), L = pre ++ t → G (t.length + f) (nI (c0 + pre.length)) v = (match runL w t v with | (r, v1) => if r = 0 then (bad, v1) else G f (nI (c0 + L.length)) v1) := by
  intro t
  induction t with
  | nil =>
    intro pre v f e
    rw [List.append_nil] at e
    rw [e, runL, List.length_nil, Nat.zero_add]
    exact (if_neg (by decide)).symm
  | cons o t ih =>
    intro pre v f e
    rw [show (o :: t).length + f = (t.length + f) + 1 by rw [List.length_cons]; omega]
    rw [hs pre.length o _ v (by rw [e]; simp), runL]
    generalize w o v = q
    obtain ⟨r, v1⟩ := q
    dsimp only
    by_cases c : r = 0
    · rw [if_pos c, if_pos c]
      exact (if_pos rfl).symm
    · rw [if_neg c, if_neg c]
      have := ih (pre ++ [o]) v1 f (by rw [e]; simp)
      rw [List.length_append, List.length_singleton, ← Nat.add_assoc] at this
      exact this
end
section
/-! block writes of both, side by side -/
def RelQ (rn dn : Int32) (u v : S0) : Prop := ∃ (mem blk hdr sto : Nat → Int32) (pw en pw' wr cm : Int32), u = (mem, blk, hdr, nI (sb sto), pw, rn, wr, cm) ∧ v = (mem, blk, sto, dn, en, pw', wr, cm) ∧ Inv mem blk hdr ∧ PwR pw en pw'
/-- both cut off, or both through, with k blocks more -/
def Out (rn dn : Int32) (k : Nat) (u : S0) (a b : Int32 × S0) : Prop := (∃ u' v' : S0, a = (0, u') ∧ b = (0, v') ∧ Rel u' v') ∨ (∃ u' v' : S0, a = (1, u') ∧ b = (1, v') ∧ RelQ rn dn u' v' ∧ u'.2.2.2.2.2.2.1 = u.2.2.2.2.2.2.1 + nI k ∧ u'.2.2.2.1 = u.2.2.2.1)
section SD
variable {mem blk hdr sto : Nat → Int32} {ds pw en pw' rn dn wr cm : Int32}
theorem may_cases (hp : PwR pw en pw') : (pw = 0 ∧ F1_may mem blk sto dn en pw' wr cm = (0, mem, blk, sto, 1, en, pw', wr, cm)) ∨ (¬ pw = 0 ∧ ∃ q q' : Int32, PwR q en q' ∧ q = (if pw = -1 then pw else pw - 1) ∧ F1_may mem blk sto dn en pw' wr cm = (1, mem, blk, sto, dn, en, q', wr + 1, cm)) := by
  rcases hp with ⟨rfl, rfl⟩ | ⟨rfl, n, hn, rfl, rfl⟩
  · exact Or.inr ⟨by decide, -1, pw', Or.inl ⟨rfl, rfl⟩, rfl, rfl⟩
  · cases n with
    | zero => exact Or.inl ⟨nI_0, by unfold F1_may; rw [if_pos rfl, if_pos nI_0]⟩
    | succ n =>
      have h0 : ¬ nI (n + 1) = 0 := nI_ne0 (by omega) (by omega)
      have h1 : ¬ nI (n + 1) = -1 := fun q => nI_pos (n := n + 1) (by omega) (by rw [q]; decide)
      exact Or.inr ⟨h0, nI n, nI n, Or.inr ⟨rfl, n, by omega, rfl, rfl⟩, by rw [if_neg h1, nI_pred], by unfold F1_may; rw [if_pos rfl, if_neg h0, nI_pred]⟩
theorem wbm_0 (h : pw = 0) (x0 x2 : Int32) : F0_writeBlock_m mem blk hdr ds pw rn wr cm x0 x2 = (0, mem, blk, hdr, ds, pw, 0, wr, cm) := by
  unfold F0_writeBlock_m; rw [if_pos h]
theorem wbm_1 (h : ¬ pw = 0) (x0 x2 : Int32) : F0_writeBlock_m mem blk hdr ds pw rn wr cm x0 x2 = (1, mem, va_cpy mem blk (x2 * 8).toNatClampNeg (x0 * 8).toNatClampNeg (8 : Int32).toNatClampNeg, hdr, ds, (if pw = -1 then pw else pw - 1), rn, wr + 1, cm) := by
  unfold F0_writeBlock_m; rw [if_neg h]
  by_cases c : pw = -1
  · rw [if_pos c, if_pos c]
  · rw [if_neg c, if_neg c]
theorem wbb_0 (h : pw = 0) (x0 x2 : Int32) : F0_writeBlock_b mem blk hdr ds pw rn wr cm x0 x2 = (0, mem, blk, hdr, ds, pw, 0, wr, cm) := by
  unfold F0_writeBlock_b; rw [if_pos h]
theorem wbb_1 (h : ¬ pw = 0) (x0 x2 : Int32) : F0_writeBlock_b mem blk hdr ds pw rn wr cm x0 x2 = (1, mem, va_cpy blk blk (x2 * 8).toNatClampNeg (x0 * 8).toNatClampNeg (8 : Int32).toNatClampNeg, hdr, ds, (if pw = -1 then pw else pw - 1), rn, wr + 1, cm) := by
  unfold F0_writeBlock_b; rw [if_neg h]
  by_cases c : pw = -1
  · rw [if_pos c, if_pos c]
  · rw [if_neg c, if_neg c]
theorem wbh_0 (h : pw = 0) (x0 x2 : Int32) : F0_writeBlock_h mem blk hdr ds pw rn wr cm x0 x2 = (0, mem, blk, hdr, ds, pw, 0, wr, cm) := by
  unfold F0_writeBlock_h; rw [if_pos h]
theorem wbh_1 (h : ¬ pw = 0) (x0 x2 : Int32) : F0_writeBlock_h mem blk hdr ds pw rn wr cm x0 x2 = (1, mem, va_cpy hdr blk (x2 * 8).toNatClampNeg (x0 * 8).toNatClampNeg (8 : Int32).toNatClampNeg, hdr, ds, (if pw = -1 then pw else pw - 1), rn, wr + 1, cm) := by
  unfold F0_writeBlock_h; rw [if_neg h]
  by_cases c : pw = -1
  · rw [if_pos c, if_pos c]
  · rw [if_neg c, if_neg c]
theorem a8 {a : Nat} (h : a < 25) : (nI a * 8).toNatClampNeg = a * 8 := by rw [m8, nI_clamp (by omega)]
theorem inv_log (hI : Inv mem blk hdr) {o : Nat} (ho : o < 12) : Inv mem (va_cpy mem blk (o * 8) ((12 + o) * 8) 8) hdr := by
  obtain ⟨h1, h2, h3, h4, h5, m, hm, h6⟩ := hI
  refine ⟨h1, fun j a b => ?_, h3, fun j hj => ?_, fun j hj => ?_, m, hm, ?_⟩
  · rw [pk_cpy_out (by omega)]; exact h2 j a b
  · rw [pk_cpy_out (by omega)]; exact h4 j hj
  · show ∃ n : Nat, n ≤ 48 ∧ va_cpy mem blk (o * 8) ((12 + o) * 8) 8 (96 + j) = nI n
    by_cases c : (12 + o) * 8 ≤ 96 + j ∧ 96 + j < (12 + o) * 8 + 8
    · rw [pk_cpy_in c.1 c.2]; exact h3 _ (by omega)
    · rw [pk_cpy_out (by omega)]; exact h5 j hj
  · rw [pk_cpy_out (by omega)]; exact h6
theorem inv_home (hI : Inv mem blk hdr) {o : Nat} (ho : o < 12) : Inv mem (va_cpy mem blk (o * 8) (o * 8) 8) hdr := by
  obtain ⟨h1, h2, h3, h4, h5, m, hm, h6⟩ := hI
  refine ⟨h1, fun j a b => ?_, h3, fun j hj => ?_, fun j hj => ?_, m, hm, ?_⟩
  · rw [pk_cpy_out (by omega)]; exact h2 j a b
  · by_cases c : o * 8 ≤ j ∧ j < o * 8 + 8
    · rw [pk_cpy_in c.1 c.2]; exact h3 _ (by omega)
    · rw [pk_cpy_out (by omega)]; exact h4 j hj
  · show ∃ n : Nat, n ≤ 48 ∧ va_cpy mem blk (o * 8) (o * 8) 8 (96 + j) = nI n
    rw [pk_cpy_out (by omega)]; exact h5 j hj
  · rw [pk_cpy_out (by omega)]; exact h6
theorem inv_rec (hI : Inv mem blk hdr) {o : Nat} (ho : o < 12) : Inv mem (va_cpy blk blk ((12 + o) * 8) (o * 8) 8) hdr := by
  obtain ⟨h1, h2, h3, h4, h5, m, hm, h6⟩ := hI
  refine ⟨h1, fun j a b => ?_, h3, fun j hj => ?_, fun j hj => ?_, m, hm, ?_⟩
  · rw [pk_cpy_out (by omega)]; exact h2 j a b
  · by_cases c : o * 8 ≤ j ∧ j < o * 8 + 8
    · rw [pk_cpy_in c.1 c.2, show (12 + o) * 8 + (j - o * 8) = 96 + j by omega]; exact h5 j hj
    · rw [pk_cpy_out (by omega)]; exact h4 j hj
  · show ∃ n : Nat, n ≤ 48 ∧ va_cpy blk blk ((12 + o) * 8) (o * 8) 8 (96 + j) = nI n
    rw [pk_cpy_out (by omega)]; exact h5 j hj
  · rw [pk_cpy_out (by omega)]; exact h6
theorem inv_hdr (hI : Inv mem blk hdr) {m : Nat} (hm : m < 4096) (x : Int32) : Inv mem (upd blk 192 (nI m)) (upd hdr 0 x) := by
  obtain ⟨h1, h2, h3, h4, h5, -⟩ := hI
  refine ⟨fun j a b => ?_, fun j a b => ?_, h3, fun j hj => ?_, fun j hj => ?_, m, hm, pk_us⟩
  · rw [pk_un (by omega)]; exact h1 j a b
  · rw [pk_un (by omega)]; exact h2 j a b
  · rw [pk_un (by omega)]; exact h4 j hj
  · show ∃ n : Nat, n ≤ 48 ∧ upd blk 192 (nI m) (96 + j) = nI n
    rw [pk_un (by omega)]; exact h5 j hj
theorem inv_h (hI : Inv mem blk hdr) (x : Int32) : Inv mem blk (upd hdr 0 x) := by
  obtain ⟨h1, h2⟩ := hI
  exact ⟨fun j a b => by rw [pk_un (by omega)]; exact h1 j a b, h2⟩
/-- one block, cut off -/
theorem mw_0 {g : (Nat → Int32) → (Nat → Int32) → Nat → Int32} (h : F1_may mem blk sto dn en pw' wr cm = (0, mem, blk, sto, 1, en, pw', wr, cm)) : mw g (mem, blk, sto, dn, en, pw', wr, cm) = (0, mem, blk, sto, 1, en, pw', wr, cm) := by
  unfold mw; dsimp only; rw [h]; rfl
theorem mw_1 {g : (Nat → Int32) → (Nat → Int32) → Nat → Int32} {q' : Int32} (h : F1_may mem blk sto dn en pw' wr cm = (1, mem, blk, sto, dn, en, q', wr + 1, cm)) : mw g (mem, blk, sto, dn, en, pw', wr, cm) = (1, mem, g mem blk, sto, dn, en, q', wr + 1, cm) := by
  unfold mw; dsimp only; rw [h]; rfl
theorem dn_rel (hI : Inv mem blk hdr) (hp : PwR pw en pw') : Rel (mem, blk, hdr, nI (sb sto), pw, 0, wr, cm) (mem, blk, sto, 1, en, pw', wr, cm) := rel_mk hI hp (Or.inr ⟨rfl, rfl⟩)
theorem log_sim {u v : S0} (h : RelQ rn dn u v) {o : Nat} (ho : o < 12) : Out rn dn 1 u (wm 0 12 o u) (mw (gl o) v) := by
  obtain ⟨mem, blk, hdr, sto, pw, en, pw', wr, cm, rfl, rfl, hI, hp⟩ := h
  have e12 : (12 : Int32) + nI o = nI (12 + o) := by rw [show (12 : Int32) = nI 12 from rfl, nI_add]
  have e0 : (0 : Int32) + nI o = nI o := Int32.zero_add _
  rcases may_cases (mem := mem) (blk := blk) (sto := sto) (dn := dn) (wr := wr) (cm := cm) hp with ⟨h0, h1⟩ | ⟨h0, q, q', hq, eq, h1⟩
  · exact Or.inl ⟨_, _, wbm_0 h0 _ _, mw_0 h1, dn_rel hI hp⟩
  · have ew : wm 0 12 o (mem, blk, hdr, nI (sb sto), pw, rn, wr, cm) = (1, mem, va_cpy mem blk (o * 8) ((12 + o) * 8) 8, hdr, nI (sb sto), q, rn, wr + 1, cm) := by
      unfold wm; dsimp only; rw [wbm_1 h0, e12, e0, a8 (by omega), a8 (by omega), c8, eq]
    have eg : gl o mem blk = va_cpy mem blk (o * 8) ((12 + o) * 8) 8 := by
      unfold gl; rw [e12]; exact cpm_eq mem blk (12 + o) o (by omega) ho
    refine Or.inr ⟨_, _, ew, (mw_1 h1).trans (by rw [eg]), ⟨mem, _, hdr, sto, q, en, q', wr + 1, cm, rfl, rfl, inv_log hI ho, hq⟩, rfl, rfl⟩
theorem home_sim {u v : S0} (h : RelQ rn dn u v) {o : Nat} (ho : o < 12) : Out rn dn 1 u (wm 0 0 o u) (mw (gh o) v) := by
  obtain ⟨mem, blk, hdr, sto, pw, en, pw', wr, cm, rfl, rfl, hI, hp⟩ := h
  have e0 : (0 : Int32) + nI o = nI o := Int32.zero_add _
  rcases may_cases (mem := mem) (blk := blk) (sto := sto) (dn := dn) (wr := wr) (cm := cm) hp with ⟨h0, h1⟩ | ⟨h0, q, q', hq, eq, h1⟩
  · exact Or.inl ⟨_, _, wbm_0 h0 _ _, mw_0 h1, dn_rel hI hp⟩
  · have ew : wm 0 0 o (mem, blk, hdr, nI (sb sto), pw, rn, wr, cm) = (1, mem, va_cpy mem blk (o * 8) (o * 8) 8, hdr, nI (sb sto), q, rn, wr + 1, cm) := by
      unfold wm; dsimp only; rw [wbm_1 h0, e0, a8 (by omega), c8, eq]
    have eg : gh o mem blk = va_cpy mem blk (o * 8) (o * 8) 8 := cpm_eq mem blk o o (by omega) ho
    refine Or.inr ⟨_, _, ew, (mw_1 h1).trans (by rw [eg]), ⟨mem, _, hdr, sto, q, en, q', wr + 1, cm, rfl, rfl, inv_home hI ho, hq⟩, rfl, rfl⟩
theorem rec_sim {u v : S0} (h : RelQ rn dn u v) {o : Nat} (ho : o < 12) : Out rn dn 1 u (wb 12 0 o u) (mw (gr o) v) := by
  obtain ⟨mem, blk, hdr, sto, pw, en, pw', wr, cm, rfl, rfl, hI, hp⟩ := h
  have e12 : (12 : Int32) + nI o = nI (12 + o) := by rw [show (12 : Int32) = nI 12 from rfl, nI_add]
  have e0 : (0 : Int32) + nI o = nI o := Int32.zero_add _
  rcases may_cases (mem := mem) (blk := blk) (sto := sto) (dn := dn) (wr := wr) (cm := cm) hp with ⟨h0, h1⟩ | ⟨h0, q, q', hq, eq, h1⟩
  · exact Or.inl ⟨_, _, wbb_0 h0 _ _, mw_0 h1, dn_rel hI hp⟩
  · have ew : wb 12 0 o (mem, blk, hdr, nI (sb sto), pw, rn, wr, cm) = (1, mem, va_cpy blk blk ((12 + o) * 8) (o * 8) 8, hdr, nI (sb sto), q, rn, wr + 1, cm) := by
      unfold wb; dsimp only; rw [wbb_1 h0, e12, e0, a8 (by omega), a8 (by omega), c8, eq]
    have eg : gr o mem blk = va_cpy blk blk ((12 + o) * 8) (o * 8) 8 := cpd_eq blk o ho
    refine Or.inr ⟨_, _, ew, (mw_1 h1).trans (by rw [eg]), ⟨mem, _, hdr, sto, q, en, q', wr + 1, cm, rfl, rfl, inv_rec hI ho, hq⟩, rfl, rfl⟩
def wh (x : Int32) (u : S0) : Int32 × S0 := F0_writeHeader u.1 u.2.1 u.2.2.1 u.2.2.2.1 u.2.2.2.2.1 u.2.2.2.2.2.1 u.2.2.2.2.2.2.1 u.2.2.2.2.2.2.2 x
theorem hdr_sim {u v : S0} (h : RelQ rn dn u v) {m : Nat} (hm : m < 4096) : Out rn dn 1 u (wh (nI m) u) (mw (gx (nI m)) v) := by
  obtain ⟨mem, blk, hdr, sto, pw, en, pw', wr, cm, rfl, rfl, hI, hp⟩ := h
  have z0 : (0 : Int32).toNatClampNeg = 0 := by decide
  have z192 : (192 : Int32).toNatClampNeg = 192 := by decide
  rcases may_cases (mem := mem) (blk := blk) (sto := sto) (dn := dn) (wr := wr) (cm := cm) hp with ⟨h0, h1⟩ | ⟨h0, q, q', hq, eq, h1⟩
  · refine Or.inl ⟨(mem, blk, upd hdr 0 (nI m), nI (sb sto), pw, 0, wr, cm), _, ?_, mw_0 h1, dn_rel (inv_h hI _) hp⟩
    unfold wh F0_writeHeader; dsimp only; rw [wbh_0 h0, z0]
  · have ew : wh (nI m) (mem, blk, hdr, nI (sb sto), pw, rn, wr, cm) = (1, mem, upd blk 192 (nI m), upd hdr 0 (nI m), nI (sb sto), q, rn, wr + 1, cm) := by
      unfold wh F0_writeHeader; dsimp only
      rw [wbh_1 h0, z0, show ((0 : Int32) * 8).toNatClampNeg = 0 from by decide, show ((24 : Int32) * 8).toNatClampNeg = 192 from by decide, c8, hdr_eq hdr blk (nI m) hI.1 hI.2.1, eq]
    have eg : gx (nI m) mem blk = upd blk 192 (nI m) := by unfold gx; rw [z192]
    refine Or.inr ⟨_, _, ew, (mw_1 h1).trans (by rw [eg]), ⟨mem, _, upd hdr 0 (nI m), sto, q, en, q', wr + 1, cm, rfl, rfl, inv_hdr hI hm _, hq⟩, rfl, rfl⟩
/-- runs -/
theorem run_sim {w : Nat → S0 → Int32 × S0} {g : Nat → (Nat → Int32) → (Nat → Int32) → Nat → Int32} (hs : ∀ (u v : S0) (o : Nat), RelQ rn dn u v → o < 12 → Out rn dn 1 u (w o u) (mw (g o) v)) :
    ∀ (t : List Nat) (u v : S0), (∀ o, o ∈ t → o < 12) → RelQ rn dn u v → Out rn dn t.length u (runL w t u) (runL (fun o => mw (g o)) t v) := by
  intro t
  induction t with
  | nil => intro u v _ h; exact Or.inr ⟨u, v, rfl, rfl, h, (Int32.add_zero _).symm, rfl⟩
  | cons o t ih =>
    intro u v ht h
    rcases hs u v o h (ht o List.mem_cons_self) with ⟨u', v', e0, e1, hr⟩ | ⟨u', v', e0, e1, hr, e2, e3⟩
    · exact Or.inl ⟨u', v', by rw [runL, e0]; rfl, by rw [runL, e1]; rfl, hr⟩
    · have f0 : runL w (o :: t) u = runL w t u' := by rw [runL, e0]; rfl
      have f1 : runL (fun o => mw (g o)) (o :: t) v = runL (fun o => mw (g o)) t v' := by rw [runL, e1]; rfl
      rw [f0, f1]
      rcases ih u' v' (fun o h => ht o (List.mem_cons_of_mem _ h)) hr with ⟨a, b, g0, g1, g2⟩ | ⟨a, b, g0, g1, g2, g3, g4⟩
      · exact Or.inl ⟨a, b, g0, g1, g2⟩
      · refine Or.inr ⟨a, b, g0, g1, g2, ?_, g4.trans e3⟩
        rw [g3, e2, Int32.add_assoc, nI_add, List.length_cons, Nat.add_comm]
end SD
end
section
/-! checkpoint and start, side by side -/
theorem pick1 {α : Type} {a b : α} : (if (1 : Int32) = 0 then a else b) = b := if_neg (by decide)
theorem pick0 {α : Type} {a b : α} : (if (0 : Int32) = 0 then a else b) = a := if_pos rfl
theorem wr_sub (w k : Int32) : w + k - w = k := by rw [Int32.add_comm]; exact Int32.add_sub_cancel _ _
section CK
variable {mem blk hdr sto : Nat → Int32} {pw en pw' rn dn wr cm : Int32}
theorem set_eq : f1_dirty mem blk sto 0 en pw' wr cm = nI (sb sto) := by
  unfold f1_dirty; rw [if_pos rfl, dt_all]
theorem num_eq {m : Nat} (hm : m < 4096) : f1_inSet mem blk sto dn en pw' wr cm (nI m) = nI (mbs m 12).length := by
  unfold f1_inSet
  have h := is_len (m := m) (by omega) 12 (Nat.le_refl _) 0
  rw [Nat.zero_add] at h
  exact h
theorem cp_hs1 {m : Nat} (hm : m < 4096) : ∀ (k o f : Nat) (v : S0), (mbs m 12)[k]? = some o → F1_cp (nI m) (nI (mbs m 12).length) (f + 1) (nI (0 + k)) v = (match mw (gl o) v with | (r, v1) => if r = 0 then (-2, v1) else F1_cp (nI m) (nI (mbs m 12).length) f (nI (0 + k + 1)) v1) := by
  intro k o f v h
  rw [Nat.zero_add]
  exact cp_log v (mbs_len m 12) (List.getElem?_eq_some_iff.mp h).1 (mb_get (by omega) 12 (Nat.le_refl _) k o h)
theorem cp_hs2 {m : Nat} (hm : m < 4096) : ∀ (k o f : Nat) (v : S0), (mbs m 12)[k]? = some o → F1_cp (nI m) (nI (mbs m 12).length) (f + 1) (nI ((mbs m 12).length + 1 + k)) v = (match mw (gh o) v with | (r, v1) => if r = 0 then (-2, v1) else F1_cp (nI m) (nI (mbs m 12).length) f (nI ((mbs m 12).length + 1 + k + 1)) v1) := by
  intro k o f v h
  exact cp_home v (mbs_len m 12) (List.getElem?_eq_some_iff.mp h).1 (mb_get (by omega) 12 (Nat.le_refl _) k o h)
theorem st_hs {m : Nat} (hm : m < 4096) : ∀ (k o f : Nat) (v : S0), (mbs m 12)[k]? = some o → F1_st (nI m) (nI ((mbs m 12).length + 1)) (f + 1) (nI (0 + k)) v = (match mw (gr o) v with | (r, v1) => if r = 0 then (-3, v1) else F1_st (nI m) (nI ((mbs m 12).length + 1)) f (nI (0 + k + 1)) v1) := by
  intro k o f v h
  rw [Nat.zero_add]
  exact st_rec v (mbs_len m 12) (List.getElem?_eq_some_iff.mp h).1 (mb_get (by omega) 12 (Nat.le_refl _) k o h)
theorem run_m {m : Nat} (hm : m < 4096) (ds x2 x3 : Int32) : F0_copyRows_m mem blk hdr ds pw rn wr cm (nI m) x2 x3 = runL (wm x2 x3) (mbs m 12) (mem, blk, hdr, ds, pw, rn, wr, cm) := cl_run_m (by omega) x2 x3 12 (Nat.le_refl _) _
theorem run_b {m : Nat} (hm : m < 4096) (ds x2 x3 : Int32) : F0_copyRows_b mem blk hdr ds pw rn wr cm (nI m) x2 x3 = runL (wb x2 x3) (mbs m 12) (mem, blk, hdr, ds, pw, rn, wr, cm) := cl_run_b (by omega) x2 x3 12 (Nat.le_refl _) _
theorem wh_eq (ds x : Int32) : F0_writeHeader mem blk hdr ds pw rn wr cm x = wh x (mem, blk, hdr, ds, pw, rn, wr, cm) := rfl
/-- a checkpoint that is cut off -/
theorem ck_cut {u' v' : S0} (hne : ¬ nI (sb sto) = 0) (h0 : F0_saveDirty mem blk hdr (nI (sb sto)) pw 1 wr cm = (0, u')) (h1 : F1_cp (nI (sb sto)) (nI (mbs (sb sto) 12).length) (2 * (mbs (sb sto) 12).length + 2) 0 (mem, blk, sto, 0, en, pw', wr, cm) = (-2, v')) (hr : Rel u' v') : Sim (F0_checkpoint mem blk hdr (nI (sb sto)) pw 1 wr cm) (F1_checkpoint mem blk sto 0 en pw' wr cm) := by
  have hl : ¬ nI (mbs (sb sto) 12).length = 0 := by
    refine nI_ne0 ?_ (by have := mbs_len (sb sto) 12; omega)
    rcases Nat.eq_zero_or_pos (mbs (sb sto) 12).length with q | q
    · exact absurd (by rw [mbs_nil (sb_lt sto) (List.length_eq_zero_iff.mp q)]; rfl) hne
    · exact q
  obtain ⟨mem', blk', hdr', sto', pw1, en', pw2, rn', dn', wr', cm', rfl, rfl, hI, hp, hu⟩ := id hr
  refine Sim.of (r := -2) ?_ ?_ hr
  · unfold F0_checkpoint
    rw [if_neg (by decide), h0]; rfl
  · unfold F1_checkpoint
    rw [if_pos rfl, set_eq, num_eq (sb_lt sto), if_neg hl, nI_clamp (by have := mbs_len (sb sto) 12; omega)]
    exact h1
set_option maxHeartbeats 4000000 in
theorem sim_checkpoint (hI : Inv mem blk hdr) (hp : PwR pw en pw') (hu : UpR rn dn) : Sim (F0_checkpoint mem blk hdr (nI (sb sto)) pw rn wr cm) (F1_checkpoint mem blk sto dn en pw' wr cm) := by
  rcases hu with ⟨rfl, rfl⟩ | ⟨rfl, rfl⟩
  · by_cases hz : sb sto = 0
    · have e0 : F0_checkpoint mem blk hdr (nI (sb sto)) pw 1 wr cm = (0, mem, blk, hdr, 0, pw, 1, wr, cm) := by
        unfold F0_checkpoint F0_saveDirty
        rw [if_neg (by decide), hz, if_pos nI_0]
        dsimp only
        rw [pick1, Int32.sub_self]
      have e1 : F1_checkpoint mem blk sto 0 en pw' wr cm = (0, mem, blk, sto, 0, en, pw', wr, cm) := by
        unfold F1_checkpoint
        rw [if_pos rfl, set_eq, num_eq (sb_lt sto), hz, mbs_0, List.length_nil, if_pos nI_0]
      refine Sim.of e0 e1 ?_
      have h := rel_mk (sto := sto) (wr := wr) (cm := cm) hI hp (rn := 1) (dn := 0) (Or.inl ⟨rfl, rfl⟩)
      rw [hz] at h
      exact h
    · have hlt := sb_lt sto
      have hne : ¬ nI (sb sto) = 0 := nI_ne0 (by omega) (by omega)
      have hll := mbs_len (sb sto) 12
      have hpos : 0 < (mbs (sb sto) 12).length := by
        rcases Nat.eq_zero_or_pos (mbs (sb sto) 12).length with q | q
        · exact absurd (mbs_nil hlt (List.length_eq_zero_iff.mp q)) hz
        · exact q
      have hL : ∀ o, o ∈ mbs (sb sto) 12 → o < 12 := mbs_lt (sb sto) 12 (Nat.le_refl _)
      generalize hM : sb sto = M at hne hlt hz hpos hll hL
      have hM2 : nI (sb sto) = nI M := by rw [hM]
      generalize hLL : (mbs M 12).length = nn at hpos hll
      have R0 : RelQ 1 0 (mem, blk, hdr, nI (sb sto), pw, 1, wr, cm) (mem, blk, sto, 0, en, pw', wr, cm) := ⟨mem, blk, hdr, sto, pw, en, pw', wr, cm, rfl, rfl, hI, hp⟩
      have P1 := ph_gen (F1_cp (nI M) (nI (mbs M 12).length)) (-2) (fun o => mw (gl o)) (mbs M 12) 0 (cp_hs1 hlt) (mbs M 12) [] (mem, blk, sto, 0, en, pw', wr, cm) (nn + 2) rfl
      rw [hLL, List.length_nil, show nn + (nn + 2) = 2 * nn + 2 by omega, Nat.zero_add, Nat.zero_add, nI_0] at P1
      have C1 : F0_copyRows_m mem blk hdr (nI M) pw 1 wr cm (nI M) 0 12 = runL (wm 0 12) (mbs M 12) (mem, blk, hdr, nI (sb sto), pw, 1, wr, cm) := by rw [run_m hlt, hM2]
      have cut : ∀ u' v' : S0, F0_saveDirty mem blk hdr (nI M) pw 1 wr cm = (0, u') → F1_cp (nI M) (nI nn) (2 * nn + 2) 0 (mem, blk, sto, 0, en, pw', wr, cm) = (-2, v') → Rel u' v' → Sim (F0_checkpoint mem blk hdr (nI M) pw 1 wr cm) (F1_checkpoint mem blk sto 0 en pw' wr cm) := by
        intro u' v' h0 h1 hr
        have h := ck_cut (mem := mem) (blk := blk) (hdr := hdr) (sto := sto) (pw := pw) (en := en) (pw' := pw') (wr := wr) (cm := cm) (u' := u') (v' := v')
        rw [hM, hLL] at h
        exact h hne h0 h1 hr
      rcases run_sim (rn := 1) (dn := 0) (w := wm 0 12) (g := gl) (fun u v o h ho => log_sim h ho) (mbs M 12) _ _ hL R0 with ⟨u', v', e0, e1, hr⟩ | ⟨u', v', e0, e1, hr, e2, e3⟩
      · rw [e1] at P1
        rw [e0] at C1
        obtain ⟨mem', blk', hdr', sto', pw1, en', pw2, rn', dn', wr', cm', rfl, rfl, -⟩ := id hr
        refine cut _ _ ?_ P1 hr
        unfold F0_saveDirty
        rw [if_neg hne, C1]; rfl
      rw [e1] at P1
      rw [e0] at C1
      obtain ⟨mem1, blk1, hdr1, sto1, pw1, en1, pw1', wr1, cm1, rfl, rfl, hI1, hp1⟩ := id hr
      dsimp only at P1 C1 e2 e3
      rw [pick1] at P1
      have e3 : nI (sb sto1) = nI M := e3.trans hM2
      have P2 := cp_hdr (m := M) (nn := nn) (f := nn + 1) (mem1, blk1, sto1, 0, en1, pw1', wr1, cm1) hll
      rcases hdr_sim hr (m := M) hlt with ⟨u', v', e0, e1, hr2⟩ | ⟨u', v', e0, e1, hr2, e4, e5⟩
      · rw [e1] at P2
        obtain ⟨mem', blk', hdr', sto', pw1, en', pw2, rn', dn', wr', cm', rfl, rfl, -⟩ := id hr2
        refine cut _ _ ?_ (P1.trans P2) hr2
        unfold F0_saveDirty
        rw [if_neg hne, C1]; dsimp only; rw [pick1, e3, wh_eq, ← e3]
        rw [e3] at e0 ⊢
        rw [e0]; rfl
      rw [e1] at P2
      obtain ⟨mem2, blk2, hdr2, sto2, pw2, en2, pw2', wr2, cm2, rfl, rfl, hI2, hp2⟩ := id hr2
      dsimp only at P2 e4 e5
      rw [pick1] at P2
      have e5 : nI (sb sto2) = nI M := e5.trans e3
      have R2 : RelQ 1 0 (mem2, blk2, hdr2, nI (sb sto2), pw2, 1, wr2, cm2 + 1) (mem2, blk2, sto2, 0, en2, pw2', wr2, cm2 + 1) := ⟨mem2, blk2, hdr2, sto2, pw2, en2, pw2', wr2, cm2 + 1, rfl, rfl, hI2, hp2⟩
      have C2 : F0_writeHeader mem1 blk1 hdr1 (nI M) pw1 1 wr1 cm1 (nI M) = (1, mem2, blk2, hdr2, nI M, pw2, 1, wr2, cm2) := by
        rw [e3, e5] at e0; exact e0
      have P3 := ph_gen (F1_cp (nI M) (nI (mbs M 12).length)) (-2) (fun o => mw (gh o)) (mbs M 12) (nn + 1) (by rw [← hLL]; exact cp_hs2 hlt) (mbs M 12) [] (mem2, blk2, sto2, 0, en2, pw2', wr2, cm2 + 1) 1 rfl
      rw [hLL, List.length_nil, Nat.add_zero, show nn + 1 + nn = 2 * nn + 1 by omega] at P3
      have C3 : F0_copyRows_m mem2 blk2 hdr2 (nI M) pw2 1 wr2 (cm2 + 1) (nI M) 0 0 = runL (wm 0 0) (mbs M 12) (mem2, blk2, hdr2, nI (sb sto2), pw2, 1, wr2, cm2 + 1) := by rw [run_m hlt, e5]
      rcases run_sim (rn := 1) (dn := 0) (w := wm 0 0) (g := gh) (fun u v o h ho => home_sim h ho) (mbs M 12) _ _ hL R2 with ⟨u', v', e0, e1, hr3⟩ | ⟨u', v', e0, e1, hr3, e6, e7⟩
      · rw [e1] at P3
        rw [e0] at C3
        obtain ⟨mem', blk', hdr', sto', pw1, en', pw2, rn', dn', wr', cm', rfl, rfl, -⟩ := id hr3
        refine cut _ _ ?_ (P1.trans (P2.trans P3)) hr3
        unfold F0_saveDirty
        rw [if_neg hne, C1]; dsimp only; rw [pick1, e3, C2]; dsimp only; rw [pick1, C3]; rfl
      rw [e1] at P3
      rw [e0] at C3
      obtain ⟨mem3, blk3, hdr3, sto3, pw3, en3, pw3', wr3, cm3, rfl, rfl, hI3, hp3⟩ := id hr3
      dsimp only at P3 C3 e6 e7
      rw [pick1] at P3
      have e7 : nI (sb sto3) = nI M := e7.trans e5
      have P4 := cp_end (m := M) (nn := nn) (f := 0) (mem3, blk3, sto3, 0, en3, pw3', wr3, cm3) hll
      rcases hdr_sim hr3 (m := 0) (by decide) with ⟨u', v', e0, e1, hr4⟩ | ⟨u', v', e0, e1, hr4, e8, e9⟩
      · rw [nI_0] at e1 e0
        rw [e1] at P4
        obtain ⟨mem', blk', hdr', sto', pw1, en', pw2, rn', dn', wr', cm', rfl, rfl, -⟩ := id hr4
        refine cut _ _ ?_ (P1.trans (P2.trans (P3.trans P4))) hr4
        have C4 : F0_writeHeader mem3 blk3 hdr3 (nI (sb sto3)) pw3 1 wr3 cm3 0 = _ := e0
        unfold F0_saveDirty
        rw [if_neg hne, C1]; dsimp only; rw [pick1, e3, C2]; dsimp only; rw [pick1, C3]; dsimp only; rw [pick1, C4]; rfl
      rw [nI_0] at e1 e0
      rw [e1] at P4
      obtain ⟨mem4, blk4, hdr4, sto4, pw4, en4, pw4', wr4, cm4, rfl, rfl, hI4, hp4⟩ := id hr4
      dsimp only at P4 e8 e9
      rw [pick1, F1_cp] at P4
      have C4 : F0_writeHeader mem3 blk3 hdr3 (nI (sb sto3)) pw3 1 wr3 cm3 0 = _ := e0
      have hl : ¬ nI nn = 0 := nI_ne0 hpos (by omega)
      have ew : wr4 - wr = 2 * nI nn + 2 := by
        rw [e8, e6, e4, e2, hLL, ck_t, Int32.add_assoc, Int32.add_assoc, Int32.add_assoc, nI_add, nI_add, nI_add, wr_sub]; congr 1; omega
      have a0 : F0_checkpoint mem blk hdr (nI M) pw 1 wr cm = (2 * nI nn + 2, mem4, blk4, hdr4, 0, pw4, 1, wr4, cm4) := by
        unfold F0_checkpoint F0_saveDirty
        rw [if_neg (by decide), if_neg hne, C1]; dsimp only; rw [pick1, e3, C2]; dsimp only; rw [pick1, C3]; dsimp only; rw [pick1, C4]; dsimp only; rw [pick1]; dsimp only; rw [pick1, ew]
      have a1 : F1_checkpoint mem blk sto 0 en pw' wr cm = (2 * nI nn + 2, mem4, blk4, rst 12 sto4, 0, en4, pw4', wr4, cm4) := by
        unfold F1_checkpoint
        rw [if_pos rfl, set_eq, num_eq (sb_lt sto), hM, hLL, if_neg hl, nI_clamp (by omega)]
        exact P1.trans (P2.trans (P3.trans P4))
      refine Sim.of a0 a1 ?_
      have h := rel_mk (sto := rst 12 sto4) (wr := wr4) (cm := cm4) hI4 hp4 (rn := 1) (dn := 0) (Or.inl ⟨rfl, rfl⟩)
      rw [sb_rst] at h
      exact h
  · exact Sim.of (r := -1) rfl rfl (rel_mk hI hp (Or.inr ⟨rfl, rfl⟩))
end CK
end
section
section ST
variable {mem blk hdr sto : Nat → Int32} {pw en pw' rn dn wr cm : Int32}
theorem z192 : (192 : Int32).toNatClampNeg = 192 := by decide
theorem z96 : (96 : Int32).toNatClampNeg = 96 := by decide
theorem z00 : (0 : Int32).toNatClampNeg = 0 := by decide
/-- what both do behind the recovery -/
theorem ld_rel (hI : Inv mem blk hdr) (hp : PwR pw en pw') : Rel (va_cpy blk mem 0 0 96, blk, hdr, 0, pw, 1, wr, cm) (ldm blk 96 mem, blk, rst 12 sto, 0, en, pw', wr, cm) := by
  rw [ldm_eq]
  obtain ⟨h1, h2, h3, h4, h5⟩ := hI
  have hk : KI (va_cpy blk mem 0 0 96) := fun j hj => by
    rw [pk_cpy_in (by omega) (by omega), show 0 + (j - 0) = j by omega]; exact h4 j hj
  have h := rel_mk (mem := va_cpy blk mem 0 0 96) (sto := rst 12 sto) (wr := wr) (cm := cm) ⟨h1, h2, hk, h4, h5⟩ hp (rn := 1) (dn := 0) (Or.inl ⟨rfl, rfl⟩)
  rw [sb_rst] at h
  exact h
theorem st_rec_sim (hI : Inv mem blk hdr) {x0 : Int32} (e1 : f0_isPower x0 = 1) (hx : PwR x0 (z1_start_34 x0) x0) (h1 : ¬ x0 < -1) (h2 : x0 ≤ 63) : Sim (F0_start mem blk hdr (nI (sb sto)) pw 0 wr cm x0) (F1_start mem blk sto 1 en pw' wr cm x0) := by
  obtain ⟨M, hM, eM⟩ : ∃ m : Nat, m < 4096 ∧ blk 192 = nI m := hI.2.2.2.2.2
  have np : ¬ f0_isPower x0 = 0 := by rw [e1]; decide
  by_cases hz : M = 0
  · subst hz
    have a0 : F0_start mem blk hdr (nI (sb sto)) pw 0 wr cm x0 = (0, va_cpy blk mem 0 0 96, blk, hdr, 0, x0, 1, wr, cm) := by
      unfold F0_start F0_finishCommitted
      rw [if_pos rfl, if_neg np, z192, z00, z96, eM, if_pos nI_0]; dsimp only; rw [pick1, Int32.sub_self]
    have a1 : F1_start mem blk sto 1 en pw' wr cm x0 = (0, ldm blk 96 mem, blk, rst 12 sto, 0, z1_start_34 x0, x0, wr, cm) := by
      unfold F1_start z1_start_66
      rw [if_neg (by decide), if_neg h1, if_pos h2, z192, eM, if_pos nI_0, z00, F1_st]
    exact Sim.of a0 a1 (ld_rel hI hx)
  · have hne : ¬ nI M = 0 := nI_ne0 (by omega) (by omega)
    have hll := mbs_len M 12
    have hL : ∀ o, o ∈ mbs M 12 → o < 12 := mbs_lt M 12 (Nat.le_refl _)
    have R0 : RelQ 0 1 (mem, blk, hdr, nI (sb sto), x0, 0, wr, cm) (mem, blk, sto, 1, z1_start_34 x0, x0, wr, cm) := ⟨mem, blk, hdr, sto, x0, z1_start_34 x0, x0, wr, cm, rfl, rfl, hI, hx⟩
    generalize hLL : (mbs M 12).length = nn at hll
    have a1 : F1_start mem blk sto 1 en pw' wr cm x0 = F1_st (nI M) (nI (nn + 1)) (nn + 1) 0 (mem, blk, sto, 1, z1_start_34 x0, x0, wr, cm) := by
      unfold F1_start z1_start_66
      rw [if_neg (by decide), if_neg h1, if_pos h2, z192, eM, if_neg hne, num_eq hM, nI_1, hLL, nI_clamp (by omega)]
    have P1 := ph_gen (F1_st (nI M) (nI ((mbs M 12).length + 1))) (-3) (fun o => mw (gr o)) (mbs M 12) 0 (st_hs hM) (mbs M 12) [] (mem, blk, sto, 1, z1_start_34 x0, x0, wr, cm) 1 rfl
    rw [hLL, List.length_nil, Nat.zero_add, Nat.zero_add, nI_0] at P1
    have C1 : F0_copyRows_b mem blk hdr (nI (sb sto)) x0 0 wr cm (nI M) 12 0 = runL (wb 12 0) (mbs M 12) (mem, blk, hdr, nI (sb sto), x0, 0, wr, cm) := run_b hM _ _ _
    rcases run_sim (rn := 0) (dn := 1) (w := wb 12 0) (g := gr) (fun u v o h ho => rec_sim h ho) (mbs M 12) _ _ hL R0 with ⟨u', v', e0, e1, hr⟩ | ⟨u', v', e0, e1, hr, e2, e3⟩
    · rw [e1] at P1
      rw [e0] at C1
      obtain ⟨mem', blk', hdr', sto', pwx, en', pwy, rn', dn', wr', cm', rfl, rfl, -⟩ := id hr
      refine Sim.of (r := -3) ?_ (a1.trans P1) hr
      unfold F0_start F0_finishCommitted
      rw [if_pos rfl, if_neg np, z192, eM, if_neg hne, C1]; rfl
    rw [e1] at P1
    rw [e0] at C1
    obtain ⟨mem1, blk1, hdr1, sto1, pw1, en1, pw1', wr1, cm1, rfl, rfl, hI1, hp1⟩ := id hr
    dsimp only at P1 C1 e2 e3
    rw [pick1] at P1
    have P2 := st_end (m := M) (nn := nn) (f := 0) (mem1, blk1, sto1, 1, en1, pw1', wr1, cm1) hll
    rcases hdr_sim hr (m := 0) (by decide) with ⟨u', v', e0, e1, hr4⟩ | ⟨u', v', e0, e1, hr4, e8, e9⟩
    · rw [nI_0] at e1 e0
      rw [e1] at P2
      obtain ⟨mem', blk', hdr', sto', pwx, en', pwy, rn', dn', wr', cm', rfl, rfl, -⟩ := id hr4
      refine Sim.of (r := -3) ?_ (a1.trans (P1.trans P2)) hr4
      have C4 : F0_writeHeader mem1 blk1 hdr1 (nI (sb sto1)) pw1 0 wr1 cm1 0 = _ := e0
      unfold F0_start F0_finishCommitted
      rw [if_pos rfl, if_neg np, z192, eM, if_neg hne, C1]; dsimp only; rw [pick1, C4]; rfl
    rw [nI_0] at e1 e0
    rw [e1] at P2
    obtain ⟨mem4, blk4, hdr4, sto4, pw4, en4, pw4', wr4, cm4, rfl, rfl, hI4, hp4⟩ := id hr4
    dsimp only at P2 e8 e9
    rw [pick1, F1_st] at P2
    have C4 : F0_writeHeader mem1 blk1 hdr1 (nI (sb sto1)) pw1 0 wr1 cm1 0 = _ := e0
    have ew : wr4 - wr = nI (nn + 1) := by
      rw [e8, e2, hLL, Int32.add_assoc, nI_add, wr_sub]
    have a0 : F0_start mem blk hdr (nI (sb sto)) pw 0 wr cm x0 = (nI (nn + 1), va_cpy blk4 mem4 0 0 96, blk4, hdr4, 0, pw4, 1, wr4, cm4) := by
      unfold F0_start F0_finishCommitted
      rw [if_pos rfl, if_neg np, z192, z00, z96, eM, if_neg hne, C1]; dsimp only; rw [pick1, C4]; dsimp only; rw [pick1]; dsimp only; rw [pick1, ew]
    exact Sim.of a0 (a1.trans (P1.trans P2)) (ld_rel hI4 hp4)
theorem sim_start (hI : Inv mem blk hdr) (hp : PwR pw en pw') (hu : UpR rn dn) (x0 : Int32) : Sim (F0_start mem blk hdr (nI (sb sto)) pw rn wr cm x0) (F1_start mem blk sto dn en pw' wr cm x0) := by
  rcases hu with ⟨rfl, rfl⟩ | ⟨rfl, rfl⟩
  · exact Sim.of (r := -1) rfl rfl (rel_mk hI hp (Or.inl ⟨rfl, rfl⟩))
  · rcases z_pow x0 with ⟨e, c1, c2, c3⟩ | ⟨e, c⟩
    · refine st_rec_sim hI e ?_ c1 c2
      unfold z1_start_34
      rcases c3 with rfl | ⟨n, hn, c4, rfl⟩
      · exact Or.inl ⟨if_pos rfl, rfl⟩
      · exact Or.inr ⟨if_neg c4, n, hn, rfl, rfl⟩
    · refine Sim.of (r := -2) (by unfold F0_start; rw [if_pos rfl, if_pos e]) (v := (mem, blk, sto, 1, en, pw', wr, cm)) ?_ (rel_mk hI hp (Or.inr ⟨rfl, rfl⟩))
      unfold F1_start
      rw [if_neg (by decide)]
      by_cases c1 : x0 < -1
      · rw [if_pos c1]
      · rcases c with c | c
        · exact absurd c c1
        · rw [if_neg c1, if_neg c]
end ST
end
section
abbrev II : Type := Nat × Nat × Nat × ClassId × ClassId × ClassId
abbrev Z0 : S0 := (fun _ => 0, fun _ => 0, fun _ => 0, 0, -1, 1, 0, 0)
abbrev Z1 : S0 := (fun _ => 0, fun _ => 0, fun _ => 0, 0, 1, 0, 0, 0)
set_option maxHeartbeats 4000000 in
set_option maxRecDepth 100000 in
theorem m0_init (l : Launch) (dC : Nat → ClassId) (dI : Nat → Nat → Nat) (h0 sz : Nat) : Met l yX0_init wsX0_init ({ frames := 1, cells := 3, slots := 304, locals := 12 }) (va_Pc [.ref h0] (fun U => U.heap.size = sz ∧ va_P (dC, dI) vwCl [(h0, .inr (0, [.null, .null, .null, .int 0, .int 0, .int 0, .int 0, .int 0]))] U.heap ∧ va_K (dC, dI) vwCl [] U ∧ va_D (fun _ => True) [(h0, .inr (0, [.null, .null, .null, .int 0, .int 0, .int 0, .int 0, .int 0]))])) (va_Qv (fun (_ : II) => True) (fun (u : II) (t : State) => va_P (dC, dI) vwCl (w0 h0 u.1 u.2.1 u.2.2.1 u.2.2.2.1 u.2.2.2.2.1 u.2.2.2.2.2 Z0) t.heap ∧ va_K (dC, dI) vwCl (k0 u.2.2.2.1 u.2.2.2.2.1 u.2.2.2.2.2) t ∧ va_D (va_A [(h0, .inr (0, [.null, .null, .null, .int 0, .int 0, .int 0, .int 0, .int 0]))] sz) (w0 h0 u.1 u.2.1 u.2.2.1 u.2.2.2.1 u.2.2.2.2.1 u.2.2.2.2.2 Z0)) (va_A [(h0, .inr (0, [.null, .null, .null, .int 0, .int 0, .int 0, .int 0, .int 0]))] sz)) 3 304 (va_A [(h0, .inr (0, [.null, .null, .null, .int 0, .int 0, .int 0, .int 0, .int 0]))] sz) := by
  refine Met.ofW (cc := cX0_init) (maxL := 1) (ret := none) (by decide) rfl ?_
  intro p e s m args below meth c s₁ B hml hv
  obtain ⟨rfl, hsz, hP, hK, hD0⟩ := hv
  have hx := B.exec
  have hb := B.bytes
  have hr := B.returns
  have hts := atoms_spec (ws := wsX0_init) B.pre
  have hown : s.vm.findClass RX0 = some m.cls := findClass_of_methodNamed B.named
  have hlocks := B.notSynchronized
  have hnm : meth.name = "<init>" := (name_of_methodNamed B.named B.method).1
  have hin : ∀ w ∈ wsX00, w ∈ wsX0_init := fun _ h => List.mem_cons_of_mem _ (List.mem_append_right _ h)
  subst hsz
  have hD := hD0.self (sz := s.heap.size)
  generalize hAe : va_A [(h0, .inr (0, [.null, .null, .null, .int 0, .int 0, .int 0, .int 0, .int 0]))] s.heap.size = A at hD ⊢
  have hA : ∀ q : Nat, s.heap.size ≤ q → A q := fun q h => by rw [← hAe]; exact Or.inr h
  have hS : va_S A s.heap s.heap [] := va_S.rf
  have hl := lv_entry ([.ref h0]) (n := 1) (Nat.le_of_ble_eq_true rfl)
  rw [lg_entry_eq]
  generalize (lg_sl ([.ref h0]) ++ List.replicate (1 - (lg_sl ([.ref h0])).length) Slot.unset).toArray = ls at hl ⊢
  have hl : lv_has ls 1 [(0, .ref h0)] := hl
  refine lv_aload_n hx hb dX0_init_0 rfl (lv_at hl 0 rfl) ?_
  refine W.objInit hx hb hown (hts (.methodLink RX0 3 objectInit) (by decide +kernel)) (hts (.instanceMethod objectInit) (by decide +kernel)) (hts _ (List.mem_cons_of_mem _ (List.mem_append_left _ (List.mem_of_getElem? (i := 2) rfl)))) rfl (by rw [hml]; exact hl.1) rfl dX0_init_1 (Nat.le_of_ble_eq_true rfl) (Nat.le_of_ble_eq_true rfl) ?_
  refine W.eq (g2 := F0 m 4 ls []) rfl ?_
  refine lv_aload_n hx hb dX0_init_4 rfl (lv_at hl 0 rfl) ?_
  refine lv_bipush (v := 96) hx hb dX0_init_5 (by decide) ?_
  refine va_newa (atype := .int) (n := 96) (ty := .int) (a0 := (96, .inl (fun _ => 0))) (N' := 96) hx hb (hts (.arrayClass .int) (by decide +kernel)) rfl hK hP hD hS hA (fun _ => rfl) (by decide) (by decide) (by decide) (Nat.le_of_ble_eq_true rfl) (Nat.le_of_ble_eq_true rfl) dX0_init_7 (fun g1 c1 H hK hP hD hS => ?_)
  have hP : va_P (dC, dI) vwCl [(h0, .inr (0, [.null, .null, .null, .int 0, .int 0, .int 0, .int 0, .int 0])), (g1, .inl (c1, 96, .inl (fun _ => 0)))] _ := hP
  have hD : va_D A [(h0, .inr (0, [.null, .null, .null, .int 0, .int 0, .int 0, .int 0, .int 0])), (g1, .inl (c1, 96, .inl (fun _ => 0)))] := hD
  have hK : va_K (dC, dI) vwCl [(c1, .int)] s := hK
  refine va_putF (D := (dC, dI)) (ci := 0) (v := .ref g1) (ty := .array .int) (C := RX0) (T := TX0) (N := 8) hx hb hts hin tyX0 tyX0_ok nmX0 hown hK hP hD hS 0 rfl rfl 0 (by decide) (hts (.fieldLink RX0 9 "CapStore" "memory" "[I") (by decide +kernel)) (fun _ h9 => h9) rfl hnm rfl (by decide +kernel) rfl rfl (Nat.le_of_ble_eq_true rfl) dX0_init_9 (fun H locs hP hD hS => ?_)
  have hP : va_P (dC, dI) vwCl [(h0, .inr (0, [.ref g1, .null, .null, .int 0, .int 0, .int 0, .int 0, .int 0])), (g1, .inl (c1, 96, .inl (fun _ => 0)))] _ := hP
  have hD : va_D A [(h0, .inr (0, [.ref g1, .null, .null, .int 0, .int 0, .int 0, .int 0, .int 0])), (g1, .inl (c1, 96, .inl (fun _ => 0)))] := hD
  refine lv_aload_n hx hb dX0_init_12 rfl (lv_at hl 0 rfl) ?_
  refine lv_sipush (v := 200) hx hb dX0_init_13 (by decide) ?_
  refine va_newa (atype := .int) (n := 200) (ty := .int) (a0 := (200, .inl (fun _ => 0))) (N' := 200) hx hb (hts (.arrayClass .int) (by decide +kernel)) rfl hK hP hD hS hA (fun _ => rfl) (by decide) (by decide) (by decide) (Nat.le_of_ble_eq_true rfl) (Nat.le_of_ble_eq_true rfl) dX0_init_16 (fun g2 c2 H hK hP hD hS => ?_)
  have hP : va_P (dC, dI) vwCl [(h0, .inr (0, [.ref g1, .null, .null, .int 0, .int 0, .int 0, .int 0, .int 0])), (g1, .inl (c1, 96, .inl (fun _ => 0))), (g2, .inl (c2, 200, .inl (fun _ => 0)))] _ := hP
  have hD : va_D A [(h0, .inr (0, [.ref g1, .null, .null, .int 0, .int 0, .int 0, .int 0, .int 0])), (g1, .inl (c1, 96, .inl (fun _ => 0))), (g2, .inl (c2, 200, .inl (fun _ => 0)))] := hD
  have hK : va_K (dC, dI) vwCl [(c1, .int), (c2, .int)] s := hK
  refine va_putF (D := (dC, dI)) (ci := 0) (v := .ref g2) (ty := .array .int) (C := RX0) (T := TX0) (N := 8) hx hb hts hin tyX0 tyX0_ok nmX0 hown hK hP hD hS 0 rfl rfl 1 (by decide) (hts (.fieldLink RX0 13 "CapStore" "blocks" "[I") (by decide +kernel)) (fun _ h9 => h9) rfl hnm rfl (by decide +kernel) rfl rfl (Nat.le_of_ble_eq_true rfl) dX0_init_18 (fun H locs hP hD hS => ?_)
  have hP : va_P (dC, dI) vwCl [(h0, .inr (0, [.ref g1, .ref g2, .null, .int 0, .int 0, .int 0, .int 0, .int 0])), (g1, .inl (c1, 96, .inl (fun _ => 0))), (g2, .inl (c2, 200, .inl (fun _ => 0)))] _ := hP
  have hD : va_D A [(h0, .inr (0, [.ref g1, .ref g2, .null, .int 0, .int 0, .int 0, .int 0, .int 0])), (g1, .inl (c1, 96, .inl (fun _ => 0))), (g2, .inl (c2, 200, .inl (fun _ => 0)))] := hD
  refine lv_aload_n hx hb dX0_init_21 rfl (lv_at hl 0 rfl) ?_
  refine lv_bipush (v := 8) hx hb dX0_init_22 (by decide) ?_
  refine va_newa (atype := .int) (n := 8) (ty := .int) (a0 := (8, .inl (fun _ => 0))) (N' := 8) hx hb (hts (.arrayClass .int) (by decide +kernel)) rfl hK hP hD hS hA (fun _ => rfl) (by decide) (by decide) (by decide) (Nat.le_of_ble_eq_true rfl) (Nat.le_of_ble_eq_true rfl) dX0_init_24 (fun g3 c3 H hK hP hD hS => ?_)
  have hP : va_P (dC, dI) vwCl [(h0, .inr (0, [.ref g1, .ref g2, .null, .int 0, .int 0, .int 0, .int 0, .int 0])), (g1, .inl (c1, 96, .inl (fun _ => 0))), (g2, .inl (c2, 200, .inl (fun _ => 0))), (g3, .inl (c3, 8, .inl (fun _ => 0)))] _ := hP
  have hD : va_D A [(h0, .inr (0, [.ref g1, .ref g2, .null, .int 0, .int 0, .int 0, .int 0, .int 0])), (g1, .inl (c1, 96, .inl (fun _ => 0))), (g2, .inl (c2, 200, .inl (fun _ => 0))), (g3, .inl (c3, 8, .inl (fun _ => 0)))] := hD
  have hK : va_K (dC, dI) vwCl [(c1, .int), (c2, .int), (c3, .int)] s := hK
  refine va_putF (D := (dC, dI)) (ci := 0) (v := .ref g3) (ty := .array .int) (C := RX0) (T := TX0) (N := 8) hx hb hts hin tyX0 tyX0_ok nmX0 hown hK hP hD hS 0 rfl rfl 2 (by decide) (hts (.fieldLink RX0 16 "CapStore" "headerRow" "[I") (by decide +kernel)) (fun _ h9 => h9) rfl hnm rfl (by decide +kernel) rfl rfl (Nat.le_of_ble_eq_true rfl) dX0_init_26 (fun H locs hP hD hS => ?_)
  have hP : va_P (dC, dI) vwCl [(h0, .inr (0, [.ref g1, .ref g2, .ref g3, .int 0, .int 0, .int 0, .int 0, .int 0])), (g1, .inl (c1, 96, .inl (fun _ => 0))), (g2, .inl (c2, 200, .inl (fun _ => 0))), (g3, .inl (c3, 8, .inl (fun _ => 0)))] _ := hP
  have hD : va_D A [(h0, .inr (0, [.ref g1, .ref g2, .ref g3, .int 0, .int 0, .int 0, .int 0, .int 0])), (g1, .inl (c1, 96, .inl (fun _ => 0))), (g2, .inl (c2, 200, .inl (fun _ => 0))), (g3, .inl (c3, 8, .inl (fun _ => 0)))] := hD
  refine lv_aload_n hx hb dX0_init_29 rfl (lv_at hl 0 rfl) ?_
  refine lv_iconst (v := 0) hx hb dX0_init_30 (by decide) ?_
  refine va_put (D := (dC, dI)) (ci := 0) (v := .int 0) (ty := .int) (C := RX0) (T := TX0) (N := 8) hx hb hts hin tyX0 tyX0_ok nmX0 hown hK hP hD hS 0 rfl rfl 3 (by decide) (hts (.fieldLink RX0 19 "CapStore" "dirtySet" "I") (by decide +kernel)) (fun _ h9 => h9) rfl (by decide +kernel) rfl rfl (Nat.le_of_ble_eq_true rfl) dX0_init_31 (fun H locs hP hD hS => ?_)
  have hP : va_P (dC, dI) vwCl [(h0, .inr (0, [.ref g1, .ref g2, .ref g3, .int 0, .int 0, .int 0, .int 0, .int 0])), (g1, .inl (c1, 96, .inl (fun _ => 0))), (g2, .inl (c2, 200, .inl (fun _ => 0))), (g3, .inl (c3, 8, .inl (fun _ => 0)))] _ := hP
  have hD : va_D A [(h0, .inr (0, [.ref g1, .ref g2, .ref g3, .int 0, .int 0, .int 0, .int 0, .int 0])), (g1, .inl (c1, 96, .inl (fun _ => 0))), (g2, .inl (c2, 200, .inl (fun _ => 0))), (g3, .inl (c3, 8, .inl (fun _ => 0)))] := hD
  refine lv_aload_n hx hb dX0_init_34 rfl (lv_at hl 0 rfl) ?_
  refine lv_iconst (v := (-1)) hx hb dX0_init_35 (by decide) ?_
  refine va_put (D := (dC, dI)) (ci := 0) (v := .int (-1)) (ty := .int) (C := RX0) (T := TX0) (N := 8) hx hb hts hin tyX0 tyX0_ok nmX0 hown hK hP hD hS 0 rfl rfl 4 (by decide) (hts (.fieldLink RX0 23 "CapStore" "powerLeft" "I") (by decide +kernel)) (fun _ h9 => h9) rfl (by decide +kernel) rfl rfl (Nat.le_of_ble_eq_true rfl) dX0_init_36 (fun H locs hP hD hS => ?_)
  have hP : va_P (dC, dI) vwCl [(h0, .inr (0, [.ref g1, .ref g2, .ref g3, .int 0, .int (-1), .int 0, .int 0, .int 0])), (g1, .inl (c1, 96, .inl (fun _ => 0))), (g2, .inl (c2, 200, .inl (fun _ => 0))), (g3, .inl (c3, 8, .inl (fun _ => 0)))] _ := hP
  have hD : va_D A [(h0, .inr (0, [.ref g1, .ref g2, .ref g3, .int 0, .int (-1), .int 0, .int 0, .int 0])), (g1, .inl (c1, 96, .inl (fun _ => 0))), (g2, .inl (c2, 200, .inl (fun _ => 0))), (g3, .inl (c3, 8, .inl (fun _ => 0)))] := hD
  refine lv_aload_n hx hb dX0_init_39 rfl (lv_at hl 0 rfl) ?_
  refine lv_iconst (v := 1) hx hb dX0_init_40 (by decide) ?_
  refine va_put (D := (dC, dI)) (ci := 0) (v := .int 1) (ty := .boolean) (C := RX0) (T := TX0) (N := 8) hx hb hts hin tyX0 tyX0_ok nmX0 hown hK hP hD hS 0 rfl rfl 5 (by decide) (hts (.fieldLink RX0 26 "CapStore" "running" "Z") (by decide +kernel)) (fun _ h9 => h9) rfl (by decide +kernel) rfl rfl (Nat.le_of_ble_eq_true rfl) dX0_init_41 (fun H locs hP hD hS => ?_)
  have hP : va_P (dC, dI) vwCl [(h0, .inr (0, [.ref g1, .ref g2, .ref g3, .int 0, .int (-1), .int 1, .int 0, .int 0])), (g1, .inl (c1, 96, .inl (fun _ => 0))), (g2, .inl (c2, 200, .inl (fun _ => 0))), (g3, .inl (c3, 8, .inl (fun _ => 0)))] _ := hP
  have hD : va_D A [(h0, .inr (0, [.ref g1, .ref g2, .ref g3, .int 0, .int (-1), .int 1, .int 0, .int 0])), (g1, .inl (c1, 96, .inl (fun _ => 0))), (g2, .inl (c2, 200, .inl (fun _ => 0))), (g3, .inl (c3, 8, .inl (fun _ => 0)))] := hD
  refine lv_aload_n hx hb dX0_init_44 rfl (lv_at hl 0 rfl) ?_
  refine lv_iconst (v := 0) hx hb dX0_init_45 (by decide) ?_
  refine va_put (D := (dC, dI)) (ci := 0) (v := .int 0) (ty := .int) (C := RX0) (T := TX0) (N := 8) hx hb hts hin tyX0 tyX0_ok nmX0 hown hK hP hD hS 0 rfl rfl 6 (by decide) (hts (.fieldLink RX0 30 "CapStore" "written" "I") (by decide +kernel)) (fun _ h9 => h9) rfl (by decide +kernel) rfl rfl (Nat.le_of_ble_eq_true rfl) dX0_init_46 (fun H locs hP hD hS => ?_)
  have hP : va_P (dC, dI) vwCl [(h0, .inr (0, [.ref g1, .ref g2, .ref g3, .int 0, .int (-1), .int 1, .int 0, .int 0])), (g1, .inl (c1, 96, .inl (fun _ => 0))), (g2, .inl (c2, 200, .inl (fun _ => 0))), (g3, .inl (c3, 8, .inl (fun _ => 0)))] _ := hP
  have hD : va_D A [(h0, .inr (0, [.ref g1, .ref g2, .ref g3, .int 0, .int (-1), .int 1, .int 0, .int 0])), (g1, .inl (c1, 96, .inl (fun _ => 0))), (g2, .inl (c2, 200, .inl (fun _ => 0))), (g3, .inl (c3, 8, .inl (fun _ => 0)))] := hD
  refine lv_aload_n hx hb dX0_init_49 rfl (lv_at hl 0 rfl) ?_
  refine lv_iconst (v := 0) hx hb dX0_init_50 (by decide) ?_
  refine va_put (D := (dC, dI)) (ci := 0) (v := .int 0) (ty := .int) (C := RX0) (T := TX0) (N := 8) hx hb hts hin tyX0 tyX0_ok nmX0 hown hK hP hD hS 0 rfl rfl 7 (by decide) (hts (.fieldLink RX0 33 "CapStore" "committed" "I") (by decide +kernel)) (fun _ h9 => h9) rfl (by decide +kernel) rfl rfl (Nat.le_of_ble_eq_true rfl) dX0_init_51 (fun H locs hP hD hS => ?_)
  have hP : va_P (dC, dI) vwCl [(h0, .inr (0, [.ref g1, .ref g2, .ref g3, .int 0, .int (-1), .int 1, .int 0, .int 0])), (g1, .inl (c1, 96, .inl (fun _ => 0))), (g2, .inl (c2, 200, .inl (fun _ => 0))), (g3, .inl (c3, 8, .inl (fun _ => 0)))] _ := hP
  have hD : va_D A [(h0, .inr (0, [.ref g1, .ref g2, .ref g3, .int 0, .int (-1), .int 1, .int 0, .int 0])), (g1, .inl (c1, 96, .inl (fun _ => 0))), (g2, .inl (c2, 200, .inl (fun _ => 0))), (g3, .inl (c3, 8, .inl (fun _ => 0)))] := hD
  refine W.widen (k := 3) (n := 304) (by decide) (by decide) ?_
  exact W.vret hx hb hr (fun t ht hW => ⟨⟨(g1, g2, g3, c1, c2, c3), rfl, trivial, by rw [ht]; exact hP, va_K.moved hW.alike hK, hD⟩, hS.F ht⟩) hS.2.2 dX0_init_54
set_option maxHeartbeats 4000000 in
set_option maxRecDepth 100000 in
theorem m1_init (l : Launch) (dC : Nat → ClassId) (dI : Nat → Nat → Nat) (h0 sz : Nat) : Met l yX1_init wsX1_init ({ frames := 1, cells := 3, slots := 308, locals := 12 }) (va_Pc [.ref h0] (fun U => U.heap.size = sz ∧ va_P (dC, dI) vwCl [(h0, .inr (1, [.null, .null, .null, .int 0, .int 0, .int 0, .int 0, .int 0]))] U.heap ∧ va_K (dC, dI) vwCl [] U ∧ va_D (fun _ => True) [(h0, .inr (1, [.null, .null, .null, .int 0, .int 0, .int 0, .int 0, .int 0]))])) (va_Qv (fun (_ : II) => True) (fun (u : II) (t : State) => va_P (dC, dI) vwCl (w1 h0 u.1 u.2.1 u.2.2.1 u.2.2.2.1 u.2.2.2.2.1 u.2.2.2.2.2 Z1) t.heap ∧ va_K (dC, dI) vwCl (k1 u.2.2.2.1 u.2.2.2.2.1 u.2.2.2.2.2) t ∧ va_D (va_A [(h0, .inr (1, [.null, .null, .null, .int 0, .int 0, .int 0, .int 0, .int 0]))] sz) (w1 h0 u.1 u.2.1 u.2.2.1 u.2.2.2.1 u.2.2.2.2.1 u.2.2.2.2.2 Z1)) (va_A [(h0, .inr (1, [.null, .null, .null, .int 0, .int 0, .int 0, .int 0, .int 0]))] sz)) 3 308 (va_A [(h0, .inr (1, [.null, .null, .null, .int 0, .int 0, .int 0, .int 0, .int 0]))] sz) := by
  refine Met.ofW (cc := cX1_init) (maxL := 1) (ret := none) (by decide) rfl ?_
  intro p e s m args below meth c s₁ B hml hv
  obtain ⟨rfl, hsz, hP, hK, hD0⟩ := hv
  have hx := B.exec
  have hb := B.bytes
  have hr := B.returns
  have hts := atoms_spec (ws := wsX1_init) B.pre
  have hown : s.vm.findClass RX1 = some m.cls := findClass_of_methodNamed B.named
  have hlocks := B.notSynchronized
  have hnm : meth.name = "<init>" := (name_of_methodNamed B.named B.method).1
  have hin : ∀ w ∈ wsX10, w ∈ wsX1_init := fun _ h => List.mem_cons_of_mem _ (List.mem_append_right _ h)
  subst hsz
  have hD := hD0.self (sz := s.heap.size)
  generalize hAe : va_A [(h0, .inr (1, [.null, .null, .null, .int 0, .int 0, .int 0, .int 0, .int 0]))] s.heap.size = A at hD ⊢
  have hA : ∀ q : Nat, s.heap.size ≤ q → A q := fun q h => by rw [← hAe]; exact Or.inr h
  have hS : va_S A s.heap s.heap [] := va_S.rf
  have hl := lv_entry ([.ref h0]) (n := 1) (Nat.le_of_ble_eq_true rfl)
  rw [lg_entry_eq]
  generalize (lg_sl ([.ref h0]) ++ List.replicate (1 - (lg_sl ([.ref h0])).length) Slot.unset).toArray = ls at hl ⊢
  have hl : lv_has ls 1 [(0, .ref h0)] := hl
  refine lv_aload_n hx hb dX1_init_0 rfl (lv_at hl 0 rfl) ?_
  refine W.objInit hx hb hown (hts (.methodLink RX1 1 objectInit) (by decide +kernel)) (hts (.instanceMethod objectInit) (by decide +kernel)) (hts _ (List.mem_cons_of_mem _ (List.mem_append_left _ (List.mem_of_getElem? (i := 2) rfl)))) rfl (by rw [hml]; exact hl.1) rfl dX1_init_1 (Nat.le_of_ble_eq_true rfl) (Nat.le_of_ble_eq_true rfl) ?_
  refine W.eq (g2 := F0 m 4 ls []) rfl ?_
  refine lv_aload_n hx hb dX1_init_4 rfl (lv_at hl 0 rfl) ?_
  refine lv_bipush (v := 96) hx hb dX1_init_5 (by decide) ?_
  refine va_newa (atype := .int) (n := 96) (ty := .int) (a0 := (96, .inl (fun _ => 0))) (N' := 96) hx hb (hts (.arrayClass .int) (by decide +kernel)) rfl hK hP hD hS hA (fun _ => rfl) (by decide) (by decide) (by decide) (Nat.le_of_ble_eq_true rfl) (Nat.le_of_ble_eq_true rfl) dX1_init_7 (fun g1 c1 H hK hP hD hS => ?_)
  have hP : va_P (dC, dI) vwCl [(h0, .inr (1, [.null, .null, .null, .int 0, .int 0, .int 0, .int 0, .int 0])), (g1, .inl (c1, 96, .inl (fun _ => 0)))] _ := hP
  have hD : va_D A [(h0, .inr (1, [.null, .null, .null, .int 0, .int 0, .int 0, .int 0, .int 0])), (g1, .inl (c1, 96, .inl (fun _ => 0)))] := hD
  have hK : va_K (dC, dI) vwCl [(c1, .int)] s := hK
  refine va_putF (D := (dC, dI)) (ci := 1) (v := .ref g1) (ty := .array .int) (C := RX1) (T := TX1) (N := 8) hx hb hts hin tyX1 tyX1_ok nmX1 hown hK hP hD hS 0 rfl rfl 0 (by decide) (hts (.fieldLink RX1 7 "CapStoreModel" "memory" "[I") (by decide +kernel)) (fun _ h9 => h9) rfl hnm rfl (by decide +kernel) rfl rfl (Nat.le_of_ble_eq_true rfl) dX1_init_9 (fun H locs hP hD hS => ?_)
  have hP : va_P (dC, dI) vwCl [(h0, .inr (1, [.ref g1, .null, .null, .int 0, .int 0, .int 0, .int 0, .int 0])), (g1, .inl (c1, 96, .inl (fun _ => 0)))] _ := hP
  have hD : va_D A [(h0, .inr (1, [.ref g1, .null, .null, .int 0, .int 0, .int 0, .int 0, .int 0])), (g1, .inl (c1, 96, .inl (fun _ => 0)))] := hD
  refine lv_aload_n hx hb dX1_init_12 rfl (lv_at hl 0 rfl) ?_
  refine lv_sipush (v := 200) hx hb dX1_init_13 (by decide) ?_
  refine va_newa (atype := .int) (n := 200) (ty := .int) (a0 := (200, .inl (fun _ => 0))) (N' := 200) hx hb (hts (.arrayClass .int) (by decide +kernel)) rfl hK hP hD hS hA (fun _ => rfl) (by decide) (by decide) (by decide) (Nat.le_of_ble_eq_true rfl) (Nat.le_of_ble_eq_true rfl) dX1_init_16 (fun g2 c2 H hK hP hD hS => ?_)
  have hP : va_P (dC, dI) vwCl [(h0, .inr (1, [.ref g1, .null, .null, .int 0, .int 0, .int 0, .int 0, .int 0])), (g1, .inl (c1, 96, .inl (fun _ => 0))), (g2, .inl (c2, 200, .inl (fun _ => 0)))] _ := hP
  have hD : va_D A [(h0, .inr (1, [.ref g1, .null, .null, .int 0, .int 0, .int 0, .int 0, .int 0])), (g1, .inl (c1, 96, .inl (fun _ => 0))), (g2, .inl (c2, 200, .inl (fun _ => 0)))] := hD
  have hK : va_K (dC, dI) vwCl [(c1, .int), (c2, .int)] s := hK
  refine va_putF (D := (dC, dI)) (ci := 1) (v := .ref g2) (ty := .array .int) (C := RX1) (T := TX1) (N := 8) hx hb hts hin tyX1 tyX1_ok nmX1 hown hK hP hD hS 0 rfl rfl 1 (by decide) (hts (.fieldLink RX1 13 "CapStoreModel" "disk" "[I") (by decide +kernel)) (fun _ h9 => h9) rfl hnm rfl (by decide +kernel) rfl rfl (Nat.le_of_ble_eq_true rfl) dX1_init_18 (fun H locs hP hD hS => ?_)
  have hP : va_P (dC, dI) vwCl [(h0, .inr (1, [.ref g1, .ref g2, .null, .int 0, .int 0, .int 0, .int 0, .int 0])), (g1, .inl (c1, 96, .inl (fun _ => 0))), (g2, .inl (c2, 200, .inl (fun _ => 0)))] _ := hP
  have hD : va_D A [(h0, .inr (1, [.ref g1, .ref g2, .null, .int 0, .int 0, .int 0, .int 0, .int 0])), (g1, .inl (c1, 96, .inl (fun _ => 0))), (g2, .inl (c2, 200, .inl (fun _ => 0)))] := hD
  refine lv_aload_n hx hb dX1_init_21 rfl (lv_at hl 0 rfl) ?_
  refine lv_bipush (v := 12) hx hb dX1_init_22 (by decide) ?_
  refine va_newa (atype := .boolean) (n := 12) (ty := .boolean) (a0 := (12, .inl (fun _ => 0))) (N' := 12) hx hb (hts (.arrayClass .boolean) (by decide +kernel)) rfl hK hP hD hS hA (fun _ => rfl) (by decide) (by decide) (by decide) (Nat.le_of_ble_eq_true rfl) (Nat.le_of_ble_eq_true rfl) dX1_init_24 (fun g3 c3 H hK hP hD hS => ?_)
  have hP : va_P (dC, dI) vwCl [(h0, .inr (1, [.ref g1, .ref g2, .null, .int 0, .int 0, .int 0, .int 0, .int 0])), (g1, .inl (c1, 96, .inl (fun _ => 0))), (g2, .inl (c2, 200, .inl (fun _ => 0))), (g3, .inl (c3, 12, .inl (fun _ => 0)))] _ := hP
  have hD : va_D A [(h0, .inr (1, [.ref g1, .ref g2, .null, .int 0, .int 0, .int 0, .int 0, .int 0])), (g1, .inl (c1, 96, .inl (fun _ => 0))), (g2, .inl (c2, 200, .inl (fun _ => 0))), (g3, .inl (c3, 12, .inl (fun _ => 0)))] := hD
  have hK : va_K (dC, dI) vwCl [(c1, .int), (c2, .int), (c3, .boolean)] s := hK
  refine va_putF (D := (dC, dI)) (ci := 1) (v := .ref g3) (ty := .array .boolean) (C := RX1) (T := TX1) (N := 8) hx hb hts hin tyX1 tyX1_ok nmX1 hown hK hP hD hS 0 rfl rfl 2 (by decide) (hts (.fieldLink RX1 16 "CapStoreModel" "stored" "[Z") (by decide +kernel)) (fun _ h9 => h9) rfl hnm rfl (by decide +kernel) rfl rfl (Nat.le_of_ble_eq_true rfl) dX1_init_26 (fun H locs hP hD hS => ?_)
  have hP : va_P (dC, dI) vwCl [(h0, .inr (1, [.ref g1, .ref g2, .ref g3, .int 0, .int 0, .int 0, .int 0, .int 0])), (g1, .inl (c1, 96, .inl (fun _ => 0))), (g2, .inl (c2, 200, .inl (fun _ => 0))), (g3, .inl (c3, 12, .inl (fun _ => 0)))] _ := hP
  have hD : va_D A [(h0, .inr (1, [.ref g1, .ref g2, .ref g3, .int 0, .int 0, .int 0, .int 0, .int 0])), (g1, .inl (c1, 96, .inl (fun _ => 0))), (g2, .inl (c2, 200, .inl (fun _ => 0))), (g3, .inl (c3, 12, .inl (fun _ => 0)))] := hD
  refine lv_aload_n hx hb dX1_init_29 rfl (lv_at hl 0 rfl) ?_
  refine lv_iconst (v := 1) hx hb dX1_init_30 (by decide) ?_
  refine va_put (D := (dC, dI)) (ci := 1) (v := .int 1) (ty := .boolean) (C := RX1) (T := TX1) (N := 8) hx hb hts hin tyX1 tyX1_ok nmX1 hown hK hP hD hS 0 rfl rfl 4 (by decide) (hts (.fieldLink RX1 20 "CapStoreModel" "endless" "Z") (by decide +kernel)) (fun _ h9 => h9) rfl (by decide +kernel) rfl rfl (Nat.le_of_ble_eq_true rfl) dX1_init_31 (fun H locs hP hD hS => ?_)
  have hP : va_P (dC, dI) vwCl [(h0, .inr (1, [.ref g1, .ref g2, .ref g3, .int 0, .int 1, .int 0, .int 0, .int 0])), (g1, .inl (c1, 96, .inl (fun _ => 0))), (g2, .inl (c2, 200, .inl (fun _ => 0))), (g3, .inl (c3, 12, .inl (fun _ => 0)))] _ := hP
  have hD : va_D A [(h0, .inr (1, [.ref g1, .ref g2, .ref g3, .int 0, .int 1, .int 0, .int 0, .int 0])), (g1, .inl (c1, 96, .inl (fun _ => 0))), (g2, .inl (c2, 200, .inl (fun _ => 0))), (g3, .inl (c3, 12, .inl (fun _ => 0)))] := hD
  refine W.widen (k := 3) (n := 308) (by decide) (by decide) ?_
  exact W.vret hx hb hr (fun t ht hW => ⟨⟨(g1, g2, g3, c1, c2, c3), rfl, trivial, by rw [ht]; exact hP, va_K.moved hW.alike hK, hD⟩, hS.F ht⟩) hS.2.2 dX1_init_34
end
