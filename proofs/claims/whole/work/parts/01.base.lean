-- ===== PART A: goes FIRST, ahead of the names: the tables' words, and 'selects' of the private methods out of them =====
/-- a private method of a class that the tables say can be made, by its rows of tables_1 -/
def lw_okq (q : MethodName × Nat) : Prop := (q.1.cls ≠ "java/lang/invoke/MethodHandle" ∧ q.1.cls ≠ "java/lang/invoke/VarHandle") ∧ Cond.instantiable q.1.cls q.2 ∈ tables_1 ∧ Cond.privateMethod q.1 ∈ tables_1 ∧ Cond.instanceMethod q.1 ∈ tables_1
theorem lw_p0 : lw_okq (⟨"CapStore", "refusal", "(Z)I"⟩, 8) := ⟨⟨by decide +kernel, by decide +kernel⟩, List.mem_of_getElem? (i := 5) (by decide +kernel), List.mem_of_getElem? (i := 52) (by decide +kernel), List.mem_of_getElem? (i := 53) (by decide +kernel)⟩
theorem lw_p1 : lw_okq (⟨"CapStore", "put", "(III)V"⟩, 8) := ⟨⟨by decide +kernel, by decide +kernel⟩, List.mem_of_getElem? (i := 5) (by decide +kernel), List.mem_of_getElem? (i := 56) (by decide +kernel), List.mem_of_getElem? (i := 57) (by decide +kernel)⟩
theorem lw_p2 : lw_okq (⟨"CapStore", "nodeRefusal", "(IIZ)I"⟩, 8) := ⟨⟨by decide +kernel, by decide +kernel⟩, List.mem_of_getElem? (i := 5) (by decide +kernel), List.mem_of_getElem? (i := 64) (by decide +kernel), List.mem_of_getElem? (i := 65) (by decide +kernel)⟩
theorem lw_p3 : lw_okq (⟨"CapStore", "get", "(II)I"⟩, 8) := ⟨⟨by decide +kernel, by decide +kernel⟩, List.mem_of_getElem? (i := 5) (by decide +kernel), List.mem_of_getElem? (i := 71) (by decide +kernel), List.mem_of_getElem? (i := 72) (by decide +kernel)⟩
theorem lw_p4 : lw_okq (⟨"CapStore", "pageRefusal", "(IIZ)I"⟩, 8) := ⟨⟨by decide +kernel, by decide +kernel⟩, List.mem_of_getElem? (i := 5) (by decide +kernel), List.mem_of_getElem? (i := 101) (by decide +kernel), List.mem_of_getElem? (i := 102) (by decide +kernel)⟩
theorem lw_p5 : lw_okq (⟨"CapStore", "saveDirty", "()Z"⟩, 8) := ⟨⟨by decide +kernel, by decide +kernel⟩, List.mem_of_getElem? (i := 5) (by decide +kernel), List.mem_of_getElem? (i := 128) (by decide +kernel), List.mem_of_getElem? (i := 129) (by decide +kernel)⟩
theorem lw_p6 : lw_okq (⟨"CapStore", "copyRows", "(I[III)Z"⟩, 8) := ⟨⟨by decide +kernel, by decide +kernel⟩, List.mem_of_getElem? (i := 5) (by decide +kernel), List.mem_of_getElem? (i := 132) (by decide +kernel), List.mem_of_getElem? (i := 133) (by decide +kernel)⟩
theorem lw_p7 : lw_okq (⟨"CapStore", "writeBlock", "(I[II)Z"⟩, 8) := ⟨⟨by decide +kernel, by decide +kernel⟩, List.mem_of_getElem? (i := 5) (by decide +kernel), List.mem_of_getElem? (i := 139) (by decide +kernel), List.mem_of_getElem? (i := 140) (by decide +kernel)⟩
theorem lw_p8 : lw_okq (⟨"CapStore", "writeHeader", "(I)Z"⟩, 8) := ⟨⟨by decide +kernel, by decide +kernel⟩, List.mem_of_getElem? (i := 5) (by decide +kernel), List.mem_of_getElem? (i := 146) (by decide +kernel), List.mem_of_getElem? (i := 147) (by decide +kernel)⟩
theorem lw_p9 : lw_okq (⟨"CapStore", "finishCommitted", "()Z"⟩, 8) := ⟨⟨by decide +kernel, by decide +kernel⟩, List.mem_of_getElem? (i := 5) (by decide +kernel), List.mem_of_getElem? (i := 165) (by decide +kernel), List.mem_of_getElem? (i := 166) (by decide +kernel)⟩
theorem lw_p10 : lw_okq (⟨"CapStore", "loadHomes", "()V"⟩, 8) := ⟨⟨by decide +kernel, by decide +kernel⟩, List.mem_of_getElem? (i := 5) (by decide +kernel), List.mem_of_getElem? (i := 169) (by decide +kernel), List.mem_of_getElem? (i := 170) (by decide +kernel)⟩
theorem lw_p11 : lw_okq (⟨"CapStoreModel", "put", "(III)V"⟩, 8) := ⟨⟨by decide +kernel, by decide +kernel⟩, List.mem_of_getElem? (i := 207) (by decide +kernel), List.mem_of_getElem? (i := 246) (by decide +kernel), List.mem_of_getElem? (i := 247) (by decide +kernel)⟩
theorem lw_p12 : lw_okq (⟨"CapStoreModel", "refusal", "(IIIZZ)I"⟩, 8) := ⟨⟨by decide +kernel, by decide +kernel⟩, List.mem_of_getElem? (i := 207) (by decide +kernel), List.mem_of_getElem? (i := 254) (by decide +kernel), List.mem_of_getElem? (i := 255) (by decide +kernel)⟩
theorem lw_p13 : lw_okq (⟨"CapStoreModel", "inSet", "(I)I"⟩, 8) := ⟨⟨by decide +kernel, by decide +kernel⟩, List.mem_of_getElem? (i := 207) (by decide +kernel), List.mem_of_getElem? (i := 299) (by decide +kernel), List.mem_of_getElem? (i := 300) (by decide +kernel)⟩
theorem lw_p14 : lw_okq (⟨"CapStoreModel", "may", "()Z"⟩, 8) := ⟨⟨by decide +kernel, by decide +kernel⟩, List.mem_of_getElem? (i := 207) (by decide +kernel), List.mem_of_getElem? (i := 303) (by decide +kernel), List.mem_of_getElem? (i := 304) (by decide +kernel)⟩
theorem lw_p15 : lw_okq (⟨"CapStoreModel", "header", "(I)V"⟩, 8) := ⟨⟨by decide +kernel, by decide +kernel⟩, List.mem_of_getElem? (i := 207) (by decide +kernel), List.mem_of_getElem? (i := 307) (by decide +kernel), List.mem_of_getElem? (i := 308) (by decide +kernel)⟩
def lw_privs_1 : List (MethodName × Nat) := [(⟨"CapStore", "refusal", "(Z)I"⟩, 8), (⟨"CapStore", "put", "(III)V"⟩, 8), (⟨"CapStore", "nodeRefusal", "(IIZ)I"⟩, 8), (⟨"CapStore", "get", "(II)I"⟩, 8), (⟨"CapStore", "pageRefusal", "(IIZ)I"⟩, 8), (⟨"CapStore", "saveDirty", "()Z"⟩, 8), (⟨"CapStore", "copyRows", "(I[III)Z"⟩, 8), (⟨"CapStore", "writeBlock", "(I[II)Z"⟩, 8), (⟨"CapStore", "writeHeader", "(I)Z"⟩, 8), (⟨"CapStore", "finishCommitted", "()Z"⟩, 8), (⟨"CapStore", "loadHomes", "()V"⟩, 8), (⟨"CapStoreModel", "put", "(III)V"⟩, 8), (⟨"CapStoreModel", "refusal", "(IIIZZ)I"⟩, 8), (⟨"CapStoreModel", "inSet", "(I)I"⟩, 8), (⟨"CapStoreModel", "may", "()Z"⟩, 8), (⟨"CapStoreModel", "header", "(I)V"⟩, 8)]
theorem lw_r1 : ∀ q ∈ lw_privs_1, lw_okq q := List.forall_mem_cons.mpr ⟨lw_p0, List.forall_mem_cons.mpr ⟨lw_p1, List.forall_mem_cons.mpr ⟨lw_p2, List.forall_mem_cons.mpr ⟨lw_p3, List.forall_mem_cons.mpr ⟨lw_p4, List.forall_mem_cons.mpr ⟨lw_p5, List.forall_mem_cons.mpr ⟨lw_p6, List.forall_mem_cons.mpr ⟨lw_p7, List.forall_mem_cons.mpr ⟨lw_p8, List.forall_mem_cons.mpr ⟨lw_p9, List.forall_mem_cons.mpr ⟨lw_p10, List.forall_mem_cons.mpr ⟨lw_p11, List.forall_mem_cons.mpr ⟨lw_p12, List.forall_mem_cons.mpr ⟨lw_p13, List.forall_mem_cons.mpr ⟨lw_p14, List.forall_mem_cons.mpr ⟨lw_p15, fun _ h => absurd h List.not_mem_nil⟩⟩⟩⟩⟩⟩⟩⟩⟩⟩⟩⟩⟩⟩⟩⟩
theorem lw_p16 : lw_okq (⟨"CapStoreModel", "member", "(II)I"⟩, 8) := ⟨⟨by decide +kernel, by decide +kernel⟩, List.mem_of_getElem? (i := 207) (by decide +kernel), List.mem_of_getElem? (i := 311) (by decide +kernel), List.mem_of_getElem? (i := 312) (by decide +kernel)⟩
def lw_privs_2 : List (MethodName × Nat) := [(⟨"CapStoreModel", "member", "(II)I"⟩, 8)]
theorem lw_r2 : ∀ q ∈ lw_privs_2, lw_okq q := List.forall_mem_cons.mpr ⟨lw_p16, fun _ h => absurd h List.not_mem_nil⟩
def lw_privs : List (MethodName × Nat) := lw_privs_1 ++ (lw_privs_2)
def lw_tbl : List Cond := k2_sels lw_privs ++ tables_1
theorem lw_privs_ok : ∀ q ∈ lw_privs, lw_okq q := by
  show ∀ q ∈ lw_privs_1 ++ (lw_privs_2), lw_okq q
  exact List.forall_mem_append.mpr ⟨lw_r1, lw_r2⟩
/-! ===== BEGIN words of one list among another's, by their places ===== -/
theorem goodIn_r {big : List Cond} (ws : List Cond) (ps : List Nat) (hp : ws = ps.filterMap (fun i => big[i]?)) (h : ws.all goodWord = true) : GoodIn big ws := by
  intro w hw
  have h1 := List.all_eq_true.mp h w hw
  rw [hp] at hw
  obtain ⟨i, -, hi⟩ := List.mem_filterMap.mp hw
  have hm : w ∈ big := by first | exact List.mem_of_getElem? hi | exact List.getElem?_mem hi
  exact ⟨hm, good_of_word h1⟩
theorem goodIn_app {big a b : List Cond} (ha : GoodIn big a) (hb : GoodIn big b) : GoodIn big (a ++ b) := fun w h => (List.mem_append.mp h).elim (ha w) (hb w)
theorem goodIn_ca {big a b : List Cond} {c : Cond} (ha : GoodIn big (c :: a)) (hb : GoodIn big b) : GoodIn big (c :: (a ++ b)) := fun w h => (List.mem_cons.mp h).elim (fun e => ha w (List.mem_cons.mpr (Or.inl e))) (fun h => (List.mem_append.mp h).elim (fun h => ha w (List.mem_cons.mpr (Or.inr h))) (hb w))
theorem goodIn_sub {big ws : List Cond} (hm : ∀ w ∈ ws, w ∈ big) (h : ws.all goodWord = true) : GoodIn big ws := fun w hw => ⟨hm w hw, good_of_word (List.all_eq_true.mp h w hw)⟩
/-! ===== END ===== -/

/-! ===== BEGIN printed: names, fields, word lists, decode rows ===== -/
def RX0 : String := "CapStore"
def TX0 : u_T := fun k => match k with
  | 0 => ("CapStore", "memory", "[I", true)
  | 1 => ("CapStore", "blocks", "[I", true)
  | 2 => ("CapStore", "headerRow", "[I", true)
  | 3 => ("CapStore", "dirtySet", "I", false)
  | 4 => ("CapStore", "powerLeft", "I", false)
  | 5 => ("CapStore", "running", "Z", false)
  | 6 => ("CapStore", "written", "I", false)
  | _ => ("CapStore", "committed", "I", false)
def tyX0 : Nat → FieldType := fun k => match k with
  | 0 => .array .int
  | 1 => .array .int
  | 2 => .array .int
  | 3 => .int
  | 4 => .int
  | 5 => .boolean
  | 6 => .int
  | _ => .int
abbrev wsX00 : List Cond := u_ws RX0 TX0 8
theorem nmX0 : ∀ a, a < 8 → ∀ b, b < 8 → a ≠ b → (TX0 a).2.1 ≠ (TX0 b).2.1 := by decide +kernel
theorem tyX0_ok : ∀ k, k < 8 → parseFieldDescriptor (TX0 k).2.2.1 = some (tyX0 k) := by decide +kernel
abbrev cX0_init : ByteArray := prog_1_method_1_code
def yX0_init : MethodName := ⟨RX0, "<init>", "()V"⟩
abbrev cX0_place : ByteArray := prog_1_method_2_code
def yX0_place : MethodName := ⟨RX0, "place", "(III)I"⟩
abbrev cX0_fetch : ByteArray := prog_1_method_3_code
def yX0_fetch : MethodName := ⟨RX0, "fetch", "(IIII)I"⟩
abbrev cX0_store : ByteArray := prog_1_method_4_code
def yX0_store : MethodName := ⟨RX0, "store", "(IIII)I"⟩
abbrev cX0_read : ByteArray := prog_1_method_5_code
def yX0_read : MethodName := ⟨RX0, "read", "(III)J"⟩
abbrev cX0_write : ByteArray := prog_1_method_6_code
def yX0_write : MethodName := ⟨RX0, "write", "(IIII)I"⟩
abbrev cX0_restrict : ByteArray := prog_1_method_7_code
def yX0_restrict : MethodName := ⟨RX0, "restrict", "(IIII)I"⟩
abbrev cX0_clear : ByteArray := prog_1_method_8_code
def yX0_clear : MethodName := ⟨RX0, "clear", "(II)I"⟩
abbrev cX0_checkpoint : ByteArray := prog_1_method_9_code
def yX0_checkpoint : MethodName := ⟨RX0, "checkpoint", "()I"⟩
abbrev cX0_power : ByteArray := prog_1_method_10_code
def yX0_power : MethodName := ⟨RX0, "power", "(I)I"⟩
abbrev cX0_crash : ByteArray := prog_1_method_11_code
def yX0_crash : MethodName := ⟨RX0, "crash", "()Z"⟩
abbrev cX0_start : ByteArray := prog_1_method_12_code
def yX0_start : MethodName := ⟨RX0, "start", "(I)I"⟩
abbrev cX0_isUp : ByteArray := prog_1_method_13_code
def yX0_isUp : MethodName := ⟨RX0, "isUp", "()Z"⟩
abbrev cX0_key : ByteArray := prog_1_method_14_code
def yX0_key : MethodName := ⟨RX0, "key", "(II)I"⟩
abbrev cX0_word : ByteArray := prog_1_method_15_code
def yX0_word : MethodName := ⟨RX0, "word", "(II)J"⟩
abbrev cX0_dirty : ByteArray := prog_1_method_16_code
def yX0_dirty : MethodName := ⟨RX0, "dirty", "()I"⟩
abbrev cX0_disk : ByteArray := prog_1_method_17_code
def yX0_disk : MethodName := ⟨RX0, "disk", "(II)I"⟩
abbrev cX0_writes : ByteArray := prog_1_method_18_code
def yX0_writes : MethodName := ⟨RX0, "writes", "()I"⟩
abbrev cX0_commits : ByteArray := prog_1_method_19_code
def yX0_commits : MethodName := ⟨RX0, "commits", "()I"⟩
abbrev cX0_refusal : ByteArray := prog_1_method_20_code
def yX0_refusal : MethodName := ⟨RX0, "refusal", "(Z)I"⟩
abbrev cX0_nodeRefusal : ByteArray := prog_1_method_21_code
def yX0_nodeRefusal : MethodName := ⟨RX0, "nodeRefusal", "(IIZ)I"⟩
abbrev cX0_pageRefusal : ByteArray := prog_1_method_22_code
def yX0_pageRefusal : MethodName := ⟨RX0, "pageRefusal", "(IIZ)I"⟩
abbrev cX0_isNode : ByteArray := prog_1_method_23_code
def yX0_isNode : MethodName := ⟨RX0, "isNode", "(I)Z"⟩
abbrev cX0_isPage : ByteArray := prog_1_method_24_code
def yX0_isPage : MethodName := ⟨RX0, "isPage", "(I)Z"⟩
abbrev cX0_isInRow : ByteArray := prog_1_method_25_code
def yX0_isInRow : MethodName := ⟨RX0, "isInRow", "(I)Z"⟩
abbrev cX0_isRegister : ByteArray := prog_1_method_26_code
def yX0_isRegister : MethodName := ⟨RX0, "isRegister", "(II)Z"⟩
abbrev cX0_isLimits : ByteArray := prog_1_method_27_code
def yX0_isLimits : MethodName := ⟨RX0, "isLimits", "(I)Z"⟩
abbrev cX0_isPower : ByteArray := prog_1_method_28_code
def yX0_isPower : MethodName := ⟨RX0, "isPower", "(I)Z"⟩
abbrev cX0_isBlock : ByteArray := prog_1_method_29_code
def yX0_isBlock : MethodName := ⟨RX0, "isBlock", "(I)Z"⟩
abbrev cX0_isKey : ByteArray := prog_1_method_30_code
def yX0_isKey : MethodName := ⟨RX0, "isKey", "(I)Z"⟩
abbrev cX0_isNodeKey : ByteArray := prog_1_method_31_code
def yX0_isNodeKey : MethodName := ⟨RX0, "isNodeKey", "(I)Z"⟩
abbrev cX0_isPageKey : ByteArray := prog_1_method_32_code
def yX0_isPageKey : MethodName := ⟨RX0, "isPageKey", "(I)Z"⟩
abbrev cX0_objectOf : ByteArray := prog_1_method_33_code
def yX0_objectOf : MethodName := ⟨RX0, "objectOf", "(I)I"⟩
abbrev cX0_limitsOf : ByteArray := prog_1_method_34_code
def yX0_limitsOf : MethodName := ⟨RX0, "limitsOf", "(I)I"⟩
abbrev cX0_isWriting : ByteArray := prog_1_method_35_code
def yX0_isWriting : MethodName := ⟨RX0, "isWriting", "(I)Z"⟩
abbrev cX0_isWeak : ByteArray := prog_1_method_36_code
def yX0_isWeak : MethodName := ⟨RX0, "isWeak", "(I)Z"⟩
abbrev cX0_limited : ByteArray := prog_1_method_37_code
def yX0_limited : MethodName := ⟨RX0, "limited", "(II)I"⟩
abbrev cX0_get : ByteArray := prog_1_method_38_code
def yX0_get : MethodName := ⟨RX0, "get", "(II)I"⟩
abbrev cX0_put : ByteArray := prog_1_method_39_code
def yX0_put : MethodName := ⟨RX0, "put", "(III)V"⟩
abbrev cX0_has : ByteArray := prog_1_method_40_code
def yX0_has : MethodName := ⟨RX0, "has", "(II)Z"⟩
abbrev cX0_saveDirty : ByteArray := prog_1_method_41_code
def yX0_saveDirty : MethodName := ⟨RX0, "saveDirty", "()Z"⟩
abbrev cX0_finishCommitted : ByteArray := prog_1_method_42_code
def yX0_finishCommitted : MethodName := ⟨RX0, "finishCommitted", "()Z"⟩
abbrev cX0_loadHomes : ByteArray := prog_1_method_43_code
def yX0_loadHomes : MethodName := ⟨RX0, "loadHomes", "()V"⟩
abbrev cX0_copyRows : ByteArray := prog_1_method_44_code
def yX0_copyRows : MethodName := ⟨RX0, "copyRows", "(I[III)Z"⟩
abbrev cX0_writeHeader : ByteArray := prog_1_method_45_code
def yX0_writeHeader : MethodName := ⟨RX0, "writeHeader", "(I)Z"⟩
abbrev cX0_writeBlock : ByteArray := prog_1_method_46_code
def yX0_writeBlock : MethodName := ⟨RX0, "writeBlock", "(I[II)Z"⟩
def RX1 : String := "CapStoreModel"
def TX1 : u_T := fun k => match k with
  | 0 => ("CapStoreModel", "memory", "[I", true)
  | 1 => ("CapStoreModel", "disk", "[I", true)
  | 2 => ("CapStoreModel", "stored", "[Z", true)
  | 3 => ("CapStoreModel", "down", "Z", false)
  | 4 => ("CapStoreModel", "endless", "Z", false)
  | 5 => ("CapStoreModel", "power", "I", false)
  | 6 => ("CapStoreModel", "writes", "I", false)
  | _ => ("CapStoreModel", "commits", "I", false)
def tyX1 : Nat → FieldType := fun k => match k with
  | 0 => .array .int
  | 1 => .array .int
  | 2 => .array .boolean
  | 3 => .boolean
  | 4 => .boolean
  | 5 => .int
  | 6 => .int
  | _ => .int
abbrev wsX10 : List Cond := u_ws RX1 TX1 8
theorem nmX1 : ∀ a, a < 8 → ∀ b, b < 8 → a ≠ b → (TX1 a).2.1 ≠ (TX1 b).2.1 := by decide +kernel
theorem tyX1_ok : ∀ k, k < 8 → parseFieldDescriptor (TX1 k).2.2.1 = some (tyX1 k) := by decide +kernel
abbrev cX1_init : ByteArray := prog_3_method_1_code
def yX1_init : MethodName := ⟨RX1, "<init>", "()V"⟩
abbrev cX1_eight : ByteArray := prog_3_method_2_code
def yX1_eight : MethodName := ⟨RX1, "eight", "(I)Z"⟩
abbrev cX1_third : ByteArray := prog_3_method_3_code
def yX1_third : MethodName := ⟨RX1, "third", "(I)Z"⟩
abbrev cX1_object : ByteArray := prog_3_method_4_code
def yX1_object : MethodName := ⟨RX1, "object", "(I)I"⟩
abbrev cX1_limits : ByteArray := prog_3_method_5_code
def yX1_limits : MethodName := ⟨RX1, "limits", "(I)I"⟩
abbrev cX1_limited : ByteArray := prog_3_method_6_code
def yX1_limited : MethodName := ⟨RX1, "limited", "(II)I"⟩
abbrev cX1_put : ByteArray := prog_3_method_7_code
def yX1_put : MethodName := ⟨RX1, "put", "(III)V"⟩
abbrev cX1_place : ByteArray := prog_3_method_8_code
def yX1_place : MethodName := ⟨RX1, "place", "(III)I"⟩
abbrev cX1_refusal : ByteArray := prog_3_method_9_code
def yX1_refusal : MethodName := ⟨RX1, "refusal", "(IIIZZ)I"⟩
abbrev cX1_fetch : ByteArray := prog_3_method_10_code
def yX1_fetch : MethodName := ⟨RX1, "fetch", "(IIII)I"⟩
abbrev cX1_store : ByteArray := prog_3_method_11_code
def yX1_store : MethodName := ⟨RX1, "store", "(IIII)I"⟩
abbrev cX1_read : ByteArray := prog_3_method_12_code
def yX1_read : MethodName := ⟨RX1, "read", "(III)J"⟩
abbrev cX1_write : ByteArray := prog_3_method_13_code
def yX1_write : MethodName := ⟨RX1, "write", "(IIII)I"⟩
abbrev cX1_restrict : ByteArray := prog_3_method_14_code
def yX1_restrict : MethodName := ⟨RX1, "restrict", "(IIII)I"⟩
abbrev cX1_clear : ByteArray := prog_3_method_15_code
def yX1_clear : MethodName := ⟨RX1, "clear", "(II)I"⟩
abbrev cX1_inSet : ByteArray := prog_3_method_16_code
def yX1_inSet : MethodName := ⟨RX1, "inSet", "(I)I"⟩
abbrev cX1_member : ByteArray := prog_3_method_17_code
def yX1_member : MethodName := ⟨RX1, "member", "(II)I"⟩
abbrev cX1_may : ByteArray := prog_3_method_18_code
def yX1_may : MethodName := ⟨RX1, "may", "()Z"⟩
abbrev cX1_header : ByteArray := prog_3_method_19_code
def yX1_header : MethodName := ⟨RX1, "header", "(I)V"⟩
abbrev cX1_checkpoint : ByteArray := prog_3_method_20_code
def yX1_checkpoint : MethodName := ⟨RX1, "checkpoint", "()I"⟩
abbrev cX1_power : ByteArray := prog_3_method_21_code
def yX1_power : MethodName := ⟨RX1, "power", "(I)I"⟩
abbrev cX1_crash : ByteArray := prog_3_method_22_code
def yX1_crash : MethodName := ⟨RX1, "crash", "()Z"⟩
abbrev cX1_start : ByteArray := prog_3_method_23_code
def yX1_start : MethodName := ⟨RX1, "start", "(I)I"⟩
abbrev cX1_isUp : ByteArray := prog_3_method_24_code
def yX1_isUp : MethodName := ⟨RX1, "isUp", "()Z"⟩
abbrev cX1_key : ByteArray := prog_3_method_25_code
def yX1_key : MethodName := ⟨RX1, "key", "(II)I"⟩
abbrev cX1_word : ByteArray := prog_3_method_26_code
def yX1_word : MethodName := ⟨RX1, "word", "(II)J"⟩
abbrev cX1_dirty : ByteArray := prog_3_method_27_code
def yX1_dirty : MethodName := ⟨RX1, "dirty", "()I"⟩
abbrev cX1_disk : ByteArray := prog_3_method_28_code
def yX1_disk : MethodName := ⟨RX1, "disk", "(II)I"⟩
abbrev cX1_writes : ByteArray := prog_3_method_29_code
def yX1_writes : MethodName := ⟨RX1, "writes", "()I"⟩
abbrev cX1_commits : ByteArray := prog_3_method_30_code
def yX1_commits : MethodName := ⟨RX1, "commits", "()I"⟩
def RJ10 : String := "java/lang/System"
def TJ10 : u_T := fun k => match k with
  | _ => ("", "", "", false)
def tyJ10 : Nat → FieldType := fun k => match k with
  | _ => .int
abbrev wsJ100 : List Cond := u_ws RJ10 TJ10 0
theorem nmJ10 : ∀ a, a < 0 → ∀ b, b < 0 → a ≠ b → (TJ10 a).2.1 ≠ (TJ10 b).2.1 := by decide +kernel
theorem tyJ10_ok : ∀ k, k < 0 → parseFieldDescriptor (TJ10 k).2.2.1 = some (tyJ10 k) := by decide +kernel
def RL : String := "CapStoreLaw"
abbrev cL_law : ByteArray := code
def yL_law : MethodName := ⟨RL, "law", "([I)Z"⟩
def wsX0_init : List Cond := .code yX0_init cX0_init 1 none :: ([.methodLink RX0 3 objectInit, .instanceMethod objectInit, .code objectInit ⟨#[0xb1]⟩ 1 none, .arrayClass .int, .fieldLink RX0 9 "CapStore" "memory" "[I", .fieldLink RX0 13 "CapStore" "blocks" "[I", .fieldLink RX0 16 "CapStore" "headerRow" "[I", .fieldLink RX0 19 "CapStore" "dirtySet" "I", .fieldLink RX0 23 "CapStore" "powerLeft" "I", .fieldLink RX0 26 "CapStore" "running" "Z", .fieldLink RX0 30 "CapStore" "written" "I", .fieldLink RX0 33 "CapStore" "committed" "I"] ++ wsX00)
def wsX0_isNode : List Cond := .code yX0_isNode cX0_isNode 1 (some .boolean) :: ([])
def wsX0_isInRow : List Cond := .code yX0_isInRow cX0_isInRow 1 (some .boolean) :: ([])
def wsX0_isKey : List Cond := .code yX0_isKey cX0_isKey 1 (some .boolean) :: ([])
def wsX0_refusal : List Cond := .code yX0_refusal cX0_refusal 2 (some .int) :: ([.fieldLink RX0 26 "CapStore" "running" "Z"] ++ wsX00)
def wsX0_put : List Cond := .code yX0_put cX0_put 4 none :: ([.fieldLink RX0 9 "CapStore" "memory" "[I", .fieldLink RX0 19 "CapStore" "dirtySet" "I"] ++ wsX00)
def wsX0_place : List Cond := .code yX0_place cX0_place 5 (some .int) :: ([.methodLink RX0 36 yX0_isNode, .static yX0_isNode, .initialized RX0, .code yX0_isNode cX0_isNode 1 (some .boolean), .methodLink RX0 40 yX0_isInRow, .static yX0_isInRow, .code yX0_isInRow cX0_isInRow 1 (some .boolean), .methodLink RX0 43 yX0_isKey, .static yX0_isKey, .code yX0_isKey cX0_isKey 1 (some .boolean), .methodLink RX0 46 yX0_refusal, .instanceMethod yX0_refusal, .selects RX0 yX0_refusal yX0_refusal, .code yX0_refusal cX0_refusal 2 (some .int), .fieldLink RX0 26 "CapStore" "running" "Z", .methodLink RX0 50 yX0_put, .instanceMethod yX0_put, .selects RX0 yX0_put yX0_put, .code yX0_put cX0_put 4 none, .fieldLink RX0 9 "CapStore" "memory" "[I", .fieldLink RX0 19 "CapStore" "dirtySet" "I"] ++ wsX00)
def wsX0_isRegister : List Cond := .code yX0_isRegister cX0_isRegister 2 (some .boolean) :: ([.methodLink RX0 40 yX0_isInRow, .static yX0_isInRow, .initialized RX0, .code yX0_isInRow cX0_isInRow 1 (some .boolean)])
def wsX0_get : List Cond := .code yX0_get cX0_get 3 (some .int) :: ([.fieldLink RX0 9 "CapStore" "memory" "[I"] ++ wsX00)
def wsX0_isNodeKey : List Cond := .code yX0_isNodeKey cX0_isNodeKey 1 (some .boolean) :: ([])
def wsX0_nodeRefusal : List Cond := .code yX0_nodeRefusal cX0_nodeRefusal 5 (some .int) :: ([.methodLink RX0 80 yX0_isRegister, .static yX0_isRegister, .initialized RX0, .code yX0_isRegister cX0_isRegister 2 (some .boolean), .methodLink RX0 40 yX0_isInRow, .static yX0_isInRow, .code yX0_isInRow cX0_isInRow 1 (some .boolean), .methodLink RX0 46 yX0_refusal, .instanceMethod yX0_refusal, .selects RX0 yX0_refusal yX0_refusal, .code yX0_refusal cX0_refusal 2 (some .int), .fieldLink RX0 26 "CapStore" "running" "Z", .methodLink RX0 58 yX0_get, .instanceMethod yX0_get, .selects RX0 yX0_get yX0_get, .code yX0_get cX0_get 3 (some .int), .fieldLink RX0 9 "CapStore" "memory" "[I", .methodLink RX0 106 yX0_isNodeKey, .static yX0_isNodeKey, .code yX0_isNodeKey cX0_isNodeKey 1 (some .boolean)] ++ wsX00)
def wsX0_objectOf : List Cond := .code yX0_objectOf cX0_objectOf 1 (some .int) :: ([])
def wsX0_limitsOf : List Cond := .code yX0_limitsOf cX0_limitsOf 1 (some .int) :: ([])
def wsX0_isWeak : List Cond := .code yX0_isWeak cX0_isWeak 1 (some .boolean) :: ([.methodLink RX0 112 yX0_limitsOf, .static yX0_limitsOf, .initialized RX0, .code yX0_limitsOf cX0_limitsOf 1 (some .int)])
def wsX0_limited : List Cond := .code yX0_limited cX0_limited 2 (some .int) :: ([.methodLink RX0 62 yX0_objectOf, .static yX0_objectOf, .initialized RX0, .code yX0_objectOf cX0_objectOf 1 (some .int), .methodLink RX0 112 yX0_limitsOf, .static yX0_limitsOf, .code yX0_limitsOf cX0_limitsOf 1 (some .int)])
def wsX0_fetch_r1 : List Cond := [Cond.methodLink RX0 40 yX0_isInRow, Cond.static yX0_isInRow, Cond.initialized RX0, Cond.code yX0_isInRow cX0_isInRow 1 (some .boolean), Cond.methodLink RX0 54 yX0_nodeRefusal, Cond.instanceMethod yX0_nodeRefusal, Cond.selects RX0 yX0_nodeRefusal yX0_nodeRefusal, Cond.code yX0_nodeRefusal cX0_nodeRefusal 5 (some .int), Cond.methodLink RX0 80 yX0_isRegister, Cond.static yX0_isRegister, Cond.code yX0_isRegister cX0_isRegister 2 (some .boolean), Cond.methodLink RX0 46 yX0_refusal, Cond.instanceMethod yX0_refusal, Cond.selects RX0 yX0_refusal yX0_refusal, Cond.code yX0_refusal cX0_refusal 2 (some .int), Cond.fieldLink RX0 26 "CapStore" "running" "Z", Cond.methodLink RX0 58 yX0_get, Cond.instanceMethod yX0_get, Cond.selects RX0 yX0_get yX0_get, Cond.code yX0_get cX0_get 3 (some .int), Cond.fieldLink RX0 9 "CapStore" "memory" "[I", Cond.methodLink RX0 106 yX0_isNodeKey, Cond.static yX0_isNodeKey, Cond.code yX0_isNodeKey cX0_isNodeKey 1 (some .boolean)]
def wsX0_fetch_r2 : List Cond := [Cond.methodLink RX0 62 yX0_objectOf, Cond.static yX0_objectOf, Cond.code yX0_objectOf cX0_objectOf 1 (some .int), Cond.methodLink RX0 66 yX0_isWeak, Cond.static yX0_isWeak, Cond.code yX0_isWeak cX0_isWeak 1 (some .boolean), Cond.methodLink RX0 112 yX0_limitsOf, Cond.static yX0_limitsOf, Cond.code yX0_limitsOf cX0_limitsOf 1 (some .int), Cond.methodLink RX0 69 yX0_limited, Cond.static yX0_limited, Cond.code yX0_limited cX0_limited 2 (some .int), Cond.methodLink RX0 50 yX0_put, Cond.instanceMethod yX0_put, Cond.selects RX0 yX0_put yX0_put, Cond.code yX0_put cX0_put 4 none, Cond.fieldLink RX0 19 "CapStore" "dirtySet" "I"]
def wsX0_fetch : List Cond := .code yX0_fetch cX0_fetch 8 (some .int) :: ((wsX0_fetch_r1 ++ wsX0_fetch_r2) ++ wsX00)
def wsX0_isWriting : List Cond := .code yX0_isWriting cX0_isWriting 1 (some .boolean) :: ([.methodLink RX0 112 yX0_limitsOf, .static yX0_limitsOf, .initialized RX0, .code yX0_limitsOf cX0_limitsOf 1 (some .int)])
def wsX0_store_r1 : List Cond := [Cond.methodLink RX0 40 yX0_isInRow, Cond.static yX0_isInRow, Cond.initialized RX0, Cond.code yX0_isInRow cX0_isInRow 1 (some .boolean), Cond.methodLink RX0 54 yX0_nodeRefusal, Cond.instanceMethod yX0_nodeRefusal, Cond.selects RX0 yX0_nodeRefusal yX0_nodeRefusal, Cond.code yX0_nodeRefusal cX0_nodeRefusal 5 (some .int), Cond.methodLink RX0 80 yX0_isRegister, Cond.static yX0_isRegister, Cond.code yX0_isRegister cX0_isRegister 2 (some .boolean), Cond.methodLink RX0 46 yX0_refusal, Cond.instanceMethod yX0_refusal, Cond.selects RX0 yX0_refusal yX0_refusal, Cond.code yX0_refusal cX0_refusal 2 (some .int), Cond.fieldLink RX0 26 "CapStore" "running" "Z", Cond.methodLink RX0 58 yX0_get, Cond.instanceMethod yX0_get, Cond.selects RX0 yX0_get yX0_get, Cond.code yX0_get cX0_get 3 (some .int), Cond.fieldLink RX0 9 "CapStore" "memory" "[I", Cond.methodLink RX0 106 yX0_isNodeKey, Cond.static yX0_isNodeKey, Cond.code yX0_isNodeKey cX0_isNodeKey 1 (some .boolean)]
def wsX0_store_r2 : List Cond := [Cond.methodLink RX0 72 yX0_isWriting, Cond.static yX0_isWriting, Cond.code yX0_isWriting cX0_isWriting 1 (some .boolean), Cond.methodLink RX0 112 yX0_limitsOf, Cond.static yX0_limitsOf, Cond.code yX0_limitsOf cX0_limitsOf 1 (some .int), Cond.methodLink RX0 62 yX0_objectOf, Cond.static yX0_objectOf, Cond.code yX0_objectOf cX0_objectOf 1 (some .int), Cond.methodLink RX0 50 yX0_put, Cond.instanceMethod yX0_put, Cond.selects RX0 yX0_put yX0_put, Cond.code yX0_put cX0_put 4 none, Cond.fieldLink RX0 19 "CapStore" "dirtySet" "I"]
def wsX0_store : List Cond := .code yX0_store cX0_store 7 (some .int) :: ((wsX0_store_r1 ++ wsX0_store_r2) ++ wsX00)
def wsX0_isPageKey : List Cond := .code yX0_isPageKey cX0_isPageKey 1 (some .boolean) :: ([])
def wsX0_pageRefusal : List Cond := .code yX0_pageRefusal cX0_pageRefusal 5 (some .int) :: ([.methodLink RX0 80 yX0_isRegister, .static yX0_isRegister, .initialized RX0, .code yX0_isRegister cX0_isRegister 2 (some .boolean), .methodLink RX0 40 yX0_isInRow, .static yX0_isInRow, .code yX0_isInRow cX0_isInRow 1 (some .boolean), .methodLink RX0 46 yX0_refusal, .instanceMethod yX0_refusal, .selects RX0 yX0_refusal yX0_refusal, .code yX0_refusal cX0_refusal 2 (some .int), .fieldLink RX0 26 "CapStore" "running" "Z", .methodLink RX0 58 yX0_get, .instanceMethod yX0_get, .selects RX0 yX0_get yX0_get, .code yX0_get cX0_get 3 (some .int), .fieldLink RX0 9 "CapStore" "memory" "[I", .methodLink RX0 109 yX0_isPageKey, .static yX0_isPageKey, .code yX0_isPageKey cX0_isPageKey 1 (some .boolean)] ++ wsX00)
def wsX0_read_r1 : List Cond := [Cond.constantLong RX0 78 (4294967296), Cond.methodLink RX0 40 yX0_isInRow, Cond.static yX0_isInRow, Cond.initialized RX0, Cond.code yX0_isInRow cX0_isInRow 1 (some .boolean), Cond.methodLink RX0 75 yX0_pageRefusal, Cond.instanceMethod yX0_pageRefusal, Cond.selects RX0 yX0_pageRefusal yX0_pageRefusal, Cond.code yX0_pageRefusal cX0_pageRefusal 5 (some .int), Cond.methodLink RX0 80 yX0_isRegister, Cond.static yX0_isRegister, Cond.code yX0_isRegister cX0_isRegister 2 (some .boolean), Cond.methodLink RX0 46 yX0_refusal, Cond.instanceMethod yX0_refusal, Cond.selects RX0 yX0_refusal yX0_refusal, Cond.code yX0_refusal cX0_refusal 2 (some .int), Cond.fieldLink RX0 26 "CapStore" "running" "Z", Cond.methodLink RX0 58 yX0_get, Cond.instanceMethod yX0_get, Cond.selects RX0 yX0_get yX0_get, Cond.code yX0_get cX0_get 3 (some .int), Cond.fieldLink RX0 9 "CapStore" "memory" "[I", Cond.methodLink RX0 109 yX0_isPageKey, Cond.static yX0_isPageKey]
def wsX0_read_r2 : List Cond := [Cond.code yX0_isPageKey cX0_isPageKey 1 (some .boolean), Cond.methodLink RX0 62 yX0_objectOf, Cond.static yX0_objectOf, Cond.code yX0_objectOf cX0_objectOf 1 (some .int)]
def wsX0_read : List Cond := .code yX0_read cX0_read 5 (some .long) :: ((wsX0_read_r1 ++ wsX0_read_r2) ++ wsX00)
def wsX0_write_r1 : List Cond := [Cond.methodLink RX0 40 yX0_isInRow, Cond.static yX0_isInRow, Cond.initialized RX0, Cond.code yX0_isInRow cX0_isInRow 1 (some .boolean), Cond.methodLink RX0 75 yX0_pageRefusal, Cond.instanceMethod yX0_pageRefusal, Cond.selects RX0 yX0_pageRefusal yX0_pageRefusal, Cond.code yX0_pageRefusal cX0_pageRefusal 5 (some .int), Cond.methodLink RX0 80 yX0_isRegister, Cond.static yX0_isRegister, Cond.code yX0_isRegister cX0_isRegister 2 (some .boolean), Cond.methodLink RX0 46 yX0_refusal, Cond.instanceMethod yX0_refusal, Cond.selects RX0 yX0_refusal yX0_refusal, Cond.code yX0_refusal cX0_refusal 2 (some .int), Cond.fieldLink RX0 26 "CapStore" "running" "Z", Cond.methodLink RX0 58 yX0_get, Cond.instanceMethod yX0_get, Cond.selects RX0 yX0_get yX0_get, Cond.code yX0_get cX0_get 3 (some .int), Cond.fieldLink RX0 9 "CapStore" "memory" "[I", Cond.methodLink RX0 109 yX0_isPageKey, Cond.static yX0_isPageKey, Cond.code yX0_isPageKey cX0_isPageKey 1 (some .boolean)]
def wsX0_write_r2 : List Cond := [Cond.methodLink RX0 72 yX0_isWriting, Cond.static yX0_isWriting, Cond.code yX0_isWriting cX0_isWriting 1 (some .boolean), Cond.methodLink RX0 112 yX0_limitsOf, Cond.static yX0_limitsOf, Cond.code yX0_limitsOf cX0_limitsOf 1 (some .int), Cond.methodLink RX0 62 yX0_objectOf, Cond.static yX0_objectOf, Cond.code yX0_objectOf cX0_objectOf 1 (some .int), Cond.methodLink RX0 50 yX0_put, Cond.instanceMethod yX0_put, Cond.selects RX0 yX0_put yX0_put, Cond.code yX0_put cX0_put 4 none, Cond.fieldLink RX0 19 "CapStore" "dirtySet" "I"]
def wsX0_write : List Cond := .code yX0_write cX0_write 7 (some .int) :: ((wsX0_write_r1 ++ wsX0_write_r2) ++ wsX00)
def wsX0_isLimits : List Cond := .code yX0_isLimits cX0_isLimits 1 (some .boolean) :: ([])
def wsX0_restrict_r1 : List Cond := [Cond.methodLink RX0 80 yX0_isRegister, Cond.static yX0_isRegister, Cond.initialized RX0, Cond.code yX0_isRegister cX0_isRegister 2 (some .boolean), Cond.methodLink RX0 40 yX0_isInRow, Cond.static yX0_isInRow, Cond.code yX0_isInRow cX0_isInRow 1 (some .boolean), Cond.methodLink RX0 84 yX0_isLimits, Cond.static yX0_isLimits, Cond.code yX0_isLimits cX0_isLimits 1 (some .boolean), Cond.methodLink RX0 46 yX0_refusal, Cond.instanceMethod yX0_refusal, Cond.selects RX0 yX0_refusal yX0_refusal, Cond.code yX0_refusal cX0_refusal 2 (some .int), Cond.fieldLink RX0 26 "CapStore" "running" "Z", Cond.methodLink RX0 58 yX0_get, Cond.instanceMethod yX0_get, Cond.selects RX0 yX0_get yX0_get, Cond.code yX0_get cX0_get 3 (some .int), Cond.fieldLink RX0 9 "CapStore" "memory" "[I", Cond.methodLink RX0 69 yX0_limited, Cond.static yX0_limited, Cond.code yX0_limited cX0_limited 2 (some .int), Cond.methodLink RX0 62 yX0_objectOf]
def wsX0_restrict_r2 : List Cond := [Cond.static yX0_objectOf, Cond.code yX0_objectOf cX0_objectOf 1 (some .int), Cond.methodLink RX0 112 yX0_limitsOf, Cond.static yX0_limitsOf, Cond.code yX0_limitsOf cX0_limitsOf 1 (some .int), Cond.methodLink RX0 50 yX0_put, Cond.instanceMethod yX0_put, Cond.selects RX0 yX0_put yX0_put, Cond.code yX0_put cX0_put 4 none, Cond.fieldLink RX0 19 "CapStore" "dirtySet" "I"]
def wsX0_restrict : List Cond := .code yX0_restrict cX0_restrict 6 (some .int) :: ((wsX0_restrict_r1 ++ wsX0_restrict_r2) ++ wsX00)
def wsX0_clear : List Cond := .code yX0_clear cX0_clear 4 (some .int) :: ([.methodLink RX0 80 yX0_isRegister, .static yX0_isRegister, .initialized RX0, .code yX0_isRegister cX0_isRegister 2 (some .boolean), .methodLink RX0 40 yX0_isInRow, .static yX0_isInRow, .code yX0_isInRow cX0_isInRow 1 (some .boolean), .methodLink RX0 46 yX0_refusal, .instanceMethod yX0_refusal, .selects RX0 yX0_refusal yX0_refusal, .code yX0_refusal cX0_refusal 2 (some .int), .fieldLink RX0 26 "CapStore" "running" "Z", .methodLink RX0 50 yX0_put, .instanceMethod yX0_put, .selects RX0 yX0_put yX0_put, .code yX0_put cX0_put 4 none, .fieldLink RX0 9 "CapStore" "memory" "[I", .fieldLink RX0 19 "CapStore" "dirtySet" "I"] ++ wsX00)
def wsX0_has : List Cond := .code yX0_has cX0_has 2 (some .boolean) :: ([])
def wsX0_writeBlock : List Cond := .code yX0_writeBlock cX0_writeBlock 4 (some .boolean) :: ([.fieldLink RX0 23 "CapStore" "powerLeft" "I", .fieldLink RX0 26 "CapStore" "running" "Z", .fieldLink RX0 13 "CapStore" "blocks" "[I", .methodLink RX0 122 arraycopyName, .native arraycopyName, .static arraycopyName, .initialized "java/lang/System", .fieldLink RX0 30 "CapStore" "written" "I"] ++ wsX00)
def wsX0_copyRows : List Cond := .code yX0_copyRows cX0_copyRows 6 (some .boolean) :: ([.methodLink RX0 128 yX0_has, .static yX0_has, .initialized RX0, .code yX0_has cX0_has 2 (some .boolean), .methodLink RX0 131 yX0_writeBlock, .instanceMethod yX0_writeBlock, .selects RX0 yX0_writeBlock yX0_writeBlock, .code yX0_writeBlock cX0_writeBlock 4 (some .boolean), .fieldLink RX0 23 "CapStore" "powerLeft" "I", .fieldLink RX0 26 "CapStore" "running" "Z", .fieldLink RX0 13 "CapStore" "blocks" "[I", .methodLink RX0 122 arraycopyName, .native arraycopyName, .static arraycopyName, .initialized "java/lang/System", .fieldLink RX0 30 "CapStore" "written" "I"] ++ wsX00)
def wsX0_writeHeader : List Cond := .code yX0_writeHeader cX0_writeHeader 2 (some .boolean) :: ([.fieldLink RX0 16 "CapStore" "headerRow" "[I", .methodLink RX0 131 yX0_writeBlock, .instanceMethod yX0_writeBlock, .selects RX0 yX0_writeBlock yX0_writeBlock, .initialized RX0, .code yX0_writeBlock cX0_writeBlock 4 (some .boolean), .fieldLink RX0 23 "CapStore" "powerLeft" "I", .fieldLink RX0 26 "CapStore" "running" "Z", .fieldLink RX0 13 "CapStore" "blocks" "[I", .methodLink RX0 122 arraycopyName, .native arraycopyName, .static arraycopyName, .initialized "java/lang/System", .fieldLink RX0 30 "CapStore" "written" "I"] ++ wsX00)
def wsX0_saveDirty_r1 : List Cond := [Cond.fieldLink RX0 19 "CapStore" "dirtySet" "I", Cond.fieldLink RX0 9 "CapStore" "memory" "[I", Cond.fieldLink RX0 33 "CapStore" "committed" "I", Cond.methodLink RX0 115 yX0_copyRows, Cond.instanceMethod yX0_copyRows, Cond.selects RX0 yX0_copyRows yX0_copyRows, Cond.initialized RX0, Cond.code yX0_copyRows cX0_copyRows 6 (some .boolean), Cond.methodLink RX0 128 yX0_has, Cond.static yX0_has, Cond.code yX0_has cX0_has 2 (some .boolean), Cond.methodLink RX0 131 yX0_writeBlock, Cond.instanceMethod yX0_writeBlock, Cond.selects RX0 yX0_writeBlock yX0_writeBlock, Cond.code yX0_writeBlock cX0_writeBlock 4 (some .boolean), Cond.fieldLink RX0 23 "CapStore" "powerLeft" "I", Cond.fieldLink RX0 26 "CapStore" "running" "Z", Cond.fieldLink RX0 13 "CapStore" "blocks" "[I", Cond.methodLink RX0 122 arraycopyName, Cond.native arraycopyName, Cond.static arraycopyName, Cond.initialized "java/lang/System", Cond.fieldLink RX0 30 "CapStore" "written" "I", Cond.methodLink RX0 119 yX0_writeHeader]
def wsX0_saveDirty_r2 : List Cond := [Cond.instanceMethod yX0_writeHeader, Cond.selects RX0 yX0_writeHeader yX0_writeHeader, Cond.code yX0_writeHeader cX0_writeHeader 2 (some .boolean), Cond.fieldLink RX0 16 "CapStore" "headerRow" "[I"]
def wsX0_saveDirty : List Cond := .code yX0_saveDirty cX0_saveDirty 1 (some .boolean) :: ((wsX0_saveDirty_r1 ++ wsX0_saveDirty_r2) ++ wsX00)
def wsX0_checkpoint_r1 : List Cond := [Cond.fieldLink RX0 26 "CapStore" "running" "Z", Cond.fieldLink RX0 30 "CapStore" "written" "I", Cond.fieldLink RX0 19 "CapStore" "dirtySet" "I", Cond.methodLink RX0 87 yX0_saveDirty, Cond.instanceMethod yX0_saveDirty, Cond.selects RX0 yX0_saveDirty yX0_saveDirty, Cond.initialized RX0, Cond.code yX0_saveDirty cX0_saveDirty 1 (some .boolean), Cond.fieldLink RX0 9 "CapStore" "memory" "[I", Cond.fieldLink RX0 33 "CapStore" "committed" "I", Cond.methodLink RX0 115 yX0_copyRows, Cond.instanceMethod yX0_copyRows, Cond.selects RX0 yX0_copyRows yX0_copyRows, Cond.code yX0_copyRows cX0_copyRows 6 (some .boolean), Cond.methodLink RX0 128 yX0_has, Cond.static yX0_has, Cond.code yX0_has cX0_has 2 (some .boolean), Cond.methodLink RX0 131 yX0_writeBlock, Cond.instanceMethod yX0_writeBlock, Cond.selects RX0 yX0_writeBlock yX0_writeBlock, Cond.code yX0_writeBlock cX0_writeBlock 4 (some .boolean), Cond.fieldLink RX0 23 "CapStore" "powerLeft" "I", Cond.fieldLink RX0 13 "CapStore" "blocks" "[I", Cond.methodLink RX0 122 arraycopyName]
def wsX0_checkpoint_r2 : List Cond := [Cond.native arraycopyName, Cond.static arraycopyName, Cond.initialized "java/lang/System", Cond.methodLink RX0 119 yX0_writeHeader, Cond.instanceMethod yX0_writeHeader, Cond.selects RX0 yX0_writeHeader yX0_writeHeader, Cond.code yX0_writeHeader cX0_writeHeader 2 (some .boolean), Cond.fieldLink RX0 16 "CapStore" "headerRow" "[I"]
def wsX0_checkpoint : List Cond := .code yX0_checkpoint cX0_checkpoint 2 (some .int) :: ((wsX0_checkpoint_r1 ++ wsX0_checkpoint_r2) ++ wsX00)
def wsX0_isPower : List Cond := .code yX0_isPower cX0_isPower 1 (some .boolean) :: ([])
def wsX0_power : List Cond := .code yX0_power cX0_power 3 (some .int) :: ([.fieldLink RX0 23 "CapStore" "powerLeft" "I", .methodLink RX0 91 yX0_isPower, .static yX0_isPower, .initialized RX0, .code yX0_isPower cX0_isPower 1 (some .boolean), .methodLink RX0 46 yX0_refusal, .instanceMethod yX0_refusal, .selects RX0 yX0_refusal yX0_refusal, .code yX0_refusal cX0_refusal 2 (some .int), .fieldLink RX0 26 "CapStore" "running" "Z"] ++ wsX00)
def wsX0_crash : List Cond := .code yX0_crash cX0_crash 2 (some .boolean) :: ([.fieldLink RX0 26 "CapStore" "running" "Z"] ++ wsX00)
def wsX0_finishCommitted_r1 : List Cond := [Cond.fieldLink RX0 13 "CapStore" "blocks" "[I", Cond.methodLink RX0 115 yX0_copyRows, Cond.instanceMethod yX0_copyRows, Cond.selects RX0 yX0_copyRows yX0_copyRows, Cond.initialized RX0, Cond.code yX0_copyRows cX0_copyRows 6 (some .boolean), Cond.methodLink RX0 128 yX0_has, Cond.static yX0_has, Cond.code yX0_has cX0_has 2 (some .boolean), Cond.methodLink RX0 131 yX0_writeBlock, Cond.instanceMethod yX0_writeBlock, Cond.selects RX0 yX0_writeBlock yX0_writeBlock, Cond.code yX0_writeBlock cX0_writeBlock 4 (some .boolean), Cond.fieldLink RX0 23 "CapStore" "powerLeft" "I", Cond.fieldLink RX0 26 "CapStore" "running" "Z", Cond.methodLink RX0 122 arraycopyName, Cond.native arraycopyName, Cond.static arraycopyName, Cond.initialized "java/lang/System", Cond.fieldLink RX0 30 "CapStore" "written" "I", Cond.methodLink RX0 119 yX0_writeHeader, Cond.instanceMethod yX0_writeHeader, Cond.selects RX0 yX0_writeHeader yX0_writeHeader, Cond.code yX0_writeHeader cX0_writeHeader 2 (some .boolean)]
def wsX0_finishCommitted_r2 : List Cond := [Cond.fieldLink RX0 16 "CapStore" "headerRow" "[I"]
def wsX0_finishCommitted : List Cond := .code yX0_finishCommitted cX0_finishCommitted 2 (some .boolean) :: ((wsX0_finishCommitted_r1 ++ wsX0_finishCommitted_r2) ++ wsX00)
def wsX0_loadHomes : List Cond := .code yX0_loadHomes cX0_loadHomes 1 none :: ([.fieldLink RX0 13 "CapStore" "blocks" "[I", .fieldLink RX0 9 "CapStore" "memory" "[I", .methodLink RX0 122 arraycopyName, .native arraycopyName, .static arraycopyName, .initialized "java/lang/System", .fieldLink RX0 19 "CapStore" "dirtySet" "I"] ++ wsX00)
def wsX0_start_r1 : List Cond := [Cond.fieldLink RX0 26 "CapStore" "running" "Z", Cond.fieldLink RX0 23 "CapStore" "powerLeft" "I", Cond.fieldLink RX0 30 "CapStore" "written" "I", Cond.methodLink RX0 91 yX0_isPower, Cond.static yX0_isPower, Cond.initialized RX0, Cond.code yX0_isPower cX0_isPower 1 (some .boolean), Cond.methodLink RX0 94 yX0_finishCommitted, Cond.instanceMethod yX0_finishCommitted, Cond.selects RX0 yX0_finishCommitted yX0_finishCommitted, Cond.code yX0_finishCommitted cX0_finishCommitted 2 (some .boolean), Cond.fieldLink RX0 13 "CapStore" "blocks" "[I", Cond.methodLink RX0 115 yX0_copyRows, Cond.instanceMethod yX0_copyRows, Cond.selects RX0 yX0_copyRows yX0_copyRows, Cond.code yX0_copyRows cX0_copyRows 6 (some .boolean), Cond.methodLink RX0 128 yX0_has, Cond.static yX0_has, Cond.code yX0_has cX0_has 2 (some .boolean), Cond.methodLink RX0 131 yX0_writeBlock, Cond.instanceMethod yX0_writeBlock, Cond.selects RX0 yX0_writeBlock yX0_writeBlock, Cond.code yX0_writeBlock cX0_writeBlock 4 (some .boolean), Cond.methodLink RX0 122 arraycopyName]
def wsX0_start_r2 : List Cond := [Cond.native arraycopyName, Cond.static arraycopyName, Cond.initialized "java/lang/System", Cond.methodLink RX0 119 yX0_writeHeader, Cond.instanceMethod yX0_writeHeader, Cond.selects RX0 yX0_writeHeader yX0_writeHeader, Cond.code yX0_writeHeader cX0_writeHeader 2 (some .boolean), Cond.fieldLink RX0 16 "CapStore" "headerRow" "[I", Cond.methodLink RX0 97 yX0_loadHomes, Cond.instanceMethod yX0_loadHomes, Cond.selects RX0 yX0_loadHomes yX0_loadHomes, Cond.code yX0_loadHomes cX0_loadHomes 1 none, Cond.fieldLink RX0 9 "CapStore" "memory" "[I", Cond.fieldLink RX0 19 "CapStore" "dirtySet" "I"]
def wsX0_start : List Cond := .code yX0_start cX0_start 3 (some .int) :: ((wsX0_start_r1 ++ wsX0_start_r2) ++ wsX00)
def wsX0_isUp : List Cond := .code yX0_isUp cX0_isUp 1 (some .boolean) :: ([.fieldLink RX0 26 "CapStore" "running" "Z"] ++ wsX00)
def wsX0_key : List Cond := .code yX0_key cX0_key 4 (some .int) :: ([.methodLink RX0 36 yX0_isNode, .static yX0_isNode, .initialized RX0, .code yX0_isNode cX0_isNode 1 (some .boolean), .methodLink RX0 40 yX0_isInRow, .static yX0_isInRow, .code yX0_isInRow cX0_isInRow 1 (some .boolean), .methodLink RX0 46 yX0_refusal, .instanceMethod yX0_refusal, .selects RX0 yX0_refusal yX0_refusal, .code yX0_refusal cX0_refusal 2 (some .int), .fieldLink RX0 26 "CapStore" "running" "Z", .methodLink RX0 58 yX0_get, .instanceMethod yX0_get, .selects RX0 yX0_get yX0_get, .code yX0_get cX0_get 3 (some .int), .fieldLink RX0 9 "CapStore" "memory" "[I"] ++ wsX00)
def wsX0_isPage : List Cond := .code yX0_isPage cX0_isPage 1 (some .boolean) :: ([])
def wsX0_word : List Cond := .code yX0_word cX0_word 4 (some .long) :: ([.constantLong RX0 78 (4294967296), .methodLink RX0 100 yX0_isPage, .static yX0_isPage, .initialized RX0, .code yX0_isPage cX0_isPage 1 (some .boolean), .methodLink RX0 40 yX0_isInRow, .static yX0_isInRow, .code yX0_isInRow cX0_isInRow 1 (some .boolean), .methodLink RX0 46 yX0_refusal, .instanceMethod yX0_refusal, .selects RX0 yX0_refusal yX0_refusal, .code yX0_refusal cX0_refusal 2 (some .int), .fieldLink RX0 26 "CapStore" "running" "Z", .methodLink RX0 58 yX0_get, .instanceMethod yX0_get, .selects RX0 yX0_get yX0_get, .code yX0_get cX0_get 3 (some .int), .fieldLink RX0 9 "CapStore" "memory" "[I"] ++ wsX00)
def wsX0_dirty : List Cond := .code yX0_dirty cX0_dirty 1 (some .int) :: ([.fieldLink RX0 26 "CapStore" "running" "Z", .fieldLink RX0 19 "CapStore" "dirtySet" "I"] ++ wsX00)
def wsX0_isBlock : List Cond := .code yX0_isBlock cX0_isBlock 1 (some .boolean) :: ([])
def wsX0_disk : List Cond := .code yX0_disk cX0_disk 3 (some .int) :: ([.fieldLink RX0 13 "CapStore" "blocks" "[I", .methodLink RX0 103 yX0_isBlock, .static yX0_isBlock, .initialized RX0, .code yX0_isBlock cX0_isBlock 1 (some .boolean), .methodLink RX0 40 yX0_isInRow, .static yX0_isInRow, .code yX0_isInRow cX0_isInRow 1 (some .boolean)] ++ wsX00)
def wsX0_writes : List Cond := .code yX0_writes cX0_writes 1 (some .int) :: ([.fieldLink RX0 30 "CapStore" "written" "I"] ++ wsX00)
def wsX0_commits : List Cond := .code yX0_commits cX0_commits 1 (some .int) :: ([.fieldLink RX0 33 "CapStore" "committed" "I"] ++ wsX00)
def wsX1_init : List Cond := .code yX1_init cX1_init 1 none :: ([.methodLink RX1 1 objectInit, .instanceMethod objectInit, .code objectInit ⟨#[0xb1]⟩ 1 none, .arrayClass .int, .fieldLink RX1 7 "CapStoreModel" "memory" "[I", .fieldLink RX1 13 "CapStoreModel" "disk" "[I", .arrayClass .boolean, .fieldLink RX1 16 "CapStoreModel" "stored" "[Z", .fieldLink RX1 20 "CapStoreModel" "endless" "Z"] ++ wsX10)
def wsX1_eight : List Cond := .code yX1_eight cX1_eight 1 (some .boolean) :: ([])
def wsX1_third : List Cond := .code yX1_third cX1_third 1 (some .boolean) :: ([])
def wsX1_object : List Cond := .code yX1_object cX1_object 1 (some .int) :: ([])
def wsX1_limits : List Cond := .code yX1_limits cX1_limits 1 (some .int) :: ([])
def wsX1_limited : List Cond := .code yX1_limited cX1_limited 2 (some .int) :: ([.methodLink RX1 24 yX1_limits, .static yX1_limits, .initialized RX1, .code yX1_limits cX1_limits 1 (some .int)])
def wsX1_put : List Cond := .code yX1_put cX1_put 4 none :: ([.fieldLink RX1 7 "CapStoreModel" "memory" "[I", .fieldLink RX1 16 "CapStoreModel" "stored" "[Z"] ++ wsX10)
def wsX1_place : List Cond := .code yX1_place cX1_place 4 (some .int) :: ([.fieldLink RX1 28 "CapStoreModel" "down" "Z", .methodLink RX1 31 yX1_eight, .static yX1_eight, .initialized RX1, .code yX1_eight cX1_eight 1 (some .boolean), .methodLink RX1 35 yX1_put, .instanceMethod yX1_put, .selects RX1 yX1_put yX1_put, .code yX1_put cX1_put 4 none, .fieldLink RX1 7 "CapStoreModel" "memory" "[I", .fieldLink RX1 16 "CapStoreModel" "stored" "[Z"] ++ wsX10)
def wsX1_refusal : List Cond := .code yX1_refusal cX1_refusal 8 (some .int) :: ([.fieldLink RX1 28 "CapStoreModel" "down" "Z", .fieldLink RX1 7 "CapStoreModel" "memory" "[I", .methodLink RX1 39 yX1_third, .static yX1_third, .initialized RX1, .code yX1_third cX1_third 1 (some .boolean), .methodLink RX1 31 yX1_eight, .static yX1_eight, .code yX1_eight cX1_eight 1 (some .boolean), .methodLink RX1 42 yX1_object, .static yX1_object, .code yX1_object cX1_object 1 (some .int), .methodLink RX1 24 yX1_limits, .static yX1_limits, .code yX1_limits cX1_limits 1 (some .int)] ++ wsX10)
def wsX1_fetch_r1 : List Cond := [Cond.fieldLink RX1 7 "CapStoreModel" "memory" "[I", Cond.methodLink RX1 45 yX1_refusal, Cond.instanceMethod yX1_refusal, Cond.selects RX1 yX1_refusal yX1_refusal, Cond.initialized RX1, Cond.code yX1_refusal cX1_refusal 8 (some .int), Cond.fieldLink RX1 28 "CapStoreModel" "down" "Z", Cond.methodLink RX1 39 yX1_third, Cond.static yX1_third, Cond.code yX1_third cX1_third 1 (some .boolean), Cond.methodLink RX1 31 yX1_eight, Cond.static yX1_eight, Cond.code yX1_eight cX1_eight 1 (some .boolean), Cond.methodLink RX1 42 yX1_object, Cond.static yX1_object, Cond.code yX1_object cX1_object 1 (some .int), Cond.methodLink RX1 24 yX1_limits, Cond.static yX1_limits, Cond.code yX1_limits cX1_limits 1 (some .int), Cond.methodLink RX1 49 yX1_limited, Cond.static yX1_limited, Cond.code yX1_limited cX1_limited 2 (some .int), Cond.methodLink RX1 35 yX1_put, Cond.instanceMethod yX1_put]
def wsX1_fetch_r2 : List Cond := [Cond.selects RX1 yX1_put yX1_put, Cond.code yX1_put cX1_put 4 none, Cond.fieldLink RX1 16 "CapStoreModel" "stored" "[Z"]
def wsX1_fetch : List Cond := .code yX1_fetch cX1_fetch 8 (some .int) :: ((wsX1_fetch_r1 ++ wsX1_fetch_r2) ++ wsX10)
def wsX1_store : List Cond := .code yX1_store cX1_store 6 (some .int) :: ([.fieldLink RX1 7 "CapStoreModel" "memory" "[I", .methodLink RX1 45 yX1_refusal, .instanceMethod yX1_refusal, .selects RX1 yX1_refusal yX1_refusal, .initialized RX1, .code yX1_refusal cX1_refusal 8 (some .int), .fieldLink RX1 28 "CapStoreModel" "down" "Z", .methodLink RX1 39 yX1_third, .static yX1_third, .code yX1_third cX1_third 1 (some .boolean), .methodLink RX1 31 yX1_eight, .static yX1_eight, .code yX1_eight cX1_eight 1 (some .boolean), .methodLink RX1 42 yX1_object, .static yX1_object, .code yX1_object cX1_object 1 (some .int), .methodLink RX1 24 yX1_limits, .static yX1_limits, .code yX1_limits cX1_limits 1 (some .int), .methodLink RX1 35 yX1_put, .instanceMethod yX1_put, .selects RX1 yX1_put yX1_put, .code yX1_put cX1_put 4 none, .fieldLink RX1 16 "CapStoreModel" "stored" "[Z"] ++ wsX10)
def wsX1_read : List Cond := .code yX1_read cX1_read 5 (some .long) :: ([.constantLong RX1 53 (4294967296), .fieldLink RX1 7 "CapStoreModel" "memory" "[I", .methodLink RX1 45 yX1_refusal, .instanceMethod yX1_refusal, .selects RX1 yX1_refusal yX1_refusal, .initialized RX1, .code yX1_refusal cX1_refusal 8 (some .int), .fieldLink RX1 28 "CapStoreModel" "down" "Z", .methodLink RX1 39 yX1_third, .static yX1_third, .code yX1_third cX1_third 1 (some .boolean), .methodLink RX1 31 yX1_eight, .static yX1_eight, .code yX1_eight cX1_eight 1 (some .boolean), .methodLink RX1 42 yX1_object, .static yX1_object, .code yX1_object cX1_object 1 (some .int), .methodLink RX1 24 yX1_limits, .static yX1_limits, .code yX1_limits cX1_limits 1 (some .int)] ++ wsX10)
def wsX1_write : List Cond := .code yX1_write cX1_write 6 (some .int) :: ([.fieldLink RX1 7 "CapStoreModel" "memory" "[I", .methodLink RX1 45 yX1_refusal, .instanceMethod yX1_refusal, .selects RX1 yX1_refusal yX1_refusal, .initialized RX1, .code yX1_refusal cX1_refusal 8 (some .int), .fieldLink RX1 28 "CapStoreModel" "down" "Z", .methodLink RX1 39 yX1_third, .static yX1_third, .code yX1_third cX1_third 1 (some .boolean), .methodLink RX1 31 yX1_eight, .static yX1_eight, .code yX1_eight cX1_eight 1 (some .boolean), .methodLink RX1 42 yX1_object, .static yX1_object, .code yX1_object cX1_object 1 (some .int), .methodLink RX1 24 yX1_limits, .static yX1_limits, .code yX1_limits cX1_limits 1 (some .int), .methodLink RX1 35 yX1_put, .instanceMethod yX1_put, .selects RX1 yX1_put yX1_put, .code yX1_put cX1_put 4 none, .fieldLink RX1 16 "CapStoreModel" "stored" "[Z"] ++ wsX10)
def wsX1_restrict : List Cond := .code yX1_restrict cX1_restrict 5 (some .int) :: ([.fieldLink RX1 28 "CapStoreModel" "down" "Z", .fieldLink RX1 7 "CapStoreModel" "memory" "[I", .methodLink RX1 39 yX1_third, .static yX1_third, .initialized RX1, .code yX1_third cX1_third 1 (some .boolean), .methodLink RX1 31 yX1_eight, .static yX1_eight, .code yX1_eight cX1_eight 1 (some .boolean), .methodLink RX1 49 yX1_limited, .static yX1_limited, .code yX1_limited cX1_limited 2 (some .int), .methodLink RX1 24 yX1_limits, .static yX1_limits, .code yX1_limits cX1_limits 1 (some .int), .methodLink RX1 35 yX1_put, .instanceMethod yX1_put, .selects RX1 yX1_put yX1_put, .code yX1_put cX1_put 4 none, .fieldLink RX1 16 "CapStoreModel" "stored" "[Z"] ++ wsX10)
def wsX1_clear : List Cond := .code yX1_clear cX1_clear 3 (some .int) :: ([.fieldLink RX1 28 "CapStoreModel" "down" "Z", .methodLink RX1 39 yX1_third, .static yX1_third, .initialized RX1, .code yX1_third cX1_third 1 (some .boolean), .methodLink RX1 31 yX1_eight, .static yX1_eight, .code yX1_eight cX1_eight 1 (some .boolean), .methodLink RX1 35 yX1_put, .instanceMethod yX1_put, .selects RX1 yX1_put yX1_put, .code yX1_put cX1_put 4 none, .fieldLink RX1 7 "CapStoreModel" "memory" "[I", .fieldLink RX1 16 "CapStoreModel" "stored" "[Z"] ++ wsX10)
def wsX1_inSet : List Cond := .code yX1_inSet cX1_inSet 4 (some .int) :: ([])
def wsX1_member : List Cond := .code yX1_member cX1_member 5 (some .int) :: ([])
def wsX1_may : List Cond := .code yX1_may cX1_may 1 (some .boolean) :: ([.fieldLink RX1 20 "CapStoreModel" "endless" "Z", .fieldLink RX1 55 "CapStoreModel" "power" "I", .fieldLink RX1 28 "CapStoreModel" "down" "Z", .fieldLink RX1 59 "CapStoreModel" "writes" "I"] ++ wsX10)
def wsX1_header : List Cond := .code yX1_header cX1_header 2 none :: ([.fieldLink RX1 13 "CapStoreModel" "disk" "[I"] ++ wsX10)
def wsX1_dirty : List Cond := .code yX1_dirty cX1_dirty 3 (some .int) :: ([.fieldLink RX1 28 "CapStoreModel" "down" "Z", .fieldLink RX1 16 "CapStoreModel" "stored" "[Z"] ++ wsX10)
def wsX1_checkpoint_r1 : List Cond := [Cond.fieldLink RX1 28 "CapStoreModel" "down" "Z", Cond.fieldLink RX1 77 "CapStoreModel" "commits" "I", Cond.fieldLink RX1 13 "CapStoreModel" "disk" "[I", Cond.fieldLink RX1 7 "CapStoreModel" "memory" "[I", Cond.fieldLink RX1 16 "CapStoreModel" "stored" "[Z", Cond.methodLink RX1 62 yX1_dirty, Cond.instanceMethod yX1_dirty, Cond.selects RX1 yX1_dirty yX1_dirty, Cond.initialized RX1, Cond.code yX1_dirty cX1_dirty 3 (some .int), Cond.methodLink RX1 66 yX1_inSet, Cond.instanceMethod yX1_inSet, Cond.selects RX1 yX1_inSet yX1_inSet, Cond.code yX1_inSet cX1_inSet 4 (some .int), Cond.methodLink RX1 69 yX1_may, Cond.instanceMethod yX1_may, Cond.selects RX1 yX1_may yX1_may, Cond.code yX1_may cX1_may 1 (some .boolean), Cond.fieldLink RX1 20 "CapStoreModel" "endless" "Z", Cond.fieldLink RX1 55 "CapStoreModel" "power" "I", Cond.fieldLink RX1 59 "CapStoreModel" "writes" "I", Cond.methodLink RX1 73 yX1_header, Cond.instanceMethod yX1_header, Cond.selects RX1 yX1_header yX1_header]
def wsX1_checkpoint_r2 : List Cond := [Cond.code yX1_header cX1_header 2 none, Cond.methodLink RX1 80 yX1_member, Cond.instanceMethod yX1_member, Cond.selects RX1 yX1_member yX1_member, Cond.code yX1_member cX1_member 5 (some .int)]
def wsX1_checkpoint : List Cond := .code yX1_checkpoint cX1_checkpoint 7 (some .int) :: ((wsX1_checkpoint_r1 ++ wsX1_checkpoint_r2) ++ wsX10)
def wsX1_power : List Cond := .code yX1_power cX1_power 2 (some .int) :: ([.fieldLink RX1 28 "CapStoreModel" "down" "Z", .fieldLink RX1 20 "CapStoreModel" "endless" "Z", .fieldLink RX1 55 "CapStoreModel" "power" "I"] ++ wsX10)
def wsX1_crash : List Cond := .code yX1_crash cX1_crash 2 (some .boolean) :: ([.fieldLink RX1 28 "CapStoreModel" "down" "Z"] ++ wsX10)
def wsX1_start : List Cond := .code yX1_start cX1_start 7 (some .int) :: ([.fieldLink RX1 28 "CapStoreModel" "down" "Z", .fieldLink RX1 20 "CapStoreModel" "endless" "Z", .fieldLink RX1 55 "CapStoreModel" "power" "I", .fieldLink RX1 13 "CapStoreModel" "disk" "[I", .fieldLink RX1 7 "CapStoreModel" "memory" "[I", .fieldLink RX1 16 "CapStoreModel" "stored" "[Z", .methodLink RX1 66 yX1_inSet, .instanceMethod yX1_inSet, .selects RX1 yX1_inSet yX1_inSet, .initialized RX1, .code yX1_inSet cX1_inSet 4 (some .int), .methodLink RX1 69 yX1_may, .instanceMethod yX1_may, .selects RX1 yX1_may yX1_may, .code yX1_may cX1_may 1 (some .boolean), .fieldLink RX1 59 "CapStoreModel" "writes" "I", .methodLink RX1 73 yX1_header, .instanceMethod yX1_header, .selects RX1 yX1_header yX1_header, .code yX1_header cX1_header 2 none, .methodLink RX1 80 yX1_member, .instanceMethod yX1_member, .selects RX1 yX1_member yX1_member, .code yX1_member cX1_member 5 (some .int)] ++ wsX10)
def wsX1_isUp : List Cond := .code yX1_isUp cX1_isUp 1 (some .boolean) :: ([.fieldLink RX1 28 "CapStoreModel" "down" "Z"] ++ wsX10)
def wsX1_key : List Cond := .code yX1_key cX1_key 3 (some .int) :: ([.fieldLink RX1 28 "CapStoreModel" "down" "Z", .fieldLink RX1 7 "CapStoreModel" "memory" "[I", .methodLink RX1 31 yX1_eight, .static yX1_eight, .initialized RX1, .code yX1_eight cX1_eight 1 (some .boolean)] ++ wsX10)
def wsX1_word : List Cond := .code yX1_word cX1_word 3 (some .long) :: ([.fieldLink RX1 28 "CapStoreModel" "down" "Z", .constantLong RX1 83 (4294967295), .fieldLink RX1 7 "CapStoreModel" "memory" "[I", .constantLong RX1 85 (4294967294), .methodLink RX1 31 yX1_eight, .static yX1_eight, .initialized RX1, .code yX1_eight cX1_eight 1 (some .boolean)] ++ wsX10)
def wsX1_disk : List Cond := .code yX1_disk cX1_disk 3 (some .int) :: ([.fieldLink RX1 13 "CapStoreModel" "disk" "[I", .methodLink RX1 31 yX1_eight, .static yX1_eight, .initialized RX1, .code yX1_eight cX1_eight 1 (some .boolean)] ++ wsX10)
def wsX1_writes : List Cond := .code yX1_writes cX1_writes 1 (some .int) :: ([.fieldLink RX1 59 "CapStoreModel" "writes" "I"] ++ wsX10)
def wsX1_commits : List Cond := .code yX1_commits cX1_commits 1 (some .int) :: ([.fieldLink RX1 77 "CapStoreModel" "commits" "I"] ++ wsX10)
def wsL_law_r1 : List Cond := [Cond.classLink RL 7 RX0, Cond.instantiable RX0 8, Cond.initialized RX0, Cond.classLink RL 10 RX1, Cond.instantiable RX1 8, Cond.initialized RX1, Cond.methodLink RL 9 yX0_init, Cond.instanceMethod yX0_init, Cond.code yX0_init cX0_init 1 none, Cond.methodLink RX0 3 objectInit, Cond.instanceMethod objectInit, Cond.code objectInit ⟨#[0xb1]⟩ 1 none, Cond.arrayClass .int, Cond.fieldLink RX0 9 "CapStore" "memory" "[I", Cond.fieldLink RX0 13 "CapStore" "blocks" "[I", Cond.fieldLink RX0 16 "CapStore" "headerRow" "[I", Cond.fieldLink RX0 19 "CapStore" "dirtySet" "I", Cond.fieldLink RX0 23 "CapStore" "powerLeft" "I", Cond.fieldLink RX0 26 "CapStore" "running" "Z", Cond.fieldLink RX0 30 "CapStore" "written" "I", Cond.fieldLink RX0 33 "CapStore" "committed" "I", Cond.methodLink RL 12 yX1_init, Cond.instanceMethod yX1_init, Cond.code yX1_init cX1_init 1 none]
def wsL_law_r2 : List Cond := [Cond.methodLink RX1 1 objectInit, Cond.fieldLink RX1 7 "CapStoreModel" "memory" "[I", Cond.fieldLink RX1 13 "CapStoreModel" "disk" "[I", Cond.arrayClass .boolean, Cond.fieldLink RX1 16 "CapStoreModel" "stored" "[Z", Cond.fieldLink RX1 20 "CapStoreModel" "endless" "Z", Cond.methodLink RL 13 yX0_place, Cond.instanceMethod yX0_place, Cond.selects RX0 yX0_place yX0_place, Cond.code yX0_place cX0_place 5 (some .int), Cond.methodLink RX0 36 yX0_isNode, Cond.static yX0_isNode, Cond.code yX0_isNode cX0_isNode 1 (some .boolean), Cond.methodLink RX0 40 yX0_isInRow, Cond.static yX0_isInRow, Cond.code yX0_isInRow cX0_isInRow 1 (some .boolean), Cond.methodLink RX0 43 yX0_isKey, Cond.static yX0_isKey, Cond.code yX0_isKey cX0_isKey 1 (some .boolean), Cond.methodLink RX0 46 yX0_refusal, Cond.instanceMethod yX0_refusal, Cond.selects RX0 yX0_refusal yX0_refusal, Cond.code yX0_refusal cX0_refusal 2 (some .int), Cond.methodLink RX0 50 yX0_put]
def wsL_law_r3 : List Cond := [Cond.instanceMethod yX0_put, Cond.selects RX0 yX0_put yX0_put, Cond.code yX0_put cX0_put 4 none, Cond.methodLink RL 17 yX1_place, Cond.instanceMethod yX1_place, Cond.selects RX1 yX1_place yX1_place, Cond.code yX1_place cX1_place 4 (some .int), Cond.fieldLink RX1 28 "CapStoreModel" "down" "Z", Cond.methodLink RX1 31 yX1_eight, Cond.static yX1_eight, Cond.code yX1_eight cX1_eight 1 (some .boolean), Cond.methodLink RX1 35 yX1_put, Cond.instanceMethod yX1_put, Cond.selects RX1 yX1_put yX1_put, Cond.code yX1_put cX1_put 4 none, Cond.methodLink RL 18 yX0_fetch, Cond.instanceMethod yX0_fetch, Cond.selects RX0 yX0_fetch yX0_fetch, Cond.code yX0_fetch cX0_fetch 8 (some .int), Cond.methodLink RX0 54 yX0_nodeRefusal, Cond.instanceMethod yX0_nodeRefusal, Cond.selects RX0 yX0_nodeRefusal yX0_nodeRefusal, Cond.code yX0_nodeRefusal cX0_nodeRefusal 5 (some .int), Cond.methodLink RX0 80 yX0_isRegister]
def wsL_law_r4 : List Cond := [Cond.static yX0_isRegister, Cond.code yX0_isRegister cX0_isRegister 2 (some .boolean), Cond.methodLink RX0 58 yX0_get, Cond.instanceMethod yX0_get, Cond.selects RX0 yX0_get yX0_get, Cond.code yX0_get cX0_get 3 (some .int), Cond.methodLink RX0 106 yX0_isNodeKey, Cond.static yX0_isNodeKey, Cond.code yX0_isNodeKey cX0_isNodeKey 1 (some .boolean), Cond.methodLink RX0 62 yX0_objectOf, Cond.static yX0_objectOf, Cond.code yX0_objectOf cX0_objectOf 1 (some .int), Cond.methodLink RX0 66 yX0_isWeak, Cond.static yX0_isWeak, Cond.code yX0_isWeak cX0_isWeak 1 (some .boolean), Cond.methodLink RX0 112 yX0_limitsOf, Cond.static yX0_limitsOf, Cond.code yX0_limitsOf cX0_limitsOf 1 (some .int), Cond.methodLink RX0 69 yX0_limited, Cond.static yX0_limited, Cond.code yX0_limited cX0_limited 2 (some .int), Cond.methodLink RL 22 yX1_fetch, Cond.instanceMethod yX1_fetch, Cond.selects RX1 yX1_fetch yX1_fetch]
def wsL_law_r5 : List Cond := [Cond.code yX1_fetch cX1_fetch 8 (some .int), Cond.methodLink RX1 45 yX1_refusal, Cond.instanceMethod yX1_refusal, Cond.selects RX1 yX1_refusal yX1_refusal, Cond.code yX1_refusal cX1_refusal 8 (some .int), Cond.methodLink RX1 39 yX1_third, Cond.static yX1_third, Cond.code yX1_third cX1_third 1 (some .boolean), Cond.methodLink RX1 42 yX1_object, Cond.static yX1_object, Cond.code yX1_object cX1_object 1 (some .int), Cond.methodLink RX1 24 yX1_limits, Cond.static yX1_limits, Cond.code yX1_limits cX1_limits 1 (some .int), Cond.methodLink RX1 49 yX1_limited, Cond.static yX1_limited, Cond.code yX1_limited cX1_limited 2 (some .int), Cond.methodLink RL 23 yX0_store, Cond.instanceMethod yX0_store, Cond.selects RX0 yX0_store yX0_store, Cond.code yX0_store cX0_store 7 (some .int), Cond.methodLink RX0 72 yX0_isWriting, Cond.static yX0_isWriting, Cond.code yX0_isWriting cX0_isWriting 1 (some .boolean)]
def wsL_law_r6 : List Cond := [Cond.methodLink RL 26 yX1_store, Cond.instanceMethod yX1_store, Cond.selects RX1 yX1_store yX1_store, Cond.code yX1_store cX1_store 6 (some .int), Cond.methodLink RL 27 yX0_read, Cond.instanceMethod yX0_read, Cond.selects RX0 yX0_read yX0_read, Cond.code yX0_read cX0_read 5 (some .long), Cond.constantLong RX0 78 (4294967296), Cond.methodLink RX0 75 yX0_pageRefusal, Cond.instanceMethod yX0_pageRefusal, Cond.selects RX0 yX0_pageRefusal yX0_pageRefusal, Cond.code yX0_pageRefusal cX0_pageRefusal 5 (some .int), Cond.methodLink RX0 109 yX0_isPageKey, Cond.static yX0_isPageKey, Cond.code yX0_isPageKey cX0_isPageKey 1 (some .boolean), Cond.methodLink RL 31 yX1_read, Cond.instanceMethod yX1_read, Cond.selects RX1 yX1_read yX1_read, Cond.code yX1_read cX1_read 5 (some .long), Cond.constantLong RX1 53 (4294967296), Cond.methodLink RL 32 yX0_write, Cond.instanceMethod yX0_write, Cond.selects RX0 yX0_write yX0_write]
def wsL_law_r7 : List Cond := [Cond.code yX0_write cX0_write 7 (some .int), Cond.methodLink RL 35 yX1_write, Cond.instanceMethod yX1_write, Cond.selects RX1 yX1_write yX1_write, Cond.code yX1_write cX1_write 6 (some .int), Cond.methodLink RL 36 yX0_restrict, Cond.instanceMethod yX0_restrict, Cond.selects RX0 yX0_restrict yX0_restrict, Cond.code yX0_restrict cX0_restrict 6 (some .int), Cond.methodLink RX0 84 yX0_isLimits, Cond.static yX0_isLimits, Cond.code yX0_isLimits cX0_isLimits 1 (some .boolean), Cond.methodLink RL 39 yX1_restrict, Cond.instanceMethod yX1_restrict, Cond.selects RX1 yX1_restrict yX1_restrict, Cond.code yX1_restrict cX1_restrict 5 (some .int), Cond.methodLink RL 40 yX0_clear, Cond.instanceMethod yX0_clear, Cond.selects RX0 yX0_clear yX0_clear, Cond.code yX0_clear cX0_clear 4 (some .int), Cond.methodLink RL 44 yX1_clear, Cond.instanceMethod yX1_clear, Cond.selects RX1 yX1_clear yX1_clear, Cond.code yX1_clear cX1_clear 3 (some .int)]
def wsL_law_r8 : List Cond := [Cond.methodLink RL 45 yX0_checkpoint, Cond.instanceMethod yX0_checkpoint, Cond.selects RX0 yX0_checkpoint yX0_checkpoint, Cond.code yX0_checkpoint cX0_checkpoint 2 (some .int), Cond.methodLink RX0 87 yX0_saveDirty, Cond.instanceMethod yX0_saveDirty, Cond.selects RX0 yX0_saveDirty yX0_saveDirty, Cond.code yX0_saveDirty cX0_saveDirty 1 (some .boolean), Cond.methodLink RX0 115 yX0_copyRows, Cond.instanceMethod yX0_copyRows, Cond.selects RX0 yX0_copyRows yX0_copyRows, Cond.code yX0_copyRows cX0_copyRows 6 (some .boolean), Cond.methodLink RX0 128 yX0_has, Cond.static yX0_has, Cond.code yX0_has cX0_has 2 (some .boolean), Cond.methodLink RX0 131 yX0_writeBlock, Cond.instanceMethod yX0_writeBlock, Cond.selects RX0 yX0_writeBlock yX0_writeBlock, Cond.code yX0_writeBlock cX0_writeBlock 4 (some .boolean), Cond.methodLink RX0 122 arraycopyName, Cond.native arraycopyName, Cond.static arraycopyName, Cond.initialized "java/lang/System", Cond.methodLink RX0 119 yX0_writeHeader]
def wsL_law_r9 : List Cond := [Cond.instanceMethod yX0_writeHeader, Cond.selects RX0 yX0_writeHeader yX0_writeHeader, Cond.code yX0_writeHeader cX0_writeHeader 2 (some .boolean), Cond.methodLink RL 49 yX1_checkpoint, Cond.instanceMethod yX1_checkpoint, Cond.selects RX1 yX1_checkpoint yX1_checkpoint, Cond.code yX1_checkpoint cX1_checkpoint 7 (some .int), Cond.fieldLink RX1 77 "CapStoreModel" "commits" "I", Cond.methodLink RX1 62 yX1_dirty, Cond.instanceMethod yX1_dirty, Cond.selects RX1 yX1_dirty yX1_dirty, Cond.code yX1_dirty cX1_dirty 3 (some .int), Cond.methodLink RX1 66 yX1_inSet, Cond.instanceMethod yX1_inSet, Cond.selects RX1 yX1_inSet yX1_inSet, Cond.code yX1_inSet cX1_inSet 4 (some .int), Cond.methodLink RX1 69 yX1_may, Cond.instanceMethod yX1_may, Cond.selects RX1 yX1_may yX1_may, Cond.code yX1_may cX1_may 1 (some .boolean), Cond.fieldLink RX1 55 "CapStoreModel" "power" "I", Cond.fieldLink RX1 59 "CapStoreModel" "writes" "I", Cond.methodLink RX1 73 yX1_header, Cond.instanceMethod yX1_header]
def wsL_law_r10 : List Cond := [Cond.selects RX1 yX1_header yX1_header, Cond.code yX1_header cX1_header 2 none, Cond.methodLink RX1 80 yX1_member, Cond.instanceMethod yX1_member, Cond.selects RX1 yX1_member yX1_member, Cond.code yX1_member cX1_member 5 (some .int), Cond.methodLink RL 50 yX0_power, Cond.instanceMethod yX0_power, Cond.selects RX0 yX0_power yX0_power, Cond.code yX0_power cX0_power 3 (some .int), Cond.methodLink RX0 91 yX0_isPower, Cond.static yX0_isPower, Cond.code yX0_isPower cX0_isPower 1 (some .boolean), Cond.methodLink RL 54 yX1_power, Cond.instanceMethod yX1_power, Cond.selects RX1 yX1_power yX1_power, Cond.code yX1_power cX1_power 2 (some .int), Cond.methodLink RL 55 yX0_crash, Cond.instanceMethod yX0_crash, Cond.selects RX0 yX0_crash yX0_crash, Cond.code yX0_crash cX0_crash 2 (some .boolean), Cond.methodLink RL 59 yX1_crash, Cond.instanceMethod yX1_crash, Cond.selects RX1 yX1_crash yX1_crash]
def wsL_law_r11 : List Cond := [Cond.code yX1_crash cX1_crash 2 (some .boolean), Cond.methodLink RL 60 yX0_start, Cond.instanceMethod yX0_start, Cond.selects RX0 yX0_start yX0_start, Cond.code yX0_start cX0_start 3 (some .int), Cond.methodLink RX0 94 yX0_finishCommitted, Cond.instanceMethod yX0_finishCommitted, Cond.selects RX0 yX0_finishCommitted yX0_finishCommitted, Cond.code yX0_finishCommitted cX0_finishCommitted 2 (some .boolean), Cond.methodLink RX0 97 yX0_loadHomes, Cond.instanceMethod yX0_loadHomes, Cond.selects RX0 yX0_loadHomes yX0_loadHomes, Cond.code yX0_loadHomes cX0_loadHomes 1 none, Cond.methodLink RL 63 yX1_start, Cond.instanceMethod yX1_start, Cond.selects RX1 yX1_start yX1_start, Cond.code yX1_start cX1_start 7 (some .int), Cond.methodLink RL 64 yX0_isUp, Cond.instanceMethod yX0_isUp, Cond.selects RX0 yX0_isUp yX0_isUp, Cond.code yX0_isUp cX0_isUp 1 (some .boolean), Cond.methodLink RL 67 yX1_isUp, Cond.instanceMethod yX1_isUp, Cond.selects RX1 yX1_isUp yX1_isUp]
def wsL_law_r12 : List Cond := [Cond.code yX1_isUp cX1_isUp 1 (some .boolean), Cond.methodLink RL 68 yX0_key, Cond.instanceMethod yX0_key, Cond.selects RX0 yX0_key yX0_key, Cond.code yX0_key cX0_key 4 (some .int), Cond.methodLink RL 71 yX1_key, Cond.instanceMethod yX1_key, Cond.selects RX1 yX1_key yX1_key, Cond.code yX1_key cX1_key 3 (some .int), Cond.methodLink RL 72 yX0_word, Cond.instanceMethod yX0_word, Cond.selects RX0 yX0_word yX0_word, Cond.code yX0_word cX0_word 4 (some .long), Cond.methodLink RX0 100 yX0_isPage, Cond.static yX0_isPage, Cond.code yX0_isPage cX0_isPage 1 (some .boolean), Cond.methodLink RL 76 yX1_word, Cond.instanceMethod yX1_word, Cond.selects RX1 yX1_word yX1_word, Cond.code yX1_word cX1_word 3 (some .long), Cond.constantLong RX1 83 (4294967295), Cond.constantLong RX1 85 (4294967294), Cond.methodLink RL 77 yX0_dirty, Cond.instanceMethod yX0_dirty]
def wsL_law_r13 : List Cond := [Cond.selects RX0 yX0_dirty yX0_dirty, Cond.code yX0_dirty cX0_dirty 1 (some .int), Cond.methodLink RL 80 yX1_dirty, Cond.methodLink RL 81 yX0_disk, Cond.instanceMethod yX0_disk, Cond.selects RX0 yX0_disk yX0_disk, Cond.code yX0_disk cX0_disk 3 (some .int), Cond.methodLink RX0 103 yX0_isBlock, Cond.static yX0_isBlock, Cond.code yX0_isBlock cX0_isBlock 1 (some .boolean), Cond.methodLink RL 84 yX1_disk, Cond.instanceMethod yX1_disk, Cond.selects RX1 yX1_disk yX1_disk, Cond.code yX1_disk cX1_disk 3 (some .int), Cond.methodLink RL 85 yX0_writes, Cond.instanceMethod yX0_writes, Cond.selects RX0 yX0_writes yX0_writes, Cond.code yX0_writes cX0_writes 1 (some .int), Cond.methodLink RL 88 yX1_writes, Cond.instanceMethod yX1_writes, Cond.selects RX1 yX1_writes yX1_writes, Cond.code yX1_writes cX1_writes 1 (some .int), Cond.methodLink RL 89 yX0_commits, Cond.instanceMethod yX0_commits]
def wsL_law_r14 : List Cond := [Cond.selects RX0 yX0_commits yX0_commits, Cond.code yX0_commits cX0_commits 1 (some .int), Cond.methodLink RL 92 yX1_commits, Cond.instanceMethod yX1_commits, Cond.selects RX1 yX1_commits yX1_commits, Cond.code yX1_commits cX1_commits 1 (some .int)]
def wsL_law : List Cond := (wsL_law_r1 ++ (wsL_law_r2 ++ (wsL_law_r3 ++ (wsL_law_r4 ++ (wsL_law_r5 ++ (wsL_law_r6 ++ (wsL_law_r7 ++ (wsL_law_r8 ++ (wsL_law_r9 ++ (wsL_law_r10 ++ (wsL_law_r11 ++ (wsL_law_r12 ++ (wsL_law_r13 ++ wsL_law_r14))))))))))))) ++ wsX00 ++ wsX10 ++ ([] : List Cond)
set_option maxRecDepth 20000 in
theorem wsL_law_in : ∀ w ∈ wsL_law, w ∈ lw_tbl := fun w h => (goodIn_p wsL_law [25, 28, 227, 58, 61, 64, 67, 71, 75, 258, 261, 265, 79, 83, 86, 90, 93, 96, 99, 102, 105, 269, 273, 276, 279, 282, 285, 109, 112, 289, 116, 120, 123, 293, 128, 298, 132, 135, 302, 139, 306, 143, 147, 151, 154, 158, 165, 310, 314, 318, 322, 326, 330, 169, 172, 334, 176, 338, 180, 184, 188, 342, 192, 346, 196, 350, 200, 203, 354, 207, 211, 214, 361, 218, 365, 222, 369] (by decide +kernel) (by decide +kernel) w h).1
theorem inlX0 : ∀ w ∈ wsX00, w ∈ wsL_law := fun _ h => List.mem_append_left _ (List.mem_append_left _ (List.mem_append_right _ h))
theorem inX0 : ∀ w ∈ wsX00, w ∈ lw_tbl := fun w h => wsL_law_in w (inlX0 w h)
theorem inlX1 : ∀ w ∈ wsX10, w ∈ wsL_law := fun _ h => List.mem_append_left _ (List.mem_append_right _ h)
theorem inX1 : ∀ w ∈ wsX10, w ∈ lw_tbl := fun w h => wsL_law_in w (inlX1 w h)
theorem inJ10 : ∀ w ∈ wsJ100, w ∈ lw_tbl := by decide +kernel
abbrev vwCl : List vw_C := [(RX0, TX0, 8), (RX1, TX1, 8)]
