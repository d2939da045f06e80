section
def lw_okq (q : MethodName × Nat) : Prop := (q.1.cls ≠ "java/lang/invoke/MethodHandle" ∧ q.1.cls ≠ "java/lang/invoke/VarHandle") ∧ Cond.instantiable q.1.cls q.2 ∈ tables_1 ∧ Cond.privateMethod q.1 ∈ tables_1 ∧ Cond.instanceMethod q.1 ∈ tables_1
theorem lw_p0 : lw_okq (⟨"RouteTrie", "routeAt", "(II)LRouteTrie$Node;"⟩, 2) := ⟨⟨by decide +kernel, by decide +kernel⟩, List.mem_of_getElem? (i := 7) (by decide +kernel), List.mem_of_getElem? (i := 67) (by decide +kernel), List.mem_of_getElem? (i := 68) (by decide +kernel)⟩
theorem lw_p1 : lw_okq (⟨"RouteTrie", "topmost", "(II)LRouteTrie$Node;"⟩, 2) := ⟨⟨by decide +kernel, by decide +kernel⟩, List.mem_of_getElem? (i := 7) (by decide +kernel), List.mem_of_getElem? (i := 71) (by decide +kernel), List.mem_of_getElem? (i := 72) (by decide +kernel)⟩
theorem lw_p2 : lw_okq (⟨"RouteTrie$Node", "toward", "(I)LRouteTrie$Node;"⟩, 6) := ⟨⟨by decide +kernel, by decide +kernel⟩, List.mem_of_getElem? (i := 15) (by decide +kernel), List.mem_of_getElem? (i := 75) (by decide +kernel), List.mem_of_getElem? (i := 76) (by decide +kernel)⟩
theorem lw_p3 : lw_okq (⟨"RouteTrie$Node", "goesToOne", "(I)Z"⟩, 6) := ⟨⟨by decide +kernel, by decide +kernel⟩, List.mem_of_getElem? (i := 15) (by decide +kernel), List.mem_of_getElem? (i := 79) (by decide +kernel), List.mem_of_getElem? (i := 80) (by decide +kernel)⟩
theorem lw_p4 : lw_okq (⟨"RouteTrie$Node", "isRoute", "()Z"⟩, 6) := ⟨⟨by decide +kernel, by decide +kernel⟩, List.mem_of_getElem? (i := 15) (by decide +kernel), List.mem_of_getElem? (i := 83) (by decide +kernel), List.mem_of_getElem? (i := 84) (by decide +kernel)⟩
theorem lw_p5 : lw_okq (⟨"RouteTrie", "grow", "(III)V"⟩, 2) := ⟨⟨by decide +kernel, by decide +kernel⟩, List.mem_of_getElem? (i := 7) (by decide +kernel), List.mem_of_getElem? (i := 87) (by decide +kernel), List.mem_of_getElem? (i := 88) (by decide +kernel)⟩
theorem lw_p6 : lw_okq (⟨"RouteTrie$Node", "isBeginOf", "(I)Z"⟩, 6) := ⟨⟨by decide +kernel, by decide +kernel⟩, List.mem_of_getElem? (i := 15) (by decide +kernel), List.mem_of_getElem? (i := 91) (by decide +kernel), List.mem_of_getElem? (i := 92) (by decide +kernel)⟩
theorem lw_p7 : lw_okq (⟨"RouteTrie", "newNode", "(III)LRouteTrie$Node;"⟩, 2) := ⟨⟨by decide +kernel, by decide +kernel⟩, List.mem_of_getElem? (i := 7) (by decide +kernel), List.mem_of_getElem? (i := 96) (by decide +kernel), List.mem_of_getElem? (i := 97) (by decide +kernel)⟩
theorem lw_p8 : lw_okq (⟨"RouteTrie", "joined", "(LRouteTrie$Node;LRouteTrie$Node;)LRouteTrie$Node;"⟩, 2) := ⟨⟨by decide +kernel, by decide +kernel⟩, List.mem_of_getElem? (i := 7) (by decide +kernel), List.mem_of_getElem? (i := 100) (by decide +kernel), List.mem_of_getElem? (i := 101) (by decide +kernel)⟩
theorem lw_p9 : lw_okq (⟨"RouteTrie$Node", "hang", "(LRouteTrie$Node;)V"⟩, 6) := ⟨⟨by decide +kernel, by decide +kernel⟩, List.mem_of_getElem? (i := 15) (by decide +kernel), List.mem_of_getElem? (i := 114) (by decide +kernel), List.mem_of_getElem? (i := 115) (by decide +kernel)⟩
theorem lw_p10 : lw_okq (⟨"RouteTrie", "cut", "(LRouteTrie$Node;)V"⟩, 2) := ⟨⟨by decide +kernel, by decide +kernel⟩, List.mem_of_getElem? (i := 7) (by decide +kernel), List.mem_of_getElem? (i := 122) (by decide +kernel), List.mem_of_getElem? (i := 123) (by decide +kernel)⟩
theorem lw_p11 : lw_okq (⟨"RouteTrie", "dropIfIdle", "(LRouteTrie$Node;LRouteTrie$Node;)V"⟩, 2) := ⟨⟨by decide +kernel, by decide +kernel⟩, List.mem_of_getElem? (i := 7) (by decide +kernel), List.mem_of_getElem? (i := 126) (by decide +kernel), List.mem_of_getElem? (i := 127) (by decide +kernel)⟩
theorem lw_p12 : lw_okq (⟨"RouteTrie$Node", "replace", "(LRouteTrie$Node;LRouteTrie$Node;)V"⟩, 6) := ⟨⟨by decide +kernel, by decide +kernel⟩, List.mem_of_getElem? (i := 15) (by decide +kernel), List.mem_of_getElem? (i := 130) (by decide +kernel), List.mem_of_getElem? (i := 131) (by decide +kernel)⟩
theorem lw_p13 : lw_okq (⟨"RouteTrie", "longestRoute", "(I)LRouteTrie$Node;"⟩, 2) := ⟨⟨by decide +kernel, by decide +kernel⟩, List.mem_of_getElem? (i := 7) (by decide +kernel), List.mem_of_getElem? (i := 138) (by decide +kernel), List.mem_of_getElem? (i := 139) (by decide +kernel)⟩
theorem lw_p14 : lw_okq (⟨"RouteTrie", "inOrder", "(I)LRouteTrie$Node;"⟩, 2) := ⟨⟨by decide +kernel, by decide +kernel⟩, List.mem_of_getElem? (i := 7) (by decide +kernel), List.mem_of_getElem? (i := 158) (by decide +kernel), List.mem_of_getElem? (i := 159) (by decide +kernel)⟩
theorem lw_p15 : lw_okq (⟨"RouteTrieModel", "find", "(II)I"⟩, 8) := ⟨⟨by decide +kernel, by decide +kernel⟩, List.mem_of_getElem? (i := 174) (by decide +kernel), List.mem_of_getElem? (i := 220) (by decide +kernel), List.mem_of_getElem? (i := 221) (by decide +kernel)⟩
def lw_privs_1 : List (MethodName × Nat) := [(⟨"RouteTrie", "routeAt", "(II)LRouteTrie$Node;"⟩, 2), (⟨"RouteTrie", "topmost", "(II)LRouteTrie$Node;"⟩, 2), (⟨"RouteTrie$Node", "toward", "(I)LRouteTrie$Node;"⟩, 6), (⟨"RouteTrie$Node", "goesToOne", "(I)Z"⟩, 6), (⟨"RouteTrie$Node", "isRoute", "()Z"⟩, 6), (⟨"RouteTrie", "grow", "(III)V"⟩, 2), (⟨"RouteTrie$Node", "isBeginOf", "(I)Z"⟩, 6), (⟨"RouteTrie", "newNode", "(III)LRouteTrie$Node;"⟩, 2), (⟨"RouteTrie", "joined", "(LRouteTrie$Node;LRouteTrie$Node;)LRouteTrie$Node;"⟩, 2), (⟨"RouteTrie$Node", "hang", "(LRouteTrie$Node;)V"⟩, 6), (⟨"RouteTrie", "cut", "(LRouteTrie$Node;)V"⟩, 2), (⟨"RouteTrie", "dropIfIdle", "(LRouteTrie$Node;LRouteTrie$Node;)V"⟩, 2), (⟨"RouteTrie$Node", "replace", "(LRouteTrie$Node;LRouteTrie$Node;)V"⟩, 6), (⟨"RouteTrie", "longestRoute", "(I)LRouteTrie$Node;"⟩, 2), (⟨"RouteTrie", "inOrder", "(I)LRouteTrie$Node;"⟩, 2), (⟨"RouteTrieModel", "find", "(II)I"⟩, 8)]
theorem lw_r1 : ∀ q ∈ lw_privs_1, lw_okq q := List.forall_mem_cons.mpr ⟨lw_p0, List.forall_mem_cons.mpr ⟨lw_p1, List.forall_mem_cons.mpr ⟨lw_p2, List.forall_mem_cons.mpr ⟨lw_p3, List.forall_mem_cons.mpr ⟨lw_p4, List.forall_mem_cons.mpr ⟨lw_p5, List.forall_mem_cons.mpr ⟨lw_p6, List.forall_mem_cons.mpr ⟨lw_p7, List.forall_mem_cons.mpr ⟨lw_p8, List.forall_mem_cons.mpr ⟨lw_p9, List.forall_mem_cons.mpr ⟨lw_p10, List.forall_mem_cons.mpr ⟨lw_p11, List.forall_mem_cons.mpr ⟨lw_p12, List.forall_mem_cons.mpr ⟨lw_p13, List.forall_mem_cons.mpr ⟨lw_p14, List.forall_mem_cons.mpr ⟨lw_p15, fun _ h => absurd h List.not_mem_nil⟩⟩⟩⟩⟩⟩⟩⟩⟩⟩⟩⟩⟩⟩⟩⟩
theorem lw_p16 : lw_okq (⟨"RouteTrieModel", "isBefore", "(III)Z"⟩, 8) := ⟨⟨by decide +kernel, by decide +kernel⟩, List.mem_of_getElem? (i := 174) (by decide +kernel), List.mem_of_getElem? (i := 224) (by decide +kernel), List.mem_of_getElem? (i := 225) (by decide +kernel)⟩
theorem lw_p17 : lw_okq (⟨"RouteTrieModel", "longest", "(I)I"⟩, 8) := ⟨⟨by decide +kernel, by decide +kernel⟩, List.mem_of_getElem? (i := 174) (by decide +kernel), List.mem_of_getElem? (i := 237) (by decide +kernel), List.mem_of_getElem? (i := 238) (by decide +kernel)⟩
theorem lw_p18 : lw_okq (⟨"RouteTrieModel", "findNodes", "()V"⟩, 8) := ⟨⟨by decide +kernel, by decide +kernel⟩, List.mem_of_getElem? (i := 174) (by decide +kernel), List.mem_of_getElem? (i := 268) (by decide +kernel), List.mem_of_getElem? (i := 269) (by decide +kernel)⟩
theorem lw_p19 : lw_okq (⟨"RouteTrieModel", "add", "(II)V"⟩, 8) := ⟨⟨by decide +kernel, by decide +kernel⟩, List.mem_of_getElem? (i := 174) (by decide +kernel), List.mem_of_getElem? (i := 272) (by decide +kernel), List.mem_of_getElem? (i := 273) (by decide +kernel)⟩
def lw_privs_2 : List (MethodName × Nat) := [(⟨"RouteTrieModel", "isBefore", "(III)Z"⟩, 8), (⟨"RouteTrieModel", "longest", "(I)I"⟩, 8), (⟨"RouteTrieModel", "findNodes", "()V"⟩, 8), (⟨"RouteTrieModel", "add", "(II)V"⟩, 8)]
theorem lw_r2 : ∀ q ∈ lw_privs_2, lw_okq q := List.forall_mem_cons.mpr ⟨lw_p16, List.forall_mem_cons.mpr ⟨lw_p17, List.forall_mem_cons.mpr ⟨lw_p18, List.forall_mem_cons.mpr ⟨lw_p19, fun _ h => absurd h List.not_mem_nil⟩⟩⟩⟩
def lw_privs : List (MethodName × Nat) := lw_privs_1 ++ (lw_privs_2)
def lw_tbl : List Cond := k2_sels lw_privs ++ tables_1
theorem lw_privs_ok : ∀ q ∈ lw_privs, lw_okq q := by
  show ∀ q ∈ lw_privs_1 ++ (lw_privs_2), lw_okq q
  exact List.forall_mem_append.mpr ⟨lw_r1, lw_r2⟩
end
section
/-! ===== BEGIN words of one list among another's, by their places ===== -/
theorem goodIn_r {big : List Cond} (ws : List Cond) (ps : List Nat) (hp : ws = ps.filterMap (fun i => big[i]?)) (h : ws.all goodWord = true) : GoodIn big ws := by
  intro w hw
  have h1 := List.all_eq_true.mp h w hw
  rw [hp] at hw
  obtain ⟨i, -, hi⟩ := List.mem_filterMap.mp hw
  have hm : w ∈ big := by first | exact List.mem_of_getElem? hi | exact List.getElem?_mem hi
  exact ⟨hm, good_of_word h1⟩
theorem goodIn_app {big a b : List Cond} (ha : GoodIn big a) (hb : GoodIn big b) : GoodIn big (a ++ b) := fun w h => (List.mem_append.mp h).elim (ha w) (hb w)
theorem goodIn_ca {big a b : List Cond} {c : Cond} (ha : GoodIn big (c :: a)) (hb : GoodIn big b) : GoodIn big (c :: (a ++ b)) := fun w h => (List.mem_cons.mp h).elim (fun e => ha w (List.mem_cons.mpr (Or.inl e))) (fun h => (List.mem_append.mp h).elim (fun h => ha w (List.mem_cons.mpr (Or.inr h))) (hb w))
theorem goodIn_sub {big ws : List Cond} (hm : ∀ w ∈ ws, w ∈ big) (h : ws.all goodWord = true) : GoodIn big ws := fun w hw => ⟨hm w hw, good_of_word (List.all_eq_true.mp h w hw)⟩
/-! ===== END ===== -/

/-! ===== BEGIN printed: names, fields, word lists, decode rows ===== -/
def RX0 : String := "RouteTrie$Node"
def TX0 : u_T := fun k => match k with
  | 0 => ("RouteTrie$Node", "bits", "I", true)
  | 1 => ("RouteTrie$Node", "len", "I", true)
  | 2 => ("RouteTrie$Node", "hop", "I", false)
  | 3 => ("RouteTrie$Node", "routes", "I", false)
  | 4 => ("RouteTrie$Node", "zero", "LRouteTrie$Node;", false)
  | _ => ("RouteTrie$Node", "one", "LRouteTrie$Node;", false)
def tyX0 : Nat → FieldType := fun k => match k with
  | 0 => .int
  | 1 => .int
  | 2 => .int
  | 3 => .int
  | 4 => .object "RouteTrie$Node"
  | _ => .object "RouteTrie$Node"
abbrev wsX00 : List Cond := u_ws RX0 TX0 6
theorem nmX0 : ∀ a, a < 6 → ∀ b, b < 6 → a ≠ b → (TX0 a).2.1 ≠ (TX0 b).2.1 := by decide +kernel
theorem tyX0_ok : ∀ k, k < 6 → parseFieldDescriptor (TX0 k).2.2.1 = some (tyX0 k) := by decide +kernel
abbrev cX0_init : ByteArray := prog_2_method_1_code
def yX0_init : MethodName := ⟨RX0, "<init>", "(III)V"⟩
abbrev cX0_isRoute : ByteArray := prog_2_method_2_code
def yX0_isRoute : MethodName := ⟨RX0, "isRoute", "()Z"⟩
abbrev cX0_isBeginOf : ByteArray := prog_2_method_3_code
def yX0_isBeginOf : MethodName := ⟨RX0, "isBeginOf", "(I)Z"⟩
abbrev cX0_goesToOne : ByteArray := prog_2_method_4_code
def yX0_goesToOne : MethodName := ⟨RX0, "goesToOne", "(I)Z"⟩
abbrev cX0_toward : ByteArray := prog_2_method_5_code
def yX0_toward : MethodName := ⟨RX0, "toward", "(I)LRouteTrie$Node;"⟩
abbrev cX0_hang : ByteArray := prog_2_method_6_code
def yX0_hang : MethodName := ⟨RX0, "hang", "(LRouteTrie$Node;)V"⟩
abbrev cX0_replace : ByteArray := prog_2_method_7_code
def yX0_replace : MethodName := ⟨RX0, "replace", "(LRouteTrie$Node;LRouteTrie$Node;)V"⟩
def RX1 : String := "RouteTrie"
def TX1 : u_T := fun k => match k with
  | 0 => ("RouteTrie", "root", "LRouteTrie$Node;", true)
  | _ => ("RouteTrie", "nodeCount", "I", false)
def tyX1 : Nat → FieldType := fun k => match k with
  | 0 => .object "RouteTrie$Node"
  | _ => .int
abbrev wsX10 : List Cond := u_ws RX1 TX1 2
theorem nmX1 : ∀ a, a < 2 → ∀ b, b < 2 → a ≠ b → (TX1 a).2.1 ≠ (TX1 b).2.1 := by decide +kernel
theorem tyX1_ok : ∀ k, k < 2 → parseFieldDescriptor (TX1 k).2.2.1 = some (tyX1 k) := by decide +kernel
abbrev cX1_init : ByteArray := prog_1_method_1_code
def yX1_init : MethodName := ⟨RX1, "<init>", "()V"⟩
abbrev cX1_init_ : ByteArray := prog_1_method_2_code
def yX1_init_ : MethodName := ⟨RX1, "init", "()V"⟩
abbrev cX1_insert : ByteArray := prog_1_method_3_code
def yX1_insert : MethodName := ⟨RX1, "insert", "(III)I"⟩
abbrev cX1_remove : ByteArray := prog_1_method_4_code
def yX1_remove : MethodName := ⟨RX1, "remove", "(II)Z"⟩
abbrev cX1_lookup : ByteArray := prog_1_method_5_code
def yX1_lookup : MethodName := ⟨RX1, "lookup", "(I)I"⟩
abbrev cX1_lookupLen : ByteArray := prog_1_method_6_code
def yX1_lookupLen : MethodName := ⟨RX1, "lookupLen", "(I)I"⟩
abbrev cX1_exact : ByteArray := prog_1_method_7_code
def yX1_exact : MethodName := ⟨RX1, "exact", "(II)I"⟩
abbrev cX1_under : ByteArray := prog_1_method_8_code
def yX1_under : MethodName := ⟨RX1, "under", "(II)I"⟩
abbrev cX1_route : ByteArray := prog_1_method_9_code
def yX1_route : MethodName := ⟨RX1, "route", "(II)I"⟩
abbrev cX1_count : ByteArray := prog_1_method_10_code
def yX1_count : MethodName := ⟨RX1, "count", "()I"⟩
abbrev cX1_nodes : ByteArray := prog_1_method_11_code
def yX1_nodes : MethodName := ⟨RX1, "nodes", "()I"⟩
abbrev cX1_depth : ByteArray := prog_1_method_12_code
def yX1_depth : MethodName := ⟨RX1, "depth", "(I)I"⟩
abbrev cX1_isPrefix : ByteArray := prog_1_method_13_code
def yX1_isPrefix : MethodName := ⟨RX1, "isPrefix", "(II)Z"⟩
abbrev cX1_firstBits : ByteArray := prog_1_method_14_code
def yX1_firstBits : MethodName := ⟨RX1, "firstBits", "(II)I"⟩
abbrev cX1_commonLength : ByteArray := prog_1_method_15_code
def yX1_commonLength : MethodName := ⟨RX1, "commonLength", "(LRouteTrie$Node;LRouteTrie$Node;)I"⟩
abbrev cX1_topmost : ByteArray := prog_1_method_16_code
def yX1_topmost : MethodName := ⟨RX1, "topmost", "(II)LRouteTrie$Node;"⟩
abbrev cX1_routeAt : ByteArray := prog_1_method_17_code
def yX1_routeAt : MethodName := ⟨RX1, "routeAt", "(II)LRouteTrie$Node;"⟩
abbrev cX1_longestRoute : ByteArray := prog_1_method_18_code
def yX1_longestRoute : MethodName := ⟨RX1, "longestRoute", "(I)LRouteTrie$Node;"⟩
abbrev cX1_inOrder : ByteArray := prog_1_method_19_code
def yX1_inOrder : MethodName := ⟨RX1, "inOrder", "(I)LRouteTrie$Node;"⟩
abbrev cX1_grow : ByteArray := prog_1_method_20_code
def yX1_grow : MethodName := ⟨RX1, "grow", "(III)V"⟩
abbrev cX1_joined : ByteArray := prog_1_method_21_code
def yX1_joined : MethodName := ⟨RX1, "joined", "(LRouteTrie$Node;LRouteTrie$Node;)LRouteTrie$Node;"⟩
abbrev cX1_newNode : ByteArray := prog_1_method_22_code
def yX1_newNode : MethodName := ⟨RX1, "newNode", "(III)LRouteTrie$Node;"⟩
abbrev cX1_cut : ByteArray := prog_1_method_23_code
def yX1_cut : MethodName := ⟨RX1, "cut", "(LRouteTrie$Node;)V"⟩
abbrev cX1_dropIfIdle : ByteArray := prog_1_method_24_code
def yX1_dropIfIdle : MethodName := ⟨RX1, "dropIfIdle", "(LRouteTrie$Node;LRouteTrie$Node;)V"⟩
def RX2 : String := "RouteTrieModel"
def TX2 : u_T := fun k => match k with
  | 0 => ("RouteTrieModel", "code", "I", false)
  | 1 => ("RouteTrieModel", "bits", "[I", true)
  | 2 => ("RouteTrieModel", "lengths", "[I", true)
  | 3 => ("RouteTrieModel", "hops", "[I", true)
  | 4 => ("RouteTrieModel", "size", "I", false)
  | 5 => ("RouteTrieModel", "nodeBits", "[I", true)
  | 6 => ("RouteTrieModel", "nodeLengths", "[I", true)
  | _ => ("RouteTrieModel", "nodeCount", "I", false)
def tyX2 : Nat → FieldType := fun k => match k with
  | 0 => .int
  | 1 => .array .int
  | 2 => .array .int
  | 3 => .array .int
  | 4 => .int
  | 5 => .array .int
  | 6 => .array .int
  | _ => .int
abbrev wsX20 : List Cond := u_ws RX2 TX2 8
theorem nmX2 : ∀ a, a < 8 → ∀ b, b < 8 → a ≠ b → (TX2 a).2.1 ≠ (TX2 b).2.1 := by decide +kernel
theorem tyX2_ok : ∀ k, k < 8 → parseFieldDescriptor (TX2 k).2.2.1 = some (tyX2 k) := by decide +kernel
abbrev cX2_init : ByteArray := prog_4_method_1_code
def yX2_init : MethodName := ⟨RX2, "<init>", "()V"⟩
abbrev cX2_init_ : ByteArray := prog_4_method_3_code
def yX2_init_ : MethodName := ⟨RX2, "init", "()V"⟩
abbrev cX2_mask : ByteArray := prog_4_method_4_code
def yX2_mask : MethodName := ⟨RX2, "mask", "(I)I"⟩
abbrev cX2_isPrefix : ByteArray := prog_4_method_5_code
def yX2_isPrefix : MethodName := ⟨RX2, "isPrefix", "(II)Z"⟩
abbrev cX2_begins : ByteArray := prog_4_method_6_code
def yX2_begins : MethodName := ⟨RX2, "begins", "(III)Z"⟩
abbrev cX2_isBefore : ByteArray := prog_4_method_7_code
def yX2_isBefore : MethodName := ⟨RX2, "isBefore", "(III)Z"⟩
abbrev cX2_find : ByteArray := prog_4_method_8_code
def yX2_find : MethodName := ⟨RX2, "find", "(II)I"⟩
abbrev cX2_insert : ByteArray := prog_4_method_9_code
def yX2_insert : MethodName := ⟨RX2, "insert", "(III)I"⟩
abbrev cX2_remove : ByteArray := prog_4_method_10_code
def yX2_remove : MethodName := ⟨RX2, "remove", "(II)Z"⟩
abbrev cX2_longest : ByteArray := prog_4_method_11_code
def yX2_longest : MethodName := ⟨RX2, "longest", "(I)I"⟩
abbrev cX2_lookup : ByteArray := prog_4_method_12_code
def yX2_lookup : MethodName := ⟨RX2, "lookup", "(I)I"⟩
abbrev cX2_lookupLen : ByteArray := prog_4_method_13_code
def yX2_lookupLen : MethodName := ⟨RX2, "lookupLen", "(I)I"⟩
abbrev cX2_exact : ByteArray := prog_4_method_14_code
def yX2_exact : MethodName := ⟨RX2, "exact", "(II)I"⟩
abbrev cX2_under : ByteArray := prog_4_method_15_code
def yX2_under : MethodName := ⟨RX2, "under", "(II)I"⟩
abbrev cX2_route : ByteArray := prog_4_method_16_code
def yX2_route : MethodName := ⟨RX2, "route", "(II)I"⟩
abbrev cX2_count : ByteArray := prog_4_method_17_code
def yX2_count : MethodName := ⟨RX2, "count", "()I"⟩
abbrev cX2_add : ByteArray := prog_4_method_18_code
def yX2_add : MethodName := ⟨RX2, "add", "(II)V"⟩
abbrev cX2_findNodes : ByteArray := prog_4_method_19_code
def yX2_findNodes : MethodName := ⟨RX2, "findNodes", "()V"⟩
abbrev cX2_nodes : ByteArray := prog_4_method_20_code
def yX2_nodes : MethodName := ⟨RX2, "nodes", "()I"⟩
abbrev cX2_depth : ByteArray := prog_4_method_21_code
def yX2_depth : MethodName := ⟨RX2, "depth", "(I)I"⟩
def RJ6 : String := "java/lang/Integer"
def TJ6 : u_T := fun k => match k with
  | _ => ("", "", "", false)
def tyJ6 : Nat → FieldType := fun k => match k with
  | _ => .int
abbrev wsJ60 : List Cond := u_ws RJ6 TJ6 0
theorem nmJ6 : ∀ a, a < 0 → ∀ b, b < 0 → a ≠ b → (TJ6 a).2.1 ≠ (TJ6 b).2.1 := by decide +kernel
theorem tyJ6_ok : ∀ k, k < 0 → parseFieldDescriptor (TJ6 k).2.2.1 = some (tyJ6 k) := by decide +kernel
abbrev cJ6_numberOfLeadingZeros_0f7a4 : ByteArray := prog_5_method_47_code
def yJ6_numberOfLeadingZeros_0f7a4 : MethodName := ⟨RJ6, "numberOfLeadingZeros", "(I)I"⟩
def RJ9 : String := "java/lang/Math"
def TJ9 : u_T := fun k => match k with
  | _ => ("", "", "", false)
def tyJ9 : Nat → FieldType := fun k => match k with
  | _ => .int
abbrev wsJ90 : List Cond := u_ws RJ9 TJ9 0
theorem nmJ9 : ∀ a, a < 0 → ∀ b, b < 0 → a ≠ b → (TJ9 a).2.1 ≠ (TJ9 b).2.1 := by decide +kernel
theorem tyJ9_ok : ∀ k, k < 0 → parseFieldDescriptor (TJ9 k).2.2.1 = some (tyJ9 k) := by decide +kernel
abbrev cJ9_min_7cf53 : ByteArray := prog_6_method_69_code
def yJ9_min_7cf53 : MethodName := ⟨RJ9, "min", "(II)I"⟩
def RL : String := "RouteTrieLaw"
abbrev cL_law : ByteArray := code
def yL_law : MethodName := ⟨RL, "law", "([I)Z"⟩
def wsX0_init : List Cond := .code yX0_init cX0_init 4 none :: ([.methodLink RX0 3 objectInit, .instanceMethod objectInit, .code objectInit ⟨#[0xb1]⟩ 1 none, .fieldLink RX0 9 "RouteTrie$Node" "bits" "I", .fieldLink RX0 15 "RouteTrie$Node" "len" "I", .fieldLink RX0 18 "RouteTrie$Node" "hop" "I", .fieldLink RX0 21 "RouteTrie$Node" "routes" "I"] ++ wsX00)
def wsX0_isRoute : List Cond := .code yX0_isRoute cX0_isRoute 1 (some .boolean) :: ([.fieldLink RX0 18 "RouteTrie$Node" "hop" "I"] ++ wsX00)
def wsX1_firstBits : List Cond := .code yX1_firstBits cX1_firstBits 2 (some .int) :: ([])
def wsX0_isBeginOf : List Cond := .code yX0_isBeginOf cX0_isBeginOf 2 (some .boolean) :: ([.fieldLink RX0 15 "RouteTrie$Node" "len" "I", .fieldLink RX0 9 "RouteTrie$Node" "bits" "I", .static yX1_firstBits, .initialized RX1, .code yX1_firstBits cX1_firstBits 2 (some .int)] ++ wsX00)
def wsX0_goesToOne : List Cond := .code yX0_goesToOne cX0_goesToOne 2 (some .boolean) :: ([.fieldLink RX0 15 "RouteTrie$Node" "len" "I"] ++ wsX00)
def wsX0_toward : List Cond := .code yX0_toward cX0_toward 2 (some (.object "RouteTrie$Node")) :: ([.fieldLink RX0 32 "RouteTrie$Node" "one" "LRouteTrie$Node;", .fieldLink RX0 36 "RouteTrie$Node" "zero" "LRouteTrie$Node;", .methodLink RX0 28 yX0_goesToOne, .instanceMethod yX0_goesToOne, .selects RX0 yX0_goesToOne yX0_goesToOne, .initialized RX0, .code yX0_goesToOne cX0_goesToOne 2 (some .boolean), .fieldLink RX0 15 "RouteTrie$Node" "len" "I"] ++ wsX00)
def wsX0_hang : List Cond := .code yX0_hang cX0_hang 2 none :: ([.fieldLink RX0 9 "RouteTrie$Node" "bits" "I", .fieldLink RX0 32 "RouteTrie$Node" "one" "LRouteTrie$Node;", .fieldLink RX0 36 "RouteTrie$Node" "zero" "LRouteTrie$Node;", .methodLink RX0 28 yX0_goesToOne, .instanceMethod yX0_goesToOne, .selects RX0 yX0_goesToOne yX0_goesToOne, .initialized RX0, .code yX0_goesToOne cX0_goesToOne 2 (some .boolean), .fieldLink RX0 15 "RouteTrie$Node" "len" "I"] ++ wsX00)
def wsX0_replace : List Cond := .code yX0_replace cX0_replace 3 none :: ([.fieldLink RX0 32 "RouteTrie$Node" "one" "LRouteTrie$Node;", .fieldLink RX0 36 "RouteTrie$Node" "zero" "LRouteTrie$Node;"] ++ wsX00)
def wsX1_init : List Cond := .code yX1_init cX1_init 1 none :: ([.methodLink RX1 1 objectInit, .instanceMethod objectInit, .code objectInit ⟨#[0xb1]⟩ 1 none, .classLink RX1 7 RX0, .instantiable RX0 6, .initialized RX0, .fieldLink RX1 14 "RouteTrie" "root" "LRouteTrie$Node;", .fieldLink RX1 18 "RouteTrie" "nodeCount" "I", .instanceMethod yX0_init, .code yX0_init cX0_init 4 none, .methodLink RX0 3 objectInit, .fieldLink RX0 9 "RouteTrie$Node" "bits" "I", .fieldLink RX0 15 "RouteTrie$Node" "len" "I", .fieldLink RX0 18 "RouteTrie$Node" "hop" "I", .fieldLink RX0 21 "RouteTrie$Node" "routes" "I"] ++ wsX00 ++ wsX10)
def wsX1_init_ : List Cond := .code yX1_init_ cX1_init_ 1 none :: ([.fieldLink RX1 14 "RouteTrie" "root" "LRouteTrie$Node;", .fieldLink RX1 18 "RouteTrie" "nodeCount" "I"] ++ wsX10 ++ wsX00)
def wsX1_isPrefix : List Cond := .code yX1_isPrefix cX1_isPrefix 2 (some .boolean) :: ([.methodLink RX1 72 yX1_firstBits, .static yX1_firstBits, .initialized RX1, .code yX1_firstBits cX1_firstBits 2 (some .int)])
def wsX1_topmost : List Cond := .code yX1_topmost cX1_topmost 4 (some (.object "RouteTrie$Node")) :: ([.fieldLink RX1 14 "RouteTrie" "root" "LRouteTrie$Node;", .instanceMethod yX0_toward, .initialized RX0, .selects RX0 yX0_toward yX0_toward, .code yX0_toward cX0_toward 2 (some (.object "RouteTrie$Node")), .fieldLink RX0 32 "RouteTrie$Node" "one" "LRouteTrie$Node;", .fieldLink RX0 36 "RouteTrie$Node" "zero" "LRouteTrie$Node;", .methodLink RX0 28 yX0_goesToOne, .instanceMethod yX0_goesToOne, .selects RX0 yX0_goesToOne yX0_goesToOne, .code yX0_goesToOne cX0_goesToOne 2 (some .boolean), .fieldLink RX0 15 "RouteTrie$Node" "len" "I", .methodLink RX1 72 yX1_firstBits, .static yX1_firstBits, .initialized RX1, .code yX1_firstBits cX1_firstBits 2 (some .int)] ++ wsX10 ++ wsX00)
def wsX1_routeAt_r1 : List Cond := [Cond.methodLink RX1 34 yX1_isPrefix, Cond.static yX1_isPrefix, Cond.initialized RX1, Cond.code yX1_isPrefix cX1_isPrefix 2 (some .boolean), Cond.methodLink RX1 72 yX1_firstBits, Cond.static yX1_firstBits, Cond.code yX1_firstBits cX1_firstBits 2 (some .int), Cond.methodLink RX1 56 yX1_topmost, Cond.instanceMethod yX1_topmost, Cond.selects RX1 yX1_topmost yX1_topmost, Cond.code yX1_topmost cX1_topmost 4 (some (.object "RouteTrie$Node")), Cond.fieldLink RX1 14 "RouteTrie" "root" "LRouteTrie$Node;", Cond.instanceMethod yX0_toward, Cond.initialized RX0, Cond.selects RX0 yX0_toward yX0_toward, Cond.code yX0_toward cX0_toward 2 (some (.object "RouteTrie$Node")), Cond.fieldLink RX0 32 "RouteTrie$Node" "one" "LRouteTrie$Node;", Cond.fieldLink RX0 36 "RouteTrie$Node" "zero" "LRouteTrie$Node;", Cond.methodLink RX0 28 yX0_goesToOne, Cond.instanceMethod yX0_goesToOne, Cond.selects RX0 yX0_goesToOne yX0_goesToOne, Cond.code yX0_goesToOne cX0_goesToOne 2 (some .boolean), Cond.fieldLink RX0 15 "RouteTrie$Node" "len" "I", Cond.instanceMethod yX0_isRoute]
def wsX1_routeAt_r2 : List Cond := [Cond.selects RX0 yX0_isRoute yX0_isRoute, Cond.code yX0_isRoute cX0_isRoute 1 (some .boolean), Cond.fieldLink RX0 18 "RouteTrie$Node" "hop" "I"]
def wsX1_routeAt : List Cond := .code yX1_routeAt cX1_routeAt 4 (some (.object "RouteTrie$Node")) :: ((wsX1_routeAt_r1 ++ wsX1_routeAt_r2) ++ wsX00 ++ wsX10)
def wsX1_newNode : List Cond := .code yX1_newNode cX1_newNode 4 (some (.object "RouteTrie$Node")) :: ([.fieldLink RX1 18 "RouteTrie" "nodeCount" "I", .classLink RX1 7 RX0, .instantiable RX0 6, .initialized RX0, .instanceMethod yX0_init, .code yX0_init cX0_init 4 none, .methodLink RX0 3 objectInit, .instanceMethod objectInit, .code objectInit ⟨#[0xb1]⟩ 1 none, .fieldLink RX0 9 "RouteTrie$Node" "bits" "I", .fieldLink RX0 15 "RouteTrie$Node" "len" "I", .fieldLink RX0 18 "RouteTrie$Node" "hop" "I", .fieldLink RX0 21 "RouteTrie$Node" "routes" "I"] ++ wsX10 ++ wsX00)
def wsJ6_numberOfLeadingZeros_0f7a4 : List Cond := .code yJ6_numberOfLeadingZeros_0f7a4 cJ6_numberOfLeadingZeros_0f7a4 2 (some .int) :: ([.constant RJ6 264 (65536)])
def wsX1_commonLength : List Cond := .code yX1_commonLength cX1_commonLength 3 (some .int) :: ([.methodLink RX1 82 Lib.Math.min.name, .static Lib.Math.min.name, .initialized "java/lang/Math", .code Lib.Math.min.name Lib.Math.min.code 2 (some .int), .methodLink RX1 76 yJ6_numberOfLeadingZeros_0f7a4, .static yJ6_numberOfLeadingZeros_0f7a4, .initialized RJ6, .code yJ6_numberOfLeadingZeros_0f7a4 cJ6_numberOfLeadingZeros_0f7a4 2 (some .int), .constant RJ6 264 (65536)] ++ wsX00)
def wsX1_joined_r1 : List Cond := [Cond.methodLink RX1 102 yX1_commonLength, Cond.static yX1_commonLength, Cond.initialized RX1, Cond.code yX1_commonLength cX1_commonLength 3 (some .int), Cond.methodLink RX1 82 Lib.Math.min.name, Cond.static Lib.Math.min.name, Cond.initialized "java/lang/Math", Cond.code Lib.Math.min.name Lib.Math.min.code 2 (some .int), Cond.methodLink RX1 76 yJ6_numberOfLeadingZeros_0f7a4, Cond.static yJ6_numberOfLeadingZeros_0f7a4, Cond.initialized RJ6, Cond.code yJ6_numberOfLeadingZeros_0f7a4 cJ6_numberOfLeadingZeros_0f7a4 2 (some .int), Cond.constant RJ6 264 (65536), Cond.methodLink RX1 72 yX1_firstBits, Cond.static yX1_firstBits, Cond.code yX1_firstBits cX1_firstBits 2 (some .int), Cond.methodLink RX1 91 yX1_newNode, Cond.instanceMethod yX1_newNode, Cond.selects RX1 yX1_newNode yX1_newNode, Cond.code yX1_newNode cX1_newNode 4 (some (.object "RouteTrie$Node")), Cond.fieldLink RX1 18 "RouteTrie" "nodeCount" "I", Cond.classLink RX1 7 RX0, Cond.instantiable RX0 6, Cond.initialized RX0]
def wsX1_joined_r2 : List Cond := [Cond.instanceMethod yX0_init, Cond.code yX0_init cX0_init 4 none, Cond.methodLink RX0 3 objectInit, Cond.instanceMethod objectInit, Cond.code objectInit ⟨#[0xb1]⟩ 1 none, Cond.fieldLink RX0 9 "RouteTrie$Node" "bits" "I", Cond.fieldLink RX0 15 "RouteTrie$Node" "len" "I", Cond.fieldLink RX0 18 "RouteTrie$Node" "hop" "I", Cond.fieldLink RX0 21 "RouteTrie$Node" "routes" "I", Cond.instanceMethod yX0_hang, Cond.selects RX0 yX0_hang yX0_hang, Cond.code yX0_hang cX0_hang 2 none, Cond.fieldLink RX0 32 "RouteTrie$Node" "one" "LRouteTrie$Node;", Cond.fieldLink RX0 36 "RouteTrie$Node" "zero" "LRouteTrie$Node;", Cond.methodLink RX0 28 yX0_goesToOne, Cond.instanceMethod yX0_goesToOne, Cond.selects RX0 yX0_goesToOne yX0_goesToOne, Cond.code yX0_goesToOne cX0_goesToOne 2 (some .boolean)]
def wsX1_joined : List Cond := .code yX1_joined cX1_joined 5 (some (.object "RouteTrie$Node")) :: ((wsX1_joined_r1 ++ wsX1_joined_r2) ++ wsX00 ++ wsX10)
def wsX1_grow_r1 : List Cond := [Cond.fieldLink RX1 14 "RouteTrie" "root" "LRouteTrie$Node;", Cond.instanceMethod yX0_toward, Cond.initialized RX0, Cond.selects RX0 yX0_toward yX0_toward, Cond.code yX0_toward cX0_toward 2 (some (.object "RouteTrie$Node")), Cond.fieldLink RX0 32 "RouteTrie$Node" "one" "LRouteTrie$Node;", Cond.fieldLink RX0 36 "RouteTrie$Node" "zero" "LRouteTrie$Node;", Cond.methodLink RX0 28 yX0_goesToOne, Cond.instanceMethod yX0_goesToOne, Cond.selects RX0 yX0_goesToOne yX0_goesToOne, Cond.code yX0_goesToOne cX0_goesToOne 2 (some .boolean), Cond.fieldLink RX0 15 "RouteTrie$Node" "len" "I", Cond.instanceMethod yX0_isBeginOf, Cond.selects RX0 yX0_isBeginOf yX0_isBeginOf, Cond.code yX0_isBeginOf cX0_isBeginOf 2 (some .boolean), Cond.fieldLink RX0 9 "RouteTrie$Node" "bits" "I", Cond.static yX1_firstBits, Cond.initialized RX1, Cond.code yX1_firstBits cX1_firstBits 2 (some .int), Cond.methodLink RX1 91 yX1_newNode, Cond.instanceMethod yX1_newNode, Cond.selects RX1 yX1_newNode yX1_newNode, Cond.code yX1_newNode cX1_newNode 4 (some (.object "RouteTrie$Node")), Cond.fieldLink RX1 18 "RouteTrie" "nodeCount" "I"]
def wsX1_grow_r2 : List Cond := [Cond.classLink RX1 7 RX0, Cond.instantiable RX0 6, Cond.instanceMethod yX0_init, Cond.code yX0_init cX0_init 4 none, Cond.methodLink RX0 3 objectInit, Cond.instanceMethod objectInit, Cond.code objectInit ⟨#[0xb1]⟩ 1 none, Cond.fieldLink RX0 18 "RouteTrie$Node" "hop" "I", Cond.fieldLink RX0 21 "RouteTrie$Node" "routes" "I", Cond.methodLink RX1 95 yX1_joined, Cond.instanceMethod yX1_joined, Cond.selects RX1 yX1_joined yX1_joined, Cond.code yX1_joined cX1_joined 5 (some (.object "RouteTrie$Node")), Cond.methodLink RX1 102 yX1_commonLength, Cond.static yX1_commonLength, Cond.code yX1_commonLength cX1_commonLength 3 (some .int), Cond.methodLink RX1 82 Lib.Math.min.name, Cond.static Lib.Math.min.name, Cond.initialized "java/lang/Math", Cond.code Lib.Math.min.name Lib.Math.min.code 2 (some .int), Cond.methodLink RX1 76 yJ6_numberOfLeadingZeros_0f7a4, Cond.static yJ6_numberOfLeadingZeros_0f7a4, Cond.initialized RJ6, Cond.code yJ6_numberOfLeadingZeros_0f7a4 cJ6_numberOfLeadingZeros_0f7a4 2 (some .int)]
def wsX1_grow_r3 : List Cond := [Cond.constant RJ6 264 (65536), Cond.methodLink RX1 72 yX1_firstBits, Cond.instanceMethod yX0_hang, Cond.selects RX0 yX0_hang yX0_hang, Cond.code yX0_hang cX0_hang 2 none]
def wsX1_grow : List Cond := .code yX1_grow cX1_grow 6 none :: ((wsX1_grow_r1 ++ (wsX1_grow_r2 ++ wsX1_grow_r3)) ++ wsX10 ++ wsX00)
def wsX1_insert_r1 : List Cond := [Cond.fieldLink RX1 14 "RouteTrie" "root" "LRouteTrie$Node;", Cond.methodLink RX1 34 yX1_isPrefix, Cond.static yX1_isPrefix, Cond.initialized RX1, Cond.code yX1_isPrefix cX1_isPrefix 2 (some .boolean), Cond.methodLink RX1 72 yX1_firstBits, Cond.static yX1_firstBits, Cond.code yX1_firstBits cX1_firstBits 2 (some .int), Cond.methodLink RX1 38 yX1_routeAt, Cond.instanceMethod yX1_routeAt, Cond.selects RX1 yX1_routeAt yX1_routeAt, Cond.code yX1_routeAt cX1_routeAt 4 (some (.object "RouteTrie$Node")), Cond.methodLink RX1 56 yX1_topmost, Cond.instanceMethod yX1_topmost, Cond.selects RX1 yX1_topmost yX1_topmost, Cond.code yX1_topmost cX1_topmost 4 (some (.object "RouteTrie$Node")), Cond.instanceMethod yX0_toward, Cond.initialized RX0, Cond.selects RX0 yX0_toward yX0_toward, Cond.code yX0_toward cX0_toward 2 (some (.object "RouteTrie$Node")), Cond.fieldLink RX0 32 "RouteTrie$Node" "one" "LRouteTrie$Node;", Cond.fieldLink RX0 36 "RouteTrie$Node" "zero" "LRouteTrie$Node;", Cond.methodLink RX0 28 yX0_goesToOne, Cond.instanceMethod yX0_goesToOne]
def wsX1_insert_r2 : List Cond := [Cond.selects RX0 yX0_goesToOne yX0_goesToOne, Cond.code yX0_goesToOne cX0_goesToOne 2 (some .boolean), Cond.fieldLink RX0 15 "RouteTrie$Node" "len" "I", Cond.instanceMethod yX0_isRoute, Cond.selects RX0 yX0_isRoute yX0_isRoute, Cond.code yX0_isRoute cX0_isRoute 1 (some .boolean), Cond.fieldLink RX0 18 "RouteTrie$Node" "hop" "I", Cond.methodLink RX1 42 yX1_grow, Cond.instanceMethod yX1_grow, Cond.selects RX1 yX1_grow yX1_grow, Cond.code yX1_grow cX1_grow 6 none, Cond.instanceMethod yX0_isBeginOf, Cond.selects RX0 yX0_isBeginOf yX0_isBeginOf, Cond.code yX0_isBeginOf cX0_isBeginOf 2 (some .boolean), Cond.fieldLink RX0 9 "RouteTrie$Node" "bits" "I", Cond.methodLink RX1 91 yX1_newNode, Cond.instanceMethod yX1_newNode, Cond.selects RX1 yX1_newNode yX1_newNode, Cond.code yX1_newNode cX1_newNode 4 (some (.object "RouteTrie$Node")), Cond.fieldLink RX1 18 "RouteTrie" "nodeCount" "I", Cond.classLink RX1 7 RX0, Cond.instantiable RX0 6, Cond.instanceMethod yX0_init, Cond.code yX0_init cX0_init 4 none]
def wsX1_insert_r3 : List Cond := [Cond.methodLink RX0 3 objectInit, Cond.instanceMethod objectInit, Cond.code objectInit ⟨#[0xb1]⟩ 1 none, Cond.fieldLink RX0 21 "RouteTrie$Node" "routes" "I", Cond.methodLink RX1 95 yX1_joined, Cond.instanceMethod yX1_joined, Cond.selects RX1 yX1_joined yX1_joined, Cond.code yX1_joined cX1_joined 5 (some (.object "RouteTrie$Node")), Cond.methodLink RX1 102 yX1_commonLength, Cond.static yX1_commonLength, Cond.code yX1_commonLength cX1_commonLength 3 (some .int), Cond.methodLink RX1 82 Lib.Math.min.name, Cond.static Lib.Math.min.name, Cond.initialized "java/lang/Math", Cond.code Lib.Math.min.name Lib.Math.min.code 2 (some .int), Cond.methodLink RX1 76 yJ6_numberOfLeadingZeros_0f7a4, Cond.static yJ6_numberOfLeadingZeros_0f7a4, Cond.initialized RJ6, Cond.code yJ6_numberOfLeadingZeros_0f7a4 cJ6_numberOfLeadingZeros_0f7a4 2 (some .int), Cond.constant RJ6 264 (65536), Cond.instanceMethod yX0_hang, Cond.selects RX0 yX0_hang yX0_hang, Cond.code yX0_hang cX0_hang 2 none]
def wsX1_insert : List Cond := .code yX1_insert cX1_insert 5 (some .int) :: ((wsX1_insert_r1 ++ (wsX1_insert_r2 ++ wsX1_insert_r3)) ++ wsX00 ++ wsX10)
def wsX1_dropIfIdle : List Cond := .code yX1_dropIfIdle cX1_dropIfIdle 3 none :: ([.fieldLink RX1 18 "RouteTrie" "nodeCount" "I", .instanceMethod yX0_isRoute, .initialized RX0, .selects RX0 yX0_isRoute yX0_isRoute, .code yX0_isRoute cX0_isRoute 1 (some .boolean), .fieldLink RX0 18 "RouteTrie$Node" "hop" "I", .instanceMethod yX0_replace, .selects RX0 yX0_replace yX0_replace, .code yX0_replace cX0_replace 3 none, .fieldLink RX0 32 "RouteTrie$Node" "one" "LRouteTrie$Node;", .fieldLink RX0 36 "RouteTrie$Node" "zero" "LRouteTrie$Node;"] ++ wsX00 ++ wsX10)
def wsX1_cut_r1 : List Cond := [Cond.fieldLink RX1 14 "RouteTrie" "root" "LRouteTrie$Node;", Cond.instanceMethod yX0_toward, Cond.initialized RX0, Cond.selects RX0 yX0_toward yX0_toward, Cond.code yX0_toward cX0_toward 2 (some (.object "RouteTrie$Node")), Cond.fieldLink RX0 32 "RouteTrie$Node" "one" "LRouteTrie$Node;", Cond.fieldLink RX0 36 "RouteTrie$Node" "zero" "LRouteTrie$Node;", Cond.methodLink RX0 28 yX0_goesToOne, Cond.instanceMethod yX0_goesToOne, Cond.selects RX0 yX0_goesToOne yX0_goesToOne, Cond.code yX0_goesToOne cX0_goesToOne 2 (some .boolean), Cond.fieldLink RX0 15 "RouteTrie$Node" "len" "I", Cond.methodLink RX1 106 yX1_dropIfIdle, Cond.instanceMethod yX1_dropIfIdle, Cond.selects RX1 yX1_dropIfIdle yX1_dropIfIdle, Cond.initialized RX1, Cond.code yX1_dropIfIdle cX1_dropIfIdle 3 none, Cond.fieldLink RX1 18 "RouteTrie" "nodeCount" "I", Cond.instanceMethod yX0_isRoute, Cond.selects RX0 yX0_isRoute yX0_isRoute, Cond.code yX0_isRoute cX0_isRoute 1 (some .boolean), Cond.fieldLink RX0 18 "RouteTrie$Node" "hop" "I", Cond.instanceMethod yX0_replace, Cond.selects RX0 yX0_replace yX0_replace]
def wsX1_cut_r2 : List Cond := [Cond.code yX0_replace cX0_replace 3 none]
def wsX1_cut : List Cond := .code yX1_cut cX1_cut 5 none :: ((wsX1_cut_r1 ++ wsX1_cut_r2) ++ wsX10 ++ wsX00)
def wsX1_remove_r1 : List Cond := [Cond.methodLink RX1 38 yX1_routeAt, Cond.instanceMethod yX1_routeAt, Cond.selects RX1 yX1_routeAt yX1_routeAt, Cond.initialized RX1, Cond.code yX1_routeAt cX1_routeAt 4 (some (.object "RouteTrie$Node")), Cond.methodLink RX1 34 yX1_isPrefix, Cond.static yX1_isPrefix, Cond.code yX1_isPrefix cX1_isPrefix 2 (some .boolean), Cond.methodLink RX1 72 yX1_firstBits, Cond.static yX1_firstBits, Cond.code yX1_firstBits cX1_firstBits 2 (some .int), Cond.methodLink RX1 56 yX1_topmost, Cond.instanceMethod yX1_topmost, Cond.selects RX1 yX1_topmost yX1_topmost, Cond.code yX1_topmost cX1_topmost 4 (some (.object "RouteTrie$Node")), Cond.fieldLink RX1 14 "RouteTrie" "root" "LRouteTrie$Node;", Cond.instanceMethod yX0_toward, Cond.initialized RX0, Cond.selects RX0 yX0_toward yX0_toward, Cond.code yX0_toward cX0_toward 2 (some (.object "RouteTrie$Node")), Cond.fieldLink RX0 32 "RouteTrie$Node" "one" "LRouteTrie$Node;", Cond.fieldLink RX0 36 "RouteTrie$Node" "zero" "LRouteTrie$Node;", Cond.methodLink RX0 28 yX0_goesToOne, Cond.instanceMethod yX0_goesToOne]
def wsX1_remove_r2 : List Cond := [Cond.selects RX0 yX0_goesToOne yX0_goesToOne, Cond.code yX0_goesToOne cX0_goesToOne 2 (some .boolean), Cond.fieldLink RX0 15 "RouteTrie$Node" "len" "I", Cond.instanceMethod yX0_isRoute, Cond.selects RX0 yX0_isRoute yX0_isRoute, Cond.code yX0_isRoute cX0_isRoute 1 (some .boolean), Cond.fieldLink RX0 18 "RouteTrie$Node" "hop" "I", Cond.methodLink RX1 45 yX1_cut, Cond.instanceMethod yX1_cut, Cond.selects RX1 yX1_cut yX1_cut, Cond.code yX1_cut cX1_cut 5 none, Cond.methodLink RX1 106 yX1_dropIfIdle, Cond.instanceMethod yX1_dropIfIdle, Cond.selects RX1 yX1_dropIfIdle yX1_dropIfIdle, Cond.code yX1_dropIfIdle cX1_dropIfIdle 3 none, Cond.fieldLink RX1 18 "RouteTrie" "nodeCount" "I", Cond.instanceMethod yX0_replace, Cond.selects RX0 yX0_replace yX0_replace, Cond.code yX0_replace cX0_replace 3 none]
def wsX1_remove : List Cond := .code yX1_remove cX1_remove 4 (some .boolean) :: ((wsX1_remove_r1 ++ wsX1_remove_r2) ++ wsX00 ++ wsX10)
def wsX1_longestRoute : List Cond := .code yX1_longestRoute cX1_longestRoute 4 (some (.object "RouteTrie$Node")) :: ([.fieldLink RX1 14 "RouteTrie" "root" "LRouteTrie$Node;", .instanceMethod yX0_isBeginOf, .initialized RX0, .selects RX0 yX0_isBeginOf yX0_isBeginOf, .code yX0_isBeginOf cX0_isBeginOf 2 (some .boolean), .fieldLink RX0 15 "RouteTrie$Node" "len" "I", .fieldLink RX0 9 "RouteTrie$Node" "bits" "I", .static yX1_firstBits, .initialized RX1, .code yX1_firstBits cX1_firstBits 2 (some .int), .instanceMethod yX0_isRoute, .selects RX0 yX0_isRoute yX0_isRoute, .code yX0_isRoute cX0_isRoute 1 (some .boolean), .fieldLink RX0 18 "RouteTrie$Node" "hop" "I", .instanceMethod yX0_toward, .selects RX0 yX0_toward yX0_toward, .code yX0_toward cX0_toward 2 (some (.object "RouteTrie$Node")), .fieldLink RX0 32 "RouteTrie$Node" "one" "LRouteTrie$Node;", .fieldLink RX0 36 "RouteTrie$Node" "zero" "LRouteTrie$Node;", .methodLink RX0 28 yX0_goesToOne, .instanceMethod yX0_goesToOne, .selects RX0 yX0_goesToOne yX0_goesToOne, .code yX0_goesToOne cX0_goesToOne 2 (some .boolean)] ++ wsX10 ++ wsX00)
def wsX1_lookup_r1 : List Cond := [Cond.methodLink RX1 49 yX1_longestRoute, Cond.instanceMethod yX1_longestRoute, Cond.selects RX1 yX1_longestRoute yX1_longestRoute, Cond.initialized RX1, Cond.code yX1_longestRoute cX1_longestRoute 4 (some (.object "RouteTrie$Node")), Cond.fieldLink RX1 14 "RouteTrie" "root" "LRouteTrie$Node;", Cond.instanceMethod yX0_isBeginOf, Cond.initialized RX0, Cond.selects RX0 yX0_isBeginOf yX0_isBeginOf, Cond.code yX0_isBeginOf cX0_isBeginOf 2 (some .boolean), Cond.fieldLink RX0 15 "RouteTrie$Node" "len" "I", Cond.fieldLink RX0 9 "RouteTrie$Node" "bits" "I", Cond.static yX1_firstBits, Cond.code yX1_firstBits cX1_firstBits 2 (some .int), Cond.instanceMethod yX0_isRoute, Cond.selects RX0 yX0_isRoute yX0_isRoute, Cond.code yX0_isRoute cX0_isRoute 1 (some .boolean), Cond.fieldLink RX0 18 "RouteTrie$Node" "hop" "I", Cond.instanceMethod yX0_toward, Cond.selects RX0 yX0_toward yX0_toward, Cond.code yX0_toward cX0_toward 2 (some (.object "RouteTrie$Node")), Cond.fieldLink RX0 32 "RouteTrie$Node" "one" "LRouteTrie$Node;", Cond.fieldLink RX0 36 "RouteTrie$Node" "zero" "LRouteTrie$Node;", Cond.methodLink RX0 28 yX0_goesToOne]
def wsX1_lookup_r2 : List Cond := [Cond.instanceMethod yX0_goesToOne, Cond.selects RX0 yX0_goesToOne yX0_goesToOne, Cond.code yX0_goesToOne cX0_goesToOne 2 (some .boolean)]
def wsX1_lookup : List Cond := .code yX1_lookup cX1_lookup 3 (some .int) :: ((wsX1_lookup_r1 ++ wsX1_lookup_r2) ++ wsX00 ++ wsX10)
def wsX1_lookupLen_r1 : List Cond := [Cond.methodLink RX1 49 yX1_longestRoute, Cond.instanceMethod yX1_longestRoute, Cond.selects RX1 yX1_longestRoute yX1_longestRoute, Cond.initialized RX1, Cond.code yX1_longestRoute cX1_longestRoute 4 (some (.object "RouteTrie$Node")), Cond.fieldLink RX1 14 "RouteTrie" "root" "LRouteTrie$Node;", Cond.instanceMethod yX0_isBeginOf, Cond.initialized RX0, Cond.selects RX0 yX0_isBeginOf yX0_isBeginOf, Cond.code yX0_isBeginOf cX0_isBeginOf 2 (some .boolean), Cond.fieldLink RX0 15 "RouteTrie$Node" "len" "I", Cond.fieldLink RX0 9 "RouteTrie$Node" "bits" "I", Cond.static yX1_firstBits, Cond.code yX1_firstBits cX1_firstBits 2 (some .int), Cond.instanceMethod yX0_isRoute, Cond.selects RX0 yX0_isRoute yX0_isRoute, Cond.code yX0_isRoute cX0_isRoute 1 (some .boolean), Cond.fieldLink RX0 18 "RouteTrie$Node" "hop" "I", Cond.instanceMethod yX0_toward, Cond.selects RX0 yX0_toward yX0_toward, Cond.code yX0_toward cX0_toward 2 (some (.object "RouteTrie$Node")), Cond.fieldLink RX0 32 "RouteTrie$Node" "one" "LRouteTrie$Node;", Cond.fieldLink RX0 36 "RouteTrie$Node" "zero" "LRouteTrie$Node;", Cond.methodLink RX0 28 yX0_goesToOne]
def wsX1_lookupLen_r2 : List Cond := [Cond.instanceMethod yX0_goesToOne, Cond.selects RX0 yX0_goesToOne yX0_goesToOne, Cond.code yX0_goesToOne cX0_goesToOne 2 (some .boolean)]
def wsX1_lookupLen : List Cond := .code yX1_lookupLen cX1_lookupLen 3 (some .int) :: ((wsX1_lookupLen_r1 ++ wsX1_lookupLen_r2) ++ wsX00 ++ wsX10)
def wsX1_exact_r1 : List Cond := [Cond.methodLink RX1 38 yX1_routeAt, Cond.instanceMethod yX1_routeAt, Cond.selects RX1 yX1_routeAt yX1_routeAt, Cond.initialized RX1, Cond.code yX1_routeAt cX1_routeAt 4 (some (.object "RouteTrie$Node")), Cond.methodLink RX1 34 yX1_isPrefix, Cond.static yX1_isPrefix, Cond.code yX1_isPrefix cX1_isPrefix 2 (some .boolean), Cond.methodLink RX1 72 yX1_firstBits, Cond.static yX1_firstBits, Cond.code yX1_firstBits cX1_firstBits 2 (some .int), Cond.methodLink RX1 56 yX1_topmost, Cond.instanceMethod yX1_topmost, Cond.selects RX1 yX1_topmost yX1_topmost, Cond.code yX1_topmost cX1_topmost 4 (some (.object "RouteTrie$Node")), Cond.fieldLink RX1 14 "RouteTrie" "root" "LRouteTrie$Node;", Cond.instanceMethod yX0_toward, Cond.initialized RX0, Cond.selects RX0 yX0_toward yX0_toward, Cond.code yX0_toward cX0_toward 2 (some (.object "RouteTrie$Node")), Cond.fieldLink RX0 32 "RouteTrie$Node" "one" "LRouteTrie$Node;", Cond.fieldLink RX0 36 "RouteTrie$Node" "zero" "LRouteTrie$Node;", Cond.methodLink RX0 28 yX0_goesToOne, Cond.instanceMethod yX0_goesToOne]
def wsX1_exact_r2 : List Cond := [Cond.selects RX0 yX0_goesToOne yX0_goesToOne, Cond.code yX0_goesToOne cX0_goesToOne 2 (some .boolean), Cond.fieldLink RX0 15 "RouteTrie$Node" "len" "I", Cond.instanceMethod yX0_isRoute, Cond.selects RX0 yX0_isRoute yX0_isRoute, Cond.code yX0_isRoute cX0_isRoute 1 (some .boolean), Cond.fieldLink RX0 18 "RouteTrie$Node" "hop" "I"]
def wsX1_exact : List Cond := .code yX1_exact cX1_exact 4 (some .int) :: ((wsX1_exact_r1 ++ wsX1_exact_r2) ++ wsX00 ++ wsX10)
def wsX1_under : List Cond := .code yX1_under cX1_under 4 (some .int) :: ([.methodLink RX1 34 yX1_isPrefix, .static yX1_isPrefix, .initialized RX1, .code yX1_isPrefix cX1_isPrefix 2 (some .boolean), .methodLink RX1 72 yX1_firstBits, .static yX1_firstBits, .code yX1_firstBits cX1_firstBits 2 (some .int), .methodLink RX1 56 yX1_topmost, .instanceMethod yX1_topmost, .selects RX1 yX1_topmost yX1_topmost, .code yX1_topmost cX1_topmost 4 (some (.object "RouteTrie$Node")), .fieldLink RX1 14 "RouteTrie" "root" "LRouteTrie$Node;", .instanceMethod yX0_toward, .initialized RX0, .selects RX0 yX0_toward yX0_toward, .code yX0_toward cX0_toward 2 (some (.object "RouteTrie$Node")), .fieldLink RX0 32 "RouteTrie$Node" "one" "LRouteTrie$Node;", .fieldLink RX0 36 "RouteTrie$Node" "zero" "LRouteTrie$Node;", .methodLink RX0 28 yX0_goesToOne, .instanceMethod yX0_goesToOne, .selects RX0 yX0_goesToOne yX0_goesToOne, .code yX0_goesToOne cX0_goesToOne 2 (some .boolean), .fieldLink RX0 15 "RouteTrie$Node" "len" "I"] ++ wsX00 ++ wsX10)
def wsX1_inOrder : List Cond := .code yX1_inOrder cX1_inOrder 5 (some (.object "RouteTrie$Node")) :: ([.fieldLink RX1 14 "RouteTrie" "root" "LRouteTrie$Node;", .instanceMethod yX0_isRoute, .initialized RX0, .selects RX0 yX0_isRoute yX0_isRoute, .code yX0_isRoute cX0_isRoute 1 (some .boolean), .fieldLink RX0 18 "RouteTrie$Node" "hop" "I"] ++ wsX10 ++ wsX00)
def wsX1_route : List Cond := .code yX1_route cX1_route 4 (some .int) :: ([.methodLink RX1 59 yX1_inOrder, .instanceMethod yX1_inOrder, .selects RX1 yX1_inOrder yX1_inOrder, .initialized RX1, .code yX1_inOrder cX1_inOrder 5 (some (.object "RouteTrie$Node")), .fieldLink RX1 14 "RouteTrie" "root" "LRouteTrie$Node;", .instanceMethod yX0_isRoute, .initialized RX0, .selects RX0 yX0_isRoute yX0_isRoute, .code yX0_isRoute cX0_isRoute 1 (some .boolean), .fieldLink RX0 18 "RouteTrie$Node" "hop" "I"] ++ wsX00 ++ wsX10)
def wsX1_count : List Cond := .code yX1_count cX1_count 1 (some .int) :: ([.fieldLink RX1 14 "RouteTrie" "root" "LRouteTrie$Node;"] ++ wsX10 ++ wsX00)
def wsX1_nodes : List Cond := .code yX1_nodes cX1_nodes 1 (some .int) :: ([.fieldLink RX1 18 "RouteTrie" "nodeCount" "I"] ++ wsX10)
def wsX1_depth : List Cond := .code yX1_depth cX1_depth 4 (some .int) :: ([.fieldLink RX1 14 "RouteTrie" "root" "LRouteTrie$Node;", .instanceMethod yX0_isBeginOf, .initialized RX0, .selects RX0 yX0_isBeginOf yX0_isBeginOf, .code yX0_isBeginOf cX0_isBeginOf 2 (some .boolean), .fieldLink RX0 15 "RouteTrie$Node" "len" "I", .fieldLink RX0 9 "RouteTrie$Node" "bits" "I", .static yX1_firstBits, .initialized RX1, .code yX1_firstBits cX1_firstBits 2 (some .int), .instanceMethod yX0_toward, .selects RX0 yX0_toward yX0_toward, .code yX0_toward cX0_toward 2 (some (.object "RouteTrie$Node")), .fieldLink RX0 32 "RouteTrie$Node" "one" "LRouteTrie$Node;", .fieldLink RX0 36 "RouteTrie$Node" "zero" "LRouteTrie$Node;", .methodLink RX0 28 yX0_goesToOne, .instanceMethod yX0_goesToOne, .selects RX0 yX0_goesToOne yX0_goesToOne, .code yX0_goesToOne cX0_goesToOne 2 (some .boolean)] ++ wsX10 ++ wsX00)
def wsX2_init : List Cond := .code yX2_init cX2_init 1 none :: ([.methodLink RX2 1 objectInit, .instanceMethod objectInit, .code objectInit ⟨#[0xb1]⟩ 1 none, .arrayClass .int, .fieldLink RX2 7 "RouteTrieModel" "bits" "[I", .fieldLink RX2 13 "RouteTrieModel" "lengths" "[I", .fieldLink RX2 16 "RouteTrieModel" "hops" "[I", .fieldLink RX2 19 "RouteTrieModel" "nodeBits" "[I", .fieldLink RX2 22 "RouteTrieModel" "nodeLengths" "[I"] ++ wsX20)
def wsX2_init_ : List Cond := .code yX2_init_ cX2_init_ 1 none :: ([.fieldLink RX2 25 "RouteTrieModel" "code" "I", .fieldLink RX2 29 "RouteTrieModel" "size" "I"] ++ wsX20)
def wsX2_mask : List Cond := .code yX2_mask cX2_mask 1 (some .int) :: ([])
def wsX2_isPrefix : List Cond := .code yX2_isPrefix cX2_isPrefix 2 (some .boolean) :: ([.methodLink RX2 32 yX2_mask, .static yX2_mask, .initialized RX2, .code yX2_mask cX2_mask 1 (some .int)])
def wsX2_begins : List Cond := .code yX2_begins cX2_begins 3 (some .boolean) :: ([.methodLink RX2 32 yX2_mask, .static yX2_mask, .initialized RX2, .code yX2_mask cX2_mask 1 (some .int)])
def wsX2_isBefore : List Cond := .code yX2_isBefore cX2_isBefore 6 (some .boolean) :: ([.constant RX2 36 (-2147483648), .fieldLink RX2 7 "RouteTrieModel" "bits" "[I", .fieldLink RX2 13 "RouteTrieModel" "lengths" "[I"] ++ wsX20)
def wsX2_find : List Cond := .code yX2_find cX2_find 4 (some .int) :: ([.fieldLink RX2 29 "RouteTrieModel" "size" "I", .fieldLink RX2 7 "RouteTrieModel" "bits" "[I", .fieldLink RX2 13 "RouteTrieModel" "lengths" "[I"] ++ wsX20)
def wsX2_insert : List Cond := .code yX2_insert cX2_insert 6 (some .int) :: ([.fieldLink RX2 25 "RouteTrieModel" "code" "I", .fieldLink RX2 16 "RouteTrieModel" "hops" "[I", .fieldLink RX2 29 "RouteTrieModel" "size" "I", .fieldLink RX2 7 "RouteTrieModel" "bits" "[I", .fieldLink RX2 13 "RouteTrieModel" "lengths" "[I", .methodLink RX2 37 yX2_isPrefix, .static yX2_isPrefix, .initialized RX2, .code yX2_isPrefix cX2_isPrefix 2 (some .boolean), .methodLink RX2 32 yX2_mask, .static yX2_mask, .code yX2_mask cX2_mask 1 (some .int), .methodLink RX2 41 yX2_find, .instanceMethod yX2_find, .selects RX2 yX2_find yX2_find, .code yX2_find cX2_find 4 (some .int), .methodLink RX2 45 yX2_isBefore, .instanceMethod yX2_isBefore, .selects RX2 yX2_isBefore yX2_isBefore, .code yX2_isBefore cX2_isBefore 6 (some .boolean), .constant RX2 36 (-2147483648)] ++ wsX20)
def wsX2_remove : List Cond := .code yX2_remove cX2_remove 5 (some .boolean) :: ([.fieldLink RX2 25 "RouteTrieModel" "code" "I", .fieldLink RX2 29 "RouteTrieModel" "size" "I", .fieldLink RX2 7 "RouteTrieModel" "bits" "[I", .fieldLink RX2 13 "RouteTrieModel" "lengths" "[I", .fieldLink RX2 16 "RouteTrieModel" "hops" "[I", .methodLink RX2 41 yX2_find, .instanceMethod yX2_find, .selects RX2 yX2_find yX2_find, .initialized RX2, .code yX2_find cX2_find 4 (some .int)] ++ wsX20)
def wsX2_longest : List Cond := .code yX2_longest cX2_longest 4 (some .int) :: ([.fieldLink RX2 29 "RouteTrieModel" "size" "I", .fieldLink RX2 7 "RouteTrieModel" "bits" "[I", .fieldLink RX2 13 "RouteTrieModel" "lengths" "[I", .methodLink RX2 49 yX2_begins, .static yX2_begins, .initialized RX2, .code yX2_begins cX2_begins 3 (some .boolean), .methodLink RX2 32 yX2_mask, .static yX2_mask, .code yX2_mask cX2_mask 1 (some .int)] ++ wsX20)
def wsX2_lookup : List Cond := .code yX2_lookup cX2_lookup 3 (some .int) :: ([.fieldLink RX2 25 "RouteTrieModel" "code" "I", .fieldLink RX2 16 "RouteTrieModel" "hops" "[I", .methodLink RX2 52 yX2_longest, .instanceMethod yX2_longest, .selects RX2 yX2_longest yX2_longest, .initialized RX2, .code yX2_longest cX2_longest 4 (some .int), .fieldLink RX2 29 "RouteTrieModel" "size" "I", .fieldLink RX2 7 "RouteTrieModel" "bits" "[I", .fieldLink RX2 13 "RouteTrieModel" "lengths" "[I", .methodLink RX2 49 yX2_begins, .static yX2_begins, .code yX2_begins cX2_begins 3 (some .boolean), .methodLink RX2 32 yX2_mask, .static yX2_mask, .code yX2_mask cX2_mask 1 (some .int)] ++ wsX20)
def wsX2_lookupLen : List Cond := .code yX2_lookupLen cX2_lookupLen 3 (some .int) :: ([.fieldLink RX2 25 "RouteTrieModel" "code" "I", .fieldLink RX2 13 "RouteTrieModel" "lengths" "[I", .methodLink RX2 52 yX2_longest, .instanceMethod yX2_longest, .selects RX2 yX2_longest yX2_longest, .initialized RX2, .code yX2_longest cX2_longest 4 (some .int), .fieldLink RX2 29 "RouteTrieModel" "size" "I", .fieldLink RX2 7 "RouteTrieModel" "bits" "[I", .methodLink RX2 49 yX2_begins, .static yX2_begins, .code yX2_begins cX2_begins 3 (some .boolean), .methodLink RX2 32 yX2_mask, .static yX2_mask, .code yX2_mask cX2_mask 1 (some .int)] ++ wsX20)
def wsX2_exact : List Cond := .code yX2_exact cX2_exact 4 (some .int) :: ([.fieldLink RX2 25 "RouteTrieModel" "code" "I", .fieldLink RX2 16 "RouteTrieModel" "hops" "[I", .methodLink RX2 41 yX2_find, .instanceMethod yX2_find, .selects RX2 yX2_find yX2_find, .initialized RX2, .code yX2_find cX2_find 4 (some .int), .fieldLink RX2 29 "RouteTrieModel" "size" "I", .fieldLink RX2 7 "RouteTrieModel" "bits" "[I", .fieldLink RX2 13 "RouteTrieModel" "lengths" "[I"] ++ wsX20)
def wsX2_under : List Cond := .code yX2_under cX2_under 5 (some .int) :: ([.fieldLink RX2 25 "RouteTrieModel" "code" "I", .fieldLink RX2 29 "RouteTrieModel" "size" "I", .fieldLink RX2 13 "RouteTrieModel" "lengths" "[I", .fieldLink RX2 7 "RouteTrieModel" "bits" "[I", .methodLink RX2 37 yX2_isPrefix, .static yX2_isPrefix, .initialized RX2, .code yX2_isPrefix cX2_isPrefix 2 (some .boolean), .methodLink RX2 32 yX2_mask, .static yX2_mask, .code yX2_mask cX2_mask 1 (some .int), .methodLink RX2 49 yX2_begins, .static yX2_begins, .code yX2_begins cX2_begins 3 (some .boolean)] ++ wsX20)
def wsX2_route : List Cond := .code yX2_route cX2_route 3 (some .int) :: ([.fieldLink RX2 25 "RouteTrieModel" "code" "I", .fieldLink RX2 29 "RouteTrieModel" "size" "I", .fieldLink RX2 7 "RouteTrieModel" "bits" "[I", .fieldLink RX2 13 "RouteTrieModel" "lengths" "[I", .fieldLink RX2 16 "RouteTrieModel" "hops" "[I"] ++ wsX20)
def wsX2_count : List Cond := .code yX2_count cX2_count 1 (some .int) :: ([.fieldLink RX2 25 "RouteTrieModel" "code" "I", .fieldLink RX2 29 "RouteTrieModel" "size" "I"] ++ wsX20)
def wsX2_add : List Cond := .code yX2_add cX2_add 4 none :: ([.fieldLink RX2 55 "RouteTrieModel" "nodeCount" "I", .fieldLink RX2 19 "RouteTrieModel" "nodeBits" "[I", .fieldLink RX2 22 "RouteTrieModel" "nodeLengths" "[I"] ++ wsX20)
def wsX2_findNodes : List Cond := .code yX2_findNodes cX2_findNodes 4 none :: ([.fieldLink RX2 55 "RouteTrieModel" "nodeCount" "I", .fieldLink RX2 29 "RouteTrieModel" "size" "I", .fieldLink RX2 7 "RouteTrieModel" "bits" "[I", .fieldLink RX2 13 "RouteTrieModel" "lengths" "[I", .methodLink RX2 58 yX2_add, .instanceMethod yX2_add, .selects RX2 yX2_add yX2_add, .initialized RX2, .code yX2_add cX2_add 4 none, .fieldLink RX2 19 "RouteTrieModel" "nodeBits" "[I", .fieldLink RX2 22 "RouteTrieModel" "nodeLengths" "[I", .methodLink RX2 32 yX2_mask, .static yX2_mask, .code yX2_mask cX2_mask 1 (some .int)] ++ wsX20)
def wsX2_nodes : List Cond := .code yX2_nodes cX2_nodes 1 (some .int) :: ([.fieldLink RX2 25 "RouteTrieModel" "code" "I", .fieldLink RX2 55 "RouteTrieModel" "nodeCount" "I", .methodLink RX2 62 yX2_findNodes, .instanceMethod yX2_findNodes, .selects RX2 yX2_findNodes yX2_findNodes, .initialized RX2, .code yX2_findNodes cX2_findNodes 4 none, .fieldLink RX2 29 "RouteTrieModel" "size" "I", .fieldLink RX2 7 "RouteTrieModel" "bits" "[I", .fieldLink RX2 13 "RouteTrieModel" "lengths" "[I", .methodLink RX2 58 yX2_add, .instanceMethod yX2_add, .selects RX2 yX2_add yX2_add, .code yX2_add cX2_add 4 none, .fieldLink RX2 19 "RouteTrieModel" "nodeBits" "[I", .fieldLink RX2 22 "RouteTrieModel" "nodeLengths" "[I", .methodLink RX2 32 yX2_mask, .static yX2_mask, .code yX2_mask cX2_mask 1 (some .int)] ++ wsX20)
def wsX2_depth : List Cond := .code yX2_depth cX2_depth 4 (some .int) :: ([.fieldLink RX2 25 "RouteTrieModel" "code" "I", .fieldLink RX2 55 "RouteTrieModel" "nodeCount" "I", .fieldLink RX2 19 "RouteTrieModel" "nodeBits" "[I", .fieldLink RX2 22 "RouteTrieModel" "nodeLengths" "[I", .methodLink RX2 62 yX2_findNodes, .instanceMethod yX2_findNodes, .selects RX2 yX2_findNodes yX2_findNodes, .initialized RX2, .code yX2_findNodes cX2_findNodes 4 none, .fieldLink RX2 29 "RouteTrieModel" "size" "I", .fieldLink RX2 7 "RouteTrieModel" "bits" "[I", .fieldLink RX2 13 "RouteTrieModel" "lengths" "[I", .methodLink RX2 58 yX2_add, .instanceMethod yX2_add, .selects RX2 yX2_add yX2_add, .code yX2_add cX2_add 4 none, .methodLink RX2 32 yX2_mask, .static yX2_mask, .code yX2_mask cX2_mask 1 (some .int), .methodLink RX2 49 yX2_begins, .static yX2_begins, .code yX2_begins cX2_begins 3 (some .boolean)] ++ wsX20)
def wsJ9_min_7cf53 : List Cond := .code yJ9_min_7cf53 cJ9_min_7cf53 2 (some .int) :: ([])
def wsL_law_r1 : List Cond := [Cond.classLink RL 7 RX1, Cond.instantiable RX1 2, Cond.initialized RX1, Cond.classLink RL 10 RX2, Cond.instantiable RX2 8, Cond.initialized RX2, Cond.methodLink RL 9 yX1_init, Cond.instanceMethod yX1_init, Cond.code yX1_init cX1_init 1 none, Cond.methodLink RX1 1 objectInit, Cond.instanceMethod objectInit, Cond.code objectInit ⟨#[0xb1]⟩ 1 none, Cond.classLink RX1 7 RX0, Cond.instantiable RX0 6, Cond.initialized RX0, Cond.fieldLink RX1 14 "RouteTrie" "root" "LRouteTrie$Node;", Cond.fieldLink RX1 18 "RouteTrie" "nodeCount" "I", Cond.instanceMethod yX0_init, Cond.code yX0_init cX0_init 4 none, Cond.methodLink RX0 3 objectInit, Cond.fieldLink RX0 9 "RouteTrie$Node" "bits" "I", Cond.fieldLink RX0 15 "RouteTrie$Node" "len" "I", Cond.fieldLink RX0 18 "RouteTrie$Node" "hop" "I", Cond.fieldLink RX0 21 "RouteTrie$Node" "routes" "I"]
def wsL_law_r2 : List Cond := [Cond.methodLink RL 12 yX2_init, Cond.instanceMethod yX2_init, Cond.code yX2_init cX2_init 1 none, Cond.methodLink RX2 1 objectInit, Cond.arrayClass .int, Cond.fieldLink RX2 7 "RouteTrieModel" "bits" "[I", Cond.fieldLink RX2 13 "RouteTrieModel" "lengths" "[I", Cond.fieldLink RX2 16 "RouteTrieModel" "hops" "[I", Cond.fieldLink RX2 19 "RouteTrieModel" "nodeBits" "[I", Cond.fieldLink RX2 22 "RouteTrieModel" "nodeLengths" "[I", Cond.methodLink RL 13 yX1_init_, Cond.instanceMethod yX1_init_, Cond.selects RX1 yX1_init_ yX1_init_, Cond.code yX1_init_ cX1_init_ 1 none, Cond.methodLink RL 16 yX2_init_, Cond.instanceMethod yX2_init_, Cond.selects RX2 yX2_init_ yX2_init_, Cond.code yX2_init_ cX2_init_ 1 none, Cond.fieldLink RX2 25 "RouteTrieModel" "code" "I", Cond.fieldLink RX2 29 "RouteTrieModel" "size" "I", Cond.methodLink RL 17 yX1_insert, Cond.instanceMethod yX1_insert, Cond.selects RX1 yX1_insert yX1_insert, Cond.code yX1_insert cX1_insert 5 (some .int)]
def wsL_law_r3 : List Cond := [Cond.methodLink RX1 34 yX1_isPrefix, Cond.static yX1_isPrefix, Cond.code yX1_isPrefix cX1_isPrefix 2 (some .boolean), Cond.methodLink RX1 72 yX1_firstBits, Cond.static yX1_firstBits, Cond.code yX1_firstBits cX1_firstBits 2 (some .int), Cond.methodLink RX1 38 yX1_routeAt, Cond.instanceMethod yX1_routeAt, Cond.selects RX1 yX1_routeAt yX1_routeAt, Cond.code yX1_routeAt cX1_routeAt 4 (some (.object "RouteTrie$Node")), Cond.methodLink RX1 56 yX1_topmost, Cond.instanceMethod yX1_topmost, Cond.selects RX1 yX1_topmost yX1_topmost, Cond.code yX1_topmost cX1_topmost 4 (some (.object "RouteTrie$Node")), Cond.instanceMethod yX0_toward, Cond.selects RX0 yX0_toward yX0_toward, Cond.code yX0_toward cX0_toward 2 (some (.object "RouteTrie$Node")), Cond.fieldLink RX0 32 "RouteTrie$Node" "one" "LRouteTrie$Node;", Cond.fieldLink RX0 36 "RouteTrie$Node" "zero" "LRouteTrie$Node;", Cond.methodLink RX0 28 yX0_goesToOne, Cond.instanceMethod yX0_goesToOne, Cond.selects RX0 yX0_goesToOne yX0_goesToOne, Cond.code yX0_goesToOne cX0_goesToOne 2 (some .boolean), Cond.instanceMethod yX0_isRoute]
def wsL_law_r4 : List Cond := [Cond.selects RX0 yX0_isRoute yX0_isRoute, Cond.code yX0_isRoute cX0_isRoute 1 (some .boolean), Cond.methodLink RX1 42 yX1_grow, Cond.instanceMethod yX1_grow, Cond.selects RX1 yX1_grow yX1_grow, Cond.code yX1_grow cX1_grow 6 none, Cond.instanceMethod yX0_isBeginOf, Cond.selects RX0 yX0_isBeginOf yX0_isBeginOf, Cond.code yX0_isBeginOf cX0_isBeginOf 2 (some .boolean), Cond.methodLink RX1 91 yX1_newNode, Cond.instanceMethod yX1_newNode, Cond.selects RX1 yX1_newNode yX1_newNode, Cond.code yX1_newNode cX1_newNode 4 (some (.object "RouteTrie$Node")), Cond.methodLink RX1 95 yX1_joined, Cond.instanceMethod yX1_joined, Cond.selects RX1 yX1_joined yX1_joined, Cond.code yX1_joined cX1_joined 5 (some (.object "RouteTrie$Node")), Cond.methodLink RX1 102 yX1_commonLength, Cond.static yX1_commonLength, Cond.code yX1_commonLength cX1_commonLength 3 (some .int), Cond.methodLink RX1 82 Lib.Math.min.name, Cond.static Lib.Math.min.name, Cond.initialized "java/lang/Math", Cond.code Lib.Math.min.name Lib.Math.min.code 2 (some .int)]
def wsL_law_r5 : List Cond := [Cond.methodLink RX1 76 yJ6_numberOfLeadingZeros_0f7a4, Cond.static yJ6_numberOfLeadingZeros_0f7a4, Cond.initialized RJ6, Cond.code yJ6_numberOfLeadingZeros_0f7a4 cJ6_numberOfLeadingZeros_0f7a4 2 (some .int), Cond.constant RJ6 264 (65536), Cond.instanceMethod yX0_hang, Cond.selects RX0 yX0_hang yX0_hang, Cond.code yX0_hang cX0_hang 2 none, Cond.methodLink RL 21 yX2_insert, Cond.instanceMethod yX2_insert, Cond.selects RX2 yX2_insert yX2_insert, Cond.code yX2_insert cX2_insert 6 (some .int), Cond.methodLink RX2 37 yX2_isPrefix, Cond.static yX2_isPrefix, Cond.code yX2_isPrefix cX2_isPrefix 2 (some .boolean), Cond.methodLink RX2 32 yX2_mask, Cond.static yX2_mask, Cond.code yX2_mask cX2_mask 1 (some .int), Cond.methodLink RX2 41 yX2_find, Cond.instanceMethod yX2_find, Cond.selects RX2 yX2_find yX2_find, Cond.code yX2_find cX2_find 4 (some .int), Cond.methodLink RX2 45 yX2_isBefore, Cond.instanceMethod yX2_isBefore]
def wsL_law_r6 : List Cond := [Cond.selects RX2 yX2_isBefore yX2_isBefore, Cond.code yX2_isBefore cX2_isBefore 6 (some .boolean), Cond.constant RX2 36 (-2147483648), Cond.methodLink RL 22 yX1_remove, Cond.instanceMethod yX1_remove, Cond.selects RX1 yX1_remove yX1_remove, Cond.code yX1_remove cX1_remove 4 (some .boolean), Cond.methodLink RX1 45 yX1_cut, Cond.instanceMethod yX1_cut, Cond.selects RX1 yX1_cut yX1_cut, Cond.code yX1_cut cX1_cut 5 none, Cond.methodLink RX1 106 yX1_dropIfIdle, Cond.instanceMethod yX1_dropIfIdle, Cond.selects RX1 yX1_dropIfIdle yX1_dropIfIdle, Cond.code yX1_dropIfIdle cX1_dropIfIdle 3 none, Cond.instanceMethod yX0_replace, Cond.selects RX0 yX0_replace yX0_replace, Cond.code yX0_replace cX0_replace 3 none, Cond.methodLink RL 26 yX2_remove, Cond.instanceMethod yX2_remove, Cond.selects RX2 yX2_remove yX2_remove, Cond.code yX2_remove cX2_remove 5 (some .boolean), Cond.methodLink RL 27 yX1_lookup, Cond.instanceMethod yX1_lookup]
def wsL_law_r7 : List Cond := [Cond.selects RX1 yX1_lookup yX1_lookup, Cond.code yX1_lookup cX1_lookup 3 (some .int), Cond.methodLink RX1 49 yX1_longestRoute, Cond.instanceMethod yX1_longestRoute, Cond.selects RX1 yX1_longestRoute yX1_longestRoute, Cond.code yX1_longestRoute cX1_longestRoute 4 (some (.object "RouteTrie$Node")), Cond.methodLink RL 31 yX2_lookup, Cond.instanceMethod yX2_lookup, Cond.selects RX2 yX2_lookup yX2_lookup, Cond.code yX2_lookup cX2_lookup 3 (some .int), Cond.methodLink RX2 52 yX2_longest, Cond.instanceMethod yX2_longest, Cond.selects RX2 yX2_longest yX2_longest, Cond.code yX2_longest cX2_longest 4 (some .int), Cond.methodLink RX2 49 yX2_begins, Cond.static yX2_begins, Cond.code yX2_begins cX2_begins 3 (some .boolean), Cond.methodLink RL 32 yX1_lookupLen, Cond.instanceMethod yX1_lookupLen, Cond.selects RX1 yX1_lookupLen yX1_lookupLen, Cond.code yX1_lookupLen cX1_lookupLen 3 (some .int), Cond.methodLink RL 35 yX2_lookupLen, Cond.instanceMethod yX2_lookupLen, Cond.selects RX2 yX2_lookupLen yX2_lookupLen]
def wsL_law_r8 : List Cond := [Cond.code yX2_lookupLen cX2_lookupLen 3 (some .int), Cond.methodLink RL 36 yX1_exact, Cond.instanceMethod yX1_exact, Cond.selects RX1 yX1_exact yX1_exact, Cond.code yX1_exact cX1_exact 4 (some .int), Cond.methodLink RL 40 yX2_exact, Cond.instanceMethod yX2_exact, Cond.selects RX2 yX2_exact yX2_exact, Cond.code yX2_exact cX2_exact 4 (some .int), Cond.methodLink RL 41 yX1_under, Cond.instanceMethod yX1_under, Cond.selects RX1 yX1_under yX1_under, Cond.code yX1_under cX1_under 4 (some .int), Cond.methodLink RL 44 yX2_under, Cond.instanceMethod yX2_under, Cond.selects RX2 yX2_under yX2_under, Cond.code yX2_under cX2_under 5 (some .int), Cond.methodLink RL 45 yX1_route, Cond.instanceMethod yX1_route, Cond.selects RX1 yX1_route yX1_route, Cond.code yX1_route cX1_route 4 (some .int), Cond.methodLink RX1 59 yX1_inOrder, Cond.instanceMethod yX1_inOrder, Cond.selects RX1 yX1_inOrder yX1_inOrder]
def wsL_law_r9 : List Cond := [Cond.code yX1_inOrder cX1_inOrder 5 (some (.object "RouteTrie$Node")), Cond.methodLink RL 48 yX2_route, Cond.instanceMethod yX2_route, Cond.selects RX2 yX2_route yX2_route, Cond.code yX2_route cX2_route 3 (some .int), Cond.methodLink RL 49 yX1_count, Cond.instanceMethod yX1_count, Cond.selects RX1 yX1_count yX1_count, Cond.code yX1_count cX1_count 1 (some .int), Cond.methodLink RL 53 yX2_count, Cond.instanceMethod yX2_count, Cond.selects RX2 yX2_count yX2_count, Cond.code yX2_count cX2_count 1 (some .int), Cond.methodLink RL 54 yX1_nodes, Cond.instanceMethod yX1_nodes, Cond.selects RX1 yX1_nodes yX1_nodes, Cond.code yX1_nodes cX1_nodes 1 (some .int), Cond.methodLink RL 57 yX2_nodes, Cond.instanceMethod yX2_nodes, Cond.selects RX2 yX2_nodes yX2_nodes, Cond.code yX2_nodes cX2_nodes 1 (some .int), Cond.fieldLink RX2 55 "RouteTrieModel" "nodeCount" "I", Cond.methodLink RX2 62 yX2_findNodes, Cond.instanceMethod yX2_findNodes]
def wsL_law_r10 : List Cond := [Cond.selects RX2 yX2_findNodes yX2_findNodes, Cond.code yX2_findNodes cX2_findNodes 4 none, Cond.methodLink RX2 58 yX2_add, Cond.instanceMethod yX2_add, Cond.selects RX2 yX2_add yX2_add, Cond.code yX2_add cX2_add 4 none, Cond.methodLink RL 58 yX1_depth, Cond.instanceMethod yX1_depth, Cond.selects RX1 yX1_depth yX1_depth, Cond.code yX1_depth cX1_depth 4 (some .int), Cond.methodLink RL 61 yX2_depth, Cond.instanceMethod yX2_depth, Cond.selects RX2 yX2_depth yX2_depth, Cond.code yX2_depth cX2_depth 4 (some .int)]
def wsL_law : List Cond := (wsL_law_r1 ++ (wsL_law_r2 ++ (wsL_law_r3 ++ (wsL_law_r4 ++ (wsL_law_r5 ++ (wsL_law_r6 ++ (wsL_law_r7 ++ (wsL_law_r8 ++ (wsL_law_r9 ++ wsL_law_r10))))))))) ++ wsX10 ++ wsX20 ++ wsX00 ++ ([] : List Cond)
set_option maxRecDepth 20000 in
theorem wsL_law_in : ∀ w ∈ wsL_law, w ∈ lw_tbl := fun w h => (goodIn_p wsL_law [30, 33, 38, 197, 75, 228, 79, 82, 85, 89, 93, 97, 101, 105, 109, 113, 118, 122, 125, 132, 128, 136, 232, 235, 238, 242, 246, 140, 144, 148, 152, 251, 156, 160, 255, 259, 262, 164, 266, 168, 270, 172, 274, 176, 180, 278, 184, 282, 188, 286, 290, 294, 192, 298] (by decide +kernel) (by decide +kernel) w h).1
theorem inlX0 : ∀ w ∈ wsX00, w ∈ wsL_law := fun _ h => List.mem_append_left _ (List.mem_append_right _ h)
theorem inX0 : ∀ w ∈ wsX00, w ∈ lw_tbl := fun w h => wsL_law_in w (inlX0 w h)
theorem inlX1 : ∀ w ∈ wsX10, w ∈ wsL_law := fun _ h => List.mem_append_left _ (List.mem_append_left _ (List.mem_append_left _ (List.mem_append_right _ h)))
theorem inX1 : ∀ w ∈ wsX10, w ∈ lw_tbl := fun w h => wsL_law_in w (inlX1 w h)
theorem inlX2 : ∀ w ∈ wsX20, w ∈ wsL_law := fun _ h => List.mem_append_left _ (List.mem_append_left _ (List.mem_append_right _ h))
theorem inX2 : ∀ w ∈ wsX20, w ∈ lw_tbl := fun w h => wsL_law_in w (inlX2 w h)
theorem inJ6 : ∀ w ∈ wsJ60, w ∈ lw_tbl := by decide +kernel
theorem inJ9 : ∀ w ∈ wsJ90, w ∈ lw_tbl := by decide +kernel
theorem dX0_init_0 : decode cX0_init 0 = .ok (.aload_n 0, 1) := by decide +kernel
theorem dX0_init_1 : decode cX0_init 1 = .ok (.invokespecial 3, 3) := by decide +kernel
theorem dX0_init_4 : decode cX0_init 4 = .ok (.aload_n 0, 1) := by decide +kernel
theorem dX0_init_5 : decode cX0_init 5 = .ok (.iload_n 1, 1) := by decide +kernel
theorem dX0_init_6 : decode cX0_init 6 = .ok (.putfield 9, 3) := by decide +kernel
theorem dX0_init_9 : decode cX0_init 9 = .ok (.aload_n 0, 1) := by decide +kernel
theorem dX0_init_10 : decode cX0_init 10 = .ok (.iload_n 2, 1) := by decide +kernel
theorem dX0_init_11 : decode cX0_init 11 = .ok (.putfield 15, 3) := by decide +kernel
theorem dX0_init_14 : decode cX0_init 14 = .ok (.aload_n 0, 1) := by decide +kernel
theorem dX0_init_15 : decode cX0_init 15 = .ok (.iload_n 3, 1) := by decide +kernel
theorem dX0_init_16 : decode cX0_init 16 = .ok (.putfield 18, 3) := by decide +kernel
theorem dX0_init_19 : decode cX0_init 19 = .ok (.aload_n 0, 1) := by decide +kernel
theorem dX0_init_20 : decode cX0_init 20 = .ok (.iload_n 3, 1) := by decide +kernel
theorem dX0_init_21 : decode cX0_init 21 = .ok (.iconst (-1), 1) := by decide +kernel
theorem dX0_init_22 : decode cX0_init 22 = .ok (.if_icmp .ne 7, 3) := by decide +kernel
theorem dX0_init_25 : decode cX0_init 25 = .ok (.iconst 0, 1) := by decide +kernel
theorem dX0_init_26 : decode cX0_init 26 = .ok (.goto 4, 3) := by decide +kernel
theorem dX0_init_29 : decode cX0_init 29 = .ok (.iconst 1, 1) := by decide +kernel
theorem dX0_init_30 : decode cX0_init 30 = .ok (.putfield 21, 3) := by decide +kernel
theorem dX0_init_33 : decode cX0_init 33 = .ok (.return_, 1) := by decide +kernel
theorem dX0_isRoute_0 : decode cX0_isRoute 0 = .ok (.aload_n 0, 1) := by decide +kernel
theorem dX0_isRoute_1 : decode cX0_isRoute 1 = .ok (.getfield 18, 3) := by decide +kernel
theorem dX0_isRoute_4 : decode cX0_isRoute 4 = .ok (.iconst (-1), 1) := by decide +kernel
theorem dX0_isRoute_5 : decode cX0_isRoute 5 = .ok (.if_icmp .eq 7, 3) := by decide +kernel
theorem dX0_isRoute_8 : decode cX0_isRoute 8 = .ok (.iconst 1, 1) := by decide +kernel
theorem dX0_isRoute_9 : decode cX0_isRoute 9 = .ok (.goto 4, 3) := by decide +kernel
theorem dX0_isRoute_12 : decode cX0_isRoute 12 = .ok (.iconst 0, 1) := by decide +kernel
theorem dX0_isRoute_13 : decode cX0_isRoute 13 = .ok (.ireturn, 1) := by decide +kernel
set_option maxRecDepth 20000 in
theorem ggX0_isBeginOf_X1_firstBits : GoodIn wsX0_isBeginOf wsX1_firstBits := goodIn_r _ [5] (by decide +kernel) (by decide +kernel)
set_option maxRecDepth 20000 in
theorem gX0_isBeginOf_X1_firstBits_n24 : GoodIn wsX0_isBeginOf (wsX1_firstBits) := ggX0_isBeginOf_X1_firstBits
theorem dX0_isBeginOf_0 : decode cX0_isBeginOf 0 = .ok (.iload_n 1, 1) := by decide +kernel
theorem dX0_isBeginOf_1 : decode cX0_isBeginOf 1 = .ok (.aload_n 0, 1) := by decide +kernel
theorem dX0_isBeginOf_2 : decode cX0_isBeginOf 2 = .ok (.getfield 15, 3) := by decide +kernel
theorem dX0_isBeginOf_5 : decode cX0_isBeginOf 5 = .ok (.invokestatic 24, 3) := by decide +kernel
theorem dX0_isBeginOf_8 : decode cX0_isBeginOf 8 = .ok (.aload_n 0, 1) := by decide +kernel
theorem dX0_isBeginOf_9 : decode cX0_isBeginOf 9 = .ok (.getfield 9, 3) := by decide +kernel
theorem dX0_isBeginOf_12 : decode cX0_isBeginOf 12 = .ok (.if_icmp .ne 7, 3) := by decide +kernel
theorem dX0_isBeginOf_15 : decode cX0_isBeginOf 15 = .ok (.iconst 1, 1) := by decide +kernel
theorem dX0_isBeginOf_16 : decode cX0_isBeginOf 16 = .ok (.goto 4, 3) := by decide +kernel
theorem dX0_isBeginOf_19 : decode cX0_isBeginOf 19 = .ok (.iconst 0, 1) := by decide +kernel
theorem dX0_isBeginOf_20 : decode cX0_isBeginOf 20 = .ok (.ireturn, 1) := by decide +kernel
theorem dX0_goesToOne_0 : decode cX0_goesToOne 0 = .ok (.aload_n 0, 1) := by decide +kernel
theorem dX0_goesToOne_1 : decode cX0_goesToOne 1 = .ok (.getfield 15, 3) := by decide +kernel
theorem dX0_goesToOne_4 : decode cX0_goesToOne 4 = .ok (.bipush 32, 2) := by decide +kernel
theorem dX0_goesToOne_6 : decode cX0_goesToOne 6 = .ok (.if_icmp .ge 22, 3) := by decide +kernel
theorem dX0_goesToOne_9 : decode cX0_goesToOne 9 = .ok (.iload_n 1, 1) := by decide +kernel
theorem dX0_goesToOne_10 : decode cX0_goesToOne 10 = .ok (.bipush 31, 2) := by decide +kernel
theorem dX0_goesToOne_12 : decode cX0_goesToOne 12 = .ok (.aload_n 0, 1) := by decide +kernel
theorem dX0_goesToOne_13 : decode cX0_goesToOne 13 = .ok (.getfield 15, 3) := by decide +kernel
theorem dX0_goesToOne_16 : decode cX0_goesToOne 16 = .ok (.isub, 1) := by decide +kernel
theorem dX0_goesToOne_17 : decode cX0_goesToOne 17 = .ok (.iushr, 1) := by decide +kernel
theorem dX0_goesToOne_18 : decode cX0_goesToOne 18 = .ok (.iconst 1, 1) := by decide +kernel
theorem dX0_goesToOne_19 : decode cX0_goesToOne 19 = .ok (.iand, 1) := by decide +kernel
theorem dX0_goesToOne_20 : decode cX0_goesToOne 20 = .ok (.iconst 1, 1) := by decide +kernel
theorem dX0_goesToOne_21 : decode cX0_goesToOne 21 = .ok (.if_icmp .ne 7, 3) := by decide +kernel
theorem dX0_goesToOne_24 : decode cX0_goesToOne 24 = .ok (.iconst 1, 1) := by decide +kernel
theorem dX0_goesToOne_25 : decode cX0_goesToOne 25 = .ok (.goto 4, 3) := by decide +kernel
theorem dX0_goesToOne_28 : decode cX0_goesToOne 28 = .ok (.iconst 0, 1) := by decide +kernel
theorem dX0_goesToOne_29 : decode cX0_goesToOne 29 = .ok (.ireturn, 1) := by decide +kernel
set_option maxRecDepth 20000 in
theorem ggX0_toward_X0_goesToOne : GoodIn wsX0_toward wsX0_goesToOne := goodIn_r _ [7, 8, 9, 10, 11, 12, 13, 14] (by decide +kernel) (by decide +kernel)
set_option maxRecDepth 20000 in
theorem gX0_toward_X0_goesToOne : GoodIn wsX0_toward (wsV RX0 28 RX0 yX0_goesToOne wsX0_goesToOne) := goodIn_app (goodIn_of _ (by decide +kernel)) ggX0_toward_X0_goesToOne
theorem dX0_toward_0 : decode cX0_toward 0 = .ok (.aload_n 0, 1) := by decide +kernel
theorem dX0_toward_1 : decode cX0_toward 1 = .ok (.iload_n 1, 1) := by decide +kernel
theorem dX0_toward_2 : decode cX0_toward 2 = .ok (.invokevirtual 28, 3) := by decide +kernel
theorem dX0_toward_5 : decode cX0_toward 5 = .ok (.ifCond .eq 10, 3) := by decide +kernel
theorem dX0_toward_8 : decode cX0_toward 8 = .ok (.aload_n 0, 1) := by decide +kernel
theorem dX0_toward_9 : decode cX0_toward 9 = .ok (.getfield 32, 3) := by decide +kernel
theorem dX0_toward_12 : decode cX0_toward 12 = .ok (.goto 7, 3) := by decide +kernel
theorem dX0_toward_15 : decode cX0_toward 15 = .ok (.aload_n 0, 1) := by decide +kernel
theorem dX0_toward_16 : decode cX0_toward 16 = .ok (.getfield 36, 3) := by decide +kernel
theorem dX0_toward_19 : decode cX0_toward 19 = .ok (.areturn, 1) := by decide +kernel
set_option maxRecDepth 20000 in
theorem ggX0_hang_X0_goesToOne : GoodIn wsX0_hang wsX0_goesToOne := goodIn_r _ [8, 9, 10, 11, 12, 13, 14, 15] (by decide +kernel) (by decide +kernel)
set_option maxRecDepth 20000 in
theorem gX0_hang_X0_goesToOne : GoodIn wsX0_hang (wsV RX0 28 RX0 yX0_goesToOne wsX0_goesToOne) := goodIn_app (goodIn_of _ (by decide +kernel)) ggX0_hang_X0_goesToOne
theorem dX0_hang_0 : decode cX0_hang 0 = .ok (.aload_n 0, 1) := by decide +kernel
theorem dX0_hang_1 : decode cX0_hang 1 = .ok (.aload_n 1, 1) := by decide +kernel
theorem dX0_hang_2 : decode cX0_hang 2 = .ok (.getfield 9, 3) := by decide +kernel
theorem dX0_hang_5 : decode cX0_hang 5 = .ok (.invokevirtual 28, 3) := by decide +kernel
theorem dX0_hang_8 : decode cX0_hang 8 = .ok (.ifCond .eq 11, 3) := by decide +kernel
theorem dX0_hang_11 : decode cX0_hang 11 = .ok (.aload_n 0, 1) := by decide +kernel
theorem dX0_hang_12 : decode cX0_hang 12 = .ok (.aload_n 1, 1) := by decide +kernel
theorem dX0_hang_13 : decode cX0_hang 13 = .ok (.putfield 32, 3) := by decide +kernel
theorem dX0_hang_16 : decode cX0_hang 16 = .ok (.goto 8, 3) := by decide +kernel
theorem dX0_hang_19 : decode cX0_hang 19 = .ok (.aload_n 0, 1) := by decide +kernel
theorem dX0_hang_20 : decode cX0_hang 20 = .ok (.aload_n 1, 1) := by decide +kernel
theorem dX0_hang_21 : decode cX0_hang 21 = .ok (.putfield 36, 3) := by decide +kernel
theorem dX0_hang_24 : decode cX0_hang 24 = .ok (.return_, 1) := by decide +kernel
theorem dX0_replace_0 : decode cX0_replace 0 = .ok (.aload_n 0, 1) := by decide +kernel
theorem dX0_replace_1 : decode cX0_replace 1 = .ok (.getfield 32, 3) := by decide +kernel
theorem dX0_replace_4 : decode cX0_replace 4 = .ok (.aload_n 1, 1) := by decide +kernel
theorem dX0_replace_5 : decode cX0_replace 5 = .ok (.if_acmp .ne 11, 3) := by decide +kernel
theorem dX0_replace_8 : decode cX0_replace 8 = .ok (.aload_n 0, 1) := by decide +kernel
theorem dX0_replace_9 : decode cX0_replace 9 = .ok (.aload_n 2, 1) := by decide +kernel
theorem dX0_replace_10 : decode cX0_replace 10 = .ok (.putfield 32, 3) := by decide +kernel
theorem dX0_replace_13 : decode cX0_replace 13 = .ok (.goto 8, 3) := by decide +kernel
theorem dX0_replace_16 : decode cX0_replace 16 = .ok (.aload_n 0, 1) := by decide +kernel
theorem dX0_replace_17 : decode cX0_replace 17 = .ok (.aload_n 2, 1) := by decide +kernel
theorem dX0_replace_18 : decode cX0_replace 18 = .ok (.putfield 36, 3) := by decide +kernel
theorem dX0_replace_21 : decode cX0_replace 21 = .ok (.return_, 1) := by decide +kernel
set_option maxRecDepth 20000 in
theorem ggX1_init_X0_init : GoodIn wsX1_init wsX0_init := goodIn_r _ [10, 11, 2, 3, 12, 13, 14, 15, 16, 17, 18, 19, 20, 21] (by decide +kernel) (by decide +kernel)
set_option maxRecDepth 20000 in
theorem gX1_init_X0_init_n11 : GoodIn wsX1_init (wsX0_init) := ggX1_init_X0_init
end
section
theorem dX1_init_0 : decode cX1_init 0 = .ok (.aload_n 0, 1) := by decide +kernel
theorem dX1_init_1 : decode cX1_init 1 = .ok (.invokespecial 1, 3) := by decide +kernel
theorem dX1_init_4 : decode cX1_init 4 = .ok (.aload_n 0, 1) := by decide +kernel
theorem dX1_init_5 : decode cX1_init 5 = .ok (.new 7, 3) := by decide +kernel
theorem dX1_init_8 : decode cX1_init 8 = .ok (.dup, 1) := by decide +kernel
theorem dX1_init_9 : decode cX1_init 9 = .ok (.iconst 0, 1) := by decide +kernel
theorem dX1_init_10 : decode cX1_init 10 = .ok (.iconst 0, 1) := by decide +kernel
theorem dX1_init_11 : decode cX1_init 11 = .ok (.iconst (-1), 1) := by decide +kernel
theorem dX1_init_12 : decode cX1_init 12 = .ok (.invokespecial 11, 3) := by decide +kernel
theorem dX1_init_15 : decode cX1_init 15 = .ok (.putfield 14, 3) := by decide +kernel
theorem dX1_init_18 : decode cX1_init 18 = .ok (.aload_n 0, 1) := by decide +kernel
theorem dX1_init_19 : decode cX1_init 19 = .ok (.iconst 1, 1) := by decide +kernel
theorem dX1_init_20 : decode cX1_init 20 = .ok (.putfield 18, 3) := by decide +kernel
theorem dX1_init_23 : decode cX1_init 23 = .ok (.return_, 1) := by decide +kernel
theorem dX1_init__0 : decode cX1_init_ 0 = .ok (.aload_n 0, 1) := by decide +kernel
theorem dX1_init__1 : decode cX1_init_ 1 = .ok (.getfield 14, 3) := by decide +kernel
theorem dX1_init__4 : decode cX1_init_ 4 = .ok (.iconst (-1), 1) := by decide +kernel
theorem dX1_init__5 : decode cX1_init_ 5 = .ok (.putfield 22, 3) := by decide +kernel
theorem dX1_init__8 : decode cX1_init_ 8 = .ok (.aload_n 0, 1) := by decide +kernel
theorem dX1_init__9 : decode cX1_init_ 9 = .ok (.getfield 14, 3) := by decide +kernel
theorem dX1_init__12 : decode cX1_init_ 12 = .ok (.iconst 0, 1) := by decide +kernel
theorem dX1_init__13 : decode cX1_init_ 13 = .ok (.putfield 25, 3) := by decide +kernel
theorem dX1_init__16 : decode cX1_init_ 16 = .ok (.aload_n 0, 1) := by decide +kernel
theorem dX1_init__17 : decode cX1_init_ 17 = .ok (.getfield 14, 3) := by decide +kernel
theorem dX1_init__20 : decode cX1_init_ 20 = .ok (.aconst_null, 1) := by decide +kernel
theorem dX1_init__21 : decode cX1_init_ 21 = .ok (.putfield 28, 3) := by decide +kernel
theorem dX1_init__24 : decode cX1_init_ 24 = .ok (.aload_n 0, 1) := by decide +kernel
theorem dX1_init__25 : decode cX1_init_ 25 = .ok (.getfield 14, 3) := by decide +kernel
theorem dX1_init__28 : decode cX1_init_ 28 = .ok (.aconst_null, 1) := by decide +kernel
theorem dX1_init__29 : decode cX1_init_ 29 = .ok (.putfield 31, 3) := by decide +kernel
theorem dX1_init__32 : decode cX1_init_ 32 = .ok (.aload_n 0, 1) := by decide +kernel
theorem dX1_init__33 : decode cX1_init_ 33 = .ok (.iconst 1, 1) := by decide +kernel
theorem dX1_init__34 : decode cX1_init_ 34 = .ok (.putfield 18, 3) := by decide +kernel
theorem dX1_init__37 : decode cX1_init_ 37 = .ok (.return_, 1) := by decide +kernel
set_option maxRecDepth 20000 in
theorem ggX1_insert_X1_isPrefix : GoodIn wsX1_insert wsX1_isPrefix := goodIn_r _ [5, 6, 7, 4, 8] (by decide +kernel) (by decide +kernel)
set_option maxRecDepth 20000 in
theorem gX1_insert_X1_isPrefix : GoodIn wsX1_insert (va_wsS RX1 34 yX1_isPrefix wsX1_isPrefix) := goodIn_app (goodIn_of _ (by decide +kernel)) ggX1_insert_X1_isPrefix
set_option maxRecDepth 20000 in
theorem ggX1_insert_X1_routeAt : GoodIn wsX1_insert wsX1_routeAt := goodIn_r _ [12, 2, 3, 4, 5, 6, 7, 8, 13, 14, 15, 16, 1, 17, 18, 19, 20, 21, 22, 23, 24, 25, 26, 27, 28, 29, 30, 31, 72, 73, 74, 75, 76, 77, 78, 79] (by decide +kernel) (by decide +kernel)
set_option maxRecDepth 20000 in
theorem gX1_insert_X1_routeAt : GoodIn wsX1_insert (wsV RX1 38 RX1 yX1_routeAt wsX1_routeAt) := goodIn_app (goodIn_of _ (by decide +kernel)) ggX1_insert_X1_routeAt
set_option maxRecDepth 20000 in
theorem ggX1_insert_X1_grow : GoodIn wsX1_insert wsX1_grow := goodIn_r _ [35, 1, 17, 18, 19, 20, 21, 22, 23, 24, 25, 26, 27, 36, 37, 38, 39, 7, 4, 8, 40, 41, 42, 43, 44, 45, 46, 47, 48, 49, 50, 51, 31, 52, 53, 54, 55, 56, 57, 58, 59, 60, 61, 62, 63, 64, 65, 66, 67, 68, 6, 69, 70, 71, 78, 79, 72, 73, 74, 75, 76, 77] (by decide +kernel) (by decide +kernel)
set_option maxRecDepth 20000 in
theorem gX1_insert_X1_grow : GoodIn wsX1_insert (wsV RX1 42 RX1 yX1_grow wsX1_grow) := goodIn_app (goodIn_of _ (by decide +kernel)) ggX1_insert_X1_grow
theorem dX1_insert_0 : decode cX1_insert 0 = .ok (.iload_n 1, 1) := by decide +kernel
theorem dX1_insert_1 : decode cX1_insert 1 = .ok (.iload_n 2, 1) := by decide +kernel
theorem dX1_insert_2 : decode cX1_insert 2 = .ok (.invokestatic 34, 3) := by decide +kernel
theorem dX1_insert_5 : decode cX1_insert 5 = .ok (.ifCond .eq 7, 3) := by decide +kernel
theorem dX1_insert_8 : decode cX1_insert 8 = .ok (.iload_n 3, 1) := by decide +kernel
theorem dX1_insert_9 : decode cX1_insert 9 = .ok (.ifCond .ge 5, 3) := by decide +kernel
theorem dX1_insert_12 : decode cX1_insert 12 = .ok (.iconst (-1), 1) := by decide +kernel
theorem dX1_insert_13 : decode cX1_insert 13 = .ok (.ireturn, 1) := by decide +kernel
theorem dX1_insert_14 : decode cX1_insert 14 = .ok (.aload_n 0, 1) := by decide +kernel
theorem dX1_insert_15 : decode cX1_insert 15 = .ok (.iload_n 1, 1) := by decide +kernel
theorem dX1_insert_16 : decode cX1_insert 16 = .ok (.iload_n 2, 1) := by decide +kernel
theorem dX1_insert_17 : decode cX1_insert 17 = .ok (.invokevirtual 38, 3) := by decide +kernel
theorem dX1_insert_20 : decode cX1_insert 20 = .ok (.astore 4, 2) := by decide +kernel
theorem dX1_insert_22 : decode cX1_insert 22 = .ok (.aload 4, 2) := by decide +kernel
theorem dX1_insert_24 : decode cX1_insert 24 = .ok (.ifnull 11, 3) := by decide +kernel
theorem dX1_insert_27 : decode cX1_insert 27 = .ok (.aload 4, 2) := by decide +kernel
theorem dX1_insert_29 : decode cX1_insert 29 = .ok (.iload_n 3, 1) := by decide +kernel
theorem dX1_insert_30 : decode cX1_insert 30 = .ok (.putfield 22, 3) := by decide +kernel
theorem dX1_insert_33 : decode cX1_insert 33 = .ok (.iconst 0, 1) := by decide +kernel
theorem dX1_insert_34 : decode cX1_insert 34 = .ok (.ireturn, 1) := by decide +kernel
theorem dX1_insert_35 : decode cX1_insert 35 = .ok (.aload_n 0, 1) := by decide +kernel
theorem dX1_insert_36 : decode cX1_insert 36 = .ok (.getfield 14, 3) := by decide +kernel
theorem dX1_insert_39 : decode cX1_insert 39 = .ok (.getfield 25, 3) := by decide +kernel
theorem dX1_insert_42 : decode cX1_insert 42 = .ok (.sipush 500, 3) := by decide +kernel
theorem dX1_insert_45 : decode cX1_insert 45 = .ok (.if_icmp .lt 6, 3) := by decide +kernel
theorem dX1_insert_48 : decode cX1_insert 48 = .ok (.bipush (-2), 2) := by decide +kernel
theorem dX1_insert_50 : decode cX1_insert 50 = .ok (.ireturn, 1) := by decide +kernel
theorem dX1_insert_51 : decode cX1_insert 51 = .ok (.aload_n 0, 1) := by decide +kernel
theorem dX1_insert_52 : decode cX1_insert 52 = .ok (.iload_n 1, 1) := by decide +kernel
theorem dX1_insert_53 : decode cX1_insert 53 = .ok (.iload_n 2, 1) := by decide +kernel
theorem dX1_insert_54 : decode cX1_insert 54 = .ok (.iload_n 3, 1) := by decide +kernel
theorem dX1_insert_55 : decode cX1_insert 55 = .ok (.invokevirtual 42, 3) := by decide +kernel
theorem dX1_insert_58 : decode cX1_insert 58 = .ok (.iconst 1, 1) := by decide +kernel
theorem dX1_insert_59 : decode cX1_insert 59 = .ok (.ireturn, 1) := by decide +kernel
set_option maxRecDepth 20000 in
theorem ggX1_remove_X1_routeAt : GoodIn wsX1_remove wsX1_routeAt := goodIn_r _ [5, 6, 7, 4, 8, 9, 10, 11, 12, 13, 14, 15, 16, 17, 18, 19, 20, 21, 22, 23, 24, 25, 26, 27, 28, 29, 30, 31, 44, 45, 46, 47, 48, 49, 50, 51] (by decide +kernel) (by decide +kernel)
set_option maxRecDepth 20000 in
theorem gX1_remove_X1_routeAt : GoodIn wsX1_remove (wsV RX1 38 RX1 yX1_routeAt wsX1_routeAt) := goodIn_app (goodIn_of _ (by decide +kernel)) ggX1_remove_X1_routeAt
set_option maxRecDepth 20000 in
theorem ggX1_remove_X1_cut : GoodIn wsX1_remove wsX1_cut := goodIn_r _ [35, 16, 17, 18, 19, 20, 21, 22, 23, 24, 25, 26, 27, 36, 37, 38, 4, 39, 40, 28, 29, 30, 31, 41, 42, 43, 50, 51, 44, 45, 46, 47, 48, 49] (by decide +kernel) (by decide +kernel)
set_option maxRecDepth 20000 in
theorem gX1_remove_X1_cut : GoodIn wsX1_remove (wsV RX1 45 RX1 yX1_cut wsX1_cut) := goodIn_app (goodIn_of _ (by decide +kernel)) ggX1_remove_X1_cut
theorem dX1_remove_0 : decode cX1_remove 0 = .ok (.aload_n 0, 1) := by decide +kernel
theorem dX1_remove_1 : decode cX1_remove 1 = .ok (.iload_n 1, 1) := by decide +kernel
theorem dX1_remove_2 : decode cX1_remove 2 = .ok (.iload_n 2, 1) := by decide +kernel
theorem dX1_remove_3 : decode cX1_remove 3 = .ok (.invokevirtual 38, 3) := by decide +kernel
theorem dX1_remove_6 : decode cX1_remove 6 = .ok (.astore_n 3, 1) := by decide +kernel
theorem dX1_remove_7 : decode cX1_remove 7 = .ok (.aload_n 3, 1) := by decide +kernel
theorem dX1_remove_8 : decode cX1_remove 8 = .ok (.ifnonnull 5, 3) := by decide +kernel
theorem dX1_remove_11 : decode cX1_remove 11 = .ok (.iconst 0, 1) := by decide +kernel
theorem dX1_remove_12 : decode cX1_remove 12 = .ok (.ireturn, 1) := by decide +kernel
theorem dX1_remove_13 : decode cX1_remove 13 = .ok (.aload_n 0, 1) := by decide +kernel
theorem dX1_remove_14 : decode cX1_remove 14 = .ok (.aload_n 3, 1) := by decide +kernel
theorem dX1_remove_15 : decode cX1_remove 15 = .ok (.invokevirtual 45, 3) := by decide +kernel
theorem dX1_remove_18 : decode cX1_remove 18 = .ok (.iconst 1, 1) := by decide +kernel
theorem dX1_remove_19 : decode cX1_remove 19 = .ok (.ireturn, 1) := by decide +kernel
set_option maxRecDepth 20000 in
theorem ggX1_lookup_X1_longestRoute : GoodIn wsX1_lookup wsX1_longestRoute := goodIn_r _ [5, 6, 7, 8, 9, 10, 11, 12, 13, 4, 14, 15, 16, 17, 18, 19, 20, 21, 22, 23, 24, 25, 26, 27, 34, 35, 28, 29, 30, 31, 32, 33] (by decide +kernel) (by decide +kernel)
set_option maxRecDepth 20000 in
theorem gX1_lookup_X1_longestRoute : GoodIn wsX1_lookup (wsV RX1 49 RX1 yX1_longestRoute wsX1_longestRoute) := goodIn_app (goodIn_of _ (by decide +kernel)) ggX1_lookup_X1_longestRoute
theorem dX1_lookup_0 : decode cX1_lookup 0 = .ok (.aload_n 0, 1) := by decide +kernel
theorem dX1_lookup_1 : decode cX1_lookup 1 = .ok (.iload_n 1, 1) := by decide +kernel
theorem dX1_lookup_2 : decode cX1_lookup 2 = .ok (.invokevirtual 49, 3) := by decide +kernel
theorem dX1_lookup_5 : decode cX1_lookup 5 = .ok (.astore_n 2, 1) := by decide +kernel
theorem dX1_lookup_6 : decode cX1_lookup 6 = .ok (.aload_n 2, 1) := by decide +kernel
theorem dX1_lookup_7 : decode cX1_lookup 7 = .ok (.ifnonnull 7, 3) := by decide +kernel
theorem dX1_lookup_10 : decode cX1_lookup 10 = .ok (.iconst (-1), 1) := by decide +kernel
theorem dX1_lookup_11 : decode cX1_lookup 11 = .ok (.goto 7, 3) := by decide +kernel
theorem dX1_lookup_14 : decode cX1_lookup 14 = .ok (.aload_n 2, 1) := by decide +kernel
theorem dX1_lookup_15 : decode cX1_lookup 15 = .ok (.getfield 22, 3) := by decide +kernel
theorem dX1_lookup_18 : decode cX1_lookup 18 = .ok (.ireturn, 1) := by decide +kernel
set_option maxRecDepth 20000 in
theorem ggX1_lookupLen_X1_longestRoute : GoodIn wsX1_lookupLen wsX1_longestRoute := goodIn_r _ [5, 6, 7, 8, 9, 10, 11, 12, 13, 4, 14, 15, 16, 17, 18, 19, 20, 21, 22, 23, 24, 25, 26, 27, 34, 35, 28, 29, 30, 31, 32, 33] (by decide +kernel) (by decide +kernel)
set_option maxRecDepth 20000 in
theorem gX1_lookupLen_X1_longestRoute : GoodIn wsX1_lookupLen (wsV RX1 49 RX1 yX1_longestRoute wsX1_longestRoute) := goodIn_app (goodIn_of _ (by decide +kernel)) ggX1_lookupLen_X1_longestRoute
theorem dX1_lookupLen_0 : decode cX1_lookupLen 0 = .ok (.aload_n 0, 1) := by decide +kernel
theorem dX1_lookupLen_1 : decode cX1_lookupLen 1 = .ok (.iload_n 1, 1) := by decide +kernel
theorem dX1_lookupLen_2 : decode cX1_lookupLen 2 = .ok (.invokevirtual 49, 3) := by decide +kernel
theorem dX1_lookupLen_5 : decode cX1_lookupLen 5 = .ok (.astore_n 2, 1) := by decide +kernel
theorem dX1_lookupLen_6 : decode cX1_lookupLen 6 = .ok (.aload_n 2, 1) := by decide +kernel
theorem dX1_lookupLen_7 : decode cX1_lookupLen 7 = .ok (.ifnonnull 7, 3) := by decide +kernel
theorem dX1_lookupLen_10 : decode cX1_lookupLen 10 = .ok (.iconst (-1), 1) := by decide +kernel
theorem dX1_lookupLen_11 : decode cX1_lookupLen 11 = .ok (.goto 7, 3) := by decide +kernel
theorem dX1_lookupLen_14 : decode cX1_lookupLen 14 = .ok (.aload_n 2, 1) := by decide +kernel
theorem dX1_lookupLen_15 : decode cX1_lookupLen 15 = .ok (.getfield 53, 3) := by decide +kernel
theorem dX1_lookupLen_18 : decode cX1_lookupLen 18 = .ok (.ireturn, 1) := by decide +kernel
set_option maxRecDepth 20000 in
theorem ggX1_exact_X1_routeAt : GoodIn wsX1_exact wsX1_routeAt := goodIn_r _ [5, 6, 7, 4, 8, 9, 10, 11, 12, 13, 14, 15, 16, 17, 18, 19, 20, 21, 22, 23, 24, 25, 26, 27, 28, 29, 30, 31, 32, 33, 34, 35, 36, 37, 38, 39] (by decide +kernel) (by decide +kernel)
set_option maxRecDepth 20000 in
theorem gX1_exact_X1_routeAt : GoodIn wsX1_exact (wsV RX1 38 RX1 yX1_routeAt wsX1_routeAt) := goodIn_app (goodIn_of _ (by decide +kernel)) ggX1_exact_X1_routeAt
theorem dX1_exact_0 : decode cX1_exact 0 = .ok (.aload_n 0, 1) := by decide +kernel
theorem dX1_exact_1 : decode cX1_exact 1 = .ok (.iload_n 1, 1) := by decide +kernel
theorem dX1_exact_2 : decode cX1_exact 2 = .ok (.iload_n 2, 1) := by decide +kernel
theorem dX1_exact_3 : decode cX1_exact 3 = .ok (.invokevirtual 38, 3) := by decide +kernel
theorem dX1_exact_6 : decode cX1_exact 6 = .ok (.astore_n 3, 1) := by decide +kernel
theorem dX1_exact_7 : decode cX1_exact 7 = .ok (.aload_n 3, 1) := by decide +kernel
theorem dX1_exact_8 : decode cX1_exact 8 = .ok (.ifnonnull 7, 3) := by decide +kernel
theorem dX1_exact_11 : decode cX1_exact 11 = .ok (.iconst (-1), 1) := by decide +kernel
theorem dX1_exact_12 : decode cX1_exact 12 = .ok (.goto 7, 3) := by decide +kernel
theorem dX1_exact_15 : decode cX1_exact 15 = .ok (.aload_n 3, 1) := by decide +kernel
theorem dX1_exact_16 : decode cX1_exact 16 = .ok (.getfield 22, 3) := by decide +kernel
theorem dX1_exact_19 : decode cX1_exact 19 = .ok (.ireturn, 1) := by decide +kernel
set_option maxRecDepth 20000 in
theorem ggX1_under_X1_isPrefix : GoodIn wsX1_under wsX1_isPrefix := goodIn_r _ [4, 5, 6, 3, 7] (by decide +kernel) (by decide +kernel)
set_option maxRecDepth 20000 in
theorem gX1_under_X1_isPrefix : GoodIn wsX1_under (va_wsS RX1 34 yX1_isPrefix wsX1_isPrefix) := goodIn_app (goodIn_of _ (by decide +kernel)) ggX1_under_X1_isPrefix
set_option maxRecDepth 20000 in
theorem ggX1_under_X1_topmost : GoodIn wsX1_under wsX1_topmost := goodIn_r _ [11, 12, 13, 14, 15, 16, 17, 18, 19, 20, 21, 22, 23, 5, 6, 3, 7, 30, 31, 24, 25, 26, 27, 28, 29] (by decide +kernel) (by decide +kernel)
set_option maxRecDepth 20000 in
theorem gX1_under_X1_topmost : GoodIn wsX1_under (wsV RX1 56 RX1 yX1_topmost wsX1_topmost) := goodIn_app (goodIn_of _ (by decide +kernel)) ggX1_under_X1_topmost
theorem dX1_under_0 : decode cX1_under 0 = .ok (.iload_n 1, 1) := by decide +kernel
theorem dX1_under_1 : decode cX1_under 1 = .ok (.iload_n 2, 1) := by decide +kernel
theorem dX1_under_2 : decode cX1_under 2 = .ok (.invokestatic 34, 3) := by decide +kernel
theorem dX1_under_5 : decode cX1_under 5 = .ok (.ifCond .ne 5, 3) := by decide +kernel
theorem dX1_under_8 : decode cX1_under 8 = .ok (.iconst (-1), 1) := by decide +kernel
theorem dX1_under_9 : decode cX1_under 9 = .ok (.ireturn, 1) := by decide +kernel
theorem dX1_under_10 : decode cX1_under 10 = .ok (.aload_n 0, 1) := by decide +kernel
theorem dX1_under_11 : decode cX1_under 11 = .ok (.iload_n 1, 1) := by decide +kernel
theorem dX1_under_12 : decode cX1_under 12 = .ok (.iload_n 2, 1) := by decide +kernel
theorem dX1_under_13 : decode cX1_under 13 = .ok (.invokevirtual 56, 3) := by decide +kernel
theorem dX1_under_16 : decode cX1_under 16 = .ok (.astore_n 3, 1) := by decide +kernel
theorem dX1_under_17 : decode cX1_under 17 = .ok (.aload_n 3, 1) := by decide +kernel
theorem dX1_under_18 : decode cX1_under 18 = .ok (.ifnonnull 7, 3) := by decide +kernel
theorem dX1_under_21 : decode cX1_under 21 = .ok (.iconst 0, 1) := by decide +kernel
theorem dX1_under_22 : decode cX1_under 22 = .ok (.goto 7, 3) := by decide +kernel
theorem dX1_under_25 : decode cX1_under 25 = .ok (.aload_n 3, 1) := by decide +kernel
theorem dX1_under_26 : decode cX1_under 26 = .ok (.getfield 25, 3) := by decide +kernel
theorem dX1_under_29 : decode cX1_under 29 = .ok (.ireturn, 1) := by decide +kernel
set_option maxRecDepth 20000 in
theorem ggX1_route_X1_inOrder : GoodIn wsX1_route wsX1_inOrder := goodIn_r _ [5, 6, 7, 8, 9, 10, 11, 18, 19, 12, 13, 14, 15, 16, 17] (by decide +kernel) (by decide +kernel)
set_option maxRecDepth 20000 in
theorem gX1_route_X1_inOrder : GoodIn wsX1_route (wsV RX1 59 RX1 yX1_inOrder wsX1_inOrder) := goodIn_app (goodIn_of _ (by decide +kernel)) ggX1_route_X1_inOrder
theorem dX1_route_0 : decode cX1_route 0 = .ok (.aload_n 0, 1) := by decide +kernel
theorem dX1_route_1 : decode cX1_route 1 = .ok (.iload_n 1, 1) := by decide +kernel
theorem dX1_route_2 : decode cX1_route 2 = .ok (.invokevirtual 59, 3) := by decide +kernel
theorem dX1_route_5 : decode cX1_route 5 = .ok (.astore_n 3, 1) := by decide +kernel
theorem dX1_route_6 : decode cX1_route 6 = .ok (.aload_n 3, 1) := by decide +kernel
theorem dX1_route_7 : decode cX1_route 7 = .ok (.ifnonnull 5, 3) := by decide +kernel
theorem dX1_route_10 : decode cX1_route 10 = .ok (.iconst 0, 1) := by decide +kernel
theorem dX1_route_11 : decode cX1_route 11 = .ok (.ireturn, 1) := by decide +kernel
theorem dX1_route_12 : decode cX1_route 12 = .ok (.iload_n 2, 1) := by decide +kernel
theorem dX1_route_13 : decode cX1_route 13 = .ok (.tableswitch 42 0 2 #[27, 32, 37], 27) := by decide +kernel
theorem dX1_route_40 : decode cX1_route 40 = .ok (.aload_n 3, 1) := by decide +kernel
theorem dX1_route_41 : decode cX1_route 41 = .ok (.getfield 62, 3) := by decide +kernel
theorem dX1_route_44 : decode cX1_route 44 = .ok (.ireturn, 1) := by decide +kernel
theorem dX1_route_45 : decode cX1_route 45 = .ok (.aload_n 3, 1) := by decide +kernel
theorem dX1_route_46 : decode cX1_route 46 = .ok (.getfield 53, 3) := by decide +kernel
theorem dX1_route_49 : decode cX1_route 49 = .ok (.ireturn, 1) := by decide +kernel
theorem dX1_route_50 : decode cX1_route 50 = .ok (.aload_n 3, 1) := by decide +kernel
theorem dX1_route_51 : decode cX1_route 51 = .ok (.getfield 22, 3) := by decide +kernel
theorem dX1_route_54 : decode cX1_route 54 = .ok (.ireturn, 1) := by decide +kernel
theorem dX1_route_55 : decode cX1_route 55 = .ok (.iconst 0, 1) := by decide +kernel
theorem dX1_route_56 : decode cX1_route 56 = .ok (.ireturn, 1) := by decide +kernel
theorem dX1_count_0 : decode cX1_count 0 = .ok (.aload_n 0, 1) := by decide +kernel
theorem dX1_count_1 : decode cX1_count 1 = .ok (.getfield 14, 3) := by decide +kernel
theorem dX1_count_4 : decode cX1_count 4 = .ok (.getfield 25, 3) := by decide +kernel
theorem dX1_count_7 : decode cX1_count 7 = .ok (.ireturn, 1) := by decide +kernel
theorem dX1_nodes_0 : decode cX1_nodes 0 = .ok (.aload_n 0, 1) := by decide +kernel
theorem dX1_nodes_1 : decode cX1_nodes 1 = .ok (.getfield 18, 3) := by decide +kernel
theorem dX1_nodes_4 : decode cX1_nodes 4 = .ok (.ireturn, 1) := by decide +kernel
set_option maxRecDepth 20000 in
theorem ggX1_depth_X0_isBeginOf : GoodIn wsX1_depth wsX0_isBeginOf := goodIn_r _ [5, 6, 7, 8, 9, 10, 22, 23, 24, 25, 26, 27] (by decide +kernel) (by decide +kernel)
set_option maxRecDepth 20000 in
theorem gX1_depth_X0_isBeginOf_n65 : GoodIn wsX1_depth (wsX0_isBeginOf) := ggX1_depth_X0_isBeginOf
set_option maxRecDepth 20000 in
theorem ggX1_depth_X0_toward : GoodIn wsX1_depth wsX0_toward := goodIn_r _ [13, 14, 15, 16, 17, 18, 3, 19, 6, 22, 23, 24, 25, 26, 27] (by decide +kernel) (by decide +kernel)
set_option maxRecDepth 20000 in
theorem gX1_depth_X0_toward_n69 : GoodIn wsX1_depth (wsX0_toward) := ggX1_depth_X0_toward
theorem dX1_depth_0 : decode cX1_depth 0 = .ok (.iconst 0, 1) := by decide +kernel
theorem dX1_depth_1 : decode cX1_depth 1 = .ok (.istore_n 2, 1) := by decide +kernel
theorem dX1_depth_2 : decode cX1_depth 2 = .ok (.aload_n 0, 1) := by decide +kernel
theorem dX1_depth_3 : decode cX1_depth 3 = .ok (.getfield 14, 3) := by decide +kernel
theorem dX1_depth_6 : decode cX1_depth 6 = .ok (.astore_n 3, 1) := by decide +kernel
theorem dX1_depth_7 : decode cX1_depth 7 = .ok (.aload_n 3, 1) := by decide +kernel
theorem dX1_depth_8 : decode cX1_depth 8 = .ok (.ifnull 23, 3) := by decide +kernel
theorem dX1_depth_11 : decode cX1_depth 11 = .ok (.aload_n 3, 1) := by decide +kernel
theorem dX1_depth_12 : decode cX1_depth 12 = .ok (.iload_n 1, 1) := by decide +kernel
theorem dX1_depth_13 : decode cX1_depth 13 = .ok (.invokevirtual 65, 3) := by decide +kernel
theorem dX1_depth_16 : decode cX1_depth 16 = .ok (.ifCond .eq 15, 3) := by decide +kernel
theorem dX1_depth_19 : decode cX1_depth 19 = .ok (.iinc 2 1, 3) := by decide +kernel
theorem dX1_depth_22 : decode cX1_depth 22 = .ok (.aload_n 3, 1) := by decide +kernel
theorem dX1_depth_23 : decode cX1_depth 23 = .ok (.iload_n 1, 1) := by decide +kernel
theorem dX1_depth_24 : decode cX1_depth 24 = .ok (.invokevirtual 69, 3) := by decide +kernel
theorem dX1_depth_27 : decode cX1_depth 27 = .ok (.astore_n 3, 1) := by decide +kernel
theorem dX1_depth_28 : decode cX1_depth 28 = .ok (.goto (-21), 3) := by decide +kernel
theorem dX1_depth_31 : decode cX1_depth 31 = .ok (.iload_n 2, 1) := by decide +kernel
theorem dX1_depth_32 : decode cX1_depth 32 = .ok (.ireturn, 1) := by decide +kernel
set_option maxRecDepth 20000 in
theorem ggX1_isPrefix_X1_firstBits : GoodIn wsX1_isPrefix wsX1_firstBits := goodIn_r _ [4] (by decide +kernel) (by decide +kernel)
set_option maxRecDepth 20000 in
theorem gX1_isPrefix_X1_firstBits : GoodIn wsX1_isPrefix (va_wsS RX1 72 yX1_firstBits wsX1_firstBits) := goodIn_app (goodIn_of _ (by decide +kernel)) ggX1_isPrefix_X1_firstBits
theorem dX1_isPrefix_0 : decode cX1_isPrefix 0 = .ok (.iload_n 1, 1) := by decide +kernel
theorem dX1_isPrefix_1 : decode cX1_isPrefix 1 = .ok (.ifCond .lt 22, 3) := by decide +kernel
theorem dX1_isPrefix_4 : decode cX1_isPrefix 4 = .ok (.iload_n 1, 1) := by decide +kernel
theorem dX1_isPrefix_5 : decode cX1_isPrefix 5 = .ok (.bipush 32, 2) := by decide +kernel
theorem dX1_isPrefix_7 : decode cX1_isPrefix 7 = .ok (.if_icmp .gt 16, 3) := by decide +kernel
theorem dX1_isPrefix_10 : decode cX1_isPrefix 10 = .ok (.iload_n 0, 1) := by decide +kernel
theorem dX1_isPrefix_11 : decode cX1_isPrefix 11 = .ok (.iload_n 1, 1) := by decide +kernel
theorem dX1_isPrefix_12 : decode cX1_isPrefix 12 = .ok (.invokestatic 72, 3) := by decide +kernel
theorem dX1_isPrefix_15 : decode cX1_isPrefix 15 = .ok (.iload_n 0, 1) := by decide +kernel
theorem dX1_isPrefix_16 : decode cX1_isPrefix 16 = .ok (.if_icmp .ne 7, 3) := by decide +kernel
theorem dX1_isPrefix_19 : decode cX1_isPrefix 19 = .ok (.iconst 1, 1) := by decide +kernel
theorem dX1_isPrefix_20 : decode cX1_isPrefix 20 = .ok (.goto 4, 3) := by decide +kernel
theorem dX1_isPrefix_23 : decode cX1_isPrefix 23 = .ok (.iconst 0, 1) := by decide +kernel
theorem dX1_isPrefix_24 : decode cX1_isPrefix 24 = .ok (.ireturn, 1) := by decide +kernel
theorem dX1_firstBits_0 : decode cX1_firstBits 0 = .ok (.iload_n 1, 1) := by decide +kernel
theorem dX1_firstBits_1 : decode cX1_firstBits 1 = .ok (.ifCond .ne 7, 3) := by decide +kernel
theorem dX1_firstBits_4 : decode cX1_firstBits 4 = .ok (.iconst 0, 1) := by decide +kernel
theorem dX1_firstBits_5 : decode cX1_firstBits 5 = .ok (.goto 11, 3) := by decide +kernel
theorem dX1_firstBits_8 : decode cX1_firstBits 8 = .ok (.iload_n 0, 1) := by decide +kernel
theorem dX1_firstBits_9 : decode cX1_firstBits 9 = .ok (.iconst (-1), 1) := by decide +kernel
theorem dX1_firstBits_10 : decode cX1_firstBits 10 = .ok (.bipush 32, 2) := by decide +kernel
theorem dX1_firstBits_12 : decode cX1_firstBits 12 = .ok (.iload_n 1, 1) := by decide +kernel
theorem dX1_firstBits_13 : decode cX1_firstBits 13 = .ok (.isub, 1) := by decide +kernel
theorem dX1_firstBits_14 : decode cX1_firstBits 14 = .ok (.ishl, 1) := by decide +kernel
theorem dX1_firstBits_15 : decode cX1_firstBits 15 = .ok (.iand, 1) := by decide +kernel
theorem dX1_firstBits_16 : decode cX1_firstBits 16 = .ok (.ireturn, 1) := by decide +kernel
set_option maxRecDepth 20000 in
theorem ggX1_commonLength_J6_numberOfLeadingZeros_0f7a4 : GoodIn wsX1_commonLength wsJ6_numberOfLeadingZeros_0f7a4 := goodIn_r _ [8, 9] (by decide +kernel) (by decide +kernel)
set_option maxRecDepth 20000 in
theorem gX1_commonLength_J6_numberOfLeadingZeros_0f7a4 : GoodIn wsX1_commonLength (va_wsS RX1 76 yJ6_numberOfLeadingZeros_0f7a4 wsJ6_numberOfLeadingZeros_0f7a4) := goodIn_app (goodIn_of _ (by decide +kernel)) ggX1_commonLength_J6_numberOfLeadingZeros_0f7a4
theorem dX1_commonLength_0 : decode cX1_commonLength 0 = .ok (.aload_n 0, 1) := by decide +kernel
theorem dX1_commonLength_1 : decode cX1_commonLength 1 = .ok (.getfield 62, 3) := by decide +kernel
theorem dX1_commonLength_4 : decode cX1_commonLength 4 = .ok (.aload_n 1, 1) := by decide +kernel
theorem dX1_commonLength_5 : decode cX1_commonLength 5 = .ok (.getfield 62, 3) := by decide +kernel
theorem dX1_commonLength_8 : decode cX1_commonLength 8 = .ok (.ixor, 1) := by decide +kernel
theorem dX1_commonLength_9 : decode cX1_commonLength 9 = .ok (.invokestatic 76, 3) := by decide +kernel
theorem dX1_commonLength_12 : decode cX1_commonLength 12 = .ok (.istore_n 2, 1) := by decide +kernel
theorem dX1_commonLength_13 : decode cX1_commonLength 13 = .ok (.iload_n 2, 1) := by decide +kernel
theorem dX1_commonLength_14 : decode cX1_commonLength 14 = .ok (.aload_n 0, 1) := by decide +kernel
theorem dX1_commonLength_15 : decode cX1_commonLength 15 = .ok (.getfield 53, 3) := by decide +kernel
theorem dX1_commonLength_18 : decode cX1_commonLength 18 = .ok (.aload_n 1, 1) := by decide +kernel
theorem dX1_commonLength_19 : decode cX1_commonLength 19 = .ok (.getfield 53, 3) := by decide +kernel
theorem dX1_commonLength_22 : decode cX1_commonLength 22 = .ok (.invokestatic 82, 3) := by decide +kernel
theorem dX1_commonLength_25 : decode cX1_commonLength 25 = .ok (.invokestatic 82, 3) := by decide +kernel
theorem dX1_commonLength_28 : decode cX1_commonLength 28 = .ok (.ireturn, 1) := by decide +kernel
set_option maxRecDepth 20000 in
theorem ggX1_topmost_X0_toward : GoodIn wsX1_topmost wsX0_toward := goodIn_r _ [5, 6, 7, 8, 9, 10, 3, 11, 12, 19, 20, 21, 22, 23, 24] (by decide +kernel) (by decide +kernel)
set_option maxRecDepth 20000 in
theorem gX1_topmost_X0_toward_n69 : GoodIn wsX1_topmost (wsX0_toward) := ggX1_topmost_X0_toward
set_option maxRecDepth 20000 in
theorem ggX1_topmost_X1_firstBits : GoodIn wsX1_topmost wsX1_firstBits := goodIn_r _ [16] (by decide +kernel) (by decide +kernel)
set_option maxRecDepth 20000 in
theorem gX1_topmost_X1_firstBits : GoodIn wsX1_topmost (va_wsS RX1 72 yX1_firstBits wsX1_firstBits) := goodIn_app (goodIn_of _ (by decide +kernel)) ggX1_topmost_X1_firstBits
theorem dX1_topmost_0 : decode cX1_topmost 0 = .ok (.aload_n 0, 1) := by decide +kernel
theorem dX1_topmost_1 : decode cX1_topmost 1 = .ok (.getfield 14, 3) := by decide +kernel
theorem dX1_topmost_4 : decode cX1_topmost 4 = .ok (.astore_n 3, 1) := by decide +kernel
theorem dX1_topmost_5 : decode cX1_topmost 5 = .ok (.aload_n 3, 1) := by decide +kernel
theorem dX1_topmost_6 : decode cX1_topmost 6 = .ok (.ifnull 20, 3) := by decide +kernel
theorem dX1_topmost_9 : decode cX1_topmost 9 = .ok (.aload_n 3, 1) := by decide +kernel
theorem dX1_topmost_10 : decode cX1_topmost 10 = .ok (.getfield 53, 3) := by decide +kernel
theorem dX1_topmost_13 : decode cX1_topmost 13 = .ok (.iload_n 2, 1) := by decide +kernel
theorem dX1_topmost_14 : decode cX1_topmost 14 = .ok (.if_icmp .ge 12, 3) := by decide +kernel
theorem dX1_topmost_17 : decode cX1_topmost 17 = .ok (.aload_n 3, 1) := by decide +kernel
theorem dX1_topmost_18 : decode cX1_topmost 18 = .ok (.iload_n 1, 1) := by decide +kernel
theorem dX1_topmost_19 : decode cX1_topmost 19 = .ok (.invokevirtual 69, 3) := by decide +kernel
theorem dX1_topmost_22 : decode cX1_topmost 22 = .ok (.astore_n 3, 1) := by decide +kernel
theorem dX1_topmost_23 : decode cX1_topmost 23 = .ok (.goto (-18), 3) := by decide +kernel
theorem dX1_topmost_26 : decode cX1_topmost 26 = .ok (.aload_n 3, 1) := by decide +kernel
theorem dX1_topmost_27 : decode cX1_topmost 27 = .ok (.ifnull 19, 3) := by decide +kernel
theorem dX1_topmost_30 : decode cX1_topmost 30 = .ok (.aload_n 3, 1) := by decide +kernel
theorem dX1_topmost_31 : decode cX1_topmost 31 = .ok (.getfield 62, 3) := by decide +kernel
theorem dX1_topmost_34 : decode cX1_topmost 34 = .ok (.iload_n 2, 1) := by decide +kernel
theorem dX1_topmost_35 : decode cX1_topmost 35 = .ok (.invokestatic 72, 3) := by decide +kernel
theorem dX1_topmost_38 : decode cX1_topmost 38 = .ok (.iload_n 1, 1) := by decide +kernel
theorem dX1_topmost_39 : decode cX1_topmost 39 = .ok (.if_icmp .ne 7, 3) := by decide +kernel
theorem dX1_topmost_42 : decode cX1_topmost 42 = .ok (.aload_n 3, 1) := by decide +kernel
theorem dX1_topmost_43 : decode cX1_topmost 43 = .ok (.goto 4, 3) := by decide +kernel
theorem dX1_topmost_46 : decode cX1_topmost 46 = .ok (.aconst_null, 1) := by decide +kernel
theorem dX1_topmost_47 : decode cX1_topmost 47 = .ok (.areturn, 1) := by decide +kernel
set_option maxRecDepth 20000 in
theorem ggX1_routeAt_X1_isPrefix : GoodIn wsX1_routeAt wsX1_isPrefix := goodIn_r _ [4, 5, 6, 3, 7] (by decide +kernel) (by decide +kernel)
set_option maxRecDepth 20000 in
theorem gX1_routeAt_X1_isPrefix : GoodIn wsX1_routeAt (va_wsS RX1 34 yX1_isPrefix wsX1_isPrefix) := goodIn_app (goodIn_of _ (by decide +kernel)) ggX1_routeAt_X1_isPrefix
set_option maxRecDepth 20000 in
theorem ggX1_routeAt_X1_topmost : GoodIn wsX1_routeAt wsX1_topmost := goodIn_r _ [11, 12, 13, 14, 15, 16, 17, 18, 19, 20, 21, 22, 23, 5, 6, 3, 7, 34, 35, 28, 29, 30, 31, 32, 33] (by decide +kernel) (by decide +kernel)
set_option maxRecDepth 20000 in
theorem gX1_routeAt_X1_topmost : GoodIn wsX1_routeAt (wsV RX1 56 RX1 yX1_topmost wsX1_topmost) := goodIn_app (goodIn_of _ (by decide +kernel)) ggX1_routeAt_X1_topmost
set_option maxRecDepth 20000 in
theorem ggX1_routeAt_X0_isRoute : GoodIn wsX1_routeAt wsX0_isRoute := goodIn_r _ [26, 27, 28, 29, 30, 31, 32, 33] (by decide +kernel) (by decide +kernel)
set_option maxRecDepth 20000 in
theorem gX1_routeAt_X0_isRoute_n87 : GoodIn wsX1_routeAt (wsX0_isRoute) := ggX1_routeAt_X0_isRoute
theorem dX1_routeAt_0 : decode cX1_routeAt 0 = .ok (.iload_n 1, 1) := by decide +kernel
theorem dX1_routeAt_1 : decode cX1_routeAt 1 = .ok (.iload_n 2, 1) := by decide +kernel
theorem dX1_routeAt_2 : decode cX1_routeAt 2 = .ok (.invokestatic 34, 3) := by decide +kernel
theorem dX1_routeAt_5 : decode cX1_routeAt 5 = .ok (.ifCond .ne 5, 3) := by decide +kernel
theorem dX1_routeAt_8 : decode cX1_routeAt 8 = .ok (.aconst_null, 1) := by decide +kernel
theorem dX1_routeAt_9 : decode cX1_routeAt 9 = .ok (.areturn, 1) := by decide +kernel
theorem dX1_routeAt_10 : decode cX1_routeAt 10 = .ok (.aload_n 0, 1) := by decide +kernel
theorem dX1_routeAt_11 : decode cX1_routeAt 11 = .ok (.iload_n 1, 1) := by decide +kernel
theorem dX1_routeAt_12 : decode cX1_routeAt 12 = .ok (.iload_n 2, 1) := by decide +kernel
theorem dX1_routeAt_13 : decode cX1_routeAt 13 = .ok (.invokevirtual 56, 3) := by decide +kernel
theorem dX1_routeAt_16 : decode cX1_routeAt 16 = .ok (.astore_n 3, 1) := by decide +kernel
theorem dX1_routeAt_17 : decode cX1_routeAt 17 = .ok (.aload_n 3, 1) := by decide +kernel
theorem dX1_routeAt_18 : decode cX1_routeAt 18 = .ok (.ifnull 22, 3) := by decide +kernel
theorem dX1_routeAt_21 : decode cX1_routeAt 21 = .ok (.aload_n 3, 1) := by decide +kernel
theorem dX1_routeAt_22 : decode cX1_routeAt 22 = .ok (.getfield 53, 3) := by decide +kernel
theorem dX1_routeAt_25 : decode cX1_routeAt 25 = .ok (.iload_n 2, 1) := by decide +kernel
theorem dX1_routeAt_26 : decode cX1_routeAt 26 = .ok (.if_icmp .ne 14, 3) := by decide +kernel
theorem dX1_routeAt_29 : decode cX1_routeAt 29 = .ok (.aload_n 3, 1) := by decide +kernel
theorem dX1_routeAt_30 : decode cX1_routeAt 30 = .ok (.invokevirtual 87, 3) := by decide +kernel
theorem dX1_routeAt_33 : decode cX1_routeAt 33 = .ok (.ifCond .eq 7, 3) := by decide +kernel
theorem dX1_routeAt_36 : decode cX1_routeAt 36 = .ok (.aload_n 3, 1) := by decide +kernel
theorem dX1_routeAt_37 : decode cX1_routeAt 37 = .ok (.goto 4, 3) := by decide +kernel
theorem dX1_routeAt_40 : decode cX1_routeAt 40 = .ok (.aconst_null, 1) := by decide +kernel
theorem dX1_routeAt_41 : decode cX1_routeAt 41 = .ok (.areturn, 1) := by decide +kernel
set_option maxRecDepth 20000 in
theorem ggX1_longestRoute_X0_isBeginOf : GoodIn wsX1_longestRoute wsX0_isBeginOf := goodIn_r _ [5, 6, 7, 8, 9, 10, 26, 27, 28, 29, 30, 31] (by decide +kernel) (by decide +kernel)
set_option maxRecDepth 20000 in
theorem gX1_longestRoute_X0_isBeginOf_n65 : GoodIn wsX1_longestRoute (wsX0_isBeginOf) := ggX1_longestRoute_X0_isBeginOf
set_option maxRecDepth 20000 in
theorem ggX1_longestRoute_X0_isRoute : GoodIn wsX1_longestRoute wsX0_isRoute := goodIn_r _ [13, 14, 26, 27, 28, 29, 30, 31] (by decide +kernel) (by decide +kernel)
set_option maxRecDepth 20000 in
theorem gX1_longestRoute_X0_isRoute_n87 : GoodIn wsX1_longestRoute (wsX0_isRoute) := ggX1_longestRoute_X0_isRoute
set_option maxRecDepth 20000 in
theorem ggX1_longestRoute_X0_toward : GoodIn wsX1_longestRoute wsX0_toward := goodIn_r _ [17, 18, 19, 20, 21, 22, 3, 23, 6, 26, 27, 28, 29, 30, 31] (by decide +kernel) (by decide +kernel)
set_option maxRecDepth 20000 in
theorem gX1_longestRoute_X0_toward_n69 : GoodIn wsX1_longestRoute (wsX0_toward) := ggX1_longestRoute_X0_toward
theorem dX1_longestRoute_0 : decode cX1_longestRoute 0 = .ok (.aconst_null, 1) := by decide +kernel
theorem dX1_longestRoute_1 : decode cX1_longestRoute 1 = .ok (.astore_n 2, 1) := by decide +kernel
theorem dX1_longestRoute_2 : decode cX1_longestRoute 2 = .ok (.aload_n 0, 1) := by decide +kernel
theorem dX1_longestRoute_3 : decode cX1_longestRoute 3 = .ok (.getfield 14, 3) := by decide +kernel
theorem dX1_longestRoute_6 : decode cX1_longestRoute 6 = .ok (.astore_n 3, 1) := by decide +kernel
theorem dX1_longestRoute_7 : decode cX1_longestRoute 7 = .ok (.aload_n 3, 1) := by decide +kernel
theorem dX1_longestRoute_8 : decode cX1_longestRoute 8 = .ok (.ifnull 29, 3) := by decide +kernel
theorem dX1_longestRoute_11 : decode cX1_longestRoute 11 = .ok (.aload_n 3, 1) := by decide +kernel
theorem dX1_longestRoute_12 : decode cX1_longestRoute 12 = .ok (.iload_n 1, 1) := by decide +kernel
theorem dX1_longestRoute_13 : decode cX1_longestRoute 13 = .ok (.invokevirtual 65, 3) := by decide +kernel
theorem dX1_longestRoute_16 : decode cX1_longestRoute 16 = .ok (.ifCond .eq 21, 3) := by decide +kernel
theorem dX1_longestRoute_19 : decode cX1_longestRoute 19 = .ok (.aload_n 3, 1) := by decide +kernel
theorem dX1_longestRoute_20 : decode cX1_longestRoute 20 = .ok (.invokevirtual 87, 3) := by decide +kernel
theorem dX1_longestRoute_23 : decode cX1_longestRoute 23 = .ok (.ifCond .eq 5, 3) := by decide +kernel
theorem dX1_longestRoute_26 : decode cX1_longestRoute 26 = .ok (.aload_n 3, 1) := by decide +kernel
theorem dX1_longestRoute_27 : decode cX1_longestRoute 27 = .ok (.astore_n 2, 1) := by decide +kernel
theorem dX1_longestRoute_28 : decode cX1_longestRoute 28 = .ok (.aload_n 3, 1) := by decide +kernel
theorem dX1_longestRoute_29 : decode cX1_longestRoute 29 = .ok (.iload_n 1, 1) := by decide +kernel
theorem dX1_longestRoute_30 : decode cX1_longestRoute 30 = .ok (.invokevirtual 69, 3) := by decide +kernel
theorem dX1_longestRoute_33 : decode cX1_longestRoute 33 = .ok (.astore_n 3, 1) := by decide +kernel
theorem dX1_longestRoute_34 : decode cX1_longestRoute 34 = .ok (.goto (-27), 3) := by decide +kernel
theorem dX1_longestRoute_37 : decode cX1_longestRoute 37 = .ok (.aload_n 2, 1) := by decide +kernel
theorem dX1_longestRoute_38 : decode cX1_longestRoute 38 = .ok (.areturn, 1) := by decide +kernel
set_option maxRecDepth 20000 in
theorem ggX1_inOrder_X0_isRoute : GoodIn wsX1_inOrder wsX0_isRoute := goodIn_r _ [5, 6, 9, 10, 11, 12, 13, 14] (by decide +kernel) (by decide +kernel)
set_option maxRecDepth 20000 in
theorem gX1_inOrder_X0_isRoute_n87 : GoodIn wsX1_inOrder (wsX0_isRoute) := ggX1_inOrder_X0_isRoute
theorem dX1_inOrder_0 : decode cX1_inOrder 0 = .ok (.iload_n 1, 1) := by decide +kernel
theorem dX1_inOrder_1 : decode cX1_inOrder 1 = .ok (.ifCond .lt 14, 3) := by decide +kernel
theorem dX1_inOrder_4 : decode cX1_inOrder 4 = .ok (.iload_n 1, 1) := by decide +kernel
theorem dX1_inOrder_5 : decode cX1_inOrder 5 = .ok (.aload_n 0, 1) := by decide +kernel
theorem dX1_inOrder_6 : decode cX1_inOrder 6 = .ok (.getfield 14, 3) := by decide +kernel
theorem dX1_inOrder_9 : decode cX1_inOrder 9 = .ok (.getfield 25, 3) := by decide +kernel
theorem dX1_inOrder_12 : decode cX1_inOrder 12 = .ok (.if_icmp .lt 5, 3) := by decide +kernel
theorem dX1_inOrder_15 : decode cX1_inOrder 15 = .ok (.aconst_null, 1) := by decide +kernel
theorem dX1_inOrder_16 : decode cX1_inOrder 16 = .ok (.areturn, 1) := by decide +kernel
theorem dX1_inOrder_17 : decode cX1_inOrder 17 = .ok (.iload_n 1, 1) := by decide +kernel
theorem dX1_inOrder_18 : decode cX1_inOrder 18 = .ok (.istore_n 2, 1) := by decide +kernel
theorem dX1_inOrder_19 : decode cX1_inOrder 19 = .ok (.aload_n 0, 1) := by decide +kernel
theorem dX1_inOrder_20 : decode cX1_inOrder 20 = .ok (.getfield 14, 3) := by decide +kernel
theorem dX1_inOrder_23 : decode cX1_inOrder 23 = .ok (.astore_n 3, 1) := by decide +kernel
theorem dX1_inOrder_24 : decode cX1_inOrder 24 = .ok (.aload_n 3, 1) := by decide +kernel
theorem dX1_inOrder_25 : decode cX1_inOrder 25 = .ok (.ifnull 66, 3) := by decide +kernel
theorem dX1_inOrder_28 : decode cX1_inOrder 28 = .ok (.aload_n 3, 1) := by decide +kernel
theorem dX1_inOrder_29 : decode cX1_inOrder 29 = .ok (.invokevirtual 87, 3) := by decide +kernel
theorem dX1_inOrder_32 : decode cX1_inOrder 32 = .ok (.ifCond .eq 12, 3) := by decide +kernel
theorem dX1_inOrder_35 : decode cX1_inOrder 35 = .ok (.iload_n 2, 1) := by decide +kernel
theorem dX1_inOrder_36 : decode cX1_inOrder 36 = .ok (.ifCond .ne 5, 3) := by decide +kernel
theorem dX1_inOrder_39 : decode cX1_inOrder 39 = .ok (.aload_n 3, 1) := by decide +kernel
theorem dX1_inOrder_40 : decode cX1_inOrder 40 = .ok (.areturn, 1) := by decide +kernel
theorem dX1_inOrder_41 : decode cX1_inOrder 41 = .ok (.iinc 2 (-1), 3) := by decide +kernel
theorem dX1_inOrder_44 : decode cX1_inOrder 44 = .ok (.aload_n 3, 1) := by decide +kernel
theorem dX1_inOrder_45 : decode cX1_inOrder 45 = .ok (.getfield 28, 3) := by decide +kernel
theorem dX1_inOrder_48 : decode cX1_inOrder 48 = .ok (.ifnonnull 7, 3) := by decide +kernel
theorem dX1_inOrder_51 : decode cX1_inOrder 51 = .ok (.iconst 0, 1) := by decide +kernel
theorem dX1_inOrder_52 : decode cX1_inOrder 52 = .ok (.goto 10, 3) := by decide +kernel
theorem dX1_inOrder_55 : decode cX1_inOrder 55 = .ok (.aload_n 3, 1) := by decide +kernel
theorem dX1_inOrder_56 : decode cX1_inOrder 56 = .ok (.getfield 28, 3) := by decide +kernel
theorem dX1_inOrder_59 : decode cX1_inOrder 59 = .ok (.getfield 25, 3) := by decide +kernel
theorem dX1_inOrder_62 : decode cX1_inOrder 62 = .ok (.istore 4, 2) := by decide +kernel
theorem dX1_inOrder_64 : decode cX1_inOrder 64 = .ok (.iload_n 2, 1) := by decide +kernel
theorem dX1_inOrder_65 : decode cX1_inOrder 65 = .ok (.iload 4, 2) := by decide +kernel
theorem dX1_inOrder_67 : decode cX1_inOrder 67 = .ok (.if_icmp .ge 11, 3) := by decide +kernel
theorem dX1_inOrder_70 : decode cX1_inOrder 70 = .ok (.aload_n 3, 1) := by decide +kernel
theorem dX1_inOrder_71 : decode cX1_inOrder 71 = .ok (.getfield 28, 3) := by decide +kernel
theorem dX1_inOrder_74 : decode cX1_inOrder 74 = .ok (.astore_n 3, 1) := by decide +kernel
theorem dX1_inOrder_75 : decode cX1_inOrder 75 = .ok (.goto 13, 3) := by decide +kernel
theorem dX1_inOrder_78 : decode cX1_inOrder 78 = .ok (.iload_n 2, 1) := by decide +kernel
theorem dX1_inOrder_79 : decode cX1_inOrder 79 = .ok (.iload 4, 2) := by decide +kernel
theorem dX1_inOrder_81 : decode cX1_inOrder 81 = .ok (.isub, 1) := by decide +kernel
theorem dX1_inOrder_82 : decode cX1_inOrder 82 = .ok (.istore_n 2, 1) := by decide +kernel
theorem dX1_inOrder_83 : decode cX1_inOrder 83 = .ok (.aload_n 3, 1) := by decide +kernel
theorem dX1_inOrder_84 : decode cX1_inOrder 84 = .ok (.getfield 31, 3) := by decide +kernel
theorem dX1_inOrder_87 : decode cX1_inOrder 87 = .ok (.astore_n 3, 1) := by decide +kernel
theorem dX1_inOrder_88 : decode cX1_inOrder 88 = .ok (.goto (-64), 3) := by decide +kernel
theorem dX1_inOrder_91 : decode cX1_inOrder 91 = .ok (.aconst_null, 1) := by decide +kernel
theorem dX1_inOrder_92 : decode cX1_inOrder 92 = .ok (.areturn, 1) := by decide +kernel
set_option maxRecDepth 20000 in
theorem ggX1_grow_X0_toward : GoodIn wsX1_grow wsX0_toward := goodIn_r _ [5, 6, 7, 8, 9, 10, 3, 11, 12, 56, 57, 58, 59, 60, 61] (by decide +kernel) (by decide +kernel)
set_option maxRecDepth 20000 in
theorem gX1_grow_X0_toward_n69 : GoodIn wsX1_grow (wsX0_toward) := ggX1_grow_X0_toward
set_option maxRecDepth 20000 in
theorem ggX1_grow_X0_isBeginOf : GoodIn wsX1_grow wsX0_isBeginOf := goodIn_r _ [15, 12, 16, 17, 18, 19, 56, 57, 58, 59, 60, 61] (by decide +kernel) (by decide +kernel)
set_option maxRecDepth 20000 in
theorem gX1_grow_X0_isBeginOf_n65 : GoodIn wsX1_grow (wsX0_isBeginOf) := ggX1_grow_X0_isBeginOf
set_option maxRecDepth 20000 in
theorem ggX1_grow_X1_newNode : GoodIn wsX1_grow wsX1_newNode := goodIn_r _ [23, 24, 25, 26, 3, 27, 28, 29, 30, 31, 16, 12, 32, 33, 54, 55, 56, 57, 58, 59, 60, 61] (by decide +kernel) (by decide +kernel)
set_option maxRecDepth 20000 in
theorem gX1_grow_X1_newNode : GoodIn wsX1_grow (wsV RX1 91 RX1 yX1_newNode wsX1_newNode) := goodIn_app (goodIn_of _ (by decide +kernel)) ggX1_grow_X1_newNode
set_option maxRecDepth 20000 in
theorem ggX1_grow_X1_joined : GoodIn wsX1_grow wsX1_joined := goodIn_r _ [37, 38, 39, 18, 40, 41, 42, 43, 44, 45, 46, 47, 48, 49, 50, 17, 19, 20, 21, 22, 23, 24, 25, 26, 3, 27, 28, 29, 30, 31, 16, 12, 32, 33, 51, 52, 53, 6, 7, 8, 9, 10, 11, 56, 57, 58, 59, 60, 61, 54, 55] (by decide +kernel) (by decide +kernel)
set_option maxRecDepth 20000 in
theorem gX1_grow_X1_joined : GoodIn wsX1_grow (wsV RX1 95 RX1 yX1_joined wsX1_joined) := goodIn_app (goodIn_of _ (by decide +kernel)) ggX1_grow_X1_joined
set_option maxRecDepth 20000 in
theorem ggX1_grow_X0_hang : GoodIn wsX1_grow wsX0_hang := goodIn_r _ [53, 16, 6, 7, 8, 9, 10, 3, 11, 12, 56, 57, 58, 59, 60, 61] (by decide +kernel) (by decide +kernel)
set_option maxRecDepth 20000 in
theorem gX1_grow_X0_hang_n99 : GoodIn wsX1_grow (wsX0_hang) := ggX1_grow_X0_hang
theorem dX1_grow_0 : decode cX1_grow 0 = .ok (.aload_n 0, 1) := by decide +kernel
theorem dX1_grow_1 : decode cX1_grow 1 = .ok (.getfield 14, 3) := by decide +kernel
theorem dX1_grow_4 : decode cX1_grow 4 = .ok (.astore 4, 2) := by decide +kernel
theorem dX1_grow_6 : decode cX1_grow 6 = .ok (.aload 4, 2) := by decide +kernel
theorem dX1_grow_8 : decode cX1_grow 8 = .ok (.iload_n 1, 1) := by decide +kernel
theorem dX1_grow_9 : decode cX1_grow 9 = .ok (.invokevirtual 69, 3) := by decide +kernel
theorem dX1_grow_12 : decode cX1_grow 12 = .ok (.astore 5, 2) := by decide +kernel
theorem dX1_grow_14 : decode cX1_grow 14 = .ok (.aload 4, 2) := by decide +kernel
theorem dX1_grow_16 : decode cX1_grow 16 = .ok (.dup, 1) := by decide +kernel
theorem dX1_grow_17 : decode cX1_grow 17 = .ok (.getfield 25, 3) := by decide +kernel
theorem dX1_grow_20 : decode cX1_grow 20 = .ok (.iconst 1, 1) := by decide +kernel
theorem dX1_grow_21 : decode cX1_grow 21 = .ok (.iadd, 1) := by decide +kernel
theorem dX1_grow_22 : decode cX1_grow 22 = .ok (.putfield 25, 3) := by decide +kernel
theorem dX1_grow_25 : decode cX1_grow 25 = .ok (.aload 5, 2) := by decide +kernel
theorem dX1_grow_27 : decode cX1_grow 27 = .ok (.ifnull 47, 3) := by decide +kernel
theorem dX1_grow_30 : decode cX1_grow 30 = .ok (.aload 5, 2) := by decide +kernel
theorem dX1_grow_32 : decode cX1_grow 32 = .ok (.getfield 53, 3) := by decide +kernel
theorem dX1_grow_35 : decode cX1_grow 35 = .ok (.iload_n 2, 1) := by decide +kernel
theorem dX1_grow_36 : decode cX1_grow 36 = .ok (.if_icmp .gt 38, 3) := by decide +kernel
theorem dX1_grow_39 : decode cX1_grow 39 = .ok (.aload 5, 2) := by decide +kernel
theorem dX1_grow_41 : decode cX1_grow 41 = .ok (.iload_n 1, 1) := by decide +kernel
theorem dX1_grow_42 : decode cX1_grow 42 = .ok (.invokevirtual 65, 3) := by decide +kernel
theorem dX1_grow_45 : decode cX1_grow 45 = .ok (.ifCond .eq 29, 3) := by decide +kernel
theorem dX1_grow_48 : decode cX1_grow 48 = .ok (.aload 5, 2) := by decide +kernel
theorem dX1_grow_50 : decode cX1_grow 50 = .ok (.astore 4, 2) := by decide +kernel
theorem dX1_grow_52 : decode cX1_grow 52 = .ok (.aload 4, 2) := by decide +kernel
theorem dX1_grow_54 : decode cX1_grow 54 = .ok (.iload_n 1, 1) := by decide +kernel
theorem dX1_grow_55 : decode cX1_grow 55 = .ok (.invokevirtual 69, 3) := by decide +kernel
theorem dX1_grow_58 : decode cX1_grow 58 = .ok (.astore 5, 2) := by decide +kernel
theorem dX1_grow_60 : decode cX1_grow 60 = .ok (.aload 4, 2) := by decide +kernel
theorem dX1_grow_62 : decode cX1_grow 62 = .ok (.dup, 1) := by decide +kernel
theorem dX1_grow_63 : decode cX1_grow 63 = .ok (.getfield 25, 3) := by decide +kernel
theorem dX1_grow_66 : decode cX1_grow 66 = .ok (.iconst 1, 1) := by decide +kernel
theorem dX1_grow_67 : decode cX1_grow 67 = .ok (.iadd, 1) := by decide +kernel
theorem dX1_grow_68 : decode cX1_grow 68 = .ok (.putfield 25, 3) := by decide +kernel
theorem dX1_grow_71 : decode cX1_grow 71 = .ok (.goto (-46), 3) := by decide +kernel
theorem dX1_grow_74 : decode cX1_grow 74 = .ok (.aload 4, 2) := by decide +kernel
theorem dX1_grow_76 : decode cX1_grow 76 = .ok (.getfield 53, 3) := by decide +kernel
theorem dX1_grow_79 : decode cX1_grow 79 = .ok (.iload_n 2, 1) := by decide +kernel
theorem dX1_grow_80 : decode cX1_grow 80 = .ok (.if_icmp .ne 12, 3) := by decide +kernel
theorem dX1_grow_83 : decode cX1_grow 83 = .ok (.aload 4, 2) := by decide +kernel
theorem dX1_grow_85 : decode cX1_grow 85 = .ok (.iload_n 3, 1) := by decide +kernel
theorem dX1_grow_86 : decode cX1_grow 86 = .ok (.putfield 22, 3) := by decide +kernel
theorem dX1_grow_89 : decode cX1_grow 89 = .ok (.goto 21, 3) := by decide +kernel
theorem dX1_grow_92 : decode cX1_grow 92 = .ok (.aload 4, 2) := by decide +kernel
theorem dX1_grow_94 : decode cX1_grow 94 = .ok (.aload_n 0, 1) := by decide +kernel
theorem dX1_grow_95 : decode cX1_grow 95 = .ok (.aload 5, 2) := by decide +kernel
theorem dX1_grow_97 : decode cX1_grow 97 = .ok (.aload_n 0, 1) := by decide +kernel
theorem dX1_grow_98 : decode cX1_grow 98 = .ok (.iload_n 1, 1) := by decide +kernel
theorem dX1_grow_99 : decode cX1_grow 99 = .ok (.iload_n 2, 1) := by decide +kernel
theorem dX1_grow_100 : decode cX1_grow 100 = .ok (.iload_n 3, 1) := by decide +kernel
theorem dX1_grow_101 : decode cX1_grow 101 = .ok (.invokevirtual 91, 3) := by decide +kernel
theorem dX1_grow_104 : decode cX1_grow 104 = .ok (.invokevirtual 95, 3) := by decide +kernel
theorem dX1_grow_107 : decode cX1_grow 107 = .ok (.invokevirtual 99, 3) := by decide +kernel
theorem dX1_grow_110 : decode cX1_grow 110 = .ok (.return_, 1) := by decide +kernel
set_option maxRecDepth 20000 in
theorem ggX1_joined_X1_commonLength : GoodIn wsX1_joined wsX1_commonLength := goodIn_r _ [4, 5, 6, 7, 8, 9, 10, 11, 12, 13, 43, 44, 45, 46, 47, 48] (by decide +kernel) (by decide +kernel)
set_option maxRecDepth 20000 in
theorem gX1_joined_X1_commonLength : GoodIn wsX1_joined (va_wsS RX1 102 yX1_commonLength wsX1_commonLength) := goodIn_app (goodIn_of _ (by decide +kernel)) ggX1_joined_X1_commonLength
set_option maxRecDepth 20000 in
theorem ggX1_joined_X1_firstBits : GoodIn wsX1_joined wsX1_firstBits := goodIn_r _ [16] (by decide +kernel) (by decide +kernel)
set_option maxRecDepth 20000 in
theorem gX1_joined_X1_firstBits : GoodIn wsX1_joined (va_wsS RX1 72 yX1_firstBits wsX1_firstBits) := goodIn_app (goodIn_of _ (by decide +kernel)) ggX1_joined_X1_firstBits
set_option maxRecDepth 20000 in
theorem ggX1_joined_X1_newNode : GoodIn wsX1_joined wsX1_newNode := goodIn_r _ [20, 21, 22, 23, 24, 25, 26, 27, 28, 29, 30, 31, 32, 33, 49, 50, 43, 44, 45, 46, 47, 48] (by decide +kernel) (by decide +kernel)
set_option maxRecDepth 20000 in
theorem gX1_joined_X1_newNode : GoodIn wsX1_joined (wsV RX1 91 RX1 yX1_newNode wsX1_newNode) := goodIn_app (goodIn_of _ (by decide +kernel)) ggX1_joined_X1_newNode
set_option maxRecDepth 20000 in
theorem ggX1_joined_X0_hang : GoodIn wsX1_joined wsX0_hang := goodIn_r _ [36, 30, 37, 38, 39, 40, 41, 24, 42, 31, 43, 44, 45, 46, 47, 48] (by decide +kernel) (by decide +kernel)
set_option maxRecDepth 20000 in
theorem gX1_joined_X0_hang_n99 : GoodIn wsX1_joined (wsX0_hang) := ggX1_joined_X0_hang
theorem dX1_joined_0 : decode cX1_joined 0 = .ok (.aload_n 1, 1) := by decide +kernel
theorem dX1_joined_1 : decode cX1_joined 1 = .ok (.ifnonnull 5, 3) := by decide +kernel
theorem dX1_joined_4 : decode cX1_joined 4 = .ok (.aload_n 2, 1) := by decide +kernel
theorem dX1_joined_5 : decode cX1_joined 5 = .ok (.areturn, 1) := by decide +kernel
theorem dX1_joined_6 : decode cX1_joined 6 = .ok (.aload_n 1, 1) := by decide +kernel
theorem dX1_joined_7 : decode cX1_joined 7 = .ok (.aload_n 2, 1) := by decide +kernel
theorem dX1_joined_8 : decode cX1_joined 8 = .ok (.invokestatic 102, 3) := by decide +kernel
theorem dX1_joined_11 : decode cX1_joined 11 = .ok (.istore_n 3, 1) := by decide +kernel
theorem dX1_joined_12 : decode cX1_joined 12 = .ok (.aload_n 2, 1) := by decide +kernel
theorem dX1_joined_13 : decode cX1_joined 13 = .ok (.astore 4, 2) := by decide +kernel
theorem dX1_joined_15 : decode cX1_joined 15 = .ok (.iload_n 3, 1) := by decide +kernel
theorem dX1_joined_16 : decode cX1_joined 16 = .ok (.aload_n 2, 1) := by decide +kernel
theorem dX1_joined_17 : decode cX1_joined 17 = .ok (.getfield 53, 3) := by decide +kernel
theorem dX1_joined_20 : decode cX1_joined 20 = .ok (.if_icmp .ge 25, 3) := by decide +kernel
theorem dX1_joined_23 : decode cX1_joined 23 = .ok (.aload_n 0, 1) := by decide +kernel
theorem dX1_joined_24 : decode cX1_joined 24 = .ok (.aload_n 2, 1) := by decide +kernel
theorem dX1_joined_25 : decode cX1_joined 25 = .ok (.getfield 62, 3) := by decide +kernel
theorem dX1_joined_28 : decode cX1_joined 28 = .ok (.iload_n 3, 1) := by decide +kernel
theorem dX1_joined_29 : decode cX1_joined 29 = .ok (.invokestatic 72, 3) := by decide +kernel
theorem dX1_joined_32 : decode cX1_joined 32 = .ok (.iload_n 3, 1) := by decide +kernel
theorem dX1_joined_33 : decode cX1_joined 33 = .ok (.iconst (-1), 1) := by decide +kernel
theorem dX1_joined_34 : decode cX1_joined 34 = .ok (.invokevirtual 91, 3) := by decide +kernel
theorem dX1_joined_37 : decode cX1_joined 37 = .ok (.astore 4, 2) := by decide +kernel
theorem dX1_joined_39 : decode cX1_joined 39 = .ok (.aload 4, 2) := by decide +kernel
theorem dX1_joined_41 : decode cX1_joined 41 = .ok (.aload_n 2, 1) := by decide +kernel
theorem dX1_joined_42 : decode cX1_joined 42 = .ok (.invokevirtual 99, 3) := by decide +kernel
theorem dX1_joined_45 : decode cX1_joined 45 = .ok (.aload 4, 2) := by decide +kernel
theorem dX1_joined_47 : decode cX1_joined 47 = .ok (.aload_n 1, 1) := by decide +kernel
theorem dX1_joined_48 : decode cX1_joined 48 = .ok (.invokevirtual 99, 3) := by decide +kernel
theorem dX1_joined_51 : decode cX1_joined 51 = .ok (.aload 4, 2) := by decide +kernel
theorem dX1_joined_53 : decode cX1_joined 53 = .ok (.aload_n 1, 1) := by decide +kernel
theorem dX1_joined_54 : decode cX1_joined 54 = .ok (.getfield 25, 3) := by decide +kernel
theorem dX1_joined_57 : decode cX1_joined 57 = .ok (.iconst 1, 1) := by decide +kernel
theorem dX1_joined_58 : decode cX1_joined 58 = .ok (.iadd, 1) := by decide +kernel
theorem dX1_joined_59 : decode cX1_joined 59 = .ok (.putfield 25, 3) := by decide +kernel
theorem dX1_joined_62 : decode cX1_joined 62 = .ok (.aload 4, 2) := by decide +kernel
theorem dX1_joined_64 : decode cX1_joined 64 = .ok (.areturn, 1) := by decide +kernel
set_option maxRecDepth 20000 in
theorem ggX1_newNode_X0_init : GoodIn wsX1_newNode wsX0_init := goodIn_r _ [6, 7, 8, 9, 10, 11, 12, 13, 16, 17, 18, 19, 20, 21] (by decide +kernel) (by decide +kernel)
set_option maxRecDepth 20000 in
theorem gX1_newNode_X0_init_n11 : GoodIn wsX1_newNode (wsX0_init) := ggX1_newNode_X0_init
theorem dX1_newNode_0 : decode cX1_newNode 0 = .ok (.aload_n 0, 1) := by decide +kernel
theorem dX1_newNode_1 : decode cX1_newNode 1 = .ok (.dup, 1) := by decide +kernel
theorem dX1_newNode_2 : decode cX1_newNode 2 = .ok (.getfield 18, 3) := by decide +kernel
theorem dX1_newNode_5 : decode cX1_newNode 5 = .ok (.iconst 1, 1) := by decide +kernel
theorem dX1_newNode_6 : decode cX1_newNode 6 = .ok (.iadd, 1) := by decide +kernel
theorem dX1_newNode_7 : decode cX1_newNode 7 = .ok (.putfield 18, 3) := by decide +kernel
theorem dX1_newNode_10 : decode cX1_newNode 10 = .ok (.new 7, 3) := by decide +kernel
theorem dX1_newNode_13 : decode cX1_newNode 13 = .ok (.dup, 1) := by decide +kernel
theorem dX1_newNode_14 : decode cX1_newNode 14 = .ok (.iload_n 1, 1) := by decide +kernel
theorem dX1_newNode_15 : decode cX1_newNode 15 = .ok (.iload_n 2, 1) := by decide +kernel
theorem dX1_newNode_16 : decode cX1_newNode 16 = .ok (.iload_n 3, 1) := by decide +kernel
theorem dX1_newNode_17 : decode cX1_newNode 17 = .ok (.invokespecial 11, 3) := by decide +kernel
theorem dX1_newNode_20 : decode cX1_newNode 20 = .ok (.areturn, 1) := by decide +kernel
set_option maxRecDepth 20000 in
theorem ggX1_cut_X0_toward : GoodIn wsX1_cut wsX0_toward := goodIn_r _ [5, 6, 7, 8, 9, 10, 3, 11, 12, 28, 29, 30, 31, 32, 33] (by decide +kernel) (by decide +kernel)
set_option maxRecDepth 20000 in
theorem gX1_cut_X0_toward_n69 : GoodIn wsX1_cut (wsX0_toward) := ggX1_cut_X0_toward
set_option maxRecDepth 20000 in
theorem ggX1_cut_X1_dropIfIdle : GoodIn wsX1_cut wsX1_dropIfIdle := goodIn_r _ [17, 18, 19, 3, 20, 21, 22, 23, 24, 25, 6, 7, 28, 29, 30, 31, 32, 33, 26, 27] (by decide +kernel) (by decide +kernel)
set_option maxRecDepth 20000 in
theorem gX1_cut_X1_dropIfIdle : GoodIn wsX1_cut (wsV RX1 106 RX1 yX1_dropIfIdle wsX1_dropIfIdle) := goodIn_app (goodIn_of _ (by decide +kernel)) ggX1_cut_X1_dropIfIdle
theorem dX1_cut_0 : decode cX1_cut 0 = .ok (.aconst_null, 1) := by decide +kernel
theorem dX1_cut_1 : decode cX1_cut 1 = .ok (.astore_n 2, 1) := by decide +kernel
theorem dX1_cut_2 : decode cX1_cut 2 = .ok (.aconst_null, 1) := by decide +kernel
theorem dX1_cut_3 : decode cX1_cut 3 = .ok (.astore_n 3, 1) := by decide +kernel
theorem dX1_cut_4 : decode cX1_cut 4 = .ok (.aload_n 0, 1) := by decide +kernel
theorem dX1_cut_5 : decode cX1_cut 5 = .ok (.getfield 14, 3) := by decide +kernel
theorem dX1_cut_8 : decode cX1_cut 8 = .ok (.astore 4, 2) := by decide +kernel
theorem dX1_cut_10 : decode cX1_cut 10 = .ok (.aload 4, 2) := by decide +kernel
theorem dX1_cut_12 : decode cX1_cut 12 = .ok (.ifnull 39, 3) := by decide +kernel
theorem dX1_cut_15 : decode cX1_cut 15 = .ok (.aload 4, 2) := by decide +kernel
theorem dX1_cut_17 : decode cX1_cut 17 = .ok (.aload_n 1, 1) := by decide +kernel
theorem dX1_cut_18 : decode cX1_cut 18 = .ok (.if_acmp .eq 33, 3) := by decide +kernel
theorem dX1_cut_21 : decode cX1_cut 21 = .ok (.aload 4, 2) := by decide +kernel
theorem dX1_cut_23 : decode cX1_cut 23 = .ok (.dup, 1) := by decide +kernel
theorem dX1_cut_24 : decode cX1_cut 24 = .ok (.getfield 25, 3) := by decide +kernel
theorem dX1_cut_27 : decode cX1_cut 27 = .ok (.iconst 1, 1) := by decide +kernel
theorem dX1_cut_28 : decode cX1_cut 28 = .ok (.isub, 1) := by decide +kernel
theorem dX1_cut_29 : decode cX1_cut 29 = .ok (.putfield 25, 3) := by decide +kernel
theorem dX1_cut_32 : decode cX1_cut 32 = .ok (.aload_n 3, 1) := by decide +kernel
theorem dX1_cut_33 : decode cX1_cut 33 = .ok (.astore_n 2, 1) := by decide +kernel
theorem dX1_cut_34 : decode cX1_cut 34 = .ok (.aload 4, 2) := by decide +kernel
theorem dX1_cut_36 : decode cX1_cut 36 = .ok (.astore_n 3, 1) := by decide +kernel
theorem dX1_cut_37 : decode cX1_cut 37 = .ok (.aload 4, 2) := by decide +kernel
theorem dX1_cut_39 : decode cX1_cut 39 = .ok (.aload_n 1, 1) := by decide +kernel
theorem dX1_cut_40 : decode cX1_cut 40 = .ok (.getfield 62, 3) := by decide +kernel
theorem dX1_cut_43 : decode cX1_cut 43 = .ok (.invokevirtual 69, 3) := by decide +kernel
theorem dX1_cut_46 : decode cX1_cut 46 = .ok (.astore 4, 2) := by decide +kernel
theorem dX1_cut_48 : decode cX1_cut 48 = .ok (.goto (-38), 3) := by decide +kernel
theorem dX1_cut_51 : decode cX1_cut 51 = .ok (.aload_n 1, 1) := by decide +kernel
theorem dX1_cut_52 : decode cX1_cut 52 = .ok (.dup, 1) := by decide +kernel
theorem dX1_cut_53 : decode cX1_cut 53 = .ok (.getfield 25, 3) := by decide +kernel
theorem dX1_cut_56 : decode cX1_cut 56 = .ok (.iconst 1, 1) := by decide +kernel
theorem dX1_cut_57 : decode cX1_cut 57 = .ok (.isub, 1) := by decide +kernel
theorem dX1_cut_58 : decode cX1_cut 58 = .ok (.putfield 25, 3) := by decide +kernel
theorem dX1_cut_61 : decode cX1_cut 61 = .ok (.aload_n 1, 1) := by decide +kernel
theorem dX1_cut_62 : decode cX1_cut 62 = .ok (.iconst (-1), 1) := by decide +kernel
theorem dX1_cut_63 : decode cX1_cut 63 = .ok (.putfield 22, 3) := by decide +kernel
theorem dX1_cut_66 : decode cX1_cut 66 = .ok (.aload_n 0, 1) := by decide +kernel
theorem dX1_cut_67 : decode cX1_cut 67 = .ok (.aload_n 3, 1) := by decide +kernel
theorem dX1_cut_68 : decode cX1_cut 68 = .ok (.aload_n 1, 1) := by decide +kernel
theorem dX1_cut_69 : decode cX1_cut 69 = .ok (.invokevirtual 106, 3) := by decide +kernel
theorem dX1_cut_72 : decode cX1_cut 72 = .ok (.aload_n 0, 1) := by decide +kernel
theorem dX1_cut_73 : decode cX1_cut 73 = .ok (.aload_n 2, 1) := by decide +kernel
theorem dX1_cut_74 : decode cX1_cut 74 = .ok (.aload_n 3, 1) := by decide +kernel
theorem dX1_cut_75 : decode cX1_cut 75 = .ok (.invokevirtual 106, 3) := by decide +kernel
theorem dX1_cut_78 : decode cX1_cut 78 = .ok (.return_, 1) := by decide +kernel
set_option maxRecDepth 20000 in
theorem ggX1_dropIfIdle_X0_isRoute : GoodIn wsX1_dropIfIdle wsX0_isRoute := goodIn_r _ [5, 6, 12, 13, 14, 15, 16, 17] (by decide +kernel) (by decide +kernel)
set_option maxRecDepth 20000 in
theorem gX1_dropIfIdle_X0_isRoute_n87 : GoodIn wsX1_dropIfIdle (wsX0_isRoute) := ggX1_dropIfIdle_X0_isRoute
set_option maxRecDepth 20000 in
theorem ggX1_dropIfIdle_X0_replace : GoodIn wsX1_dropIfIdle wsX0_replace := goodIn_r _ [9, 10, 11, 12, 13, 14, 15, 16, 17] (by decide +kernel) (by decide +kernel)
set_option maxRecDepth 20000 in
theorem gX1_dropIfIdle_X0_replace_n110 : GoodIn wsX1_dropIfIdle (wsX0_replace) := ggX1_dropIfIdle_X0_replace
theorem dX1_dropIfIdle_0 : decode cX1_dropIfIdle 0 = .ok (.aload_n 1, 1) := by decide +kernel
theorem dX1_dropIfIdle_1 : decode cX1_dropIfIdle 1 = .ok (.ifnull 14, 3) := by decide +kernel
theorem dX1_dropIfIdle_4 : decode cX1_dropIfIdle 4 = .ok (.aload_n 2, 1) := by decide +kernel
theorem dX1_dropIfIdle_5 : decode cX1_dropIfIdle 5 = .ok (.ifnull 10, 3) := by decide +kernel
theorem dX1_dropIfIdle_8 : decode cX1_dropIfIdle 8 = .ok (.aload_n 2, 1) := by decide +kernel
theorem dX1_dropIfIdle_9 : decode cX1_dropIfIdle 9 = .ok (.invokevirtual 87, 3) := by decide +kernel
theorem dX1_dropIfIdle_12 : decode cX1_dropIfIdle 12 = .ok (.ifCond .eq 4, 3) := by decide +kernel
theorem dX1_dropIfIdle_15 : decode cX1_dropIfIdle 15 = .ok (.return_, 1) := by decide +kernel
theorem dX1_dropIfIdle_16 : decode cX1_dropIfIdle 16 = .ok (.aload_n 2, 1) := by decide +kernel
theorem dX1_dropIfIdle_17 : decode cX1_dropIfIdle 17 = .ok (.getfield 28, 3) := by decide +kernel
theorem dX1_dropIfIdle_20 : decode cX1_dropIfIdle 20 = .ok (.ifnull 11, 3) := by decide +kernel
theorem dX1_dropIfIdle_23 : decode cX1_dropIfIdle 23 = .ok (.aload_n 2, 1) := by decide +kernel
theorem dX1_dropIfIdle_24 : decode cX1_dropIfIdle 24 = .ok (.getfield 31, 3) := by decide +kernel
theorem dX1_dropIfIdle_27 : decode cX1_dropIfIdle 27 = .ok (.ifnull 4, 3) := by decide +kernel
theorem dX1_dropIfIdle_30 : decode cX1_dropIfIdle 30 = .ok (.return_, 1) := by decide +kernel
theorem dX1_dropIfIdle_31 : decode cX1_dropIfIdle 31 = .ok (.aload_n 1, 1) := by decide +kernel
theorem dX1_dropIfIdle_32 : decode cX1_dropIfIdle 32 = .ok (.aload_n 2, 1) := by decide +kernel
theorem dX1_dropIfIdle_33 : decode cX1_dropIfIdle 33 = .ok (.aload_n 2, 1) := by decide +kernel
theorem dX1_dropIfIdle_34 : decode cX1_dropIfIdle 34 = .ok (.getfield 28, 3) := by decide +kernel
theorem dX1_dropIfIdle_37 : decode cX1_dropIfIdle 37 = .ok (.ifnull 10, 3) := by decide +kernel
theorem dX1_dropIfIdle_40 : decode cX1_dropIfIdle 40 = .ok (.aload_n 2, 1) := by decide +kernel
theorem dX1_dropIfIdle_41 : decode cX1_dropIfIdle 41 = .ok (.getfield 28, 3) := by decide +kernel
theorem dX1_dropIfIdle_44 : decode cX1_dropIfIdle 44 = .ok (.goto 7, 3) := by decide +kernel
theorem dX1_dropIfIdle_47 : decode cX1_dropIfIdle 47 = .ok (.aload_n 2, 1) := by decide +kernel
theorem dX1_dropIfIdle_48 : decode cX1_dropIfIdle 48 = .ok (.getfield 31, 3) := by decide +kernel
theorem dX1_dropIfIdle_51 : decode cX1_dropIfIdle 51 = .ok (.invokevirtual 110, 3) := by decide +kernel
theorem dX1_dropIfIdle_54 : decode cX1_dropIfIdle 54 = .ok (.aload_n 0, 1) := by decide +kernel
theorem dX1_dropIfIdle_55 : decode cX1_dropIfIdle 55 = .ok (.dup, 1) := by decide +kernel
theorem dX1_dropIfIdle_56 : decode cX1_dropIfIdle 56 = .ok (.getfield 18, 3) := by decide +kernel
theorem dX1_dropIfIdle_59 : decode cX1_dropIfIdle 59 = .ok (.iconst 1, 1) := by decide +kernel
theorem dX1_dropIfIdle_60 : decode cX1_dropIfIdle 60 = .ok (.isub, 1) := by decide +kernel
theorem dX1_dropIfIdle_61 : decode cX1_dropIfIdle 61 = .ok (.putfield 18, 3) := by decide +kernel
theorem dX1_dropIfIdle_64 : decode cX1_dropIfIdle 64 = .ok (.return_, 1) := by decide +kernel
end
section
theorem dX2_init_0 : decode cX2_init 0 = .ok (.aload_n 0, 1) := by decide +kernel
theorem dX2_init_1 : decode cX2_init 1 = .ok (.invokespecial 1, 3) := by decide +kernel
theorem dX2_init_4 : decode cX2_init 4 = .ok (.aload_n 0, 1) := by decide +kernel
theorem dX2_init_5 : decode cX2_init 5 = .ok (.sipush 500, 3) := by decide +kernel
theorem dX2_init_8 : decode cX2_init 8 = .ok (.newarray .int, 2) := by decide +kernel
theorem dX2_init_10 : decode cX2_init 10 = .ok (.putfield 7, 3) := by decide +kernel
theorem dX2_init_13 : decode cX2_init 13 = .ok (.aload_n 0, 1) := by decide +kernel
theorem dX2_init_14 : decode cX2_init 14 = .ok (.sipush 500, 3) := by decide +kernel
theorem dX2_init_17 : decode cX2_init 17 = .ok (.newarray .int, 2) := by decide +kernel
theorem dX2_init_19 : decode cX2_init 19 = .ok (.putfield 13, 3) := by decide +kernel
theorem dX2_init_22 : decode cX2_init 22 = .ok (.aload_n 0, 1) := by decide +kernel
theorem dX2_init_23 : decode cX2_init 23 = .ok (.sipush 500, 3) := by decide +kernel
theorem dX2_init_26 : decode cX2_init 26 = .ok (.newarray .int, 2) := by decide +kernel
theorem dX2_init_28 : decode cX2_init 28 = .ok (.putfield 16, 3) := by decide +kernel
theorem dX2_init_31 : decode cX2_init 31 = .ok (.aload_n 0, 1) := by decide +kernel
theorem dX2_init_32 : decode cX2_init 32 = .ok (.sipush 1000, 3) := by decide +kernel
theorem dX2_init_35 : decode cX2_init 35 = .ok (.newarray .int, 2) := by decide +kernel
theorem dX2_init_37 : decode cX2_init 37 = .ok (.putfield 19, 3) := by decide +kernel
theorem dX2_init_40 : decode cX2_init 40 = .ok (.aload_n 0, 1) := by decide +kernel
theorem dX2_init_41 : decode cX2_init 41 = .ok (.sipush 1000, 3) := by decide +kernel
theorem dX2_init_44 : decode cX2_init 44 = .ok (.newarray .int, 2) := by decide +kernel
theorem dX2_init_46 : decode cX2_init 46 = .ok (.putfield 22, 3) := by decide +kernel
theorem dX2_init_49 : decode cX2_init 49 = .ok (.return_, 1) := by decide +kernel
theorem dX2_init__0 : decode cX2_init_ 0 = .ok (.aload_n 0, 1) := by decide +kernel
theorem dX2_init__1 : decode cX2_init_ 1 = .ok (.iconst 0, 1) := by decide +kernel
theorem dX2_init__2 : decode cX2_init_ 2 = .ok (.putfield 25, 3) := by decide +kernel
theorem dX2_init__5 : decode cX2_init_ 5 = .ok (.aload_n 0, 1) := by decide +kernel
theorem dX2_init__6 : decode cX2_init_ 6 = .ok (.iconst 0, 1) := by decide +kernel
theorem dX2_init__7 : decode cX2_init_ 7 = .ok (.putfield 29, 3) := by decide +kernel
theorem dX2_init__10 : decode cX2_init_ 10 = .ok (.return_, 1) := by decide +kernel
theorem dX2_mask_0 : decode cX2_mask 0 = .ok (.iload_n 0, 1) := by decide +kernel
theorem dX2_mask_1 : decode cX2_mask 1 = .ok (.ifCond .ne 7, 3) := by decide +kernel
theorem dX2_mask_4 : decode cX2_mask 4 = .ok (.iconst 0, 1) := by decide +kernel
theorem dX2_mask_5 : decode cX2_mask 5 = .ok (.goto 9, 3) := by decide +kernel
theorem dX2_mask_8 : decode cX2_mask 8 = .ok (.iconst (-1), 1) := by decide +kernel
theorem dX2_mask_9 : decode cX2_mask 9 = .ok (.bipush 32, 2) := by decide +kernel
theorem dX2_mask_11 : decode cX2_mask 11 = .ok (.iload_n 0, 1) := by decide +kernel
theorem dX2_mask_12 : decode cX2_mask 12 = .ok (.isub, 1) := by decide +kernel
theorem dX2_mask_13 : decode cX2_mask 13 = .ok (.ishl, 1) := by decide +kernel
theorem dX2_mask_14 : decode cX2_mask 14 = .ok (.ireturn, 1) := by decide +kernel
set_option maxRecDepth 20000 in
theorem ggX2_isPrefix_X2_mask : GoodIn wsX2_isPrefix wsX2_mask := goodIn_r _ [4] (by decide +kernel) (by decide +kernel)
set_option maxRecDepth 20000 in
theorem gX2_isPrefix_X2_mask : GoodIn wsX2_isPrefix (va_wsS RX2 32 yX2_mask wsX2_mask) := goodIn_app (goodIn_of _ (by decide +kernel)) ggX2_isPrefix_X2_mask
theorem dX2_isPrefix_0 : decode cX2_isPrefix 0 = .ok (.iload_n 1, 1) := by decide +kernel
theorem dX2_isPrefix_1 : decode cX2_isPrefix 1 = .ok (.ifCond .lt 38, 3) := by decide +kernel
theorem dX2_isPrefix_4 : decode cX2_isPrefix 4 = .ok (.iload_n 1, 1) := by decide +kernel
theorem dX2_isPrefix_5 : decode cX2_isPrefix 5 = .ok (.bipush 32, 2) := by decide +kernel
theorem dX2_isPrefix_7 : decode cX2_isPrefix 7 = .ok (.if_icmp .gt 32, 3) := by decide +kernel
theorem dX2_isPrefix_10 : decode cX2_isPrefix 10 = .ok (.iload_n 0, 1) := by decide +kernel
theorem dX2_isPrefix_11 : decode cX2_isPrefix 11 = .ok (.iload_n 1, 1) := by decide +kernel
theorem dX2_isPrefix_12 : decode cX2_isPrefix 12 = .ok (.ifCond .lt 9, 3) := by decide +kernel
theorem dX2_isPrefix_15 : decode cX2_isPrefix 15 = .ok (.iload_n 1, 1) := by decide +kernel
theorem dX2_isPrefix_16 : decode cX2_isPrefix 16 = .ok (.bipush 32, 2) := by decide +kernel
theorem dX2_isPrefix_18 : decode cX2_isPrefix 18 = .ok (.if_icmp .le 7, 3) := by decide +kernel
theorem dX2_isPrefix_21 : decode cX2_isPrefix 21 = .ok (.iconst 0, 1) := by decide +kernel
theorem dX2_isPrefix_22 : decode cX2_isPrefix 22 = .ok (.goto 4, 3) := by decide +kernel
theorem dX2_isPrefix_25 : decode cX2_isPrefix 25 = .ok (.iload_n 1, 1) := by decide +kernel
theorem dX2_isPrefix_26 : decode cX2_isPrefix 26 = .ok (.invokestatic 32, 3) := by decide +kernel
theorem dX2_isPrefix_29 : decode cX2_isPrefix 29 = .ok (.iconst (-1), 1) := by decide +kernel
theorem dX2_isPrefix_30 : decode cX2_isPrefix 30 = .ok (.ixor, 1) := by decide +kernel
theorem dX2_isPrefix_31 : decode cX2_isPrefix 31 = .ok (.iand, 1) := by decide +kernel
theorem dX2_isPrefix_32 : decode cX2_isPrefix 32 = .ok (.ifCond .ne 7, 3) := by decide +kernel
theorem dX2_isPrefix_35 : decode cX2_isPrefix 35 = .ok (.iconst 1, 1) := by decide +kernel
theorem dX2_isPrefix_36 : decode cX2_isPrefix 36 = .ok (.goto 4, 3) := by decide +kernel
theorem dX2_isPrefix_39 : decode cX2_isPrefix 39 = .ok (.iconst 0, 1) := by decide +kernel
theorem dX2_isPrefix_40 : decode cX2_isPrefix 40 = .ok (.ireturn, 1) := by decide +kernel
set_option maxRecDepth 20000 in
theorem ggX2_begins_X2_mask : GoodIn wsX2_begins wsX2_mask := goodIn_r _ [4] (by decide +kernel) (by decide +kernel)
set_option maxRecDepth 20000 in
theorem gX2_begins_X2_mask : GoodIn wsX2_begins (va_wsS RX2 32 yX2_mask wsX2_mask) := goodIn_app (goodIn_of _ (by decide +kernel)) ggX2_begins_X2_mask
theorem dX2_begins_0 : decode cX2_begins 0 = .ok (.iload_n 0, 1) := by decide +kernel
theorem dX2_begins_1 : decode cX2_begins 1 = .ok (.iload_n 2, 1) := by decide +kernel
theorem dX2_begins_2 : decode cX2_begins 2 = .ok (.invokestatic 32, 3) := by decide +kernel
theorem dX2_begins_5 : decode cX2_begins 5 = .ok (.iand, 1) := by decide +kernel
theorem dX2_begins_6 : decode cX2_begins 6 = .ok (.iload_n 1, 1) := by decide +kernel
theorem dX2_begins_7 : decode cX2_begins 7 = .ok (.if_icmp .ne 7, 3) := by decide +kernel
theorem dX2_begins_10 : decode cX2_begins 10 = .ok (.iconst 1, 1) := by decide +kernel
theorem dX2_begins_11 : decode cX2_begins 11 = .ok (.goto 4, 3) := by decide +kernel
theorem dX2_begins_14 : decode cX2_begins 14 = .ok (.iconst 0, 1) := by decide +kernel
theorem dX2_begins_15 : decode cX2_begins 15 = .ok (.ireturn, 1) := by decide +kernel
theorem dX2_isBefore_0 : decode cX2_isBefore 0 = .ok (.iload_n 1, 1) := by decide +kernel
theorem dX2_isBefore_1 : decode cX2_isBefore 1 = .ok (.ldc 36, 2) := by decide +kernel
theorem dX2_isBefore_3 : decode cX2_isBefore 3 = .ok (.ixor, 1) := by decide +kernel
theorem dX2_isBefore_4 : decode cX2_isBefore 4 = .ok (.istore 4, 2) := by decide +kernel
theorem dX2_isBefore_6 : decode cX2_isBefore 6 = .ok (.aload_n 0, 1) := by decide +kernel
theorem dX2_isBefore_7 : decode cX2_isBefore 7 = .ok (.getfield 7, 3) := by decide +kernel
theorem dX2_isBefore_10 : decode cX2_isBefore 10 = .ok (.iload_n 3, 1) := by decide +kernel
theorem dX2_isBefore_11 : decode cX2_isBefore 11 = .ok (.iaload, 1) := by decide +kernel
theorem dX2_isBefore_12 : decode cX2_isBefore 12 = .ok (.ldc 36, 2) := by decide +kernel
theorem dX2_isBefore_14 : decode cX2_isBefore 14 = .ok (.ixor, 1) := by decide +kernel
theorem dX2_isBefore_15 : decode cX2_isBefore 15 = .ok (.istore 5, 2) := by decide +kernel
theorem dX2_isBefore_17 : decode cX2_isBefore 17 = .ok (.iload 4, 2) := by decide +kernel
theorem dX2_isBefore_19 : decode cX2_isBefore 19 = .ok (.iload 5, 2) := by decide +kernel
theorem dX2_isBefore_21 : decode cX2_isBefore 21 = .ok (.if_icmp .eq 18, 3) := by decide +kernel
theorem dX2_isBefore_24 : decode cX2_isBefore 24 = .ok (.iload 4, 2) := by decide +kernel
theorem dX2_isBefore_26 : decode cX2_isBefore 26 = .ok (.iload 5, 2) := by decide +kernel
theorem dX2_isBefore_28 : decode cX2_isBefore 28 = .ok (.if_icmp .ge 7, 3) := by decide +kernel
theorem dX2_isBefore_31 : decode cX2_isBefore 31 = .ok (.iconst 1, 1) := by decide +kernel
theorem dX2_isBefore_32 : decode cX2_isBefore 32 = .ok (.goto 22, 3) := by decide +kernel
theorem dX2_isBefore_35 : decode cX2_isBefore 35 = .ok (.iconst 0, 1) := by decide +kernel
theorem dX2_isBefore_36 : decode cX2_isBefore 36 = .ok (.goto 18, 3) := by decide +kernel
theorem dX2_isBefore_39 : decode cX2_isBefore 39 = .ok (.iload_n 2, 1) := by decide +kernel
theorem dX2_isBefore_40 : decode cX2_isBefore 40 = .ok (.aload_n 0, 1) := by decide +kernel
theorem dX2_isBefore_41 : decode cX2_isBefore 41 = .ok (.getfield 13, 3) := by decide +kernel
theorem dX2_isBefore_44 : decode cX2_isBefore 44 = .ok (.iload_n 3, 1) := by decide +kernel
theorem dX2_isBefore_45 : decode cX2_isBefore 45 = .ok (.iaload, 1) := by decide +kernel
theorem dX2_isBefore_46 : decode cX2_isBefore 46 = .ok (.if_icmp .ge 7, 3) := by decide +kernel
theorem dX2_isBefore_49 : decode cX2_isBefore 49 = .ok (.iconst 1, 1) := by decide +kernel
theorem dX2_isBefore_50 : decode cX2_isBefore 50 = .ok (.goto 4, 3) := by decide +kernel
theorem dX2_isBefore_53 : decode cX2_isBefore 53 = .ok (.iconst 0, 1) := by decide +kernel
theorem dX2_isBefore_54 : decode cX2_isBefore 54 = .ok (.ireturn, 1) := by decide +kernel
theorem dX2_find_0 : decode cX2_find 0 = .ok (.iconst 0, 1) := by decide +kernel
theorem dX2_find_1 : decode cX2_find 1 = .ok (.istore_n 3, 1) := by decide +kernel
theorem dX2_find_2 : decode cX2_find 2 = .ok (.iload_n 3, 1) := by decide +kernel
theorem dX2_find_3 : decode cX2_find 3 = .ok (.aload_n 0, 1) := by decide +kernel
theorem dX2_find_4 : decode cX2_find 4 = .ok (.getfield 29, 3) := by decide +kernel
theorem dX2_find_7 : decode cX2_find 7 = .ok (.if_icmp .ge 31, 3) := by decide +kernel
theorem dX2_find_10 : decode cX2_find 10 = .ok (.aload_n 0, 1) := by decide +kernel
theorem dX2_find_11 : decode cX2_find 11 = .ok (.getfield 7, 3) := by decide +kernel
theorem dX2_find_14 : decode cX2_find 14 = .ok (.iload_n 3, 1) := by decide +kernel
theorem dX2_find_15 : decode cX2_find 15 = .ok (.iaload, 1) := by decide +kernel
theorem dX2_find_16 : decode cX2_find 16 = .ok (.iload_n 1, 1) := by decide +kernel
theorem dX2_find_17 : decode cX2_find 17 = .ok (.if_icmp .ne 15, 3) := by decide +kernel
theorem dX2_find_20 : decode cX2_find 20 = .ok (.aload_n 0, 1) := by decide +kernel
theorem dX2_find_21 : decode cX2_find 21 = .ok (.getfield 13, 3) := by decide +kernel
theorem dX2_find_24 : decode cX2_find 24 = .ok (.iload_n 3, 1) := by decide +kernel
theorem dX2_find_25 : decode cX2_find 25 = .ok (.iaload, 1) := by decide +kernel
theorem dX2_find_26 : decode cX2_find 26 = .ok (.iload_n 2, 1) := by decide +kernel
theorem dX2_find_27 : decode cX2_find 27 = .ok (.if_icmp .ne 5, 3) := by decide +kernel
theorem dX2_find_30 : decode cX2_find 30 = .ok (.iload_n 3, 1) := by decide +kernel
theorem dX2_find_31 : decode cX2_find 31 = .ok (.ireturn, 1) := by decide +kernel
theorem dX2_find_32 : decode cX2_find 32 = .ok (.iinc 3 1, 3) := by decide +kernel
theorem dX2_find_35 : decode cX2_find 35 = .ok (.goto (-33), 3) := by decide +kernel
theorem dX2_find_38 : decode cX2_find 38 = .ok (.iconst (-1), 1) := by decide +kernel
theorem dX2_find_39 : decode cX2_find 39 = .ok (.ireturn, 1) := by decide +kernel
set_option maxRecDepth 20000 in
theorem ggX2_insert_X2_isPrefix : GoodIn wsX2_insert wsX2_isPrefix := goodIn_r _ [9, 10, 11, 8, 12] (by decide +kernel) (by decide +kernel)
set_option maxRecDepth 20000 in
theorem gX2_insert_X2_isPrefix : GoodIn wsX2_insert (va_wsS RX2 37 yX2_isPrefix wsX2_isPrefix) := goodIn_app (goodIn_of _ (by decide +kernel)) ggX2_insert_X2_isPrefix
set_option maxRecDepth 20000 in
theorem ggX2_insert_X2_find : GoodIn wsX2_insert wsX2_find := goodIn_r _ [16, 3, 4, 5, 22, 23, 24, 25, 26, 27, 28, 29] (by decide +kernel) (by decide +kernel)
set_option maxRecDepth 20000 in
theorem gX2_insert_X2_find : GoodIn wsX2_insert (wsV RX2 41 RX2 yX2_find wsX2_find) := goodIn_app (goodIn_of _ (by decide +kernel)) ggX2_insert_X2_find
set_option maxRecDepth 20000 in
theorem ggX2_insert_X2_isBefore : GoodIn wsX2_insert wsX2_isBefore := goodIn_r _ [20, 21, 4, 5, 22, 23, 24, 25, 26, 27, 28, 29] (by decide +kernel) (by decide +kernel)
set_option maxRecDepth 20000 in
theorem gX2_insert_X2_isBefore : GoodIn wsX2_insert (wsV RX2 45 RX2 yX2_isBefore wsX2_isBefore) := goodIn_app (goodIn_of _ (by decide +kernel)) ggX2_insert_X2_isBefore
theorem dX2_insert_0 : decode cX2_insert 0 = .ok (.aload_n 0, 1) := by decide +kernel
theorem dX2_insert_1 : decode cX2_insert 1 = .ok (.iconst 0, 1) := by decide +kernel
theorem dX2_insert_2 : decode cX2_insert 2 = .ok (.putfield 25, 3) := by decide +kernel
theorem dX2_insert_5 : decode cX2_insert 5 = .ok (.iload_n 1, 1) := by decide +kernel
theorem dX2_insert_6 : decode cX2_insert 6 = .ok (.iload_n 2, 1) := by decide +kernel
theorem dX2_insert_7 : decode cX2_insert 7 = .ok (.invokestatic 37, 3) := by decide +kernel
theorem dX2_insert_10 : decode cX2_insert 10 = .ok (.ifCond .eq 7, 3) := by decide +kernel
theorem dX2_insert_13 : decode cX2_insert 13 = .ok (.iload_n 3, 1) := by decide +kernel
theorem dX2_insert_14 : decode cX2_insert 14 = .ok (.ifCond .ge 5, 3) := by decide +kernel
theorem dX2_insert_17 : decode cX2_insert 17 = .ok (.iconst (-1), 1) := by decide +kernel
theorem dX2_insert_18 : decode cX2_insert 18 = .ok (.ireturn, 1) := by decide +kernel
theorem dX2_insert_19 : decode cX2_insert 19 = .ok (.aload_n 0, 1) := by decide +kernel
theorem dX2_insert_20 : decode cX2_insert 20 = .ok (.iload_n 1, 1) := by decide +kernel
theorem dX2_insert_21 : decode cX2_insert 21 = .ok (.iload_n 2, 1) := by decide +kernel
theorem dX2_insert_22 : decode cX2_insert 22 = .ok (.invokevirtual 41, 3) := by decide +kernel
theorem dX2_insert_25 : decode cX2_insert 25 = .ok (.istore 4, 2) := by decide +kernel
theorem dX2_insert_27 : decode cX2_insert 27 = .ok (.iload 4, 2) := by decide +kernel
theorem dX2_insert_29 : decode cX2_insert 29 = .ok (.iconst (-1), 1) := by decide +kernel
theorem dX2_insert_30 : decode cX2_insert 30 = .ok (.if_icmp .eq 13, 3) := by decide +kernel
theorem dX2_insert_33 : decode cX2_insert 33 = .ok (.aload_n 0, 1) := by decide +kernel
theorem dX2_insert_34 : decode cX2_insert 34 = .ok (.getfield 16, 3) := by decide +kernel
theorem dX2_insert_37 : decode cX2_insert 37 = .ok (.iload 4, 2) := by decide +kernel
theorem dX2_insert_39 : decode cX2_insert 39 = .ok (.iload_n 3, 1) := by decide +kernel
theorem dX2_insert_40 : decode cX2_insert 40 = .ok (.iastore, 1) := by decide +kernel
theorem dX2_insert_41 : decode cX2_insert 41 = .ok (.iconst 0, 1) := by decide +kernel
theorem dX2_insert_42 : decode cX2_insert 42 = .ok (.ireturn, 1) := by decide +kernel
theorem dX2_insert_43 : decode cX2_insert 43 = .ok (.aload_n 0, 1) := by decide +kernel
theorem dX2_insert_44 : decode cX2_insert 44 = .ok (.getfield 29, 3) := by decide +kernel
theorem dX2_insert_47 : decode cX2_insert 47 = .ok (.sipush 500, 3) := by decide +kernel
theorem dX2_insert_50 : decode cX2_insert 50 = .ok (.if_icmp .ne 6, 3) := by decide +kernel
theorem dX2_insert_53 : decode cX2_insert 53 = .ok (.bipush (-2), 2) := by decide +kernel
theorem dX2_insert_55 : decode cX2_insert 55 = .ok (.ireturn, 1) := by decide +kernel
theorem dX2_insert_56 : decode cX2_insert 56 = .ok (.aload_n 0, 1) := by decide +kernel
theorem dX2_insert_57 : decode cX2_insert 57 = .ok (.getfield 29, 3) := by decide +kernel
theorem dX2_insert_60 : decode cX2_insert 60 = .ok (.istore 5, 2) := by decide +kernel
theorem dX2_insert_62 : decode cX2_insert 62 = .ok (.iload 5, 2) := by decide +kernel
theorem dX2_insert_64 : decode cX2_insert 64 = .ok (.ifCond .le 70, 3) := by decide +kernel
theorem dX2_insert_67 : decode cX2_insert 67 = .ok (.aload_n 0, 1) := by decide +kernel
theorem dX2_insert_68 : decode cX2_insert 68 = .ok (.iload_n 1, 1) := by decide +kernel
theorem dX2_insert_69 : decode cX2_insert 69 = .ok (.iload_n 2, 1) := by decide +kernel
theorem dX2_insert_70 : decode cX2_insert 70 = .ok (.iload 5, 2) := by decide +kernel
theorem dX2_insert_72 : decode cX2_insert 72 = .ok (.iconst 1, 1) := by decide +kernel
theorem dX2_insert_73 : decode cX2_insert 73 = .ok (.isub, 1) := by decide +kernel
theorem dX2_insert_74 : decode cX2_insert 74 = .ok (.invokevirtual 45, 3) := by decide +kernel
theorem dX2_insert_77 : decode cX2_insert 77 = .ok (.ifCond .eq 57, 3) := by decide +kernel
theorem dX2_insert_80 : decode cX2_insert 80 = .ok (.aload_n 0, 1) := by decide +kernel
theorem dX2_insert_81 : decode cX2_insert 81 = .ok (.getfield 7, 3) := by decide +kernel
theorem dX2_insert_84 : decode cX2_insert 84 = .ok (.iload 5, 2) := by decide +kernel
theorem dX2_insert_86 : decode cX2_insert 86 = .ok (.aload_n 0, 1) := by decide +kernel
theorem dX2_insert_87 : decode cX2_insert 87 = .ok (.getfield 7, 3) := by decide +kernel
theorem dX2_insert_90 : decode cX2_insert 90 = .ok (.iload 5, 2) := by decide +kernel
theorem dX2_insert_92 : decode cX2_insert 92 = .ok (.iconst 1, 1) := by decide +kernel
theorem dX2_insert_93 : decode cX2_insert 93 = .ok (.isub, 1) := by decide +kernel
theorem dX2_insert_94 : decode cX2_insert 94 = .ok (.iaload, 1) := by decide +kernel
theorem dX2_insert_95 : decode cX2_insert 95 = .ok (.iastore, 1) := by decide +kernel
theorem dX2_insert_96 : decode cX2_insert 96 = .ok (.aload_n 0, 1) := by decide +kernel
theorem dX2_insert_97 : decode cX2_insert 97 = .ok (.getfield 13, 3) := by decide +kernel
theorem dX2_insert_100 : decode cX2_insert 100 = .ok (.iload 5, 2) := by decide +kernel
theorem dX2_insert_102 : decode cX2_insert 102 = .ok (.aload_n 0, 1) := by decide +kernel
theorem dX2_insert_103 : decode cX2_insert 103 = .ok (.getfield 13, 3) := by decide +kernel
theorem dX2_insert_106 : decode cX2_insert 106 = .ok (.iload 5, 2) := by decide +kernel
theorem dX2_insert_108 : decode cX2_insert 108 = .ok (.iconst 1, 1) := by decide +kernel
theorem dX2_insert_109 : decode cX2_insert 109 = .ok (.isub, 1) := by decide +kernel
theorem dX2_insert_110 : decode cX2_insert 110 = .ok (.iaload, 1) := by decide +kernel
theorem dX2_insert_111 : decode cX2_insert 111 = .ok (.iastore, 1) := by decide +kernel
theorem dX2_insert_112 : decode cX2_insert 112 = .ok (.aload_n 0, 1) := by decide +kernel
theorem dX2_insert_113 : decode cX2_insert 113 = .ok (.getfield 16, 3) := by decide +kernel
theorem dX2_insert_116 : decode cX2_insert 116 = .ok (.iload 5, 2) := by decide +kernel
theorem dX2_insert_118 : decode cX2_insert 118 = .ok (.aload_n 0, 1) := by decide +kernel
theorem dX2_insert_119 : decode cX2_insert 119 = .ok (.getfield 16, 3) := by decide +kernel
theorem dX2_insert_122 : decode cX2_insert 122 = .ok (.iload 5, 2) := by decide +kernel
theorem dX2_insert_124 : decode cX2_insert 124 = .ok (.iconst 1, 1) := by decide +kernel
theorem dX2_insert_125 : decode cX2_insert 125 = .ok (.isub, 1) := by decide +kernel
theorem dX2_insert_126 : decode cX2_insert 126 = .ok (.iaload, 1) := by decide +kernel
theorem dX2_insert_127 : decode cX2_insert 127 = .ok (.iastore, 1) := by decide +kernel
theorem dX2_insert_128 : decode cX2_insert 128 = .ok (.iinc 5 (-1), 3) := by decide +kernel
theorem dX2_insert_131 : decode cX2_insert 131 = .ok (.goto (-69), 3) := by decide +kernel
theorem dX2_insert_134 : decode cX2_insert 134 = .ok (.aload_n 0, 1) := by decide +kernel
theorem dX2_insert_135 : decode cX2_insert 135 = .ok (.getfield 7, 3) := by decide +kernel
theorem dX2_insert_138 : decode cX2_insert 138 = .ok (.iload 5, 2) := by decide +kernel
theorem dX2_insert_140 : decode cX2_insert 140 = .ok (.iload_n 1, 1) := by decide +kernel
theorem dX2_insert_141 : decode cX2_insert 141 = .ok (.iastore, 1) := by decide +kernel
theorem dX2_insert_142 : decode cX2_insert 142 = .ok (.aload_n 0, 1) := by decide +kernel
theorem dX2_insert_143 : decode cX2_insert 143 = .ok (.getfield 13, 3) := by decide +kernel
theorem dX2_insert_146 : decode cX2_insert 146 = .ok (.iload 5, 2) := by decide +kernel
theorem dX2_insert_148 : decode cX2_insert 148 = .ok (.iload_n 2, 1) := by decide +kernel
theorem dX2_insert_149 : decode cX2_insert 149 = .ok (.iastore, 1) := by decide +kernel
theorem dX2_insert_150 : decode cX2_insert 150 = .ok (.aload_n 0, 1) := by decide +kernel
theorem dX2_insert_151 : decode cX2_insert 151 = .ok (.getfield 16, 3) := by decide +kernel
theorem dX2_insert_154 : decode cX2_insert 154 = .ok (.iload 5, 2) := by decide +kernel
theorem dX2_insert_156 : decode cX2_insert 156 = .ok (.iload_n 3, 1) := by decide +kernel
theorem dX2_insert_157 : decode cX2_insert 157 = .ok (.iastore, 1) := by decide +kernel
theorem dX2_insert_158 : decode cX2_insert 158 = .ok (.aload_n 0, 1) := by decide +kernel
theorem dX2_insert_159 : decode cX2_insert 159 = .ok (.dup, 1) := by decide +kernel
theorem dX2_insert_160 : decode cX2_insert 160 = .ok (.getfield 29, 3) := by decide +kernel
theorem dX2_insert_163 : decode cX2_insert 163 = .ok (.iconst 1, 1) := by decide +kernel
theorem dX2_insert_164 : decode cX2_insert 164 = .ok (.iadd, 1) := by decide +kernel
theorem dX2_insert_165 : decode cX2_insert 165 = .ok (.putfield 29, 3) := by decide +kernel
theorem dX2_insert_168 : decode cX2_insert 168 = .ok (.iconst 1, 1) := by decide +kernel
theorem dX2_insert_169 : decode cX2_insert 169 = .ok (.ireturn, 1) := by decide +kernel
set_option maxRecDepth 20000 in
theorem ggX2_remove_X2_find : GoodIn wsX2_remove wsX2_find := goodIn_r _ [10, 2, 3, 4, 11, 12, 13, 14, 15, 16, 17, 18] (by decide +kernel) (by decide +kernel)
set_option maxRecDepth 20000 in
theorem gX2_remove_X2_find : GoodIn wsX2_remove (wsV RX2 41 RX2 yX2_find wsX2_find) := goodIn_app (goodIn_of _ (by decide +kernel)) ggX2_remove_X2_find
theorem dX2_remove_0 : decode cX2_remove 0 = .ok (.aload_n 0, 1) := by decide +kernel
theorem dX2_remove_1 : decode cX2_remove 1 = .ok (.iconst 0, 1) := by decide +kernel
theorem dX2_remove_2 : decode cX2_remove 2 = .ok (.putfield 25, 3) := by decide +kernel
theorem dX2_remove_5 : decode cX2_remove 5 = .ok (.aload_n 0, 1) := by decide +kernel
theorem dX2_remove_6 : decode cX2_remove 6 = .ok (.iload_n 1, 1) := by decide +kernel
theorem dX2_remove_7 : decode cX2_remove 7 = .ok (.iload_n 2, 1) := by decide +kernel
theorem dX2_remove_8 : decode cX2_remove 8 = .ok (.invokevirtual 41, 3) := by decide +kernel
theorem dX2_remove_11 : decode cX2_remove 11 = .ok (.istore_n 3, 1) := by decide +kernel
theorem dX2_remove_12 : decode cX2_remove 12 = .ok (.iload_n 3, 1) := by decide +kernel
theorem dX2_remove_13 : decode cX2_remove 13 = .ok (.iconst (-1), 1) := by decide +kernel
theorem dX2_remove_14 : decode cX2_remove 14 = .ok (.if_icmp .ne 5, 3) := by decide +kernel
theorem dX2_remove_17 : decode cX2_remove 17 = .ok (.iconst 0, 1) := by decide +kernel
theorem dX2_remove_18 : decode cX2_remove 18 = .ok (.ireturn, 1) := by decide +kernel
theorem dX2_remove_19 : decode cX2_remove 19 = .ok (.iload_n 3, 1) := by decide +kernel
theorem dX2_remove_20 : decode cX2_remove 20 = .ok (.istore 4, 2) := by decide +kernel
theorem dX2_remove_22 : decode cX2_remove 22 = .ok (.iload 4, 2) := by decide +kernel
theorem dX2_remove_24 : decode cX2_remove 24 = .ok (.iconst 1, 1) := by decide +kernel
theorem dX2_remove_25 : decode cX2_remove 25 = .ok (.iadd, 1) := by decide +kernel
theorem dX2_remove_26 : decode cX2_remove 26 = .ok (.aload_n 0, 1) := by decide +kernel
theorem dX2_remove_27 : decode cX2_remove 27 = .ok (.getfield 29, 3) := by decide +kernel
theorem dX2_remove_30 : decode cX2_remove 30 = .ok (.if_icmp .ge 57, 3) := by decide +kernel
theorem dX2_remove_33 : decode cX2_remove 33 = .ok (.aload_n 0, 1) := by decide +kernel
theorem dX2_remove_34 : decode cX2_remove 34 = .ok (.getfield 7, 3) := by decide +kernel
theorem dX2_remove_37 : decode cX2_remove 37 = .ok (.iload 4, 2) := by decide +kernel
theorem dX2_remove_39 : decode cX2_remove 39 = .ok (.aload_n 0, 1) := by decide +kernel
theorem dX2_remove_40 : decode cX2_remove 40 = .ok (.getfield 7, 3) := by decide +kernel
theorem dX2_remove_43 : decode cX2_remove 43 = .ok (.iload 4, 2) := by decide +kernel
theorem dX2_remove_45 : decode cX2_remove 45 = .ok (.iconst 1, 1) := by decide +kernel
theorem dX2_remove_46 : decode cX2_remove 46 = .ok (.iadd, 1) := by decide +kernel
theorem dX2_remove_47 : decode cX2_remove 47 = .ok (.iaload, 1) := by decide +kernel
theorem dX2_remove_48 : decode cX2_remove 48 = .ok (.iastore, 1) := by decide +kernel
theorem dX2_remove_49 : decode cX2_remove 49 = .ok (.aload_n 0, 1) := by decide +kernel
theorem dX2_remove_50 : decode cX2_remove 50 = .ok (.getfield 13, 3) := by decide +kernel
theorem dX2_remove_53 : decode cX2_remove 53 = .ok (.iload 4, 2) := by decide +kernel
theorem dX2_remove_55 : decode cX2_remove 55 = .ok (.aload_n 0, 1) := by decide +kernel
theorem dX2_remove_56 : decode cX2_remove 56 = .ok (.getfield 13, 3) := by decide +kernel
theorem dX2_remove_59 : decode cX2_remove 59 = .ok (.iload 4, 2) := by decide +kernel
theorem dX2_remove_61 : decode cX2_remove 61 = .ok (.iconst 1, 1) := by decide +kernel
theorem dX2_remove_62 : decode cX2_remove 62 = .ok (.iadd, 1) := by decide +kernel
theorem dX2_remove_63 : decode cX2_remove 63 = .ok (.iaload, 1) := by decide +kernel
theorem dX2_remove_64 : decode cX2_remove 64 = .ok (.iastore, 1) := by decide +kernel
theorem dX2_remove_65 : decode cX2_remove 65 = .ok (.aload_n 0, 1) := by decide +kernel
theorem dX2_remove_66 : decode cX2_remove 66 = .ok (.getfield 16, 3) := by decide +kernel
theorem dX2_remove_69 : decode cX2_remove 69 = .ok (.iload 4, 2) := by decide +kernel
theorem dX2_remove_71 : decode cX2_remove 71 = .ok (.aload_n 0, 1) := by decide +kernel
theorem dX2_remove_72 : decode cX2_remove 72 = .ok (.getfield 16, 3) := by decide +kernel
theorem dX2_remove_75 : decode cX2_remove 75 = .ok (.iload 4, 2) := by decide +kernel
theorem dX2_remove_77 : decode cX2_remove 77 = .ok (.iconst 1, 1) := by decide +kernel
theorem dX2_remove_78 : decode cX2_remove 78 = .ok (.iadd, 1) := by decide +kernel
theorem dX2_remove_79 : decode cX2_remove 79 = .ok (.iaload, 1) := by decide +kernel
theorem dX2_remove_80 : decode cX2_remove 80 = .ok (.iastore, 1) := by decide +kernel
theorem dX2_remove_81 : decode cX2_remove 81 = .ok (.iinc 4 1, 3) := by decide +kernel
theorem dX2_remove_84 : decode cX2_remove 84 = .ok (.goto (-62), 3) := by decide +kernel
theorem dX2_remove_87 : decode cX2_remove 87 = .ok (.aload_n 0, 1) := by decide +kernel
theorem dX2_remove_88 : decode cX2_remove 88 = .ok (.dup, 1) := by decide +kernel
theorem dX2_remove_89 : decode cX2_remove 89 = .ok (.getfield 29, 3) := by decide +kernel
theorem dX2_remove_92 : decode cX2_remove 92 = .ok (.iconst 1, 1) := by decide +kernel
theorem dX2_remove_93 : decode cX2_remove 93 = .ok (.isub, 1) := by decide +kernel
theorem dX2_remove_94 : decode cX2_remove 94 = .ok (.putfield 29, 3) := by decide +kernel
theorem dX2_remove_97 : decode cX2_remove 97 = .ok (.iconst 1, 1) := by decide +kernel
theorem dX2_remove_98 : decode cX2_remove 98 = .ok (.ireturn, 1) := by decide +kernel
set_option maxRecDepth 20000 in
theorem ggX2_longest_X2_begins : GoodIn wsX2_longest wsX2_begins := goodIn_r _ [7, 8, 9, 6, 10] (by decide +kernel) (by decide +kernel)
set_option maxRecDepth 20000 in
theorem gX2_longest_X2_begins : GoodIn wsX2_longest (va_wsS RX2 49 yX2_begins wsX2_begins) := goodIn_app (goodIn_of _ (by decide +kernel)) ggX2_longest_X2_begins
theorem dX2_longest_0 : decode cX2_longest 0 = .ok (.iconst (-1), 1) := by decide +kernel
theorem dX2_longest_1 : decode cX2_longest 1 = .ok (.istore_n 2, 1) := by decide +kernel
theorem dX2_longest_2 : decode cX2_longest 2 = .ok (.iconst 0, 1) := by decide +kernel
theorem dX2_longest_3 : decode cX2_longest 3 = .ok (.istore_n 3, 1) := by decide +kernel
theorem dX2_longest_4 : decode cX2_longest 4 = .ok (.iload_n 3, 1) := by decide +kernel
theorem dX2_longest_5 : decode cX2_longest 5 = .ok (.aload_n 0, 1) := by decide +kernel
theorem dX2_longest_6 : decode cX2_longest 6 = .ok (.getfield 29, 3) := by decide +kernel
theorem dX2_longest_9 : decode cX2_longest 9 = .ok (.if_icmp .ge 50, 3) := by decide +kernel
theorem dX2_longest_12 : decode cX2_longest 12 = .ok (.iload_n 1, 1) := by decide +kernel
theorem dX2_longest_13 : decode cX2_longest 13 = .ok (.aload_n 0, 1) := by decide +kernel
theorem dX2_longest_14 : decode cX2_longest 14 = .ok (.getfield 7, 3) := by decide +kernel
theorem dX2_longest_17 : decode cX2_longest 17 = .ok (.iload_n 3, 1) := by decide +kernel
theorem dX2_longest_18 : decode cX2_longest 18 = .ok (.iaload, 1) := by decide +kernel
theorem dX2_longest_19 : decode cX2_longest 19 = .ok (.aload_n 0, 1) := by decide +kernel
theorem dX2_longest_20 : decode cX2_longest 20 = .ok (.getfield 13, 3) := by decide +kernel
theorem dX2_longest_23 : decode cX2_longest 23 = .ok (.iload_n 3, 1) := by decide +kernel
theorem dX2_longest_24 : decode cX2_longest 24 = .ok (.iaload, 1) := by decide +kernel
theorem dX2_longest_25 : decode cX2_longest 25 = .ok (.invokestatic 49, 3) := by decide +kernel
theorem dX2_longest_28 : decode cX2_longest 28 = .ok (.ifCond .eq 25, 3) := by decide +kernel
theorem dX2_longest_31 : decode cX2_longest 31 = .ok (.iload_n 2, 1) := by decide +kernel
theorem dX2_longest_32 : decode cX2_longest 32 = .ok (.iconst (-1), 1) := by decide +kernel
theorem dX2_longest_33 : decode cX2_longest 33 = .ok (.if_icmp .eq 18, 3) := by decide +kernel
theorem dX2_longest_36 : decode cX2_longest 36 = .ok (.aload_n 0, 1) := by decide +kernel
theorem dX2_longest_37 : decode cX2_longest 37 = .ok (.getfield 13, 3) := by decide +kernel
theorem dX2_longest_40 : decode cX2_longest 40 = .ok (.iload_n 3, 1) := by decide +kernel
theorem dX2_longest_41 : decode cX2_longest 41 = .ok (.iaload, 1) := by decide +kernel
theorem dX2_longest_42 : decode cX2_longest 42 = .ok (.aload_n 0, 1) := by decide +kernel
theorem dX2_longest_43 : decode cX2_longest 43 = .ok (.getfield 13, 3) := by decide +kernel
theorem dX2_longest_46 : decode cX2_longest 46 = .ok (.iload_n 2, 1) := by decide +kernel
theorem dX2_longest_47 : decode cX2_longest 47 = .ok (.iaload, 1) := by decide +kernel
theorem dX2_longest_48 : decode cX2_longest 48 = .ok (.if_icmp .le 5, 3) := by decide +kernel
theorem dX2_longest_51 : decode cX2_longest 51 = .ok (.iload_n 3, 1) := by decide +kernel
theorem dX2_longest_52 : decode cX2_longest 52 = .ok (.istore_n 2, 1) := by decide +kernel
theorem dX2_longest_53 : decode cX2_longest 53 = .ok (.iinc 3 1, 3) := by decide +kernel
theorem dX2_longest_56 : decode cX2_longest 56 = .ok (.goto (-52), 3) := by decide +kernel
theorem dX2_longest_59 : decode cX2_longest 59 = .ok (.iload_n 2, 1) := by decide +kernel
theorem dX2_longest_60 : decode cX2_longest 60 = .ok (.ireturn, 1) := by decide +kernel
set_option maxRecDepth 20000 in
theorem ggX2_lookup_X2_longest : GoodIn wsX2_lookup wsX2_longest := goodIn_r _ [7, 8, 9, 10, 11, 12, 6, 13, 14, 15, 16, 17, 18, 19, 20, 21, 22, 23, 24] (by decide +kernel) (by decide +kernel)
set_option maxRecDepth 20000 in
theorem gX2_lookup_X2_longest : GoodIn wsX2_lookup (wsV RX2 52 RX2 yX2_longest wsX2_longest) := goodIn_app (goodIn_of _ (by decide +kernel)) ggX2_lookup_X2_longest
theorem dX2_lookup_0 : decode cX2_lookup 0 = .ok (.aload_n 0, 1) := by decide +kernel
theorem dX2_lookup_1 : decode cX2_lookup 1 = .ok (.iconst 0, 1) := by decide +kernel
theorem dX2_lookup_2 : decode cX2_lookup 2 = .ok (.putfield 25, 3) := by decide +kernel
theorem dX2_lookup_5 : decode cX2_lookup 5 = .ok (.aload_n 0, 1) := by decide +kernel
theorem dX2_lookup_6 : decode cX2_lookup 6 = .ok (.iload_n 1, 1) := by decide +kernel
theorem dX2_lookup_7 : decode cX2_lookup 7 = .ok (.invokevirtual 52, 3) := by decide +kernel
theorem dX2_lookup_10 : decode cX2_lookup 10 = .ok (.istore_n 2, 1) := by decide +kernel
theorem dX2_lookup_11 : decode cX2_lookup 11 = .ok (.iload_n 2, 1) := by decide +kernel
theorem dX2_lookup_12 : decode cX2_lookup 12 = .ok (.iconst (-1), 1) := by decide +kernel
theorem dX2_lookup_13 : decode cX2_lookup 13 = .ok (.if_icmp .ne 7, 3) := by decide +kernel
theorem dX2_lookup_16 : decode cX2_lookup 16 = .ok (.iconst (-1), 1) := by decide +kernel
theorem dX2_lookup_17 : decode cX2_lookup 17 = .ok (.goto 9, 3) := by decide +kernel
theorem dX2_lookup_20 : decode cX2_lookup 20 = .ok (.aload_n 0, 1) := by decide +kernel
theorem dX2_lookup_21 : decode cX2_lookup 21 = .ok (.getfield 16, 3) := by decide +kernel
theorem dX2_lookup_24 : decode cX2_lookup 24 = .ok (.iload_n 2, 1) := by decide +kernel
theorem dX2_lookup_25 : decode cX2_lookup 25 = .ok (.iaload, 1) := by decide +kernel
theorem dX2_lookup_26 : decode cX2_lookup 26 = .ok (.ireturn, 1) := by decide +kernel
set_option maxRecDepth 20000 in
theorem ggX2_lookupLen_X2_longest : GoodIn wsX2_lookupLen wsX2_longest := goodIn_r _ [7, 8, 9, 2, 10, 11, 6, 12, 13, 14, 15, 16, 17, 18, 19, 20, 21, 22, 23] (by decide +kernel) (by decide +kernel)
set_option maxRecDepth 20000 in
theorem gX2_lookupLen_X2_longest : GoodIn wsX2_lookupLen (wsV RX2 52 RX2 yX2_longest wsX2_longest) := goodIn_app (goodIn_of _ (by decide +kernel)) ggX2_lookupLen_X2_longest
theorem dX2_lookupLen_0 : decode cX2_lookupLen 0 = .ok (.aload_n 0, 1) := by decide +kernel
theorem dX2_lookupLen_1 : decode cX2_lookupLen 1 = .ok (.iconst 0, 1) := by decide +kernel
theorem dX2_lookupLen_2 : decode cX2_lookupLen 2 = .ok (.putfield 25, 3) := by decide +kernel
theorem dX2_lookupLen_5 : decode cX2_lookupLen 5 = .ok (.aload_n 0, 1) := by decide +kernel
theorem dX2_lookupLen_6 : decode cX2_lookupLen 6 = .ok (.iload_n 1, 1) := by decide +kernel
theorem dX2_lookupLen_7 : decode cX2_lookupLen 7 = .ok (.invokevirtual 52, 3) := by decide +kernel
theorem dX2_lookupLen_10 : decode cX2_lookupLen 10 = .ok (.istore_n 2, 1) := by decide +kernel
theorem dX2_lookupLen_11 : decode cX2_lookupLen 11 = .ok (.iload_n 2, 1) := by decide +kernel
theorem dX2_lookupLen_12 : decode cX2_lookupLen 12 = .ok (.iconst (-1), 1) := by decide +kernel
theorem dX2_lookupLen_13 : decode cX2_lookupLen 13 = .ok (.if_icmp .ne 7, 3) := by decide +kernel
theorem dX2_lookupLen_16 : decode cX2_lookupLen 16 = .ok (.iconst (-1), 1) := by decide +kernel
theorem dX2_lookupLen_17 : decode cX2_lookupLen 17 = .ok (.goto 9, 3) := by decide +kernel
theorem dX2_lookupLen_20 : decode cX2_lookupLen 20 = .ok (.aload_n 0, 1) := by decide +kernel
theorem dX2_lookupLen_21 : decode cX2_lookupLen 21 = .ok (.getfield 13, 3) := by decide +kernel
theorem dX2_lookupLen_24 : decode cX2_lookupLen 24 = .ok (.iload_n 2, 1) := by decide +kernel
theorem dX2_lookupLen_25 : decode cX2_lookupLen 25 = .ok (.iaload, 1) := by decide +kernel
theorem dX2_lookupLen_26 : decode cX2_lookupLen 26 = .ok (.ireturn, 1) := by decide +kernel
set_option maxRecDepth 20000 in
theorem ggX2_exact_X2_find : GoodIn wsX2_exact wsX2_find := goodIn_r _ [7, 8, 9, 10, 11, 12, 13, 14, 15, 16, 17, 18] (by decide +kernel) (by decide +kernel)
set_option maxRecDepth 20000 in
theorem gX2_exact_X2_find : GoodIn wsX2_exact (wsV RX2 41 RX2 yX2_find wsX2_find) := goodIn_app (goodIn_of _ (by decide +kernel)) ggX2_exact_X2_find
theorem dX2_exact_0 : decode cX2_exact 0 = .ok (.aload_n 0, 1) := by decide +kernel
theorem dX2_exact_1 : decode cX2_exact 1 = .ok (.iconst 0, 1) := by decide +kernel
theorem dX2_exact_2 : decode cX2_exact 2 = .ok (.putfield 25, 3) := by decide +kernel
theorem dX2_exact_5 : decode cX2_exact 5 = .ok (.aload_n 0, 1) := by decide +kernel
theorem dX2_exact_6 : decode cX2_exact 6 = .ok (.iload_n 1, 1) := by decide +kernel
theorem dX2_exact_7 : decode cX2_exact 7 = .ok (.iload_n 2, 1) := by decide +kernel
theorem dX2_exact_8 : decode cX2_exact 8 = .ok (.invokevirtual 41, 3) := by decide +kernel
theorem dX2_exact_11 : decode cX2_exact 11 = .ok (.istore_n 3, 1) := by decide +kernel
theorem dX2_exact_12 : decode cX2_exact 12 = .ok (.iload_n 3, 1) := by decide +kernel
theorem dX2_exact_13 : decode cX2_exact 13 = .ok (.iconst (-1), 1) := by decide +kernel
theorem dX2_exact_14 : decode cX2_exact 14 = .ok (.if_icmp .ne 7, 3) := by decide +kernel
theorem dX2_exact_17 : decode cX2_exact 17 = .ok (.iconst (-1), 1) := by decide +kernel
theorem dX2_exact_18 : decode cX2_exact 18 = .ok (.goto 9, 3) := by decide +kernel
theorem dX2_exact_21 : decode cX2_exact 21 = .ok (.aload_n 0, 1) := by decide +kernel
theorem dX2_exact_22 : decode cX2_exact 22 = .ok (.getfield 16, 3) := by decide +kernel
theorem dX2_exact_25 : decode cX2_exact 25 = .ok (.iload_n 3, 1) := by decide +kernel
theorem dX2_exact_26 : decode cX2_exact 26 = .ok (.iaload, 1) := by decide +kernel
theorem dX2_exact_27 : decode cX2_exact 27 = .ok (.ireturn, 1) := by decide +kernel
set_option maxRecDepth 20000 in
theorem ggX2_under_X2_isPrefix : GoodIn wsX2_under wsX2_isPrefix := goodIn_r _ [8, 9, 10, 7, 11] (by decide +kernel) (by decide +kernel)
set_option maxRecDepth 20000 in
theorem gX2_under_X2_isPrefix : GoodIn wsX2_under (va_wsS RX2 37 yX2_isPrefix wsX2_isPrefix) := goodIn_app (goodIn_of _ (by decide +kernel)) ggX2_under_X2_isPrefix
set_option maxRecDepth 20000 in
theorem ggX2_under_X2_begins : GoodIn wsX2_under wsX2_begins := goodIn_r _ [14, 9, 10, 7, 11] (by decide +kernel) (by decide +kernel)
set_option maxRecDepth 20000 in
theorem gX2_under_X2_begins : GoodIn wsX2_under (va_wsS RX2 49 yX2_begins wsX2_begins) := goodIn_app (goodIn_of _ (by decide +kernel)) ggX2_under_X2_begins
theorem dX2_under_0 : decode cX2_under 0 = .ok (.aload_n 0, 1) := by decide +kernel
theorem dX2_under_1 : decode cX2_under 1 = .ok (.iconst 0, 1) := by decide +kernel
theorem dX2_under_2 : decode cX2_under 2 = .ok (.putfield 25, 3) := by decide +kernel
theorem dX2_under_5 : decode cX2_under 5 = .ok (.iload_n 1, 1) := by decide +kernel
theorem dX2_under_6 : decode cX2_under 6 = .ok (.iload_n 2, 1) := by decide +kernel
theorem dX2_under_7 : decode cX2_under 7 = .ok (.invokestatic 37, 3) := by decide +kernel
theorem dX2_under_10 : decode cX2_under 10 = .ok (.ifCond .ne 5, 3) := by decide +kernel
theorem dX2_under_13 : decode cX2_under 13 = .ok (.iconst (-1), 1) := by decide +kernel
theorem dX2_under_14 : decode cX2_under 14 = .ok (.ireturn, 1) := by decide +kernel
theorem dX2_under_15 : decode cX2_under 15 = .ok (.iconst 0, 1) := by decide +kernel
theorem dX2_under_16 : decode cX2_under 16 = .ok (.istore_n 3, 1) := by decide +kernel
theorem dX2_under_17 : decode cX2_under 17 = .ok (.iconst 0, 1) := by decide +kernel
theorem dX2_under_18 : decode cX2_under 18 = .ok (.istore 4, 2) := by decide +kernel
theorem dX2_under_20 : decode cX2_under 20 = .ok (.iload 4, 2) := by decide +kernel
theorem dX2_under_22 : decode cX2_under 22 = .ok (.aload_n 0, 1) := by decide +kernel
theorem dX2_under_23 : decode cX2_under 23 = .ok (.getfield 29, 3) := by decide +kernel
theorem dX2_under_26 : decode cX2_under 26 = .ok (.if_icmp .ge 43, 3) := by decide +kernel
theorem dX2_under_29 : decode cX2_under 29 = .ok (.iload_n 3, 1) := by decide +kernel
theorem dX2_under_30 : decode cX2_under 30 = .ok (.aload_n 0, 1) := by decide +kernel
theorem dX2_under_31 : decode cX2_under 31 = .ok (.getfield 13, 3) := by decide +kernel
theorem dX2_under_34 : decode cX2_under 34 = .ok (.iload 4, 2) := by decide +kernel
theorem dX2_under_36 : decode cX2_under 36 = .ok (.iaload, 1) := by decide +kernel
theorem dX2_under_37 : decode cX2_under 37 = .ok (.iload_n 2, 1) := by decide +kernel
theorem dX2_under_38 : decode cX2_under 38 = .ok (.if_icmp .lt 22, 3) := by decide +kernel
theorem dX2_under_41 : decode cX2_under 41 = .ok (.aload_n 0, 1) := by decide +kernel
theorem dX2_under_42 : decode cX2_under 42 = .ok (.getfield 7, 3) := by decide +kernel
theorem dX2_under_45 : decode cX2_under 45 = .ok (.iload 4, 2) := by decide +kernel
theorem dX2_under_47 : decode cX2_under 47 = .ok (.iaload, 1) := by decide +kernel
theorem dX2_under_48 : decode cX2_under 48 = .ok (.iload_n 1, 1) := by decide +kernel
theorem dX2_under_49 : decode cX2_under 49 = .ok (.iload_n 2, 1) := by decide +kernel
theorem dX2_under_50 : decode cX2_under 50 = .ok (.invokestatic 49, 3) := by decide +kernel
theorem dX2_under_53 : decode cX2_under 53 = .ok (.ifCond .eq 7, 3) := by decide +kernel
theorem dX2_under_56 : decode cX2_under 56 = .ok (.iconst 1, 1) := by decide +kernel
theorem dX2_under_57 : decode cX2_under 57 = .ok (.goto 4, 3) := by decide +kernel
theorem dX2_under_60 : decode cX2_under 60 = .ok (.iconst 0, 1) := by decide +kernel
theorem dX2_under_61 : decode cX2_under 61 = .ok (.iadd, 1) := by decide +kernel
theorem dX2_under_62 : decode cX2_under 62 = .ok (.istore_n 3, 1) := by decide +kernel
theorem dX2_under_63 : decode cX2_under 63 = .ok (.iinc 4 1, 3) := by decide +kernel
theorem dX2_under_66 : decode cX2_under 66 = .ok (.goto (-46), 3) := by decide +kernel
theorem dX2_under_69 : decode cX2_under 69 = .ok (.iload_n 3, 1) := by decide +kernel
theorem dX2_under_70 : decode cX2_under 70 = .ok (.ireturn, 1) := by decide +kernel
theorem dX2_route_0 : decode cX2_route 0 = .ok (.aload_n 0, 1) := by decide +kernel
theorem dX2_route_1 : decode cX2_route 1 = .ok (.iconst 0, 1) := by decide +kernel
theorem dX2_route_2 : decode cX2_route 2 = .ok (.putfield 25, 3) := by decide +kernel
theorem dX2_route_5 : decode cX2_route 5 = .ok (.iload_n 1, 1) := by decide +kernel
theorem dX2_route_6 : decode cX2_route 6 = .ok (.ifCond .lt 11, 3) := by decide +kernel
theorem dX2_route_9 : decode cX2_route 9 = .ok (.iload_n 1, 1) := by decide +kernel
theorem dX2_route_10 : decode cX2_route 10 = .ok (.aload_n 0, 1) := by decide +kernel
theorem dX2_route_11 : decode cX2_route 11 = .ok (.getfield 29, 3) := by decide +kernel
theorem dX2_route_14 : decode cX2_route 14 = .ok (.if_icmp .lt 5, 3) := by decide +kernel
theorem dX2_route_17 : decode cX2_route 17 = .ok (.iconst 0, 1) := by decide +kernel
theorem dX2_route_18 : decode cX2_route 18 = .ok (.ireturn, 1) := by decide +kernel
theorem dX2_route_19 : decode cX2_route 19 = .ok (.iload_n 2, 1) := by decide +kernel
theorem dX2_route_20 : decode cX2_route 20 = .ok (.ifCond .ne 12, 3) := by decide +kernel
theorem dX2_route_23 : decode cX2_route 23 = .ok (.aload_n 0, 1) := by decide +kernel
theorem dX2_route_24 : decode cX2_route 24 = .ok (.getfield 7, 3) := by decide +kernel
theorem dX2_route_27 : decode cX2_route 27 = .ok (.iload_n 1, 1) := by decide +kernel
theorem dX2_route_28 : decode cX2_route 28 = .ok (.iaload, 1) := by decide +kernel
theorem dX2_route_29 : decode cX2_route 29 = .ok (.goto 32, 3) := by decide +kernel
theorem dX2_route_32 : decode cX2_route 32 = .ok (.iload_n 2, 1) := by decide +kernel
theorem dX2_route_33 : decode cX2_route 33 = .ok (.iconst 1, 1) := by decide +kernel
theorem dX2_route_34 : decode cX2_route 34 = .ok (.if_icmp .ne 12, 3) := by decide +kernel
theorem dX2_route_37 : decode cX2_route 37 = .ok (.aload_n 0, 1) := by decide +kernel
theorem dX2_route_38 : decode cX2_route 38 = .ok (.getfield 13, 3) := by decide +kernel
theorem dX2_route_41 : decode cX2_route 41 = .ok (.iload_n 1, 1) := by decide +kernel
theorem dX2_route_42 : decode cX2_route 42 = .ok (.iaload, 1) := by decide +kernel
theorem dX2_route_43 : decode cX2_route 43 = .ok (.goto 18, 3) := by decide +kernel
theorem dX2_route_46 : decode cX2_route 46 = .ok (.iload_n 2, 1) := by decide +kernel
theorem dX2_route_47 : decode cX2_route 47 = .ok (.iconst 2, 1) := by decide +kernel
theorem dX2_route_48 : decode cX2_route 48 = .ok (.if_icmp .ne 12, 3) := by decide +kernel
theorem dX2_route_51 : decode cX2_route 51 = .ok (.aload_n 0, 1) := by decide +kernel
theorem dX2_route_52 : decode cX2_route 52 = .ok (.getfield 16, 3) := by decide +kernel
theorem dX2_route_55 : decode cX2_route 55 = .ok (.iload_n 1, 1) := by decide +kernel
theorem dX2_route_56 : decode cX2_route 56 = .ok (.iaload, 1) := by decide +kernel
theorem dX2_route_57 : decode cX2_route 57 = .ok (.goto 4, 3) := by decide +kernel
theorem dX2_route_60 : decode cX2_route 60 = .ok (.iconst 0, 1) := by decide +kernel
theorem dX2_route_61 : decode cX2_route 61 = .ok (.ireturn, 1) := by decide +kernel
theorem dX2_count_0 : decode cX2_count 0 = .ok (.aload_n 0, 1) := by decide +kernel
theorem dX2_count_1 : decode cX2_count 1 = .ok (.iconst 0, 1) := by decide +kernel
theorem dX2_count_2 : decode cX2_count 2 = .ok (.putfield 25, 3) := by decide +kernel
theorem dX2_count_5 : decode cX2_count 5 = .ok (.aload_n 0, 1) := by decide +kernel
theorem dX2_count_6 : decode cX2_count 6 = .ok (.getfield 29, 3) := by decide +kernel
theorem dX2_count_9 : decode cX2_count 9 = .ok (.ireturn, 1) := by decide +kernel
theorem dX2_add_0 : decode cX2_add 0 = .ok (.iload_n 2, 1) := by decide +kernel
theorem dX2_add_1 : decode cX2_add 1 = .ok (.ifCond .ne 4, 3) := by decide +kernel
theorem dX2_add_4 : decode cX2_add 4 = .ok (.return_, 1) := by decide +kernel
theorem dX2_add_5 : decode cX2_add 5 = .ok (.iconst 0, 1) := by decide +kernel
theorem dX2_add_6 : decode cX2_add 6 = .ok (.istore_n 3, 1) := by decide +kernel
theorem dX2_add_7 : decode cX2_add 7 = .ok (.iload_n 3, 1) := by decide +kernel
theorem dX2_add_8 : decode cX2_add 8 = .ok (.aload_n 0, 1) := by decide +kernel
theorem dX2_add_9 : decode cX2_add 9 = .ok (.getfield 55, 3) := by decide +kernel
theorem dX2_add_12 : decode cX2_add 12 = .ok (.if_icmp .ge 30, 3) := by decide +kernel
theorem dX2_add_15 : decode cX2_add 15 = .ok (.aload_n 0, 1) := by decide +kernel
theorem dX2_add_16 : decode cX2_add 16 = .ok (.getfield 19, 3) := by decide +kernel
theorem dX2_add_19 : decode cX2_add 19 = .ok (.iload_n 3, 1) := by decide +kernel
theorem dX2_add_20 : decode cX2_add 20 = .ok (.iaload, 1) := by decide +kernel
theorem dX2_add_21 : decode cX2_add 21 = .ok (.iload_n 1, 1) := by decide +kernel
theorem dX2_add_22 : decode cX2_add 22 = .ok (.if_icmp .ne 14, 3) := by decide +kernel
theorem dX2_add_25 : decode cX2_add 25 = .ok (.aload_n 0, 1) := by decide +kernel
theorem dX2_add_26 : decode cX2_add 26 = .ok (.getfield 22, 3) := by decide +kernel
theorem dX2_add_29 : decode cX2_add 29 = .ok (.iload_n 3, 1) := by decide +kernel
theorem dX2_add_30 : decode cX2_add 30 = .ok (.iaload, 1) := by decide +kernel
theorem dX2_add_31 : decode cX2_add 31 = .ok (.iload_n 2, 1) := by decide +kernel
theorem dX2_add_32 : decode cX2_add 32 = .ok (.if_icmp .ne 4, 3) := by decide +kernel
theorem dX2_add_35 : decode cX2_add 35 = .ok (.return_, 1) := by decide +kernel
theorem dX2_add_36 : decode cX2_add 36 = .ok (.iinc 3 1, 3) := by decide +kernel
theorem dX2_add_39 : decode cX2_add 39 = .ok (.goto (-32), 3) := by decide +kernel
theorem dX2_add_42 : decode cX2_add 42 = .ok (.aload_n 0, 1) := by decide +kernel
theorem dX2_add_43 : decode cX2_add 43 = .ok (.getfield 19, 3) := by decide +kernel
theorem dX2_add_46 : decode cX2_add 46 = .ok (.aload_n 0, 1) := by decide +kernel
theorem dX2_add_47 : decode cX2_add 47 = .ok (.getfield 55, 3) := by decide +kernel
theorem dX2_add_50 : decode cX2_add 50 = .ok (.iload_n 1, 1) := by decide +kernel
theorem dX2_add_51 : decode cX2_add 51 = .ok (.iastore, 1) := by decide +kernel
theorem dX2_add_52 : decode cX2_add 52 = .ok (.aload_n 0, 1) := by decide +kernel
theorem dX2_add_53 : decode cX2_add 53 = .ok (.getfield 22, 3) := by decide +kernel
theorem dX2_add_56 : decode cX2_add 56 = .ok (.aload_n 0, 1) := by decide +kernel
theorem dX2_add_57 : decode cX2_add 57 = .ok (.getfield 55, 3) := by decide +kernel
theorem dX2_add_60 : decode cX2_add 60 = .ok (.iload_n 2, 1) := by decide +kernel
theorem dX2_add_61 : decode cX2_add 61 = .ok (.iastore, 1) := by decide +kernel
theorem dX2_add_62 : decode cX2_add 62 = .ok (.aload_n 0, 1) := by decide +kernel
theorem dX2_add_63 : decode cX2_add 63 = .ok (.dup, 1) := by decide +kernel
theorem dX2_add_64 : decode cX2_add 64 = .ok (.getfield 55, 3) := by decide +kernel
theorem dX2_add_67 : decode cX2_add 67 = .ok (.iconst 1, 1) := by decide +kernel
theorem dX2_add_68 : decode cX2_add 68 = .ok (.iadd, 1) := by decide +kernel
theorem dX2_add_69 : decode cX2_add 69 = .ok (.putfield 55, 3) := by decide +kernel
theorem dX2_add_72 : decode cX2_add 72 = .ok (.return_, 1) := by decide +kernel
set_option maxRecDepth 20000 in
theorem ggX2_findNodes_X2_add : GoodIn wsX2_findNodes wsX2_add := goodIn_r _ [9, 1, 10, 11, 15, 16, 17, 18, 19, 20, 21, 22] (by decide +kernel) (by decide +kernel)
set_option maxRecDepth 20000 in
theorem gX2_findNodes_X2_add : GoodIn wsX2_findNodes (wsV RX2 58 RX2 yX2_add wsX2_add) := goodIn_app (goodIn_of _ (by decide +kernel)) ggX2_findNodes_X2_add
set_option maxRecDepth 20000 in
theorem ggX2_findNodes_X2_mask : GoodIn wsX2_findNodes wsX2_mask := goodIn_r _ [14] (by decide +kernel) (by decide +kernel)
set_option maxRecDepth 20000 in
theorem gX2_findNodes_X2_mask : GoodIn wsX2_findNodes (va_wsS RX2 32 yX2_mask wsX2_mask) := goodIn_app (goodIn_of _ (by decide +kernel)) ggX2_findNodes_X2_mask
theorem dX2_findNodes_0 : decode cX2_findNodes 0 = .ok (.aload_n 0, 1) := by decide +kernel
theorem dX2_findNodes_1 : decode cX2_findNodes 1 = .ok (.iconst 0, 1) := by decide +kernel
theorem dX2_findNodes_2 : decode cX2_findNodes 2 = .ok (.putfield 55, 3) := by decide +kernel
theorem dX2_findNodes_5 : decode cX2_findNodes 5 = .ok (.iconst 0, 1) := by decide +kernel
theorem dX2_findNodes_6 : decode cX2_findNodes 6 = .ok (.istore_n 1, 1) := by decide +kernel
theorem dX2_findNodes_7 : decode cX2_findNodes 7 = .ok (.iload_n 1, 1) := by decide +kernel
theorem dX2_findNodes_8 : decode cX2_findNodes 8 = .ok (.aload_n 0, 1) := by decide +kernel
theorem dX2_findNodes_9 : decode cX2_findNodes 9 = .ok (.getfield 29, 3) := by decide +kernel
theorem dX2_findNodes_12 : decode cX2_findNodes 12 = .ok (.if_icmp .ge 25, 3) := by decide +kernel
theorem dX2_findNodes_15 : decode cX2_findNodes 15 = .ok (.aload_n 0, 1) := by decide +kernel
theorem dX2_findNodes_16 : decode cX2_findNodes 16 = .ok (.aload_n 0, 1) := by decide +kernel
theorem dX2_findNodes_17 : decode cX2_findNodes 17 = .ok (.getfield 7, 3) := by decide +kernel
theorem dX2_findNodes_20 : decode cX2_findNodes 20 = .ok (.iload_n 1, 1) := by decide +kernel
theorem dX2_findNodes_21 : decode cX2_findNodes 21 = .ok (.iaload, 1) := by decide +kernel
theorem dX2_findNodes_22 : decode cX2_findNodes 22 = .ok (.aload_n 0, 1) := by decide +kernel
theorem dX2_findNodes_23 : decode cX2_findNodes 23 = .ok (.getfield 13, 3) := by decide +kernel
theorem dX2_findNodes_26 : decode cX2_findNodes 26 = .ok (.iload_n 1, 1) := by decide +kernel
theorem dX2_findNodes_27 : decode cX2_findNodes 27 = .ok (.iaload, 1) := by decide +kernel
theorem dX2_findNodes_28 : decode cX2_findNodes 28 = .ok (.invokevirtual 58, 3) := by decide +kernel
theorem dX2_findNodes_31 : decode cX2_findNodes 31 = .ok (.iinc 1 1, 3) := by decide +kernel
theorem dX2_findNodes_34 : decode cX2_findNodes 34 = .ok (.goto (-27), 3) := by decide +kernel
theorem dX2_findNodes_37 : decode cX2_findNodes 37 = .ok (.iconst 1, 1) := by decide +kernel
theorem dX2_findNodes_38 : decode cX2_findNodes 38 = .ok (.istore_n 1, 1) := by decide +kernel
theorem dX2_findNodes_39 : decode cX2_findNodes 39 = .ok (.iload_n 1, 1) := by decide +kernel
theorem dX2_findNodes_40 : decode cX2_findNodes 40 = .ok (.aload_n 0, 1) := by decide +kernel
theorem dX2_findNodes_41 : decode cX2_findNodes 41 = .ok (.getfield 29, 3) := by decide +kernel
theorem dX2_findNodes_44 : decode cX2_findNodes 44 = .ok (.if_icmp .ge 104, 3) := by decide +kernel
theorem dX2_findNodes_47 : decode cX2_findNodes 47 = .ok (.aload_n 0, 1) := by decide +kernel
theorem dX2_findNodes_48 : decode cX2_findNodes 48 = .ok (.getfield 13, 3) := by decide +kernel
theorem dX2_findNodes_51 : decode cX2_findNodes 51 = .ok (.iload_n 1, 1) := by decide +kernel
theorem dX2_findNodes_52 : decode cX2_findNodes 52 = .ok (.iaload, 1) := by decide +kernel
theorem dX2_findNodes_53 : decode cX2_findNodes 53 = .ok (.aload_n 0, 1) := by decide +kernel
theorem dX2_findNodes_54 : decode cX2_findNodes 54 = .ok (.getfield 13, 3) := by decide +kernel
theorem dX2_findNodes_57 : decode cX2_findNodes 57 = .ok (.iload_n 1, 1) := by decide +kernel
theorem dX2_findNodes_58 : decode cX2_findNodes 58 = .ok (.iconst 1, 1) := by decide +kernel
theorem dX2_findNodes_59 : decode cX2_findNodes 59 = .ok (.isub, 1) := by decide +kernel
theorem dX2_findNodes_60 : decode cX2_findNodes 60 = .ok (.iaload, 1) := by decide +kernel
theorem dX2_findNodes_61 : decode cX2_findNodes 61 = .ok (.if_icmp .ge 12, 3) := by decide +kernel
theorem dX2_findNodes_64 : decode cX2_findNodes 64 = .ok (.aload_n 0, 1) := by decide +kernel
theorem dX2_findNodes_65 : decode cX2_findNodes 65 = .ok (.getfield 13, 3) := by decide +kernel
theorem dX2_findNodes_68 : decode cX2_findNodes 68 = .ok (.iload_n 1, 1) := by decide +kernel
theorem dX2_findNodes_69 : decode cX2_findNodes 69 = .ok (.iaload, 1) := by decide +kernel
theorem dX2_findNodes_70 : decode cX2_findNodes 70 = .ok (.goto 11, 3) := by decide +kernel
theorem dX2_findNodes_73 : decode cX2_findNodes 73 = .ok (.aload_n 0, 1) := by decide +kernel
theorem dX2_findNodes_74 : decode cX2_findNodes 74 = .ok (.getfield 13, 3) := by decide +kernel
theorem dX2_findNodes_77 : decode cX2_findNodes 77 = .ok (.iload_n 1, 1) := by decide +kernel
theorem dX2_findNodes_78 : decode cX2_findNodes 78 = .ok (.iconst 1, 1) := by decide +kernel
theorem dX2_findNodes_79 : decode cX2_findNodes 79 = .ok (.isub, 1) := by decide +kernel
theorem dX2_findNodes_80 : decode cX2_findNodes 80 = .ok (.iaload, 1) := by decide +kernel
theorem dX2_findNodes_81 : decode cX2_findNodes 81 = .ok (.istore_n 2, 1) := by decide +kernel
theorem dX2_findNodes_82 : decode cX2_findNodes 82 = .ok (.iconst 0, 1) := by decide +kernel
theorem dX2_findNodes_83 : decode cX2_findNodes 83 = .ok (.istore_n 3, 1) := by decide +kernel
theorem dX2_findNodes_84 : decode cX2_findNodes 84 = .ok (.iload_n 3, 1) := by decide +kernel
theorem dX2_findNodes_85 : decode cX2_findNodes 85 = .ok (.iload_n 2, 1) := by decide +kernel
theorem dX2_findNodes_86 : decode cX2_findNodes 86 = .ok (.if_icmp .ge 40, 3) := by decide +kernel
theorem dX2_findNodes_89 : decode cX2_findNodes 89 = .ok (.aload_n 0, 1) := by decide +kernel
theorem dX2_findNodes_90 : decode cX2_findNodes 90 = .ok (.getfield 7, 3) := by decide +kernel
theorem dX2_findNodes_93 : decode cX2_findNodes 93 = .ok (.iload_n 1, 1) := by decide +kernel
theorem dX2_findNodes_94 : decode cX2_findNodes 94 = .ok (.iaload, 1) := by decide +kernel
theorem dX2_findNodes_95 : decode cX2_findNodes 95 = .ok (.bipush 31, 2) := by decide +kernel
theorem dX2_findNodes_97 : decode cX2_findNodes 97 = .ok (.iload_n 3, 1) := by decide +kernel
theorem dX2_findNodes_98 : decode cX2_findNodes 98 = .ok (.isub, 1) := by decide +kernel
theorem dX2_findNodes_99 : decode cX2_findNodes 99 = .ok (.iushr, 1) := by decide +kernel
theorem dX2_findNodes_100 : decode cX2_findNodes 100 = .ok (.iconst 1, 1) := by decide +kernel
theorem dX2_findNodes_101 : decode cX2_findNodes 101 = .ok (.iand, 1) := by decide +kernel
theorem dX2_findNodes_102 : decode cX2_findNodes 102 = .ok (.aload_n 0, 1) := by decide +kernel
theorem dX2_findNodes_103 : decode cX2_findNodes 103 = .ok (.getfield 7, 3) := by decide +kernel
theorem dX2_findNodes_106 : decode cX2_findNodes 106 = .ok (.iload_n 1, 1) := by decide +kernel
theorem dX2_findNodes_107 : decode cX2_findNodes 107 = .ok (.iconst 1, 1) := by decide +kernel
theorem dX2_findNodes_108 : decode cX2_findNodes 108 = .ok (.isub, 1) := by decide +kernel
theorem dX2_findNodes_109 : decode cX2_findNodes 109 = .ok (.iaload, 1) := by decide +kernel
theorem dX2_findNodes_110 : decode cX2_findNodes 110 = .ok (.bipush 31, 2) := by decide +kernel
theorem dX2_findNodes_112 : decode cX2_findNodes 112 = .ok (.iload_n 3, 1) := by decide +kernel
theorem dX2_findNodes_113 : decode cX2_findNodes 113 = .ok (.isub, 1) := by decide +kernel
theorem dX2_findNodes_114 : decode cX2_findNodes 114 = .ok (.iushr, 1) := by decide +kernel
theorem dX2_findNodes_115 : decode cX2_findNodes 115 = .ok (.iconst 1, 1) := by decide +kernel
theorem dX2_findNodes_116 : decode cX2_findNodes 116 = .ok (.iand, 1) := by decide +kernel
theorem dX2_findNodes_117 : decode cX2_findNodes 117 = .ok (.if_icmp .ne 9, 3) := by decide +kernel
theorem dX2_findNodes_120 : decode cX2_findNodes 120 = .ok (.iinc 3 1, 3) := by decide +kernel
theorem dX2_findNodes_123 : decode cX2_findNodes 123 = .ok (.goto (-39), 3) := by decide +kernel
theorem dX2_findNodes_126 : decode cX2_findNodes 126 = .ok (.aload_n 0, 1) := by decide +kernel
theorem dX2_findNodes_127 : decode cX2_findNodes 127 = .ok (.aload_n 0, 1) := by decide +kernel
theorem dX2_findNodes_128 : decode cX2_findNodes 128 = .ok (.getfield 7, 3) := by decide +kernel
theorem dX2_findNodes_131 : decode cX2_findNodes 131 = .ok (.iload_n 1, 1) := by decide +kernel
theorem dX2_findNodes_132 : decode cX2_findNodes 132 = .ok (.iaload, 1) := by decide +kernel
theorem dX2_findNodes_133 : decode cX2_findNodes 133 = .ok (.iload_n 3, 1) := by decide +kernel
theorem dX2_findNodes_134 : decode cX2_findNodes 134 = .ok (.invokestatic 32, 3) := by decide +kernel
theorem dX2_findNodes_137 : decode cX2_findNodes 137 = .ok (.iand, 1) := by decide +kernel
theorem dX2_findNodes_138 : decode cX2_findNodes 138 = .ok (.iload_n 3, 1) := by decide +kernel
theorem dX2_findNodes_139 : decode cX2_findNodes 139 = .ok (.invokevirtual 58, 3) := by decide +kernel
theorem dX2_findNodes_142 : decode cX2_findNodes 142 = .ok (.iinc 1 1, 3) := by decide +kernel
theorem dX2_findNodes_145 : decode cX2_findNodes 145 = .ok (.goto (-106), 3) := by decide +kernel
theorem dX2_findNodes_148 : decode cX2_findNodes 148 = .ok (.return_, 1) := by decide +kernel
set_option maxRecDepth 20000 in
theorem ggX2_nodes_X2_findNodes : GoodIn wsX2_nodes wsX2_findNodes := goodIn_r _ [7, 2, 8, 9, 10, 11, 12, 13, 6, 14, 15, 16, 17, 18, 19, 20, 21, 22, 23, 24, 25, 26, 27] (by decide +kernel) (by decide +kernel)
set_option maxRecDepth 20000 in
theorem gX2_nodes_X2_findNodes : GoodIn wsX2_nodes (wsV RX2 62 RX2 yX2_findNodes wsX2_findNodes) := goodIn_app (goodIn_of _ (by decide +kernel)) ggX2_nodes_X2_findNodes
theorem dX2_nodes_0 : decode cX2_nodes 0 = .ok (.aload_n 0, 1) := by decide +kernel
theorem dX2_nodes_1 : decode cX2_nodes 1 = .ok (.iconst 0, 1) := by decide +kernel
theorem dX2_nodes_2 : decode cX2_nodes 2 = .ok (.putfield 25, 3) := by decide +kernel
theorem dX2_nodes_5 : decode cX2_nodes 5 = .ok (.aload_n 0, 1) := by decide +kernel
theorem dX2_nodes_6 : decode cX2_nodes 6 = .ok (.invokevirtual 62, 3) := by decide +kernel
theorem dX2_nodes_9 : decode cX2_nodes 9 = .ok (.iconst 1, 1) := by decide +kernel
theorem dX2_nodes_10 : decode cX2_nodes 10 = .ok (.aload_n 0, 1) := by decide +kernel
theorem dX2_nodes_11 : decode cX2_nodes 11 = .ok (.getfield 55, 3) := by decide +kernel
theorem dX2_nodes_14 : decode cX2_nodes 14 = .ok (.iadd, 1) := by decide +kernel
theorem dX2_nodes_15 : decode cX2_nodes 15 = .ok (.ireturn, 1) := by decide +kernel
set_option maxRecDepth 20000 in
theorem ggX2_depth_X2_findNodes : GoodIn wsX2_depth wsX2_findNodes := goodIn_r _ [9, 2, 10, 11, 12, 13, 14, 15, 8, 16, 3, 4, 17, 18, 19, 23, 24, 25, 26, 27, 28, 29, 30] (by decide +kernel) (by decide +kernel)
set_option maxRecDepth 20000 in
theorem gX2_depth_X2_findNodes : GoodIn wsX2_depth (wsV RX2 62 RX2 yX2_findNodes wsX2_findNodes) := goodIn_app (goodIn_of _ (by decide +kernel)) ggX2_depth_X2_findNodes
set_option maxRecDepth 20000 in
theorem ggX2_depth_X2_begins : GoodIn wsX2_depth wsX2_begins := goodIn_r _ [22, 17, 18, 8, 19] (by decide +kernel) (by decide +kernel)
set_option maxRecDepth 20000 in
theorem gX2_depth_X2_begins : GoodIn wsX2_depth (va_wsS RX2 49 yX2_begins wsX2_begins) := goodIn_app (goodIn_of _ (by decide +kernel)) ggX2_depth_X2_begins
theorem dX2_depth_0 : decode cX2_depth 0 = .ok (.aload_n 0, 1) := by decide +kernel
theorem dX2_depth_1 : decode cX2_depth 1 = .ok (.iconst 0, 1) := by decide +kernel
theorem dX2_depth_2 : decode cX2_depth 2 = .ok (.putfield 25, 3) := by decide +kernel
theorem dX2_depth_5 : decode cX2_depth 5 = .ok (.aload_n 0, 1) := by decide +kernel
theorem dX2_depth_6 : decode cX2_depth 6 = .ok (.invokevirtual 62, 3) := by decide +kernel
theorem dX2_depth_9 : decode cX2_depth 9 = .ok (.iconst 1, 1) := by decide +kernel
theorem dX2_depth_10 : decode cX2_depth 10 = .ok (.istore_n 2, 1) := by decide +kernel
theorem dX2_depth_11 : decode cX2_depth 11 = .ok (.iconst 0, 1) := by decide +kernel
theorem dX2_depth_12 : decode cX2_depth 12 = .ok (.istore_n 3, 1) := by decide +kernel
theorem dX2_depth_13 : decode cX2_depth 13 = .ok (.iload_n 3, 1) := by decide +kernel
theorem dX2_depth_14 : decode cX2_depth 14 = .ok (.aload_n 0, 1) := by decide +kernel
theorem dX2_depth_15 : decode cX2_depth 15 = .ok (.getfield 55, 3) := by decide +kernel
theorem dX2_depth_18 : decode cX2_depth 18 = .ok (.if_icmp .ge 36, 3) := by decide +kernel
theorem dX2_depth_21 : decode cX2_depth 21 = .ok (.iload_n 2, 1) := by decide +kernel
theorem dX2_depth_22 : decode cX2_depth 22 = .ok (.iload_n 1, 1) := by decide +kernel
theorem dX2_depth_23 : decode cX2_depth 23 = .ok (.aload_n 0, 1) := by decide +kernel
theorem dX2_depth_24 : decode cX2_depth 24 = .ok (.getfield 19, 3) := by decide +kernel
theorem dX2_depth_27 : decode cX2_depth 27 = .ok (.iload_n 3, 1) := by decide +kernel
theorem dX2_depth_28 : decode cX2_depth 28 = .ok (.iaload, 1) := by decide +kernel
theorem dX2_depth_29 : decode cX2_depth 29 = .ok (.aload_n 0, 1) := by decide +kernel
theorem dX2_depth_30 : decode cX2_depth 30 = .ok (.getfield 22, 3) := by decide +kernel
theorem dX2_depth_33 : decode cX2_depth 33 = .ok (.iload_n 3, 1) := by decide +kernel
theorem dX2_depth_34 : decode cX2_depth 34 = .ok (.iaload, 1) := by decide +kernel
theorem dX2_depth_35 : decode cX2_depth 35 = .ok (.invokestatic 49, 3) := by decide +kernel
theorem dX2_depth_38 : decode cX2_depth 38 = .ok (.ifCond .eq 7, 3) := by decide +kernel
theorem dX2_depth_41 : decode cX2_depth 41 = .ok (.iconst 1, 1) := by decide +kernel
theorem dX2_depth_42 : decode cX2_depth 42 = .ok (.goto 4, 3) := by decide +kernel
theorem dX2_depth_45 : decode cX2_depth 45 = .ok (.iconst 0, 1) := by decide +kernel
theorem dX2_depth_46 : decode cX2_depth 46 = .ok (.iadd, 1) := by decide +kernel
theorem dX2_depth_47 : decode cX2_depth 47 = .ok (.istore_n 2, 1) := by decide +kernel
theorem dX2_depth_48 : decode cX2_depth 48 = .ok (.iinc 3 1, 3) := by decide +kernel
theorem dX2_depth_51 : decode cX2_depth 51 = .ok (.goto (-38), 3) := by decide +kernel
theorem dX2_depth_54 : decode cX2_depth 54 = .ok (.iload_n 2, 1) := by decide +kernel
theorem dX2_depth_55 : decode cX2_depth 55 = .ok (.ireturn, 1) := by decide +kernel
end
section
theorem dJ6_numberOfLeadingZeros_0f7a4_0 : decode cJ6_numberOfLeadingZeros_0f7a4 0 = .ok (.iload_n 0, 1) := by decide +kernel
theorem dJ6_numberOfLeadingZeros_0f7a4_1 : decode cJ6_numberOfLeadingZeros_0f7a4 1 = .ok (.ifCond .gt 14, 3) := by decide +kernel
theorem dJ6_numberOfLeadingZeros_0f7a4_4 : decode cJ6_numberOfLeadingZeros_0f7a4 4 = .ok (.iload_n 0, 1) := by decide +kernel
theorem dJ6_numberOfLeadingZeros_0f7a4_5 : decode cJ6_numberOfLeadingZeros_0f7a4 5 = .ok (.ifCond .ne 8, 3) := by decide +kernel
theorem dJ6_numberOfLeadingZeros_0f7a4_8 : decode cJ6_numberOfLeadingZeros_0f7a4 8 = .ok (.bipush 32, 2) := by decide +kernel
theorem dJ6_numberOfLeadingZeros_0f7a4_10 : decode cJ6_numberOfLeadingZeros_0f7a4 10 = .ok (.goto 4, 3) := by decide +kernel
theorem dJ6_numberOfLeadingZeros_0f7a4_13 : decode cJ6_numberOfLeadingZeros_0f7a4 13 = .ok (.iconst 0, 1) := by decide +kernel
theorem dJ6_numberOfLeadingZeros_0f7a4_14 : decode cJ6_numberOfLeadingZeros_0f7a4 14 = .ok (.ireturn, 1) := by decide +kernel
theorem dJ6_numberOfLeadingZeros_0f7a4_15 : decode cJ6_numberOfLeadingZeros_0f7a4 15 = .ok (.bipush 31, 2) := by decide +kernel
theorem dJ6_numberOfLeadingZeros_0f7a4_17 : decode cJ6_numberOfLeadingZeros_0f7a4 17 = .ok (.istore_n 1, 1) := by decide +kernel
theorem dJ6_numberOfLeadingZeros_0f7a4_18 : decode cJ6_numberOfLeadingZeros_0f7a4 18 = .ok (.iload_n 0, 1) := by decide +kernel
theorem dJ6_numberOfLeadingZeros_0f7a4_19 : decode cJ6_numberOfLeadingZeros_0f7a4 19 = .ok (.ldc_w 264, 3) := by decide +kernel
theorem dJ6_numberOfLeadingZeros_0f7a4_22 : decode cJ6_numberOfLeadingZeros_0f7a4 22 = .ok (.if_icmp .lt 11, 3) := by decide +kernel
theorem dJ6_numberOfLeadingZeros_0f7a4_25 : decode cJ6_numberOfLeadingZeros_0f7a4 25 = .ok (.iinc 1 (-16), 3) := by decide +kernel
theorem dJ6_numberOfLeadingZeros_0f7a4_28 : decode cJ6_numberOfLeadingZeros_0f7a4 28 = .ok (.iload_n 0, 1) := by decide +kernel
theorem dJ6_numberOfLeadingZeros_0f7a4_29 : decode cJ6_numberOfLeadingZeros_0f7a4 29 = .ok (.bipush 16, 2) := by decide +kernel
theorem dJ6_numberOfLeadingZeros_0f7a4_31 : decode cJ6_numberOfLeadingZeros_0f7a4 31 = .ok (.iushr, 1) := by decide +kernel
theorem dJ6_numberOfLeadingZeros_0f7a4_32 : decode cJ6_numberOfLeadingZeros_0f7a4 32 = .ok (.istore_n 0, 1) := by decide +kernel
theorem dJ6_numberOfLeadingZeros_0f7a4_33 : decode cJ6_numberOfLeadingZeros_0f7a4 33 = .ok (.iload_n 0, 1) := by decide +kernel
theorem dJ6_numberOfLeadingZeros_0f7a4_34 : decode cJ6_numberOfLeadingZeros_0f7a4 34 = .ok (.sipush 256, 3) := by decide +kernel
theorem dJ6_numberOfLeadingZeros_0f7a4_37 : decode cJ6_numberOfLeadingZeros_0f7a4 37 = .ok (.if_icmp .lt 11, 3) := by decide +kernel
theorem dJ6_numberOfLeadingZeros_0f7a4_40 : decode cJ6_numberOfLeadingZeros_0f7a4 40 = .ok (.iinc 1 (-8), 3) := by decide +kernel
theorem dJ6_numberOfLeadingZeros_0f7a4_43 : decode cJ6_numberOfLeadingZeros_0f7a4 43 = .ok (.iload_n 0, 1) := by decide +kernel
theorem dJ6_numberOfLeadingZeros_0f7a4_44 : decode cJ6_numberOfLeadingZeros_0f7a4 44 = .ok (.bipush 8, 2) := by decide +kernel
theorem dJ6_numberOfLeadingZeros_0f7a4_46 : decode cJ6_numberOfLeadingZeros_0f7a4 46 = .ok (.iushr, 1) := by decide +kernel
theorem dJ6_numberOfLeadingZeros_0f7a4_47 : decode cJ6_numberOfLeadingZeros_0f7a4 47 = .ok (.istore_n 0, 1) := by decide +kernel
theorem dJ6_numberOfLeadingZeros_0f7a4_48 : decode cJ6_numberOfLeadingZeros_0f7a4 48 = .ok (.iload_n 0, 1) := by decide +kernel
theorem dJ6_numberOfLeadingZeros_0f7a4_49 : decode cJ6_numberOfLeadingZeros_0f7a4 49 = .ok (.bipush 16, 2) := by decide +kernel
theorem dJ6_numberOfLeadingZeros_0f7a4_51 : decode cJ6_numberOfLeadingZeros_0f7a4 51 = .ok (.if_icmp .lt 10, 3) := by decide +kernel
theorem dJ6_numberOfLeadingZeros_0f7a4_54 : decode cJ6_numberOfLeadingZeros_0f7a4 54 = .ok (.iinc 1 (-4), 3) := by decide +kernel
theorem dJ6_numberOfLeadingZeros_0f7a4_57 : decode cJ6_numberOfLeadingZeros_0f7a4 57 = .ok (.iload_n 0, 1) := by decide +kernel
theorem dJ6_numberOfLeadingZeros_0f7a4_58 : decode cJ6_numberOfLeadingZeros_0f7a4 58 = .ok (.iconst 4, 1) := by decide +kernel
theorem dJ6_numberOfLeadingZeros_0f7a4_59 : decode cJ6_numberOfLeadingZeros_0f7a4 59 = .ok (.iushr, 1) := by decide +kernel
theorem dJ6_numberOfLeadingZeros_0f7a4_60 : decode cJ6_numberOfLeadingZeros_0f7a4 60 = .ok (.istore_n 0, 1) := by decide +kernel
theorem dJ6_numberOfLeadingZeros_0f7a4_61 : decode cJ6_numberOfLeadingZeros_0f7a4 61 = .ok (.iload_n 0, 1) := by decide +kernel
theorem dJ6_numberOfLeadingZeros_0f7a4_62 : decode cJ6_numberOfLeadingZeros_0f7a4 62 = .ok (.iconst 4, 1) := by decide +kernel
theorem dJ6_numberOfLeadingZeros_0f7a4_63 : decode cJ6_numberOfLeadingZeros_0f7a4 63 = .ok (.if_icmp .lt 10, 3) := by decide +kernel
theorem dJ6_numberOfLeadingZeros_0f7a4_66 : decode cJ6_numberOfLeadingZeros_0f7a4 66 = .ok (.iinc 1 (-2), 3) := by decide +kernel
theorem dJ6_numberOfLeadingZeros_0f7a4_69 : decode cJ6_numberOfLeadingZeros_0f7a4 69 = .ok (.iload_n 0, 1) := by decide +kernel
theorem dJ6_numberOfLeadingZeros_0f7a4_70 : decode cJ6_numberOfLeadingZeros_0f7a4 70 = .ok (.iconst 2, 1) := by decide +kernel
theorem dJ6_numberOfLeadingZeros_0f7a4_71 : decode cJ6_numberOfLeadingZeros_0f7a4 71 = .ok (.iushr, 1) := by decide +kernel
theorem dJ6_numberOfLeadingZeros_0f7a4_72 : decode cJ6_numberOfLeadingZeros_0f7a4 72 = .ok (.istore_n 0, 1) := by decide +kernel
theorem dJ6_numberOfLeadingZeros_0f7a4_73 : decode cJ6_numberOfLeadingZeros_0f7a4 73 = .ok (.iload_n 1, 1) := by decide +kernel
theorem dJ6_numberOfLeadingZeros_0f7a4_74 : decode cJ6_numberOfLeadingZeros_0f7a4 74 = .ok (.iload_n 0, 1) := by decide +kernel
theorem dJ6_numberOfLeadingZeros_0f7a4_75 : decode cJ6_numberOfLeadingZeros_0f7a4 75 = .ok (.iconst 1, 1) := by decide +kernel
theorem dJ6_numberOfLeadingZeros_0f7a4_76 : decode cJ6_numberOfLeadingZeros_0f7a4 76 = .ok (.iushr, 1) := by decide +kernel
theorem dJ6_numberOfLeadingZeros_0f7a4_77 : decode cJ6_numberOfLeadingZeros_0f7a4 77 = .ok (.isub, 1) := by decide +kernel
theorem dJ6_numberOfLeadingZeros_0f7a4_78 : decode cJ6_numberOfLeadingZeros_0f7a4 78 = .ok (.ireturn, 1) := by decide +kernel
theorem dJ9_min_7cf53_0 : decode cJ9_min_7cf53 0 = .ok (.iload_n 0, 1) := by decide +kernel
theorem dJ9_min_7cf53_1 : decode cJ9_min_7cf53 1 = .ok (.iload_n 1, 1) := by decide +kernel
theorem dJ9_min_7cf53_2 : decode cJ9_min_7cf53 2 = .ok (.if_icmp .gt 7, 3) := by decide +kernel
theorem dJ9_min_7cf53_5 : decode cJ9_min_7cf53 5 = .ok (.iload_n 0, 1) := by decide +kernel
theorem dJ9_min_7cf53_6 : decode cJ9_min_7cf53 6 = .ok (.goto 4, 3) := by decide +kernel
theorem dJ9_min_7cf53_9 : decode cJ9_min_7cf53 9 = .ok (.iload_n 1, 1) := by decide +kernel
theorem dJ9_min_7cf53_10 : decode cJ9_min_7cf53 10 = .ok (.ireturn, 1) := by decide +kernel
set_option maxRecDepth 20000 in
theorem ggL_law_X1_init : GoodIn wsL_law wsX1_init := goodIn_r _ [8, 9, 10, 11, 12, 13, 14, 15, 16, 17, 18, 19, 20, 21, 22, 23, 240, 241, 242, 243, 244, 245, 230, 231] (by decide +kernel) (by decide +kernel)
set_option maxRecDepth 20000 in
theorem gL_law_X1_init : GoodIn wsL_law (wsX1_init) := ggL_law_X1_init
set_option maxRecDepth 20000 in
theorem ggL_law_X2_init : GoodIn wsL_law wsX2_init := goodIn_r _ [26, 27, 10, 11, 28, 29, 30, 31, 32, 33, 232, 233, 234, 235, 236, 237, 238, 239] (by decide +kernel) (by decide +kernel)
set_option maxRecDepth 20000 in
theorem gL_law_X2_init : GoodIn wsL_law (wsX2_init) := ggL_law_X2_init
set_option maxRecDepth 20000 in
theorem ggL_law_X1_init_ : GoodIn wsL_law wsX1_init_ := goodIn_r _ [37, 15, 16, 230, 231, 240, 241, 242, 243, 244, 245] (by decide +kernel) (by decide +kernel)
set_option maxRecDepth 20000 in
theorem gL_law_X1_init_ : GoodIn wsL_law (wsV RL 13 RX1 yX1_init_ wsX1_init_) := goodIn_app (goodIn_of _ (by decide +kernel)) ggL_law_X1_init_
set_option maxRecDepth 20000 in
theorem ggL_law_X2_init_ : GoodIn wsL_law wsX2_init_ := goodIn_r _ [41, 42, 43, 232, 233, 234, 235, 236, 237, 238, 239] (by decide +kernel) (by decide +kernel)
set_option maxRecDepth 20000 in
theorem gL_law_X2_init_ : GoodIn wsL_law (wsV RL 16 RX2 yX2_init_ wsX2_init_) := goodIn_app (goodIn_of _ (by decide +kernel)) ggL_law_X2_init_
set_option maxRecDepth 20000 in
theorem ggL_law_X1_insert : GoodIn wsL_law wsX1_insert := goodIn_r _ [47, 15, 48, 49, 2, 50, 51, 52, 53, 54, 55, 56, 57, 58, 59, 60, 61, 62, 14, 63, 64, 65, 66, 67, 68, 69, 70, 21, 71, 72, 73, 22, 74, 75, 76, 77, 78, 79, 80, 20, 81, 82, 83, 84, 16, 12, 13, 17, 18, 19, 10, 11, 23, 85, 86, 87, 88, 89, 90, 91, 92, 93, 94, 95, 96, 97, 98, 99, 100, 101, 102, 103, 240, 241, 242, 243, 244, 245, 230, 231] (by decide +kernel) (by decide +kernel)
set_option maxRecDepth 20000 in
theorem gL_law_X1_insert : GoodIn wsL_law (wsV RL 17 RX1 yX1_insert wsX1_insert) := goodIn_app (goodIn_of _ (by decide +kernel)) ggL_law_X1_insert
set_option maxRecDepth 20000 in
theorem ggL_law_X2_insert : GoodIn wsL_law wsX2_insert := goodIn_r _ [107, 42, 31, 43, 29, 30, 108, 109, 5, 110, 111, 112, 113, 114, 115, 116, 117, 118, 119, 120, 121, 122, 232, 233, 234, 235, 236, 237, 238, 239] (by decide +kernel) (by decide +kernel)
set_option maxRecDepth 20000 in
theorem gL_law_X2_insert : GoodIn wsL_law (wsV RL 21 RX2 yX2_insert wsX2_insert) := goodIn_app (goodIn_of _ (by decide +kernel)) ggL_law_X2_insert
set_option maxRecDepth 20000 in
theorem ggL_law_X1_remove : GoodIn wsL_law wsX1_remove := goodIn_r _ [126, 54, 55, 56, 2, 57, 48, 49, 50, 51, 52, 53, 58, 59, 60, 61, 15, 62, 14, 63, 64, 65, 66, 67, 68, 69, 70, 21, 71, 72, 73, 22, 127, 128, 129, 130, 131, 132, 133, 134, 16, 135, 136, 137, 240, 241, 242, 243, 244, 245, 230, 231] (by decide +kernel) (by decide +kernel)
set_option maxRecDepth 20000 in
theorem gL_law_X1_remove : GoodIn wsL_law (wsV RL 22 RX1 yX1_remove wsX1_remove) := goodIn_app (goodIn_of _ (by decide +kernel)) ggL_law_X1_remove
set_option maxRecDepth 20000 in
theorem ggL_law_X2_remove : GoodIn wsL_law wsX2_remove := goodIn_r _ [141, 42, 43, 29, 30, 31, 114, 115, 116, 5, 117, 232, 233, 234, 235, 236, 237, 238, 239] (by decide +kernel) (by decide +kernel)
set_option maxRecDepth 20000 in
theorem gL_law_X2_remove : GoodIn wsL_law (wsV RL 26 RX2 yX2_remove wsX2_remove) := goodIn_app (goodIn_of _ (by decide +kernel)) ggL_law_X2_remove
set_option maxRecDepth 20000 in
theorem ggL_law_X1_lookup : GoodIn wsL_law wsX1_lookup := goodIn_r _ [145, 146, 147, 148, 2, 149, 15, 78, 14, 79, 80, 21, 20, 52, 53, 71, 72, 73, 22, 62, 63, 64, 65, 66, 67, 68, 69, 70, 240, 241, 242, 243, 244, 245, 230, 231] (by decide +kernel) (by decide +kernel)
set_option maxRecDepth 20000 in
theorem gL_law_X1_lookup : GoodIn wsL_law (wsV RL 27 RX1 yX1_lookup wsX1_lookup) := goodIn_app (goodIn_of _ (by decide +kernel)) ggL_law_X1_lookup
set_option maxRecDepth 20000 in
theorem ggL_law_X2_lookup : GoodIn wsL_law wsX2_lookup := goodIn_r _ [153, 42, 31, 154, 155, 156, 5, 157, 43, 29, 30, 158, 159, 160, 111, 112, 113, 232, 233, 234, 235, 236, 237, 238, 239] (by decide +kernel) (by decide +kernel)
set_option maxRecDepth 20000 in
theorem gL_law_X2_lookup : GoodIn wsL_law (wsV RL 31 RX2 yX2_lookup wsX2_lookup) := goodIn_app (goodIn_of _ (by decide +kernel)) ggL_law_X2_lookup
set_option maxRecDepth 20000 in
theorem ggL_law_X1_lookupLen : GoodIn wsL_law wsX1_lookupLen := goodIn_r _ [164, 146, 147, 148, 2, 149, 15, 78, 14, 79, 80, 21, 20, 52, 53, 71, 72, 73, 22, 62, 63, 64, 65, 66, 67, 68, 69, 70, 240, 241, 242, 243, 244, 245, 230, 231] (by decide +kernel) (by decide +kernel)
set_option maxRecDepth 20000 in
theorem gL_law_X1_lookupLen : GoodIn wsL_law (wsV RL 32 RX1 yX1_lookupLen wsX1_lookupLen) := goodIn_app (goodIn_of _ (by decide +kernel)) ggL_law_X1_lookupLen
set_option maxRecDepth 20000 in
theorem ggL_law_X2_lookupLen : GoodIn wsL_law wsX2_lookupLen := goodIn_r _ [168, 42, 30, 154, 155, 156, 5, 157, 43, 29, 158, 159, 160, 111, 112, 113, 232, 233, 234, 235, 236, 237, 238, 239] (by decide +kernel) (by decide +kernel)
set_option maxRecDepth 20000 in
theorem gL_law_X2_lookupLen : GoodIn wsL_law (wsV RL 35 RX2 yX2_lookupLen wsX2_lookupLen) := goodIn_app (goodIn_of _ (by decide +kernel)) ggL_law_X2_lookupLen
set_option maxRecDepth 20000 in
theorem ggL_law_X1_exact : GoodIn wsL_law wsX1_exact := goodIn_r _ [172, 54, 55, 56, 2, 57, 48, 49, 50, 51, 52, 53, 58, 59, 60, 61, 15, 62, 14, 63, 64, 65, 66, 67, 68, 69, 70, 21, 71, 72, 73, 22, 240, 241, 242, 243, 244, 245, 230, 231] (by decide +kernel) (by decide +kernel)
set_option maxRecDepth 20000 in
theorem gL_law_X1_exact : GoodIn wsL_law (wsV RL 36 RX1 yX1_exact wsX1_exact) := goodIn_app (goodIn_of _ (by decide +kernel)) ggL_law_X1_exact
set_option maxRecDepth 20000 in
theorem ggL_law_X2_exact : GoodIn wsL_law wsX2_exact := goodIn_r _ [176, 42, 31, 114, 115, 116, 5, 117, 43, 29, 30, 232, 233, 234, 235, 236, 237, 238, 239] (by decide +kernel) (by decide +kernel)
set_option maxRecDepth 20000 in
theorem gL_law_X2_exact : GoodIn wsL_law (wsV RL 40 RX2 yX2_exact wsX2_exact) := goodIn_app (goodIn_of _ (by decide +kernel)) ggL_law_X2_exact
set_option maxRecDepth 20000 in
theorem ggL_law_X1_under : GoodIn wsL_law wsX1_under := goodIn_r _ [180, 48, 49, 2, 50, 51, 52, 53, 58, 59, 60, 61, 15, 62, 14, 63, 64, 65, 66, 67, 68, 69, 70, 21, 240, 241, 242, 243, 244, 245, 230, 231] (by decide +kernel) (by decide +kernel)
set_option maxRecDepth 20000 in
theorem gL_law_X1_under : GoodIn wsL_law (wsV RL 41 RX1 yX1_under wsX1_under) := goodIn_app (goodIn_of _ (by decide +kernel)) ggL_law_X1_under
set_option maxRecDepth 20000 in
theorem ggL_law_X2_under : GoodIn wsL_law wsX2_under := goodIn_r _ [184, 42, 43, 30, 29, 108, 109, 5, 110, 111, 112, 113, 158, 159, 160, 232, 233, 234, 235, 236, 237, 238, 239] (by decide +kernel) (by decide +kernel)
set_option maxRecDepth 20000 in
theorem gL_law_X2_under : GoodIn wsL_law (wsV RL 44 RX2 yX2_under wsX2_under) := goodIn_app (goodIn_of _ (by decide +kernel)) ggL_law_X2_under
set_option maxRecDepth 20000 in
theorem ggL_law_X1_route : GoodIn wsL_law wsX1_route := goodIn_r _ [188, 189, 190, 191, 2, 192, 15, 71, 14, 72, 73, 22, 240, 241, 242, 243, 244, 245, 230, 231] (by decide +kernel) (by decide +kernel)
set_option maxRecDepth 20000 in
theorem gL_law_X1_route : GoodIn wsL_law (wsV RL 45 RX1 yX1_route wsX1_route) := goodIn_app (goodIn_of _ (by decide +kernel)) ggL_law_X1_route
set_option maxRecDepth 20000 in
theorem ggL_law_X2_route : GoodIn wsL_law wsX2_route := goodIn_r _ [196, 42, 43, 29, 30, 31, 232, 233, 234, 235, 236, 237, 238, 239] (by decide +kernel) (by decide +kernel)
set_option maxRecDepth 20000 in
theorem gL_law_X2_route : GoodIn wsL_law (wsV RL 48 RX2 yX2_route wsX2_route) := goodIn_app (goodIn_of _ (by decide +kernel)) ggL_law_X2_route
set_option maxRecDepth 20000 in
theorem ggL_law_X1_count : GoodIn wsL_law wsX1_count := goodIn_r _ [200, 15, 230, 231, 240, 241, 242, 243, 244, 245] (by decide +kernel) (by decide +kernel)
set_option maxRecDepth 20000 in
theorem gL_law_X1_count : GoodIn wsL_law (wsV RL 49 RX1 yX1_count wsX1_count) := goodIn_app (goodIn_of _ (by decide +kernel)) ggL_law_X1_count
set_option maxRecDepth 20000 in
theorem ggL_law_X2_count : GoodIn wsL_law wsX2_count := goodIn_r _ [204, 42, 43, 232, 233, 234, 235, 236, 237, 238, 239] (by decide +kernel) (by decide +kernel)
set_option maxRecDepth 20000 in
theorem gL_law_X2_count : GoodIn wsL_law (wsV RL 53 RX2 yX2_count wsX2_count) := goodIn_app (goodIn_of _ (by decide +kernel)) ggL_law_X2_count
set_option maxRecDepth 20000 in
theorem ggL_law_X1_nodes : GoodIn wsL_law wsX1_nodes := goodIn_r _ [208, 16, 230, 231] (by decide +kernel) (by decide +kernel)
set_option maxRecDepth 20000 in
theorem gL_law_X1_nodes : GoodIn wsL_law (wsV RL 54 RX1 yX1_nodes wsX1_nodes) := goodIn_app (goodIn_of _ (by decide +kernel)) ggL_law_X1_nodes
set_option maxRecDepth 20000 in
theorem ggL_law_X2_nodes : GoodIn wsL_law wsX2_nodes := goodIn_r _ [212, 42, 213, 214, 215, 216, 5, 217, 43, 29, 30, 218, 219, 220, 221, 32, 33, 111, 112, 113, 232, 233, 234, 235, 236, 237, 238, 239] (by decide +kernel) (by decide +kernel)
set_option maxRecDepth 20000 in
theorem gL_law_X2_nodes : GoodIn wsL_law (wsV RL 57 RX2 yX2_nodes wsX2_nodes) := goodIn_app (goodIn_of _ (by decide +kernel)) ggL_law_X2_nodes
set_option maxRecDepth 20000 in
theorem ggL_law_X1_depth : GoodIn wsL_law wsX1_depth := goodIn_r _ [225, 15, 78, 14, 79, 80, 21, 20, 52, 2, 53, 62, 63, 64, 65, 66, 67, 68, 69, 70, 230, 231, 240, 241, 242, 243, 244, 245] (by decide +kernel) (by decide +kernel)
set_option maxRecDepth 20000 in
theorem gL_law_X1_depth : GoodIn wsL_law (wsV RL 58 RX1 yX1_depth wsX1_depth) := goodIn_app (goodIn_of _ (by decide +kernel)) ggL_law_X1_depth
set_option maxRecDepth 20000 in
theorem ggL_law_X2_depth : GoodIn wsL_law wsX2_depth := goodIn_r _ [229, 42, 213, 32, 33, 214, 215, 216, 5, 217, 43, 29, 30, 218, 219, 220, 221, 111, 112, 113, 158, 159, 160, 232, 233, 234, 235, 236, 237, 238, 239] (by decide +kernel) (by decide +kernel)
set_option maxRecDepth 20000 in
theorem gL_law_X2_depth : GoodIn wsL_law (wsV RL 61 RX2 yX2_depth wsX2_depth) := goodIn_app (goodIn_of _ (by decide +kernel)) ggL_law_X2_depth
theorem dL_law_0 : decode cL_law 0 = .ok (.new 7, 3) := by decide +kernel
theorem dL_law_3 : decode cL_law 3 = .ok (.dup, 1) := by decide +kernel
theorem dL_law_4 : decode cL_law 4 = .ok (.invokespecial 9, 3) := by decide +kernel
theorem dL_law_7 : decode cL_law 7 = .ok (.astore_n 1, 1) := by decide +kernel
theorem dL_law_8 : decode cL_law 8 = .ok (.new 10, 3) := by decide +kernel
theorem dL_law_11 : decode cL_law 11 = .ok (.dup, 1) := by decide +kernel
theorem dL_law_12 : decode cL_law 12 = .ok (.invokespecial 12, 3) := by decide +kernel
theorem dL_law_15 : decode cL_law 15 = .ok (.astore_n 2, 1) := by decide +kernel
theorem dL_law_16 : decode cL_law 16 = .ok (.iconst 0, 1) := by decide +kernel
theorem dL_law_17 : decode cL_law 17 = .ok (.istore_n 3, 1) := by decide +kernel
theorem dL_law_18 : decode cL_law 18 = .ok (.iload_n 3, 1) := by decide +kernel
theorem dL_law_19 : decode cL_law 19 = .ok (.aload_n 0, 1) := by decide +kernel
theorem dL_law_20 : decode cL_law 20 = .ok (.arraylength, 1) := by decide +kernel
theorem dL_law_21 : decode cL_law 21 = .ok (.iconst 4, 1) := by decide +kernel
theorem dL_law_22 : decode cL_law 22 = .ok (.isub, 1) := by decide +kernel
theorem dL_law_23 : decode cL_law 23 = .ok (.if_icmp .gt 356, 3) := by decide +kernel
theorem dL_law_26 : decode cL_law 26 = .ok (.aload_n 0, 1) := by decide +kernel
theorem dL_law_27 : decode cL_law 27 = .ok (.iload_n 3, 1) := by decide +kernel
theorem dL_law_28 : decode cL_law 28 = .ok (.iaload, 1) := by decide +kernel
theorem dL_law_29 : decode cL_law 29 = .ok (.bipush 15, 2) := by decide +kernel
theorem dL_law_31 : decode cL_law 31 = .ok (.iand, 1) := by decide +kernel
theorem dL_law_32 : decode cL_law 32 = .ok (.tableswitch 341 0 10 #[60, 71, 114, 147, 170, 193, 226, 259, 292, 305, 318], 60) := by decide +kernel
theorem dL_law_92 : decode cL_law 92 = .ok (.aload_n 1, 1) := by decide +kernel
theorem dL_law_93 : decode cL_law 93 = .ok (.invokevirtual 13, 3) := by decide +kernel
theorem dL_law_96 : decode cL_law 96 = .ok (.aload_n 2, 1) := by decide +kernel
theorem dL_law_97 : decode cL_law 97 = .ok (.invokevirtual 16, 3) := by decide +kernel
theorem dL_law_100 : decode cL_law 100 = .ok (.goto 273, 3) := by decide +kernel
theorem dL_law_103 : decode cL_law 103 = .ok (.aload_n 1, 1) := by decide +kernel
theorem dL_law_104 : decode cL_law 104 = .ok (.aload_n 0, 1) := by decide +kernel
theorem dL_law_105 : decode cL_law 105 = .ok (.iload_n 3, 1) := by decide +kernel
theorem dL_law_106 : decode cL_law 106 = .ok (.iconst 1, 1) := by decide +kernel
theorem dL_law_107 : decode cL_law 107 = .ok (.iadd, 1) := by decide +kernel
theorem dL_law_108 : decode cL_law 108 = .ok (.iaload, 1) := by decide +kernel
theorem dL_law_109 : decode cL_law 109 = .ok (.aload_n 0, 1) := by decide +kernel
theorem dL_law_110 : decode cL_law 110 = .ok (.iload_n 3, 1) := by decide +kernel
theorem dL_law_111 : decode cL_law 111 = .ok (.iconst 2, 1) := by decide +kernel
theorem dL_law_112 : decode cL_law 112 = .ok (.iadd, 1) := by decide +kernel
theorem dL_law_113 : decode cL_law 113 = .ok (.iaload, 1) := by decide +kernel
theorem dL_law_114 : decode cL_law 114 = .ok (.aload_n 0, 1) := by decide +kernel
theorem dL_law_115 : decode cL_law 115 = .ok (.iload_n 3, 1) := by decide +kernel
theorem dL_law_116 : decode cL_law 116 = .ok (.iconst 3, 1) := by decide +kernel
theorem dL_law_117 : decode cL_law 117 = .ok (.iadd, 1) := by decide +kernel
theorem dL_law_118 : decode cL_law 118 = .ok (.iaload, 1) := by decide +kernel
theorem dL_law_119 : decode cL_law 119 = .ok (.invokevirtual 17, 3) := by decide +kernel
theorem dL_law_122 : decode cL_law 122 = .ok (.aload_n 2, 1) := by decide +kernel
theorem dL_law_123 : decode cL_law 123 = .ok (.aload_n 0, 1) := by decide +kernel
theorem dL_law_124 : decode cL_law 124 = .ok (.iload_n 3, 1) := by decide +kernel
theorem dL_law_125 : decode cL_law 125 = .ok (.iconst 1, 1) := by decide +kernel
theorem dL_law_126 : decode cL_law 126 = .ok (.iadd, 1) := by decide +kernel
theorem dL_law_127 : decode cL_law 127 = .ok (.iaload, 1) := by decide +kernel
theorem dL_law_128 : decode cL_law 128 = .ok (.aload_n 0, 1) := by decide +kernel
theorem dL_law_129 : decode cL_law 129 = .ok (.iload_n 3, 1) := by decide +kernel
theorem dL_law_130 : decode cL_law 130 = .ok (.iconst 2, 1) := by decide +kernel
theorem dL_law_131 : decode cL_law 131 = .ok (.iadd, 1) := by decide +kernel
theorem dL_law_132 : decode cL_law 132 = .ok (.iaload, 1) := by decide +kernel
theorem dL_law_133 : decode cL_law 133 = .ok (.aload_n 0, 1) := by decide +kernel
theorem dL_law_134 : decode cL_law 134 = .ok (.iload_n 3, 1) := by decide +kernel
theorem dL_law_135 : decode cL_law 135 = .ok (.iconst 3, 1) := by decide +kernel
theorem dL_law_136 : decode cL_law 136 = .ok (.iadd, 1) := by decide +kernel
theorem dL_law_137 : decode cL_law 137 = .ok (.iaload, 1) := by decide +kernel
theorem dL_law_138 : decode cL_law 138 = .ok (.invokevirtual 21, 3) := by decide +kernel
theorem dL_law_141 : decode cL_law 141 = .ok (.if_icmp .eq 232, 3) := by decide +kernel
theorem dL_law_144 : decode cL_law 144 = .ok (.iconst 0, 1) := by decide +kernel
theorem dL_law_145 : decode cL_law 145 = .ok (.ireturn, 1) := by decide +kernel
theorem dL_law_146 : decode cL_law 146 = .ok (.aload_n 1, 1) := by decide +kernel
theorem dL_law_147 : decode cL_law 147 = .ok (.aload_n 0, 1) := by decide +kernel
theorem dL_law_148 : decode cL_law 148 = .ok (.iload_n 3, 1) := by decide +kernel
theorem dL_law_149 : decode cL_law 149 = .ok (.iconst 1, 1) := by decide +kernel
theorem dL_law_150 : decode cL_law 150 = .ok (.iadd, 1) := by decide +kernel
theorem dL_law_151 : decode cL_law 151 = .ok (.iaload, 1) := by decide +kernel
theorem dL_law_152 : decode cL_law 152 = .ok (.aload_n 0, 1) := by decide +kernel
theorem dL_law_153 : decode cL_law 153 = .ok (.iload_n 3, 1) := by decide +kernel
theorem dL_law_154 : decode cL_law 154 = .ok (.iconst 2, 1) := by decide +kernel
theorem dL_law_155 : decode cL_law 155 = .ok (.iadd, 1) := by decide +kernel
theorem dL_law_156 : decode cL_law 156 = .ok (.iaload, 1) := by decide +kernel
theorem dL_law_157 : decode cL_law 157 = .ok (.invokevirtual 22, 3) := by decide +kernel
theorem dL_law_160 : decode cL_law 160 = .ok (.aload_n 2, 1) := by decide +kernel
theorem dL_law_161 : decode cL_law 161 = .ok (.aload_n 0, 1) := by decide +kernel
theorem dL_law_162 : decode cL_law 162 = .ok (.iload_n 3, 1) := by decide +kernel
theorem dL_law_163 : decode cL_law 163 = .ok (.iconst 1, 1) := by decide +kernel
theorem dL_law_164 : decode cL_law 164 = .ok (.iadd, 1) := by decide +kernel
theorem dL_law_165 : decode cL_law 165 = .ok (.iaload, 1) := by decide +kernel
theorem dL_law_166 : decode cL_law 166 = .ok (.aload_n 0, 1) := by decide +kernel
theorem dL_law_167 : decode cL_law 167 = .ok (.iload_n 3, 1) := by decide +kernel
theorem dL_law_168 : decode cL_law 168 = .ok (.iconst 2, 1) := by decide +kernel
theorem dL_law_169 : decode cL_law 169 = .ok (.iadd, 1) := by decide +kernel
theorem dL_law_170 : decode cL_law 170 = .ok (.iaload, 1) := by decide +kernel
theorem dL_law_171 : decode cL_law 171 = .ok (.invokevirtual 26, 3) := by decide +kernel
theorem dL_law_174 : decode cL_law 174 = .ok (.if_icmp .eq 199, 3) := by decide +kernel
theorem dL_law_177 : decode cL_law 177 = .ok (.iconst 0, 1) := by decide +kernel
theorem dL_law_178 : decode cL_law 178 = .ok (.ireturn, 1) := by decide +kernel
theorem dL_law_179 : decode cL_law 179 = .ok (.aload_n 1, 1) := by decide +kernel
theorem dL_law_180 : decode cL_law 180 = .ok (.aload_n 0, 1) := by decide +kernel
theorem dL_law_181 : decode cL_law 181 = .ok (.iload_n 3, 1) := by decide +kernel
theorem dL_law_182 : decode cL_law 182 = .ok (.iconst 1, 1) := by decide +kernel
theorem dL_law_183 : decode cL_law 183 = .ok (.iadd, 1) := by decide +kernel
theorem dL_law_184 : decode cL_law 184 = .ok (.iaload, 1) := by decide +kernel
theorem dL_law_185 : decode cL_law 185 = .ok (.invokevirtual 27, 3) := by decide +kernel
theorem dL_law_188 : decode cL_law 188 = .ok (.aload_n 2, 1) := by decide +kernel
theorem dL_law_189 : decode cL_law 189 = .ok (.aload_n 0, 1) := by decide +kernel
theorem dL_law_190 : decode cL_law 190 = .ok (.iload_n 3, 1) := by decide +kernel
theorem dL_law_191 : decode cL_law 191 = .ok (.iconst 1, 1) := by decide +kernel
theorem dL_law_192 : decode cL_law 192 = .ok (.iadd, 1) := by decide +kernel
theorem dL_law_193 : decode cL_law 193 = .ok (.iaload, 1) := by decide +kernel
theorem dL_law_194 : decode cL_law 194 = .ok (.invokevirtual 31, 3) := by decide +kernel
theorem dL_law_197 : decode cL_law 197 = .ok (.if_icmp .eq 176, 3) := by decide +kernel
theorem dL_law_200 : decode cL_law 200 = .ok (.iconst 0, 1) := by decide +kernel
theorem dL_law_201 : decode cL_law 201 = .ok (.ireturn, 1) := by decide +kernel
theorem dL_law_202 : decode cL_law 202 = .ok (.aload_n 1, 1) := by decide +kernel
theorem dL_law_203 : decode cL_law 203 = .ok (.aload_n 0, 1) := by decide +kernel
theorem dL_law_204 : decode cL_law 204 = .ok (.iload_n 3, 1) := by decide +kernel
theorem dL_law_205 : decode cL_law 205 = .ok (.iconst 1, 1) := by decide +kernel
theorem dL_law_206 : decode cL_law 206 = .ok (.iadd, 1) := by decide +kernel
theorem dL_law_207 : decode cL_law 207 = .ok (.iaload, 1) := by decide +kernel
theorem dL_law_208 : decode cL_law 208 = .ok (.invokevirtual 32, 3) := by decide +kernel
theorem dL_law_211 : decode cL_law 211 = .ok (.aload_n 2, 1) := by decide +kernel
theorem dL_law_212 : decode cL_law 212 = .ok (.aload_n 0, 1) := by decide +kernel
theorem dL_law_213 : decode cL_law 213 = .ok (.iload_n 3, 1) := by decide +kernel
theorem dL_law_214 : decode cL_law 214 = .ok (.iconst 1, 1) := by decide +kernel
theorem dL_law_215 : decode cL_law 215 = .ok (.iadd, 1) := by decide +kernel
theorem dL_law_216 : decode cL_law 216 = .ok (.iaload, 1) := by decide +kernel
theorem dL_law_217 : decode cL_law 217 = .ok (.invokevirtual 35, 3) := by decide +kernel
theorem dL_law_220 : decode cL_law 220 = .ok (.if_icmp .eq 153, 3) := by decide +kernel
theorem dL_law_223 : decode cL_law 223 = .ok (.iconst 0, 1) := by decide +kernel
theorem dL_law_224 : decode cL_law 224 = .ok (.ireturn, 1) := by decide +kernel
theorem dL_law_225 : decode cL_law 225 = .ok (.aload_n 1, 1) := by decide +kernel
theorem dL_law_226 : decode cL_law 226 = .ok (.aload_n 0, 1) := by decide +kernel
theorem dL_law_227 : decode cL_law 227 = .ok (.iload_n 3, 1) := by decide +kernel
theorem dL_law_228 : decode cL_law 228 = .ok (.iconst 1, 1) := by decide +kernel
theorem dL_law_229 : decode cL_law 229 = .ok (.iadd, 1) := by decide +kernel
theorem dL_law_230 : decode cL_law 230 = .ok (.iaload, 1) := by decide +kernel
theorem dL_law_231 : decode cL_law 231 = .ok (.aload_n 0, 1) := by decide +kernel
theorem dL_law_232 : decode cL_law 232 = .ok (.iload_n 3, 1) := by decide +kernel
theorem dL_law_233 : decode cL_law 233 = .ok (.iconst 2, 1) := by decide +kernel
theorem dL_law_234 : decode cL_law 234 = .ok (.iadd, 1) := by decide +kernel
theorem dL_law_235 : decode cL_law 235 = .ok (.iaload, 1) := by decide +kernel
theorem dL_law_236 : decode cL_law 236 = .ok (.invokevirtual 36, 3) := by decide +kernel
theorem dL_law_239 : decode cL_law 239 = .ok (.aload_n 2, 1) := by decide +kernel
theorem dL_law_240 : decode cL_law 240 = .ok (.aload_n 0, 1) := by decide +kernel
theorem dL_law_241 : decode cL_law 241 = .ok (.iload_n 3, 1) := by decide +kernel
theorem dL_law_242 : decode cL_law 242 = .ok (.iconst 1, 1) := by decide +kernel
theorem dL_law_243 : decode cL_law 243 = .ok (.iadd, 1) := by decide +kernel
theorem dL_law_244 : decode cL_law 244 = .ok (.iaload, 1) := by decide +kernel
theorem dL_law_245 : decode cL_law 245 = .ok (.aload_n 0, 1) := by decide +kernel
theorem dL_law_246 : decode cL_law 246 = .ok (.iload_n 3, 1) := by decide +kernel
theorem dL_law_247 : decode cL_law 247 = .ok (.iconst 2, 1) := by decide +kernel
theorem dL_law_248 : decode cL_law 248 = .ok (.iadd, 1) := by decide +kernel
theorem dL_law_249 : decode cL_law 249 = .ok (.iaload, 1) := by decide +kernel
theorem dL_law_250 : decode cL_law 250 = .ok (.invokevirtual 40, 3) := by decide +kernel
theorem dL_law_253 : decode cL_law 253 = .ok (.if_icmp .eq 120, 3) := by decide +kernel
theorem dL_law_256 : decode cL_law 256 = .ok (.iconst 0, 1) := by decide +kernel
theorem dL_law_257 : decode cL_law 257 = .ok (.ireturn, 1) := by decide +kernel
theorem dL_law_258 : decode cL_law 258 = .ok (.aload_n 1, 1) := by decide +kernel
theorem dL_law_259 : decode cL_law 259 = .ok (.aload_n 0, 1) := by decide +kernel
theorem dL_law_260 : decode cL_law 260 = .ok (.iload_n 3, 1) := by decide +kernel
theorem dL_law_261 : decode cL_law 261 = .ok (.iconst 1, 1) := by decide +kernel
theorem dL_law_262 : decode cL_law 262 = .ok (.iadd, 1) := by decide +kernel
theorem dL_law_263 : decode cL_law 263 = .ok (.iaload, 1) := by decide +kernel
theorem dL_law_264 : decode cL_law 264 = .ok (.aload_n 0, 1) := by decide +kernel
theorem dL_law_265 : decode cL_law 265 = .ok (.iload_n 3, 1) := by decide +kernel
theorem dL_law_266 : decode cL_law 266 = .ok (.iconst 2, 1) := by decide +kernel
theorem dL_law_267 : decode cL_law 267 = .ok (.iadd, 1) := by decide +kernel
theorem dL_law_268 : decode cL_law 268 = .ok (.iaload, 1) := by decide +kernel
theorem dL_law_269 : decode cL_law 269 = .ok (.invokevirtual 41, 3) := by decide +kernel
theorem dL_law_272 : decode cL_law 272 = .ok (.aload_n 2, 1) := by decide +kernel
theorem dL_law_273 : decode cL_law 273 = .ok (.aload_n 0, 1) := by decide +kernel
theorem dL_law_274 : decode cL_law 274 = .ok (.iload_n 3, 1) := by decide +kernel
theorem dL_law_275 : decode cL_law 275 = .ok (.iconst 1, 1) := by decide +kernel
theorem dL_law_276 : decode cL_law 276 = .ok (.iadd, 1) := by decide +kernel
theorem dL_law_277 : decode cL_law 277 = .ok (.iaload, 1) := by decide +kernel
theorem dL_law_278 : decode cL_law 278 = .ok (.aload_n 0, 1) := by decide +kernel
theorem dL_law_279 : decode cL_law 279 = .ok (.iload_n 3, 1) := by decide +kernel
theorem dL_law_280 : decode cL_law 280 = .ok (.iconst 2, 1) := by decide +kernel
theorem dL_law_281 : decode cL_law 281 = .ok (.iadd, 1) := by decide +kernel
theorem dL_law_282 : decode cL_law 282 = .ok (.iaload, 1) := by decide +kernel
theorem dL_law_283 : decode cL_law 283 = .ok (.invokevirtual 44, 3) := by decide +kernel
theorem dL_law_286 : decode cL_law 286 = .ok (.if_icmp .eq 87, 3) := by decide +kernel
theorem dL_law_289 : decode cL_law 289 = .ok (.iconst 0, 1) := by decide +kernel
theorem dL_law_290 : decode cL_law 290 = .ok (.ireturn, 1) := by decide +kernel
theorem dL_law_291 : decode cL_law 291 = .ok (.aload_n 1, 1) := by decide +kernel
theorem dL_law_292 : decode cL_law 292 = .ok (.aload_n 0, 1) := by decide +kernel
theorem dL_law_293 : decode cL_law 293 = .ok (.iload_n 3, 1) := by decide +kernel
theorem dL_law_294 : decode cL_law 294 = .ok (.iconst 1, 1) := by decide +kernel
theorem dL_law_295 : decode cL_law 295 = .ok (.iadd, 1) := by decide +kernel
theorem dL_law_296 : decode cL_law 296 = .ok (.iaload, 1) := by decide +kernel
theorem dL_law_297 : decode cL_law 297 = .ok (.aload_n 0, 1) := by decide +kernel
theorem dL_law_298 : decode cL_law 298 = .ok (.iload_n 3, 1) := by decide +kernel
theorem dL_law_299 : decode cL_law 299 = .ok (.iconst 2, 1) := by decide +kernel
theorem dL_law_300 : decode cL_law 300 = .ok (.iadd, 1) := by decide +kernel
theorem dL_law_301 : decode cL_law 301 = .ok (.iaload, 1) := by decide +kernel
theorem dL_law_302 : decode cL_law 302 = .ok (.invokevirtual 45, 3) := by decide +kernel
theorem dL_law_305 : decode cL_law 305 = .ok (.aload_n 2, 1) := by decide +kernel
theorem dL_law_306 : decode cL_law 306 = .ok (.aload_n 0, 1) := by decide +kernel
theorem dL_law_307 : decode cL_law 307 = .ok (.iload_n 3, 1) := by decide +kernel
theorem dL_law_308 : decode cL_law 308 = .ok (.iconst 1, 1) := by decide +kernel
theorem dL_law_309 : decode cL_law 309 = .ok (.iadd, 1) := by decide +kernel
theorem dL_law_310 : decode cL_law 310 = .ok (.iaload, 1) := by decide +kernel
theorem dL_law_311 : decode cL_law 311 = .ok (.aload_n 0, 1) := by decide +kernel
theorem dL_law_312 : decode cL_law 312 = .ok (.iload_n 3, 1) := by decide +kernel
theorem dL_law_313 : decode cL_law 313 = .ok (.iconst 2, 1) := by decide +kernel
theorem dL_law_314 : decode cL_law 314 = .ok (.iadd, 1) := by decide +kernel
theorem dL_law_315 : decode cL_law 315 = .ok (.iaload, 1) := by decide +kernel
theorem dL_law_316 : decode cL_law 316 = .ok (.invokevirtual 48, 3) := by decide +kernel
theorem dL_law_319 : decode cL_law 319 = .ok (.if_icmp .eq 54, 3) := by decide +kernel
theorem dL_law_322 : decode cL_law 322 = .ok (.iconst 0, 1) := by decide +kernel
theorem dL_law_323 : decode cL_law 323 = .ok (.ireturn, 1) := by decide +kernel
theorem dL_law_324 : decode cL_law 324 = .ok (.aload_n 1, 1) := by decide +kernel
theorem dL_law_325 : decode cL_law 325 = .ok (.invokevirtual 49, 3) := by decide +kernel
theorem dL_law_328 : decode cL_law 328 = .ok (.aload_n 2, 1) := by decide +kernel
theorem dL_law_329 : decode cL_law 329 = .ok (.invokevirtual 53, 3) := by decide +kernel
theorem dL_law_332 : decode cL_law 332 = .ok (.if_icmp .eq 41, 3) := by decide +kernel
theorem dL_law_335 : decode cL_law 335 = .ok (.iconst 0, 1) := by decide +kernel
theorem dL_law_336 : decode cL_law 336 = .ok (.ireturn, 1) := by decide +kernel
theorem dL_law_337 : decode cL_law 337 = .ok (.aload_n 1, 1) := by decide +kernel
theorem dL_law_338 : decode cL_law 338 = .ok (.invokevirtual 54, 3) := by decide +kernel
theorem dL_law_341 : decode cL_law 341 = .ok (.aload_n 2, 1) := by decide +kernel
theorem dL_law_342 : decode cL_law 342 = .ok (.invokevirtual 57, 3) := by decide +kernel
theorem dL_law_345 : decode cL_law 345 = .ok (.if_icmp .eq 28, 3) := by decide +kernel
theorem dL_law_348 : decode cL_law 348 = .ok (.iconst 0, 1) := by decide +kernel
theorem dL_law_349 : decode cL_law 349 = .ok (.ireturn, 1) := by decide +kernel
theorem dL_law_350 : decode cL_law 350 = .ok (.aload_n 1, 1) := by decide +kernel
theorem dL_law_351 : decode cL_law 351 = .ok (.aload_n 0, 1) := by decide +kernel
theorem dL_law_352 : decode cL_law 352 = .ok (.iload_n 3, 1) := by decide +kernel
theorem dL_law_353 : decode cL_law 353 = .ok (.iconst 1, 1) := by decide +kernel
theorem dL_law_354 : decode cL_law 354 = .ok (.iadd, 1) := by decide +kernel
theorem dL_law_355 : decode cL_law 355 = .ok (.iaload, 1) := by decide +kernel
theorem dL_law_356 : decode cL_law 356 = .ok (.invokevirtual 58, 3) := by decide +kernel
theorem dL_law_359 : decode cL_law 359 = .ok (.aload_n 2, 1) := by decide +kernel
theorem dL_law_360 : decode cL_law 360 = .ok (.aload_n 0, 1) := by decide +kernel
theorem dL_law_361 : decode cL_law 361 = .ok (.iload_n 3, 1) := by decide +kernel
theorem dL_law_362 : decode cL_law 362 = .ok (.iconst 1, 1) := by decide +kernel
theorem dL_law_363 : decode cL_law 363 = .ok (.iadd, 1) := by decide +kernel
theorem dL_law_364 : decode cL_law 364 = .ok (.iaload, 1) := by decide +kernel
theorem dL_law_365 : decode cL_law 365 = .ok (.invokevirtual 61, 3) := by decide +kernel
theorem dL_law_368 : decode cL_law 368 = .ok (.if_icmp .eq 5, 3) := by decide +kernel
theorem dL_law_371 : decode cL_law 371 = .ok (.iconst 0, 1) := by decide +kernel
theorem dL_law_372 : decode cL_law 372 = .ok (.ireturn, 1) := by decide +kernel
theorem dL_law_373 : decode cL_law 373 = .ok (.iinc 3 4, 3) := by decide +kernel
theorem dL_law_376 : decode cL_law 376 = .ok (.goto (-358), 3) := by decide +kernel
theorem dL_law_379 : decode cL_law 379 = .ok (.iconst 1, 1) := by decide +kernel
theorem dL_law_380 : decode cL_law 380 = .ok (.ireturn, 1) := by decide +kernel
abbrev vwCl : List vw_C := [(RX0, TX0, 6), (RX1, TX1, 2), (RX2, TX2, 8)]
end
section
/-! The abstract heap: what stands at each address, by one function; a method's contract says what the function is behind it. -/
abbrev AH : Type := Nat → Option va_E
def hp_A (base : Nat) : Nat → Prop := fun q => base ≤ q
def hp_ok (D : va_G) (base : Nat) (f : AH) (H : Heap) : Prop := ∀ (a : Nat) (e : va_E), f a = some e → base ≤ a ∧ va_at D vwCl (a, e) H
def hp_nw : List Cond := [.fieldLinkNest RX1 62 RX0 "bits" "I" RX1, .fieldLinkNest RX1 53 RX0 "len" "I" RX1, .fieldLinkNest RX1 22 RX0 "hop" "I" RX1, .fieldLinkNest RX1 25 RX0 "routes" "I" RX1, .fieldLinkNest RX1 28 RX0 "zero" "LRouteTrie$Node;" RX1, .fieldLinkNest RX1 31 RX0 "one" "LRouteTrie$Node;" RX1,
  .methodLinkNest RX1 11 yX0_init RX1, .methodLinkNest RX1 69 yX0_toward RX1, .methodLinkNest RX1 87 yX0_isRoute RX1, .methodLinkNest RX1 65 yX0_isBeginOf RX1, .methodLinkNest RX0 24 yX1_firstBits RX1, .methodLinkNest RX1 99 yX0_hang RX1, .methodLinkNest RX1 110 yX0_replace RX1]
theorem hp_nw_in : ∀ w ∈ hp_nw, w ∈ lw_tbl := by decide +kernel
theorem hp_nw_on : ∀ w ∈ hp_nw, w.onTables = true := by decide +kernel
def hp_N (U : State) : Prop := ∀ w ∈ hp_nw, va_Nw w U
theorem hp_N.warm {s U : State} (hW : s.WarmedH U.vm) (h : hp_N s) : hp_N U := by
  intro w hw
  have h1 := h w hw
  simp only [hp_nw, List.mem_cons, List.not_mem_nil, or_false] at hw
  rcases hw with rfl | rfl | rfl | rfl | rfl | rfl | rfl | rfl | rfl | rfl | rfl | rfl | rfl <;> first | exact va_Nw.warmF hW h1 | exact va_Nw.warmM hW h1
theorem hp_N.same {u U : State} (e : u.vm = U.vm) (h : hp_N u) : hp_N U := fun w hw => va_Nw.same (hp_nw_on w hw) e (h w hw)
def hp_C (D : va_G) (cy : ClassId) (base : Nat) (s : State) : Prop := base ≤ s.heap.size ∧ va_K D vwCl [(cy, .int)] s ∧ hp_N s
def hp_B (D : va_G) (cy : ClassId) (base : Nat) (f : AH) (U : State) : Prop := hp_ok D base f U.heap ∧ hp_C D cy base U
theorem hp_ok.lt {D : va_G} {base : Nat} {f : AH} {H : Heap} (h : hp_ok D base f H) {a : Nat} {e : va_E} (ha : f a = some e) : a < H.size := (h a e ha).2.lt
theorem hp_ok.P {D : va_G} {base : Nat} {f : AH} {H : Heap} (h : hp_ok D base f H) {a : Nat} {e : va_E} (ha : f a = some e) : va_P D vwCl [(a, e)] H := by
  intro k q hk
  match k, hk with
  | 0, hk => cases hk; exact (h a e ha).2
  | k + 1, hk => simp at hk
theorem hp_ok.up {D : va_G} {base : Nat} {f : AH} {H H1 : Heap} (h : hp_ok D base f H) {a : Nat} {e1 : va_E} (ha : base ≤ a) (h1 : va_at D vwCl (a, e1) H1) (ho : ∀ q : Nat, q ≠ a → q < H.size → H1[q]? = H[q]?) : hp_ok D base (va_up f a (some e1)) H1 := by
  intro b e hb
  by_cases hab : b = a
  · subst hab
    rw [va_up_self] at hb
    cases hb
    exact ⟨ha, h1⟩
  · rw [va_up_ne _ _ hab] at hb
    exact ⟨(h b e hb).1, (h b e hb).2.kept (ho b hab (h.lt hb))⟩
theorem hp_ok.fresh {D : va_G} {base : Nat} {f : AH} {H : Heap} (h : hp_ok D base f H) : f H.size = none := by
  cases hq : f H.size with
  | none => rfl
  | some e => exact absurd (h.lt hq) (Nat.lt_irrefl _)
theorem hp_blind {D : va_G} {cy : ClassId} {base : Nat} {f : AH} {av : List Value} : FrameBlind (va_Pc av (hp_B D cy base f)) := by
  intro a U g mk q
  obtain ⟨q0, q1, q2, q3, q4⟩ := q
  exact ⟨q0, q1, q2, va_K.moved (u := U) (U := U.calling g mk a) (Vm.Alike.refl U.vm) q3, hp_N.same (u := U) (U := U.calling g mk a) rfl q4⟩
theorem hp_start {D : va_G} {cy : ClassId} {base : Nat} {f : AH} {s U : State} {H : Heap} {locs : List Loc} (C : hp_C D cy base s) (hf : hp_ok D base f H) (hS : va_S (hp_A base) s.heap H locs) (hU : U.heap = H) (hW : s.WarmedH U.vm) : hp_B D cy base f U :=
  ⟨by rw [hU]; exact hf, by rw [hU]; exact Nat.le_trans C.1 hS.1, va_K.moved hW.alike C.2.1, C.2.2.warm hW⟩
section HPA
variable {p : Program} {l : Launch} {e : Env} {R : Room} {s : State} {m : MethodId} {args : Array Value} {below : List Frame} {meth : Method} {c : Code} {H : Heap} {locs : List Loc} {cells slots : Nat} {Q : State → Prop}
variable {cc : ByteArray} {pc : Nat} {ls : Array Slot} {rest : List Value} {D : va_G} {cy : ClassId} {base : Nat} {f : AH} {a : Nat}
theorem hp_get (hexec : p.tables.exec = Jvm.exec) (hb : c.code = cc) {own ref C : String} {T : u_T} {N ci index : Nat} {Ts : List Cond} (hts : ∀ w ∈ Ts, w.before args s = true) (hin : ∀ w ∈ u_ws C T N, w ∈ Ts) (hown : s.vm.findClass own = some m.cls) (C0 : hp_C D cy base s) (hf : hp_ok D base f H) {fs : List Value} (he : f a = some (.inr (ci, fs))) (hc : vwCl[ci]? = some (C, T, N)) (k : Nat) (hk : k < N) (hlink : (Cond.fieldLink own index ref (T k).2.1 (T k).2.2.1).before args s = true) (hsame : ∀ x, s.fieldFound? (T k).1 (T k).2.1 (T k).2.2.1 = some x → s.fieldFound? ref (T k).2.1 (T k).2.2.1 = some x) {v : Value} (hv : fs[k]? = some v) (hdg : decode cc pc = .ok (.getfield index, 3))
    (kk : W p l e R s m args below meth c H locs cells slots Q (F0 m (pc + 3) ls (v :: rest))) : W p l e R s m args below meth c H locs cells slots Q (F0 m pc ls (.ref a :: rest)) :=
  va_get hexec hb hts hin hown C0.2.1 (hf.P he) 0 rfl hc k hk hlink hsame hv hdg kk
theorem hp_getN (hexec : p.tables.exec = Jvm.exec) (hb : c.code = cc) {own ref C host : String} {T : u_T} {N ci index : Nat} {Ts : List Cond} (hts : ∀ w ∈ Ts, w.before args s = true) (hin : ∀ w ∈ u_ws C T N, w ∈ Ts) (hown : s.vm.findClass own = some m.cls) (C0 : hp_C D cy base s) (hf : hp_ok D base f H) {fs : List Value} (he : f a = some (.inr (ci, fs))) (hc : vwCl[ci]? = some (C, T, N)) (k : Nat) (hk : k < N) (hw : Cond.fieldLinkNest own index ref (T k).2.1 (T k).2.2.1 host ∈ hp_nw) (hsame : ∀ x, s.fieldFound? (T k).1 (T k).2.1 (T k).2.2.1 = some x → s.fieldFound? ref (T k).2.1 (T k).2.2.1 = some x) {v : Value} (hv : fs[k]? = some v) (hdg : decode cc pc = .ok (.getfield index, 3))
    (kk : W p l e R s m args below meth c H locs cells slots Q (F0 m (pc + 3) ls (v :: rest))) : W p l e R s m args below meth c H locs cells slots Q (F0 m pc ls (.ref a :: rest)) :=
  va_getN hexec hb hts hin hown C0.2.1 (hf.P he) 0 rfl hc k hk (va_Nw.use rfl (C0.2.2 _ hw)) hsame hv hdg kk
theorem hp_put {H0 : Heap} (hexec : p.tables.exec = Jvm.exec) (hb : c.code = cc) {own ref C : String} {T : u_T} {N ci index : Nat} {Ts : List Cond} (hts : ∀ w ∈ Ts, w.before args s = true) (hin : ∀ w ∈ u_ws C T N, w ∈ Ts) (ty0 : Nat → FieldType) (hty : ∀ k, k < N → parseFieldDescriptor (T k).2.2.1 = some (ty0 k)) (hnm : ∀ a, a < N → ∀ b, b < N → a ≠ b → (T a).2.1 ≠ (T b).2.1) (hown : s.vm.findClass own = some m.cls) (C0 : hp_C D cy base s) (hf : hp_ok D base f H) (hS0 : va_S (hp_A base) H0 H locs) {fs : List Value} (he : f a = some (.inr (ci, fs))) (hc : vwCl[ci]? = some (C, T, N)) (k : Nat) (hk : k < N) (hlink : (Cond.fieldLink own index ref (T k).2.1 (T k).2.2.1).before args s = true) (hsame : ∀ x, s.fieldFound? (T k).1 (T k).2.1 (T k).2.2.1 = some x → s.fieldFound? ref (T k).2.1 (T k).2.2.1 = some x) (hfin : (T k).2.2.2 = false) {v : Value} (hn : narrow (ty0 k) v = v) (hfit : fits (ty0 k) v = true) (hl : k < fs.length)
    (hdg : decode cc pc = .ok (.putfield index, 3)) (kk : ∀ (f1 : AH) (H1 : Heap) (locs1 : List Loc), f1 = va_up f a (some (.inr (ci, fs.set k v))) → hp_ok D base f1 H1 → va_S (hp_A base) H0 H1 locs1 → W p l e R s m args below meth c H1 locs1 cells slots Q (F0 m (pc + 3) ls rest)) : W p l e R s m args below meth c H locs cells slots Q (F0 m pc ls (v :: .ref a :: rest)) := by
  have hK := C0.2.1
  have hap := va_apart (own := own) hts hin ty0 hty hnm hK hc
  obtain ⟨hba, r, h1, cell, q1, q2, q3, q4⟩ := hf a _ he
  have hr : r = (C, T, N) := Option.some.inj (h1.symm.trans hc)
  subst hr
  obtain ⟨hS, hfc, kC, hkC, hkind⟩ := hK.1 ci _ hc
  obtain ⟨cf, kf, fi, fd, hi, hsl⟩ := hS k hk
  have hlay := hts _ (hin _ (u_in_lay hk))
  unfold u_lay at hlay
  rw [if_neg (by rw [hfin]; decide)] at hlay
  have hst := (u_facts hfc hkC (u_lays hts hin hk) hi).1
  have h6 := u_store hfc hkC hkind hlay hi (hty k hk) hn hfit
  refine W.putK hexec hb (f := fd) ⟨hown, hlink, ⟨_, _, _, hsame _ hi⟩, hst⟩ (by rw [q2]; exact h6) q1 q3 (by rw [hsl]; exact k2_hasslot (q4 k hk)) rfl rfl hdg fun H' e1 e2 e3 => ?_
  rw [hsl] at e1 ⊢
  exact kk _ H' _ rfl (hf.up hba ⟨_, hc, t_OB.to (V := updV (vp_V fs) k v) ⟨_, e1, q2, q3, t_set q4 hap hk v⟩ (fun j _ => vp_updV_set hl v j)⟩ (fun q h _ => e3 q h)) (hS0.put e2 e3 hba)
theorem hp_putN {H0 : Heap} (hexec : p.tables.exec = Jvm.exec) (hb : c.code = cc) {own ref C host : String} {T : u_T} {N ci index : Nat} {Ts : List Cond} (hts : ∀ w ∈ Ts, w.before args s = true) (hin : ∀ w ∈ u_ws C T N, w ∈ Ts) (ty0 : Nat → FieldType) (hty : ∀ k, k < N → parseFieldDescriptor (T k).2.2.1 = some (ty0 k)) (hnm : ∀ a, a < N → ∀ b, b < N → a ≠ b → (T a).2.1 ≠ (T b).2.1) (hown : s.vm.findClass own = some m.cls) (C0 : hp_C D cy base s) (hf : hp_ok D base f H) (hS0 : va_S (hp_A base) H0 H locs) {fs : List Value} (he : f a = some (.inr (ci, fs))) (hc : vwCl[ci]? = some (C, T, N)) (k : Nat) (hk : k < N) (hw : Cond.fieldLinkNest own index ref (T k).2.1 (T k).2.2.1 host ∈ hp_nw) (hsame : ∀ x, s.fieldFound? (T k).1 (T k).2.1 (T k).2.2.1 = some x → s.fieldFound? ref (T k).2.1 (T k).2.2.1 = some x) (hfin : (T k).2.2.2 = false) {v : Value} (hn : narrow (ty0 k) v = v) (hfit : fits (ty0 k) v = true) (hl : k < fs.length)
    (hdg : decode cc pc = .ok (.putfield index, 3)) (kk : ∀ (f1 : AH) (H1 : Heap) (locs1 : List Loc), f1 = va_up f a (some (.inr (ci, fs.set k v))) → hp_ok D base f1 H1 → va_S (hp_A base) H0 H1 locs1 → W p l e R s m args below meth c H1 locs1 cells slots Q (F0 m (pc + 3) ls rest)) : W p l e R s m args below meth c H locs cells slots Q (F0 m pc ls (v :: .ref a :: rest)) := by
  have hK := C0.2.1
  have hap := va_apart (own := own) hts hin ty0 hty hnm hK hc
  obtain ⟨hba, r, h1, cell, q1, q2, q3, q4⟩ := hf a _ he
  have hr : r = (C, T, N) := Option.some.inj (h1.symm.trans hc)
  subst hr
  obtain ⟨hS, hfc, kC, hkC, hkind⟩ := hK.1 ci _ hc
  obtain ⟨cf, kf, fi, fd, hi, hsl⟩ := hS k hk
  have hlay := hts _ (hin _ (u_in_lay hk))
  unfold u_lay at hlay
  rw [if_neg (by rw [hfin]; decide)] at hlay
  have hst := (u_facts hfc hkC (u_lays hts hin hk) hi).1
  have h6 := u_store hfc hkC hkind hlay hi (hty k hk) hn hfit
  refine va_WputK hexec hb (f := fd) hown (va_Nw.use rfl (C0.2.2 _ hw)) (hsame _ hi) hst (by rw [q2]; exact h6) q1 q3 (by rw [hsl]; exact k2_hasslot (q4 k hk)) rfl rfl hdg fun H' e1 e2 e3 => ?_
  rw [hsl] at e1 ⊢
  exact kk _ H' _ rfl (hf.up hba ⟨_, hc, t_OB.to (V := updV (vp_V fs) k v) ⟨_, e1, q2, q3, t_set q4 hap hk v⟩ (fun j _ => vp_updV_set hl v j)⟩ (fun q h _ => e3 q h)) (hS0.put e2 e3 hba)
theorem hp_putF {H0 : Heap} (hexec : p.tables.exec = Jvm.exec) (hb : c.code = cc) {own ref C : String} {T : u_T} {N ci index : Nat} {Ts : List Cond} (hts : ∀ w ∈ Ts, w.before args s = true) (hin : ∀ w ∈ u_ws C T N, w ∈ Ts) (ty0 : Nat → FieldType) (hty : ∀ k, k < N → parseFieldDescriptor (T k).2.2.1 = some (ty0 k)) (hnm : ∀ a, a < N → ∀ b, b < N → a ≠ b → (T a).2.1 ≠ (T b).2.1) (hown : s.vm.findClass own = some m.cls) (C0 : hp_C D cy base s) (hf : hp_ok D base f H) (hS0 : va_S (hp_A base) H0 H locs) {fs : List Value} (he : f a = some (.inr (ci, fs))) (hc : vwCl[ci]? = some (C, T, N)) (k : Nat) (hk : k < N) (hlink : (Cond.fieldLink own index ref (T k).2.1 (T k).2.2.1).before args s = true) (hsame : ∀ x, s.fieldFound? (T k).1 (T k).2.1 (T k).2.2.1 = some x → s.fieldFound? ref (T k).2.1 (T k).2.2.1 = some x) (hfin : (T k).2.2.2 = true) (hin2 : meth.name = "<init>") (hdecl : (T k).1 = own) {v : Value} (hn : narrow (ty0 k) v = v) (hfit : fits (ty0 k) v = true) (hl : k < fs.length)
    (hdg : decode cc pc = .ok (.putfield index, 3)) (kk : ∀ (f1 : AH) (H1 : Heap) (locs1 : List Loc), f1 = va_up f a (some (.inr (ci, fs.set k v))) → hp_ok D base f1 H1 → va_S (hp_A base) H0 H1 locs1 → W p l e R s m args below meth c H1 locs1 cells slots Q (F0 m (pc + 3) ls rest)) : W p l e R s m args below meth c H locs cells slots Q (F0 m pc ls (v :: .ref a :: rest)) := by
  have hK := C0.2.1
  have hap := va_apart (own := own) hts hin ty0 hty hnm hK hc
  obtain ⟨hba, r, h1, cell, q1, q2, q3, q4⟩ := hf a _ he
  have hr : r = (C, T, N) := Option.some.inj (h1.symm.trans hc)
  subst hr
  obtain ⟨hS, hfc, kC, hkC, hkind⟩ := hK.1 ci _ hc
  obtain ⟨cf, kf, fi, fd, hi, hsl⟩ := hS k hk
  have hlay := hts _ (hin _ (u_in_lay hk))
  unfold u_lay at hlay
  rw [if_pos hfin] at hlay
  have hst := (u_facts hfc hkC (u_lays hts hin hk) hi).1
  have hcf : m.cls = cf := by
    obtain ⟨_, _, c', _, _, _, -, -, hf', -, -, -, hown2, -⟩ := Cond.laysFinal_spec hlay
    have e1 : c' = cf := by have := hi.symm.trans hf'; simp at this; exact this.1.symm
    rw [hdecl] at hown2
    rw [← e1]; exact Option.some.inj (hown.symm.trans hown2)
  have h6 := u_fits hfc hkC hkind (Or.inr hlay) hi (hty k hk) hn hfit
  refine W.putFinK hexec hb hown hlink (hsame _ hi) hst hcf hin2 (by rw [q2]; exact h6) q1 q3 (by rw [hsl]; exact k2_hasslot (q4 k hk)) rfl rfl hdg fun H' e1 e2 e3 => ?_
  rw [hsl] at e1 ⊢
  exact kk _ H' _ rfl (hf.up hba ⟨_, hc, t_OB.to (V := updV (vp_V fs) k v) ⟨_, e1, q2, q3, t_set q4 hap hk v⟩ (fun j _ => vp_updV_set hl v j)⟩ (fun q h _ => e3 q h)) (hS0.put e2 e3 hba)
theorem hp_iald (hexec : p.tables.exec = Jvm.exec) (hb : c.code = cc) (C0 : hp_C D cy base s) (hf : hp_ok D base f H) {n : Nat} {g : Nat → Int32} (he : f a = some (.inl (cy, n, .inl g))) {i : Int32} (hin : vp_in i n) (hdg : decode cc pc = .ok (.iaload, 1))
    (kk : W p l e R s m args below meth c H locs cells slots Q (F0 m (pc + 1) ls (.int (g i.toNatClampNeg) :: rest))) : W p l e R s m args below meth c H locs cells slots Q (F0 m pc ls (.int i :: .ref a :: rest)) :=
  va_iald hexec hb C0.2.1 (hf.P he) 0 0 rfl rfl hin hdg kk
theorem hp_iast {H0 : Heap} (hexec : p.tables.exec = Jvm.exec) (hb : c.code = cc) (C0 : hp_C D cy base s) (hf : hp_ok D base f H) (hS : va_S (hp_A base) H0 H locs) {n : Nat} {g : Nat → Int32} (he : f a = some (.inl (cy, n, .inl g))) {i x : Int32} (hin : vp_in i n) (hdg : decode cc pc = .ok (.iastore, 1))
    (kk : ∀ (f1 : AH) (H1 : Heap) (locs1 : List Loc), f1 = va_up f a (some (.inl (cy, n, .inl (upd g i.toNatClampNeg x)))) → hp_ok D base f1 H1 → va_S (hp_A base) H0 H1 locs1 → W p l e R s m args below meth c H1 locs1 cells slots Q (F0 m (pc + 1) ls rest)) : W p l e R s m args below meth c H locs cells slots Q (F0 m pc ls (.int x :: .int i :: .ref a :: rest)) := by
  have hK := C0.2.1
  refine W.iast hexec hb (hf a _ he).2 ((hK.2 0 _ rfl).1 n (fun j => .int (g j))) (fun q => by cases q) (by show ¬ (i < 0 ∨ (arrV _ _ _).slots.size ≤ _); rw [arrV_size]; exact hin) rfl rfl hdg fun H1 e z oq => ?_
  refine kk _ H1 _ rfl (hf.up (hf a _ he).1 ?_ (fun q h _ => oq q h)) (hS.put z oq (hf a _ he).1)
  show H1[a]? = some (vp_cell _ _)
  rw [e]
  show _ = some (vp_cell cy (n, .inl _))
  rw [vp_cell_i, vp_cell_i, arrV_store]
  congr 2
  funext q
  by_cases hq : q = i.toNatClampNeg
  · subst hq
    simp [updV, upd]
  · simp [updV, upd, hq]
theorem hp_new {H0 : Heap} (hexec : p.tables.exec = Jvm.exec) (hb : c.code = cc) {own C : String} {T : u_T} {N ci index : Nat} {Ts : List Cond} (hts : ∀ w ∈ Ts, w.before args s = true) (hin : ∀ w ∈ u_ws C T N, w ∈ Ts) (ty : Nat → FieldType) (hty : ∀ k, k < N → parseFieldDescriptor (T k).2.2.1 = some (ty k)) (hown : s.vm.findClass own = some m.cls) (hcl : (Cond.classLink own index C).before args s = true) (hinst : (Cond.instantiable C N).before args s = true) (hini : (Cond.initialized C).before args s = true)
    (C0 : hp_C D cy base s) (hf : hp_ok D base f H) (hS : va_S (hp_A base) H0 H locs) (hbs : base ≤ H0.size) (hc : vwCl[ci]? = some (C, T, N)) {fs : List Value} (hfs : ∀ j, j < N → defaultValue (ty j) = vp_V fs j) (hcells : cells + 1 ≤ R.cells) (hslots : slots + N ≤ R.slots) (hdg : decode cc pc = .ok (.new index, 3))
    (kk : ∀ (q : Nat) (f1 : AH) (H1 : Heap), f q = none → f1 = va_up f q (some (.inr (ci, fs))) → hp_ok D base f1 H1 → va_S (hp_A base) H0 H1 locs →
      W p l e R s m args below meth c H1 locs (cells + 1) (slots + N) Q (F0 m (pc + 3) ls (.ref q :: rest))) : W p l e R s m args below meth c H locs cells slots Q (F0 m pc ls rest) := by
  have hKn := C0.2.1.1 ci _ hc
  refine W.newcK hexec hb hown hcl hinst hini rfl hdg hcells hslots hKn.2.1 rfl fun H1 kC hkC e1 z1 o1 => ?_
  refine kk H.size _ H1 hf.fresh rfl (hf.up (Nat.le_trans hbs hS.1) ⟨_, hc, (u_born ty hts hin hKn hkC e1 hty).to hfs⟩ (fun q _ h => o1 q h)) ⟨Nat.le_trans hS.1 (by omega), fun x h1 h2 => (o1 x (Nat.lt_of_lt_of_le h1 hS.1)).trans (hS.2.1 x h1 h2), hS.2.2⟩
theorem hp_newi {H0 : Heap} (hexec : p.tables.exec = Jvm.exec) (hb : c.code = cc) (harr : (Cond.arrayClass .int).before args s = true) (C0 : hp_C D cy base s) (hf : hp_ok D base f H) (hS : va_S (hp_A base) H0 H locs) (hbs : base ≤ H0.size) {n : Int32} {N' : Nat} (hn : ¬ n < 0) (hN : n.toNatClampNeg = N') (hbytes : N' * componentBytes .int ≤ 536870912) (hcells : cells + 1 ≤ R.cells) (hslots : slots + N' ≤ R.slots) (hdg : decode cc pc = .ok (.newarray .int, 2))
    (kk : ∀ (q : Nat) (f1 : AH) (H1 : Heap), f q = none → f1 = va_up f q (some (.inl (cy, N', .inl (fun _ => 0)))) → hp_ok D base f1 H1 → va_S (hp_A base) H0 H1 locs →
      W p l e R s m args below meth c H1 locs (cells + 1) (slots + N') Q (F0 m (pc + 2) ls (.ref q :: rest))) : W p l e R s m args below meth c H locs cells slots Q (F0 m pc ls (.int n :: rest)) := by
  refine va_newaK (atype := .int) hexec hb harr rfl hdg rfl hn hN hbytes hcells hslots rfl fun H1 cA e1 z1 o1 hAr hNm => ?_
  have h2 : s.vm.findClass ("[" ++ FieldType.int.toString) = some cy := (C0.2.1.2 0 _ rfl).2
  have h3 : cA = cy := Option.some.inj (hNm.symm.trans h2)
  subst h3
  refine kk H.size _ H1 hf.fresh rfl (hf.up (Nat.le_trans hbs hS.1) e1 (fun q _ h => o1 q h)) ⟨Nat.le_trans hS.1 (by omega), fun x h1 h2 => (o1 x (Nat.lt_of_lt_of_le h1 hS.1)).trans (hS.2.1 x h1 h2), hS.2.2⟩
/-! references that may be null -/
theorem hp_aload_nq (hexec : p.tables.exec = Jvm.exec) (hb : c.code = cc) {k : Fin 4} {i : Nat} {r : Option Nat} (hdg : decode cc pc = .ok (.aload_n k, 1)) (hi : (k : Nat) = i) (hl : ls[i]? = some (.val (va_rf r)))
    (kk : W p l e R s m args below meth c H locs cells slots Q (F0 m (pc + 1) ls (va_rf r :: rest))) : W p l e R s m args below meth c H locs cells slots Q (F0 m pc ls rest) := by
  cases r with
  | none => exact lv_aload_nN hexec hb hdg hi hl kk
  | some x => exact lv_aload_n hexec hb hdg hi hl kk
theorem hp_aloadq (hexec : p.tables.exec = Jvm.exec) (hb : c.code = cc) {i : Nat} {r : Option Nat} (hdg : decode cc pc = .ok (.aload i, 2)) (hl : ls[i]? = some (.val (va_rf r)))
    (kk : W p l e R s m args below meth c H locs cells slots Q (F0 m (pc + 2) ls (va_rf r :: rest))) : W p l e R s m args below meth c H locs cells slots Q (F0 m pc ls rest) := by
  cases r with
  | none => exact lv_aloadN hexec hb hdg hl kk
  | some x => exact lv_aload hexec hb hdg hl kk
theorem hp_astore_nq (hexec : p.tables.exec = Jvm.exec) (hb : c.code = cc) {k : Fin 4} {i nL : Nat} {r : Option Nat} {lv lv' : List (Nat × Value)} (hdg : decode cc pc = .ok (.astore_n k, 1)) (hi : (k : Nat) = i) (h : lv_has ls nL lv) (hn : i < nL) (hl : (i, va_rf r) :: lv.filter (fun q => !(q.1 == i) && !(q.1 + 1 == i && q.2.category == 2)) = lv')
    (kk : ∀ ls' : Array Slot, lv_has ls' nL lv' → W p l e R s m args below meth c H locs cells slots Q (F0 m (pc + 1) ls' rest)) : W p l e R s m args below meth c H locs cells slots Q (F0 m pc ls (va_rf r :: rest)) := by
  cases r with
  | none => exact lv_astore_nN hexec hb hdg hi h hn hl kk
  | some x => exact lv_astore_n hexec hb hdg hi h hn hl kk
theorem hp_astoreq (hexec : p.tables.exec = Jvm.exec) (hb : c.code = cc) {i nL : Nat} {r : Option Nat} {lv lv' : List (Nat × Value)} (hdg : decode cc pc = .ok (.astore i, 2)) (h : lv_has ls nL lv) (hn : i < nL) (hl : (i, va_rf r) :: lv.filter (fun q => !(q.1 == i) && !(q.1 + 1 == i && q.2.category == 2)) = lv')
    (kk : ∀ ls' : Array Slot, lv_has ls' nL lv' → W p l e R s m args below meth c H locs cells slots Q (F0 m (pc + 2) ls' rest)) : W p l e R s m args below meth c H locs cells slots Q (F0 m pc ls (va_rf r :: rest)) := by
  cases r with
  | none => exact lv_astoreN hexec hb hdg h hn hl kk
  | some x => exact lv_astore hexec hb hdg h hn hl kk
theorem hp_ifnullq (hexec : p.tables.exec = Jvm.exec) (hb : c.code = cc) {r : Option Nat} {off : Int} {tgt : Nat} (hdg : decode cc pc = .ok (.ifnull off, 3)) (ht : (pc : Int) + off = (tgt : Int))
    (kn : r = none → W p l e R s m args below meth c H locs cells slots Q (F0 m tgt ls rest)) (ks : ∀ x : Nat, r = some x → W p l e R s m args below meth c H locs cells slots Q (F0 m (pc + 3) ls rest)) : W p l e R s m args below meth c H locs cells slots Q (F0 m pc ls (va_rf r :: rest)) := by
  cases r with
  | none => exact lv_ifnullN hexec hb hdg ht (kn rfl)
  | some x => exact lv_ifnull hexec hb hdg (ks x rfl)
theorem hp_ifnonnullq (hexec : p.tables.exec = Jvm.exec) (hb : c.code = cc) {r : Option Nat} {off : Int} {tgt : Nat} (hdg : decode cc pc = .ok (.ifnonnull off, 3)) (ht : (pc : Int) + off = (tgt : Int))
    (ks : ∀ x : Nat, r = some x → W p l e R s m args below meth c H locs cells slots Q (F0 m tgt ls rest)) (kn : r = none → W p l e R s m args below meth c H locs cells slots Q (F0 m (pc + 3) ls rest)) : W p l e R s m args below meth c H locs cells slots Q (F0 m pc ls (va_rf r :: rest)) := by
  cases r with
  | none => exact lv_ifnonnullN hexec hb hdg (kn rfl)
  | some x => exact lv_ifnonnull hexec hb hdg ht (ks x rfl)
end HPA
end
section
section HPB
variable {p : Program} {l : Launch} {e : Env} {R : Room} {s : State} {m : MethodId} {args : Array Value} {below : List Frame} {meth : Method} {c : Code} {H : Heap} {locs : List Loc} {cells slots : Nat} {Q : State → Prop}
variable {cc : ByteArray} {pc : Nat} {ls : Array Slot} {rest st0 : List Value} {D : va_G} {cy : ClassId} {base : Nat} {f : AH} {av : Array Value} {mc ms : Nat}
theorem hp_ki {post : Int32 → AH → Prop} (hr : va_Run p l e R s m args below meth c H locs cells slots mc ms (F0 m pc ls st0) rest (va_Qi post (hp_B D cy base) (hp_A base) av) (hp_A base)) (hS : va_S (hp_A base) s.heap H locs)
    (kk : ∀ (r : Int32) (u : AH) (H1 : Heap) (locs1 : List Loc), post r u → hp_ok D base u H1 → va_S (hp_A base) s.heap H1 locs1 → W p l e R s m args below meth c H1 locs1 (cells + mc) (slots + ms) Q (F0 m (pc + 3) ls (.int r :: rest))) : W p l e R s m args below meth c H locs cells slots Q (F0 m pc ls st0) :=
  va_calli hr hS (fun _ _ h => h) (fun _ h => h) (fun r u t H1 locs1 ht _ hp hB _ _ hS1 => kk r u H1 locs1 hp (by rw [← ht]; exact hB.1) hS1)
theorem hp_kv {post : AH → Prop} (hr : va_Run p l e R s m args below meth c H locs cells slots mc ms (F0 m pc ls st0) rest (va_Qv post (hp_B D cy base) (hp_A base) av) (hp_A base)) (hS : va_S (hp_A base) s.heap H locs)
    (kk : ∀ (u : AH) (H1 : Heap) (locs1 : List Loc), post u → hp_ok D base u H1 → va_S (hp_A base) s.heap H1 locs1 → W p l e R s m args below meth c H1 locs1 (cells + mc) (slots + ms) Q (F0 m (pc + 3) ls rest)) : W p l e R s m args below meth c H locs cells slots Q (F0 m pc ls st0) :=
  va_callv hr hS (fun _ _ h => h) (fun _ h => h) (fun u t H1 locs1 ht _ hp hB _ _ hS1 => kk u H1 locs1 hp (by rw [← ht]; exact hB.1) hS1)
theorem hp_kq {post : Option Nat → AH → Prop} (hr : va_Run p l e R s m args below meth c H locs cells slots mc ms (F0 m pc ls st0) rest (va_Qq post (hp_B D cy base) (hp_A base) av) (hp_A base)) (hS : va_S (hp_A base) s.heap H locs)
    (kk : ∀ (r : Option Nat) (u : AH) (H1 : Heap) (locs1 : List Loc), post r u → hp_ok D base u H1 → va_S (hp_A base) s.heap H1 locs1 → W p l e R s m args below meth c H1 locs1 (cells + mc) (slots + ms) Q (F0 m (pc + 3) ls (va_rf r :: rest))) : W p l e R s m args below meth c H locs cells slots Q (F0 m pc ls st0) :=
  va_callq hr hS (fun _ _ h => h) (fun _ h => h) (fun r u t H1 locs1 ht _ hp hB _ _ hS1 => kk r u H1 locs1 hp (by rw [← ht]; exact hB.1) hS1)
variable {y : MethodName} {bytes : ByteArray} {maxL nL n index : Nat} {ret : Option FieldType} {ws : List Cond} {rm : Room} {Qc : Array Value → State → Outcome → State → Prop} {free : Addr → Prop} {Ts : List Cond} {own C host : String} {b : Nat} {As : List Value} {ci N : Nat} {T : u_T} {fs : List Value}
theorem hp_rV (S : CallFix p m c cc nL s args Ts own) (C0 : hp_C D cy base s) (hf : hp_ok D base f H) (hS : va_S (hp_A base) s.heap H locs) (hM : Met l y ws rm (va_Pc (.ref b :: As) (hp_B D cy base f)) Qc mc ms free) (cw : CallW R s args own C index y bytes maxL ret ws rm mc ms n) (he : f b = some (.inr (ci, fs))) (hc : vwCl[ci]? = some (C, T, N))
    (hn : As.length = n) (hsize : ls.size = nL) (hstack : st0 = As.reverse ++ .ref b :: rest) (hW : (rest.map fun v => v.category).sum ≤ 8) (hdg : decode cc pc = .ok (.invokevirtual index, 3)) (hfit : cells + mc ≤ R.cells ∧ slots + ms ≤ R.slots) :
    va_Run p l e R s m args below meth c H locs cells slots mc ms (F0 m pc ls st0) rest (Qc (Value.ref b :: As).toArray) free :=
  va_runV S hM cw ⟨hp_blind, va_recv C0.2.1 (hf.P he) hc (q0 := 0) rfl, fun U hU hW => ⟨rfl, hp_start C0 hf hS hU hW⟩⟩ rfl hn hsize hstack (lv_room hW) hdg hfit
theorem hp_rS (S : CallFix p m c cc nL s args Ts own) (C0 : hp_C D cy base s) (hf : hp_ok D base f H) (hS : va_S (hp_A base) s.heap H locs) (hM : Met l y ws rm (va_Pc As (hp_B D cy base f)) Qc mc ms free) (cw : CallB R s args own index y bytes maxL ret ws rm mc ms n ∧ (Cond.static y).before args s = true)
    (hn : As.length = n) (hsize : ls.size = nL) (hstack : st0 = As.reverse ++ rest) (hW : (rest.map fun v => v.category).sum ≤ 8) (hdg : decode cc pc = .ok (.invokestatic index, 3)) (hfit : cells + mc ≤ R.cells ∧ slots + ms ≤ R.slots) :
    va_Run p l e R s m args below meth c H locs cells slots mc ms (F0 m pc ls st0) rest (Qc As.toArray) free :=
  va_runS S hM cw ⟨hp_blind, fun U hU hW => ⟨rfl, hp_start C0 hf hS hU hW⟩⟩ rfl hn hsize hstack (lv_room hW) hdg hfit
theorem hp_rI (S : CallFix p m c cc nL s args Ts own) (C0 : hp_C D cy base s) (hf : hp_ok D base f H) (hS : va_S (hp_A base) s.heap H locs) (hM : Met l y ws rm (va_Pc (.ref b :: As) (hp_B D cy base f)) Qc mc ms free) (cw : CallB R s args own index y bytes maxL none ws rm mc ms n ∧ y.name = "<init>" ∧ (Cond.instanceMethod y).before args s = true)
    (hn : As.length = n) (hsize : ls.size = nL) (hstack : st0 = As.reverse ++ .ref b :: rest) (hW : (rest.map fun v => v.category).sum ≤ 8) (hdg : decode cc pc = .ok (.invokespecial index, 3)) (hfit : cells + mc ≤ R.cells ∧ slots + ms ≤ R.slots) :
    va_Run p l e R s m args below meth c H locs cells slots mc ms (F0 m pc ls st0) rest (Qc (Value.ref b :: As).toArray) free :=
  va_runI S hM cw ⟨hp_blind, fun U hU hW => ⟨rfl, hp_start C0 hf hS hU hW⟩⟩ rfl hn hsize hstack (lv_room hW) hdg hfit
theorem hp_rVN (S : CallFix p m c cc nL s args Ts own) (C0 : hp_C D cy base s) (hf : hp_ok D base f H) (hS : va_S (hp_A base) s.heap H locs) (hM : Met l y ws rm (va_Pc (.ref b :: As) (hp_B D cy base f)) Qc mc ms free) (cw : va_CN R s args own index y host bytes maxL ret ws rm mc ms n ∧ (Cond.instanceMethod y).before args s = true ∧ (Cond.selects C y y).before args s = true) (he : f b = some (.inr (ci, fs))) (hc : vwCl[ci]? = some (C, T, N))
    (hn : As.length = n) (hsize : ls.size = nL) (hstack : st0 = As.reverse ++ .ref b :: rest) (hW : (rest.map fun v => v.category).sum ≤ 8) (hdg : decode cc pc = .ok (.invokevirtual index, 3)) (hfit : cells + mc ≤ R.cells ∧ slots + ms ≤ R.slots) :
    va_Run p l e R s m args below meth c H locs cells slots mc ms (F0 m pc ls st0) rest (Qc (Value.ref b :: As).toArray) free :=
  va_runVN S hM cw ⟨hp_blind, va_recv C0.2.1 (hf.P he) hc (q0 := 0) rfl, fun U hU hW => ⟨rfl, hp_start C0 hf hS hU hW⟩⟩ rfl hn hsize hstack (lv_room hW) hdg hfit
theorem hp_rSN (S : CallFix p m c cc nL s args Ts own) (C0 : hp_C D cy base s) (hf : hp_ok D base f H) (hS : va_S (hp_A base) s.heap H locs) (hM : Met l y ws rm (va_Pc As (hp_B D cy base f)) Qc mc ms free) (cw : va_CN R s args own index y host bytes maxL ret ws rm mc ms n ∧ (Cond.static y).before args s = true ∧ True)
    (hn : As.length = n) (hsize : ls.size = nL) (hstack : st0 = As.reverse ++ rest) (hW : (rest.map fun v => v.category).sum ≤ 8) (hdg : decode cc pc = .ok (.invokestatic index, 3)) (hfit : cells + mc ≤ R.cells ∧ slots + ms ≤ R.slots) :
    va_Run p l e R s m args below meth c H locs cells slots mc ms (F0 m pc ls st0) rest (Qc As.toArray) free :=
  va_runSN S hM cw ⟨hp_blind, fun U hU hW => ⟨rfl, hp_start C0 hf hS hU hW⟩⟩ rfl hn hsize hstack (lv_room hW) hdg hfit
theorem hp_rIN (S : CallFix p m c cc nL s args Ts own) (C0 : hp_C D cy base s) (hf : hp_ok D base f H) (hS : va_S (hp_A base) s.heap H locs) (hM : Met l y ws rm (va_Pc (.ref b :: As) (hp_B D cy base f)) Qc mc ms free) (cw : va_CN R s args own index y host bytes maxL none ws rm mc ms n ∧ y.name = "<init>" ∧ (Cond.instanceMethod y).before args s = true)
    (hn : As.length = n) (hsize : ls.size = nL) (hstack : st0 = As.reverse ++ .ref b :: rest) (hW : (rest.map fun v => v.category).sum ≤ 8) (hdg : decode cc pc = .ok (.invokespecial index, 3)) (hfit : cells + mc ≤ R.cells ∧ slots + ms ≤ R.slots) :
    va_Run p l e R s m args below meth c H locs cells slots mc ms (F0 m pc ls st0) rest (Qc (Value.ref b :: As).toArray) free :=
  va_runIN S hM cw ⟨hp_blind, fun U hU hW => ⟨rfl, hp_start C0 hf hS hU hW⟩⟩ rfl hn hsize hstack (lv_room hW) hdg hfit
end HPB
section HPR
variable {p : Program} {l : Launch} {e : Env} {R : Room} {s : State} {m : MethodId} {args : Array Value} {below : List Frame} {meth : Method} {c : Code} {H : Heap} {locs : List Loc} {cells slots : Nat}
variable {cc : ByteArray} {pc : Nat} {ls : Array Slot} {D : va_G} {cy : ClassId} {base : Nat} {f : AH} {mc ms : Nat}
theorem hp_iret {post : Int32 → AH → Prop} {v : Int32} (hexec : p.tables.exec = Jvm.exec) (hb : c.code = cc) (hr : meth.sig.returnType = some .int) (hlocks : meth.locks = false) (C0 : hp_C D cy base s) (hf : hp_ok D base f H) (hS : va_S (hp_A base) s.heap H locs) (h1 : cells ≤ mc) (h2 : slots ≤ ms) (hdg : decode cc pc = .ok (.ireturn, 1)) (hp : post v f) :
    W p l e R s m args below meth c H locs cells slots (MQ below (va_Qi post (hp_B D cy base) (hp_A base)) args s mc ms (hp_A base)) (F0 m pc ls [.int v]) :=
  W.widen h1 h2 (W.iret hexec hb hr (fun t ht hW => ⟨⟨v, f, rfl, hp, hp_start C0 hf hS ht hW⟩, hS.F ht⟩) hS.2.2 hdg hlocks)
theorem hp_zret {post : Int32 → AH → Prop} {v : Int32} (hexec : p.tables.exec = Jvm.exec) (hb : c.code = cc) (hr : meth.sig.returnType = some .boolean) (hlocks : meth.locks = false) (C0 : hp_C D cy base s) (hf : hp_ok D base f H) (hS : va_S (hp_A base) s.heap H locs) (h1 : cells ≤ mc) (h2 : slots ≤ ms) (hdg : decode cc pc = .ok (.ireturn, 1)) (hn : narrow .boolean (.int v) = .int v) (hp : post v f) :
    W p l e R s m args below meth c H locs cells slots (MQ below (va_Qi post (hp_B D cy base) (hp_A base)) args s mc ms (hp_A base)) (F0 m pc ls [.int v]) :=
  W.widen h1 h2 (W.zret hexec hb hr hn (fun t ht hW => ⟨⟨v, f, rfl, hp, hp_start C0 hf hS ht hW⟩, hS.F ht⟩) hS.2.2 hdg hlocks)
theorem hp_vret {post : AH → Prop} (hexec : p.tables.exec = Jvm.exec) (hb : c.code = cc) (hr : meth.sig.returnType = none) (hlocks : meth.locks = false) (C0 : hp_C D cy base s) (hf : hp_ok D base f H) (hS : va_S (hp_A base) s.heap H locs) (h1 : cells ≤ mc) (h2 : slots ≤ ms) (hdg : decode cc pc = .ok (.return_, 1)) (hp : post f) :
    W p l e R s m args below meth c H locs cells slots (MQ below (va_Qv post (hp_B D cy base) (hp_A base)) args s mc ms (hp_A base)) (F0 m pc ls []) :=
  W.widen h1 h2 (W.vret hexec hb hr (fun t ht hW => ⟨⟨f, rfl, hp, hp_start C0 hf hS ht hW⟩, hS.F ht⟩) hS.2.2 hdg hlocks)
theorem hp_aret {post : Option Nat → AH → Prop} {r : Option Nat} {nm : String} (hexec : p.tables.exec = Jvm.exec) (hb : c.code = cc) (hr : meth.sig.returnType = some (.object nm)) (hlocks : meth.locks = false) (C0 : hp_C D cy base s) (hf : hp_ok D base f H) (hS : va_S (hp_A base) s.heap H locs) (h1 : cells ≤ mc) (h2 : slots ≤ ms) (hdg : decode cc pc = .ok (.areturn, 1)) (hp : post r f) :
    W p l e R s m args below meth c H locs cells slots (MQ below (va_Qq post (hp_B D cy base) (hp_A base)) args s mc ms (hp_A base)) (F0 m pc ls [va_rf r]) :=
  W.widen h1 h2 (W.aret hexec hb hr (Or.inl ⟨nm, rfl⟩) (va_rf_or r) (fun t ht hW => ⟨⟨r, f, rfl, hp, hp_start C0 hf hS ht hW⟩, hS.F ht⟩) hS.2.2 hdg hlocks)
end HPR
end
section
/-! the node's own methods, cell by cell -/
theorem va_rf_cat (r : Option Nat) : (va_rf r).category = 1 := by cases r <;> rfl
theorem hp_dif {f : AH} {a b : Nat} {x y : va_E} (h1 : f b = some x) (h2 : f a = some y) (h : x ≠ y) : b ≠ a := fun e => by subst e; exact h (Option.some.inj (h1.symm.trans h2))
def fbI (x n : Int32) : Int32 := if n = 0 then 0 else x &&& ((-1) <<< ((32 - n) &&& 31))
def g1I (n x : Int32) : Prop := ¬ 32 ≤ n ∧ ((x.toUInt32 >>> ((31 - n).toUInt32 &&& Int32.toUInt32 31)).toInt32 &&& 1) = 1
abbrev ndE (b n h r : Int32) (z o : Option Nat) : va_E := .inr (0, [.int b, .int n, .int h, .int r, va_rf z, va_rf o])
set_option maxHeartbeats 4000000 in
set_option maxRecDepth 100000 in
theorem c_X1_firstBits (l : Launch) (D : va_G) (cy : ClassId) (base : Nat) (f : AH) (x n : Int32)  : Met l yX1_firstBits wsX1_firstBits ({ frames := 0, cells := 0, slots := 0, locals := 0 }) (va_Pc [.int x, .int n] (hp_B D cy base f)) (va_Qi (fun (r : Int32) (u : AH) => r = fbI x n ∧ u = f) (hp_B D cy base) (hp_A base)) 0 0 (hp_A base) := by
  refine Met.ofW (cc := cX1_firstBits) (maxL := 2) (ret := (some .int)) (by decide) rfl ?_
  intro p e s m args below meth c s₁ B hml hv
  obtain ⟨rfl, hf, C0⟩ := hv
  have hx := B.exec
  have hb := B.bytes
  have hr := B.returns
  have hts := atoms_spec (ws := wsX1_firstBits) B.pre
  have hown : s.vm.findClass RX1 = some m.cls := findClass_of_methodNamed B.named
  have hlocks := B.notSynchronized
  have hS : va_S (hp_A base) s.heap s.heap [] := va_S.rf
  have hl := lv_entry ([.int x, .int n]) (n := 2) (Nat.le_of_ble_eq_true rfl)
  rw [lg_entry_eq]
  generalize (lg_sl ([.int x, .int n]) ++ List.replicate (2 - (lg_sl ([.int x, .int n])).length) Slot.unset).toArray = ls at hl ⊢
  have hl : lv_has ls 2 [(0, .int x), (1, .int n)] := hl
  refine lv_iload_n hx hb dX1_firstBits_0 rfl (lv_at hl 1 rfl) ?_
  refine lv_if_ne (tgt := 8) hx hb dX1_firstBits_1 (by decide) (fun h1 => ?_) (fun h1 => ?_)
  · refine lv_iload_n hx hb dX1_firstBits_8 rfl (lv_at hl 0 rfl) ?_
    refine lv_iconst (v := (-1)) hx hb dX1_firstBits_9 (by decide) ?_
    refine lv_bipush (v := 32) hx hb dX1_firstBits_10 (by decide) ?_
    refine lv_iload_n hx hb dX1_firstBits_12 rfl (lv_at hl 1 rfl) ?_
    refine lv_isub hx hb dX1_firstBits_13 ?_
    refine lv_ishl hx hb dX1_firstBits_14 ?_
    refine lv_iand hx hb dX1_firstBits_15 ?_
    exact hp_iret (v := (x &&& ((-1) <<< ((32 - n) &&& 31)))) hx hb hr hlocks C0 hf hS (by first | exact Nat.le_refl _ | omega) (by first | exact Nat.le_refl _ | omega) dX1_firstBits_16 (⟨by rw [fbI, if_neg h1], rfl⟩)
  · refine lv_iconst (v := 0) hx hb dX1_firstBits_4 (by decide) ?_
    refine lv_goto (tgt := 16) hx hb dX1_firstBits_5 (by decide) ?_
    exact hp_iret (v := 0) hx hb hr hlocks C0 hf hS (by first | exact Nat.le_refl _ | omega) (by first | exact Nat.le_refl _ | omega) dX1_firstBits_16 (⟨by rw [fbI, if_pos h1], rfl⟩)
set_option maxHeartbeats 4000000 in
set_option maxRecDepth 100000 in
theorem c_X0_isRoute (l : Launch) (D : va_G) (cy : ClassId) (base : Nat) (f : AH) (a : Nat) (b n h r0 : Int32) (z o : Option Nat) (ha : f a = some (ndE b n h r0 z o)) : Met l yX0_isRoute wsX0_isRoute ({ frames := 0, cells := 0, slots := 0, locals := 0 }) (va_Pc [.ref a] (hp_B D cy base f)) (va_Qi (fun (r : Int32) (u : AH) => r = (if h = -1 then 0 else 1) ∧ u = f) (hp_B D cy base) (hp_A base)) 0 0 (hp_A base) := by
  refine Met.ofW (cc := cX0_isRoute) (maxL := 1) (ret := (some .boolean)) (by decide) rfl ?_
  intro p e s m args below meth c s₁ B hml hv
  obtain ⟨rfl, hf, C0⟩ := hv
  have hx := B.exec
  have hb := B.bytes
  have hr := B.returns
  have hts := atoms_spec (ws := wsX0_isRoute) B.pre
  have hown : s.vm.findClass RX0 = some m.cls := findClass_of_methodNamed B.named
  have hlocks := B.notSynchronized
  have hin0 : ∀ w ∈ wsX00, w ∈ wsX0_isRoute := by decide +kernel
  have hS : va_S (hp_A base) s.heap s.heap [] := va_S.rf
  have hl := lv_entry ([.ref a]) (n := 1) (Nat.le_of_ble_eq_true rfl)
  rw [lg_entry_eq]
  generalize (lg_sl ([.ref a]) ++ List.replicate (1 - (lg_sl ([.ref a])).length) Slot.unset).toArray = ls at hl ⊢
  have hl : lv_has ls 1 [(0, .ref a)] := hl
  refine lv_aload_n hx hb dX0_isRoute_0 rfl (lv_at hl 0 rfl) ?_
  refine hp_get (ci := 0) (v := .int h) (C := RX0) (T := TX0) (N := 6) hx hb hts hin0 hown C0 hf ha rfl 2 (by decide) (hts (.fieldLink RX0 18 "RouteTrie$Node" "hop" "I") (by decide +kernel)) (fun _ h9 => h9) rfl dX0_isRoute_1 ?_
  refine lv_iconst (v := (-1)) hx hb dX0_isRoute_4 (by decide) ?_
  refine lv_icmp_eq (tgt := 12) hx hb dX0_isRoute_5 (by decide) (fun h5 => ?_) (fun h5 => ?_)
  · refine lv_iconst (v := 0) hx hb dX0_isRoute_12 (by decide) ?_
    exact hp_zret (v := 0) hx hb hr hlocks C0 hf hS (by first | exact Nat.le_refl _ | omega) (by first | exact Nat.le_refl _ | omega) dX0_isRoute_13 (by decide) (⟨by rw [if_pos h5], rfl⟩)
  · refine lv_iconst (v := 1) hx hb dX0_isRoute_8 (by decide) ?_
    refine lv_goto (tgt := 13) hx hb dX0_isRoute_9 (by decide) ?_
    exact hp_zret (v := 1) hx hb hr hlocks C0 hf hS (by first | exact Nat.le_refl _ | omega) (by first | exact Nat.le_refl _ | omega) dX0_isRoute_13 (by decide) (⟨by rw [if_neg h5], rfl⟩)
set_option maxHeartbeats 4000000 in
set_option maxRecDepth 100000 in
theorem c_X0_isBeginOf (l : Launch) (D : va_G) (cy : ClassId) (base : Nat) (f : AH) (a : Nat) (b n h r0 : Int32) (z o : Option Nat) (x : Int32) (ha : f a = some (ndE b n h r0 z o)) : Met l yX0_isBeginOf wsX0_isBeginOf ({ frames := 1, cells := 0, slots := 0, locals := 21 }) (va_Pc [.ref a, .int x] (hp_B D cy base f)) (va_Qi (fun (r : Int32) (u : AH) => (r = if fbI x n = b then 1 else 0) ∧ u = f) (hp_B D cy base) (hp_A base)) 0 0 (hp_A base) := by
  refine Met.ofW (cc := cX0_isBeginOf) (maxL := 2) (ret := (some .boolean)) (by decide) rfl ?_
  intro p e s m args below meth c s₁ B hml hv
  obtain ⟨rfl, hf, C0⟩ := hv
  have hx := B.exec
  have hb := B.bytes
  have hr := B.returns
  have hts := atoms_spec (ws := wsX0_isBeginOf) B.pre
  have hown : s.vm.findClass RX0 = some m.cls := findClass_of_methodNamed B.named
  have hlocks := B.notSynchronized
  have hin0 : ∀ w ∈ wsX00, w ∈ wsX0_isBeginOf := by decide +kernel
  have hS : va_S (hp_A base) s.heap s.heap [] := va_S.rf
  have hl := lv_entry ([.ref a, .int x]) (n := 2) (Nat.le_of_ble_eq_true rfl)
  rw [lg_entry_eq]
  generalize (lg_sl ([.ref a, .int x]) ++ List.replicate (2 - (lg_sl ([.ref a, .int x])).length) Slot.unset).toArray = ls at hl ⊢
  have hl : lv_has ls 2 [(0, .ref a), (1, .int x)] := hl
  refine lv_iload_n hx hb dX0_isBeginOf_0 rfl (lv_at hl 1 rfl) ?_
  refine lv_aload_n hx hb dX0_isBeginOf_1 rfl (lv_at hl 0 rfl) ?_
  refine hp_get (ci := 0) (v := .int n) (C := RX0) (T := TX0) (N := 6) hx hb hts hin0 hown C0 hf ha rfl 1 (by decide) (hts (.fieldLink RX0 15 "RouteTrie$Node" "len" "I") (by decide +kernel)) (fun _ h9 => h9) rfl dX0_isBeginOf_2 ?_
  refine hp_ki (hp_rSN (As := [.int x, .int n]) (rest := []) ⟨hx, hb, hml, hown, hts⟩ C0 hf hS (c_X1_firstBits l D cy base f x n) ⟨va_cnB (host := RX1) (index := 24) 2 hts gX0_isBeginOf_X1_firstBits_n24 rfl rfl rfl (C0.2.2 _ (by decide +kernel)) (hts (.initialized RX1) (by decide +kernel)) (by decide +kernel) ⟨Nat.le_of_ble_eq_true rfl, Nat.le_of_ble_eq_true rfl⟩, hts (.static yX1_firstBits) (by decide +kernel), trivial⟩ rfl hl.1 rfl (Nat.le_of_ble_eq_true rfl) dX0_isBeginOf_5 ⟨Nat.le_of_ble_eq_true rfl, Nat.le_of_ble_eq_true rfl⟩) hS (fun r_1 u_1 H locs hq_1 hf hS => ?_)
  obtain ⟨rfl, hu⟩ := hq_1
  rw [hu] at hf
  refine lv_aload_n hx hb dX0_isBeginOf_8 rfl (lv_at hl 0 rfl) ?_
  refine hp_get (ci := 0) (v := .int b) (C := RX0) (T := TX0) (N := 6) hx hb hts hin0 hown C0 hf ha rfl 0 (by decide) (hts (.fieldLink RX0 9 "RouteTrie$Node" "bits" "I") (by decide +kernel)) (fun _ h9 => h9) rfl dX0_isBeginOf_9 ?_
  refine lv_icmp_ne (tgt := 19) hx hb dX0_isBeginOf_12 (by decide) (fun h12 => ?_) (fun h12 => ?_)
  · refine lv_iconst (v := 0) hx hb dX0_isBeginOf_19 (by decide) ?_
    exact hp_zret (v := 0) hx hb hr hlocks C0 hf hS (by first | exact Nat.le_refl _ | omega) (by first | exact Nat.le_refl _ | omega) dX0_isBeginOf_20 (by decide) (⟨by rw [if_neg h12], rfl⟩)
  · refine lv_iconst (v := 1) hx hb dX0_isBeginOf_15 (by decide) ?_
    refine lv_goto (tgt := 20) hx hb dX0_isBeginOf_16 (by decide) ?_
    exact hp_zret (v := 1) hx hb hr hlocks C0 hf hS (by first | exact Nat.le_refl _ | omega) (by first | exact Nat.le_refl _ | omega) dX0_isBeginOf_20 (by decide) (⟨by rw [if_pos h12], rfl⟩)
set_option maxHeartbeats 4000000 in
set_option maxRecDepth 100000 in
theorem c_X0_goesToOne (l : Launch) (D : va_G) (cy : ClassId) (base : Nat) (f : AH) (a : Nat) (b n h r0 : Int32) (z o : Option Nat) (x : Int32) (ha : f a = some (ndE b n h r0 z o)) : Met l yX0_goesToOne wsX0_goesToOne ({ frames := 0, cells := 0, slots := 0, locals := 0 }) (va_Pc [.ref a, .int x] (hp_B D cy base f)) (va_Qi (fun (r : Int32) (u : AH) => ((r = 1 ∧ g1I n x) ∨ (r = 0 ∧ ¬ g1I n x)) ∧ u = f) (hp_B D cy base) (hp_A base)) 0 0 (hp_A base) := by
  refine Met.ofW (cc := cX0_goesToOne) (maxL := 2) (ret := (some .boolean)) (by decide) rfl ?_
  intro p e s m args below meth c s₁ B hml hv
  obtain ⟨rfl, hf, C0⟩ := hv
  have hx := B.exec
  have hb := B.bytes
  have hr := B.returns
  have hts := atoms_spec (ws := wsX0_goesToOne) B.pre
  have hown : s.vm.findClass RX0 = some m.cls := findClass_of_methodNamed B.named
  have hlocks := B.notSynchronized
  have hin0 : ∀ w ∈ wsX00, w ∈ wsX0_goesToOne := by decide +kernel
  have hS : va_S (hp_A base) s.heap s.heap [] := va_S.rf
  have hl := lv_entry ([.ref a, .int x]) (n := 2) (Nat.le_of_ble_eq_true rfl)
  rw [lg_entry_eq]
  generalize (lg_sl ([.ref a, .int x]) ++ List.replicate (2 - (lg_sl ([.ref a, .int x])).length) Slot.unset).toArray = ls at hl ⊢
  have hl : lv_has ls 2 [(0, .ref a), (1, .int x)] := hl
  refine lv_aload_n hx hb dX0_goesToOne_0 rfl (lv_at hl 0 rfl) ?_
  refine hp_get (ci := 0) (v := .int n) (C := RX0) (T := TX0) (N := 6) hx hb hts hin0 hown C0 hf ha rfl 1 (by decide) (hts (.fieldLink RX0 15 "RouteTrie$Node" "len" "I") (by decide +kernel)) (fun _ h9 => h9) rfl dX0_goesToOne_1 ?_
  refine lv_bipush (v := 32) hx hb dX0_goesToOne_4 (by decide) ?_
  refine lv_icmp_ge (tgt := 28) hx hb dX0_goesToOne_6 (by decide) (fun h6 => ?_) (fun h6 => ?_)
  · refine lv_iconst (v := 0) hx hb dX0_goesToOne_28 (by decide) ?_
    exact hp_zret (v := 0) hx hb hr hlocks C0 hf hS (by first | exact Nat.le_refl _ | omega) (by first | exact Nat.le_refl _ | omega) dX0_goesToOne_29 (by decide) (⟨Or.inr ⟨rfl, fun h => h.1 h6⟩, rfl⟩)
  · refine lv_iload_n hx hb dX0_goesToOne_9 rfl (lv_at hl 1 rfl) ?_
    refine lv_bipush (v := 31) hx hb dX0_goesToOne_10 (by decide) ?_
    refine lv_aload_n hx hb dX0_goesToOne_12 rfl (lv_at hl 0 rfl) ?_
    refine hp_get (ci := 0) (v := .int n) (C := RX0) (T := TX0) (N := 6) hx hb hts hin0 hown C0 hf ha rfl 1 (by decide) (hts (.fieldLink RX0 15 "RouteTrie$Node" "len" "I") (by decide +kernel)) (fun _ h9 => h9) rfl dX0_goesToOne_13 ?_
    refine lv_isub hx hb dX0_goesToOne_16 ?_
    refine lv_iushr hx hb dX0_goesToOne_17 rfl ?_
    refine lv_iconst (v := 1) hx hb dX0_goesToOne_18 (by decide) ?_
    refine lv_iand hx hb dX0_goesToOne_19 ?_
    refine lv_iconst (v := 1) hx hb dX0_goesToOne_20 (by decide) ?_
    refine lv_icmp_ne (tgt := 28) hx hb dX0_goesToOne_21 (by decide) (fun h21 => ?_) (fun h21 => ?_)
    · refine lv_iconst (v := 0) hx hb dX0_goesToOne_28 (by decide) ?_
      exact hp_zret (v := 0) hx hb hr hlocks C0 hf hS (by first | exact Nat.le_refl _ | omega) (by first | exact Nat.le_refl _ | omega) dX0_goesToOne_29 (by decide) (⟨Or.inr ⟨rfl, fun h => h21 h.2⟩, rfl⟩)
    · refine lv_iconst (v := 1) hx hb dX0_goesToOne_24 (by decide) ?_
      refine lv_goto (tgt := 29) hx hb dX0_goesToOne_25 (by decide) ?_
      exact hp_zret (v := 1) hx hb hr hlocks C0 hf hS (by first | exact Nat.le_refl _ | omega) (by first | exact Nat.le_refl _ | omega) dX0_goesToOne_29 (by decide) (⟨Or.inl ⟨rfl, h6, h21⟩, rfl⟩)
set_option maxHeartbeats 4000000 in
set_option maxRecDepth 100000 in
theorem c_X0_toward (l : Launch) (D : va_G) (cy : ClassId) (base : Nat) (f : AH) (a : Nat) (b n h r0 : Int32) (z o : Option Nat) (x : Int32) (ha : f a = some (ndE b n h r0 z o)) : Met l yX0_toward wsX0_toward ({ frames := 1, cells := 0, slots := 0, locals := 21 }) (va_Pc [.ref a, .int x] (hp_B D cy base f)) (va_Qq (fun (r : Option Nat) (u : AH) => ((g1I n x ∧ r = o) ∨ (¬ g1I n x ∧ r = z)) ∧ u = f) (hp_B D cy base) (hp_A base)) 0 0 (hp_A base) := by
  refine Met.ofW (cc := cX0_toward) (maxL := 2) (ret := (some (.object "RouteTrie$Node"))) (by decide) rfl ?_
  intro p e s m args below meth c s₁ B hml hv
  obtain ⟨rfl, hf, C0⟩ := hv
  have hx := B.exec
  have hb := B.bytes
  have hr := B.returns
  have hts := atoms_spec (ws := wsX0_toward) B.pre
  have hown : s.vm.findClass RX0 = some m.cls := findClass_of_methodNamed B.named
  have hlocks := B.notSynchronized
  have hin0 : ∀ w ∈ wsX00, w ∈ wsX0_toward := by decide +kernel
  have hS : va_S (hp_A base) s.heap s.heap [] := va_S.rf
  have hl := lv_entry ([.ref a, .int x]) (n := 2) (Nat.le_of_ble_eq_true rfl)
  rw [lg_entry_eq]
  generalize (lg_sl ([.ref a, .int x]) ++ List.replicate (2 - (lg_sl ([.ref a, .int x])).length) Slot.unset).toArray = ls at hl ⊢
  have hl : lv_has ls 2 [(0, .ref a), (1, .int x)] := hl
  refine lv_aload_n hx hb dX0_toward_0 rfl (lv_at hl 0 rfl) ?_
  refine lv_iload_n hx hb dX0_toward_1 rfl (lv_at hl 1 rfl) ?_
  refine hp_ki (hp_rV (C := RX0) (As := [.int x]) (rest := []) ⟨hx, hb, hml, hown, hts⟩ C0 hf hS (c_X0_goesToOne l D cy base f a b n h r0 z o x ha) (cwV 1 hts gX0_toward_X0_goesToOne rfl rfl rfl (by decide +kernel) ⟨Nat.le_of_ble_eq_true rfl, Nat.le_of_ble_eq_true rfl⟩) ha rfl rfl hl.1 rfl (Nat.le_of_ble_eq_true rfl) dX0_toward_2 ⟨Nat.le_of_ble_eq_true rfl, Nat.le_of_ble_eq_true rfl⟩) hS (fun r_1 u_1 H locs hq_1 hf hS => ?_)
  obtain ⟨hg, hu⟩ := hq_1
  rw [hu] at hf
  refine lv_if_eq (tgt := 15) hx hb dX0_toward_5 (by decide) (fun h5 => ?_) (fun h5 => ?_)
  · refine lv_aload_n hx hb dX0_toward_15 rfl (lv_at hl 0 rfl) ?_
    refine hp_get (ci := 0) (v := va_rf z) (C := RX0) (T := TX0) (N := 6) hx hb hts hin0 hown C0 hf ha rfl 4 (by decide) (hts (.fieldLink RX0 36 "RouteTrie$Node" "zero" "LRouteTrie$Node;") (by decide +kernel)) (fun _ h9 => h9) rfl dX0_toward_16 ?_
    exact hp_aret (r := z) hx hb hr hlocks C0 hf hS (by first | exact Nat.le_refl _ | omega) (by first | exact Nat.le_refl _ | omega) dX0_toward_19 (⟨hg.elim (fun h => absurd h5 (by rw [h.1]; decide)) (fun h => Or.inr ⟨h.2, rfl⟩), rfl⟩)
  · refine lv_aload_n hx hb dX0_toward_8 rfl (lv_at hl 0 rfl) ?_
    refine hp_get (ci := 0) (v := va_rf o) (C := RX0) (T := TX0) (N := 6) hx hb hts hin0 hown C0 hf ha rfl 5 (by decide) (hts (.fieldLink RX0 32 "RouteTrie$Node" "one" "LRouteTrie$Node;") (by decide +kernel)) (fun _ h9 => h9) rfl dX0_toward_9 ?_
    refine lv_goto (tgt := 19) hx hb dX0_toward_12 (by decide) ?_
    exact hp_aret (r := o) hx hb hr hlocks C0 hf hS (by first | exact Nat.le_refl _ | omega) (by first | exact Nat.le_refl _ | omega) dX0_toward_19 (⟨hg.elim (fun h => Or.inl ⟨h.2, rfl⟩) (fun h => absurd h.1 h5), rfl⟩)
set_option maxHeartbeats 4000000 in
set_option maxRecDepth 100000 in
theorem c_X0_hang (l : Launch) (D : va_G) (cy : ClassId) (base : Nat) (f : AH) (a : Nat) (b n h r0 : Int32) (z o : Option Nat) (a2 : Nat) (b2 n2 h2 r2 : Int32) (z2 o2 : Option Nat) (ha : f a = some (ndE b n h r0 z o)) (ha2 : f a2 = some (ndE b2 n2 h2 r2 z2 o2)) : Met l yX0_hang wsX0_hang ({ frames := 1, cells := 0, slots := 0, locals := 21 }) (va_Pc [.ref a, .ref a2] (hp_B D cy base f)) (va_Qv (fun (u : AH) => ((g1I n b2 ∧ u = va_up f a (some (ndE b n h r0 z (some a2)))) ∨ (¬ g1I n b2 ∧ u = va_up f a (some (ndE b n h r0 (some a2) o))))) (hp_B D cy base) (hp_A base)) 0 0 (hp_A base) := by
  refine Met.ofW (cc := cX0_hang) (maxL := 2) (ret := none) (by decide) rfl ?_
  intro p e s m args below meth c s₁ B hml hv
  obtain ⟨rfl, hf, C0⟩ := hv
  have hx := B.exec
  have hb := B.bytes
  have hr := B.returns
  have hts := atoms_spec (ws := wsX0_hang) B.pre
  have hown : s.vm.findClass RX0 = some m.cls := findClass_of_methodNamed B.named
  have hlocks := B.notSynchronized
  have hin0 : ∀ w ∈ wsX00, w ∈ wsX0_hang := by decide +kernel
  have hS : va_S (hp_A base) s.heap s.heap [] := va_S.rf
  have hl := lv_entry ([.ref a, .ref a2]) (n := 2) (Nat.le_of_ble_eq_true rfl)
  rw [lg_entry_eq]
  generalize (lg_sl ([.ref a, .ref a2]) ++ List.replicate (2 - (lg_sl ([.ref a, .ref a2])).length) Slot.unset).toArray = ls at hl ⊢
  have hl : lv_has ls 2 [(0, .ref a), (1, .ref a2)] := hl
  refine lv_aload_n hx hb dX0_hang_0 rfl (lv_at hl 0 rfl) ?_
  refine lv_aload_n hx hb dX0_hang_1 rfl (lv_at hl 1 rfl) ?_
  refine hp_get (ci := 0) (v := .int b2) (C := RX0) (T := TX0) (N := 6) hx hb hts hin0 hown C0 hf ha2 rfl 0 (by decide) (hts (.fieldLink RX0 9 "RouteTrie$Node" "bits" "I") (by decide +kernel)) (fun _ h9 => h9) rfl dX0_hang_2 ?_
  refine hp_ki (hp_rV (C := RX0) (As := [.int b2]) (rest := []) ⟨hx, hb, hml, hown, hts⟩ C0 hf hS (c_X0_goesToOne l D cy base f a b n h r0 z o b2 ha) (cwV 1 hts gX0_hang_X0_goesToOne rfl rfl rfl (by decide +kernel) ⟨Nat.le_of_ble_eq_true rfl, Nat.le_of_ble_eq_true rfl⟩) ha rfl rfl hl.1 rfl (Nat.le_of_ble_eq_true rfl) dX0_hang_5 ⟨Nat.le_of_ble_eq_true rfl, Nat.le_of_ble_eq_true rfl⟩) hS (fun r_1 u_1 H locs hq_1 hf hS => ?_)
  obtain ⟨hg, hu⟩ := hq_1
  rw [hu] at hf
  refine lv_if_eq (tgt := 19) hx hb dX0_hang_8 (by decide) (fun h8 => ?_) (fun h8 => ?_)
  · refine lv_aload_n hx hb dX0_hang_19 rfl (lv_at hl 0 rfl) ?_
    refine lv_aload_n hx hb dX0_hang_20 rfl (lv_at hl 1 rfl) ?_
    refine hp_put (ci := 0) (v := .ref a2) (C := RX0) (T := TX0) (N := 6) hx hb hts hin0 tyX0 tyX0_ok nmX0 hown C0 hf hS ha rfl 4 (by decide) (hts (.fieldLink RX0 36 "RouteTrie$Node" "zero" "LRouteTrie$Node;") (by decide +kernel)) (fun _ h9 => h9) rfl rfl rfl (Nat.le_of_ble_eq_true rfl) dX0_hang_21 (fun f_2 H locs ef_2 hf hS => ?_)
    have hc_2 : f_2 a = some (.inr (0, [.int b, .int n, .int h, .int r0, .ref a2, va_rf o])) := by rw [ef_2]; exact va_up_self _ _ _
    exact hp_vret hx hb hr hlocks C0 hf hS (by first | exact Nat.le_refl _ | omega) (by first | exact Nat.le_refl _ | omega) dX0_hang_24 (Or.inr ⟨hg.elim (fun h => absurd h8 (by rw [h.1]; decide)) (fun h => h.2), ef_2⟩)
  · refine lv_aload_n hx hb dX0_hang_11 rfl (lv_at hl 0 rfl) ?_
    refine lv_aload_n hx hb dX0_hang_12 rfl (lv_at hl 1 rfl) ?_
    refine hp_put (ci := 0) (v := .ref a2) (C := RX0) (T := TX0) (N := 6) hx hb hts hin0 tyX0 tyX0_ok nmX0 hown C0 hf hS ha rfl 5 (by decide) (hts (.fieldLink RX0 32 "RouteTrie$Node" "one" "LRouteTrie$Node;") (by decide +kernel)) (fun _ h9 => h9) rfl rfl rfl (Nat.le_of_ble_eq_true rfl) dX0_hang_13 (fun f_3 H locs ef_3 hf hS => ?_)
    have hc_3 : f_3 a = some (.inr (0, [.int b, .int n, .int h, .int r0, va_rf z, .ref a2])) := by rw [ef_3]; exact va_up_self _ _ _
    refine lv_goto (tgt := 24) hx hb dX0_hang_16 (by decide) ?_
    exact hp_vret hx hb hr hlocks C0 hf hS (by first | exact Nat.le_refl _ | omega) (by first | exact Nat.le_refl _ | omega) dX0_hang_24 (Or.inl ⟨hg.elim (fun h => h.2) (fun h => absurd h.1 h8), ef_3⟩)
set_option maxHeartbeats 4000000 in
set_option maxRecDepth 100000 in
theorem c_X0_replace_none (l : Launch) (D : va_G) (cy : ClassId) (base : Nat) (f : AH) (a : Nat) (b n h r0 : Int32) (z o : Option Nat) (a2 : Nat) (ha : f a = some (ndE b n h r0 z o)) : Met l yX0_replace wsX0_replace ({ frames := 0, cells := 0, slots := 0, locals := 0 }) (va_Pc [.ref a, .ref a2, .null] (hp_B D cy base f)) (va_Qv (fun (u : AH) => ((o = some a2 ∧ u = va_up f a (some (ndE b n h r0 z none))) ∨ (¬ o = some a2 ∧ u = va_up f a (some (ndE b n h r0 none o))))) (hp_B D cy base) (hp_A base)) 0 0 (hp_A base) := by
  refine Met.ofW (cc := cX0_replace) (maxL := 3) (ret := none) (by decide) rfl ?_
  intro p e s m args below meth c s₁ B hml hv
  obtain ⟨rfl, hf, C0⟩ := hv
  have hx := B.exec
  have hb := B.bytes
  have hr := B.returns
  have hts := atoms_spec (ws := wsX0_replace) B.pre
  have hown : s.vm.findClass RX0 = some m.cls := findClass_of_methodNamed B.named
  have hlocks := B.notSynchronized
  have hin0 : ∀ w ∈ wsX00, w ∈ wsX0_replace := by decide +kernel
  have hS : va_S (hp_A base) s.heap s.heap [] := va_S.rf
  have hl := lv_entry ([.ref a, .ref a2, .null]) (n := 3) (Nat.le_of_ble_eq_true rfl)
  rw [lg_entry_eq]
  generalize (lg_sl ([.ref a, .ref a2, .null]) ++ List.replicate (3 - (lg_sl ([.ref a, .ref a2, .null])).length) Slot.unset).toArray = ls at hl ⊢
  have hl : lv_has ls 3 [(0, .ref a), (1, .ref a2), (2, .null)] := hl
  refine lv_aload_n hx hb dX0_replace_0 rfl (lv_at hl 0 rfl) ?_
  refine hp_get (ci := 0) (v := va_rf o) (C := RX0) (T := TX0) (N := 6) hx hb hts hin0 hown C0 hf ha rfl 5 (by decide) (hts (.fieldLink RX0 32 "RouteTrie$Node" "one" "LRouteTrie$Node;") (by decide +kernel)) (fun _ h9 => h9) rfl dX0_replace_1 ?_
  refine lv_aload_n hx hb dX0_replace_4 rfl (lv_at hl 1 rfl) ?_
  refine lv_acmp_ne (rx := o) (ry := some a2) (tgt := 16) hx hb dX0_replace_5 (by decide) (fun h5 => ?_) (fun h5 => ?_)
  · refine lv_aload_n hx hb dX0_replace_16 rfl (lv_at hl 0 rfl) ?_
    refine lv_aload_nN hx hb dX0_replace_17 rfl (lv_at hl 2 rfl) ?_
    refine hp_put (ci := 0) (v := .null) (C := RX0) (T := TX0) (N := 6) hx hb hts hin0 tyX0 tyX0_ok nmX0 hown C0 hf hS ha rfl 4 (by decide) (hts (.fieldLink RX0 36 "RouteTrie$Node" "zero" "LRouteTrie$Node;") (by decide +kernel)) (fun _ h9 => h9) rfl rfl rfl (Nat.le_of_ble_eq_true rfl) dX0_replace_18 (fun f_1 H locs ef_1 hf hS => ?_)
    have hc_1 : f_1 a = some (.inr (0, [.int b, .int n, .int h, .int r0, .null, va_rf o])) := by rw [ef_1]; exact va_up_self _ _ _
    exact hp_vret hx hb hr hlocks C0 hf hS (by first | exact Nat.le_refl _ | omega) (by first | exact Nat.le_refl _ | omega) dX0_replace_21 (Or.inr ⟨h5, ef_1⟩)
  · refine lv_aload_n hx hb dX0_replace_8 rfl (lv_at hl 0 rfl) ?_
    refine lv_aload_nN hx hb dX0_replace_9 rfl (lv_at hl 2 rfl) ?_
    refine hp_put (ci := 0) (v := .null) (C := RX0) (T := TX0) (N := 6) hx hb hts hin0 tyX0 tyX0_ok nmX0 hown C0 hf hS ha rfl 5 (by decide) (hts (.fieldLink RX0 32 "RouteTrie$Node" "one" "LRouteTrie$Node;") (by decide +kernel)) (fun _ h9 => h9) rfl rfl rfl (Nat.le_of_ble_eq_true rfl) dX0_replace_10 (fun f_2 H locs ef_2 hf hS => ?_)
    have hc_2 : f_2 a = some (.inr (0, [.int b, .int n, .int h, .int r0, va_rf z, .null])) := by rw [ef_2]; exact va_up_self _ _ _
    refine lv_goto (tgt := 21) hx hb dX0_replace_13 (by decide) ?_
    exact hp_vret hx hb hr hlocks C0 hf hS (by first | exact Nat.le_refl _ | omega) (by first | exact Nat.le_refl _ | omega) dX0_replace_21 (Or.inl ⟨h5, ef_2⟩)
set_option maxHeartbeats 4000000 in
set_option maxRecDepth 100000 in
theorem c_X0_replace_some (l : Launch) (D : va_G) (cy : ClassId) (base : Nat) (f : AH) (a : Nat) (b n h r0 : Int32) (z o : Option Nat) (a2 : Nat) (a3 : Nat) (ha : f a = some (ndE b n h r0 z o)) : Met l yX0_replace wsX0_replace ({ frames := 0, cells := 0, slots := 0, locals := 0 }) (va_Pc [.ref a, .ref a2, .ref a3] (hp_B D cy base f)) (va_Qv (fun (u : AH) => ((o = some a2 ∧ u = va_up f a (some (ndE b n h r0 z (some a3)))) ∨ (¬ o = some a2 ∧ u = va_up f a (some (ndE b n h r0 (some a3) o))))) (hp_B D cy base) (hp_A base)) 0 0 (hp_A base) := by
  refine Met.ofW (cc := cX0_replace) (maxL := 3) (ret := none) (by decide) rfl ?_
  intro p e s m args below meth c s₁ B hml hv
  obtain ⟨rfl, hf, C0⟩ := hv
  have hx := B.exec
  have hb := B.bytes
  have hr := B.returns
  have hts := atoms_spec (ws := wsX0_replace) B.pre
  have hown : s.vm.findClass RX0 = some m.cls := findClass_of_methodNamed B.named
  have hlocks := B.notSynchronized
  have hin0 : ∀ w ∈ wsX00, w ∈ wsX0_replace := by decide +kernel
  have hS : va_S (hp_A base) s.heap s.heap [] := va_S.rf
  have hl := lv_entry ([.ref a, .ref a2, .ref a3]) (n := 3) (Nat.le_of_ble_eq_true rfl)
  rw [lg_entry_eq]
  generalize (lg_sl ([.ref a, .ref a2, .ref a3]) ++ List.replicate (3 - (lg_sl ([.ref a, .ref a2, .ref a3])).length) Slot.unset).toArray = ls at hl ⊢
  have hl : lv_has ls 3 [(0, .ref a), (1, .ref a2), (2, .ref a3)] := hl
  refine lv_aload_n hx hb dX0_replace_0 rfl (lv_at hl 0 rfl) ?_
  refine hp_get (ci := 0) (v := va_rf o) (C := RX0) (T := TX0) (N := 6) hx hb hts hin0 hown C0 hf ha rfl 5 (by decide) (hts (.fieldLink RX0 32 "RouteTrie$Node" "one" "LRouteTrie$Node;") (by decide +kernel)) (fun _ h9 => h9) rfl dX0_replace_1 ?_
  refine lv_aload_n hx hb dX0_replace_4 rfl (lv_at hl 1 rfl) ?_
  refine lv_acmp_ne (rx := o) (ry := some a2) (tgt := 16) hx hb dX0_replace_5 (by decide) (fun h5 => ?_) (fun h5 => ?_)
  · refine lv_aload_n hx hb dX0_replace_16 rfl (lv_at hl 0 rfl) ?_
    refine lv_aload_n hx hb dX0_replace_17 rfl (lv_at hl 2 rfl) ?_
    refine hp_put (ci := 0) (v := .ref a3) (C := RX0) (T := TX0) (N := 6) hx hb hts hin0 tyX0 tyX0_ok nmX0 hown C0 hf hS ha rfl 4 (by decide) (hts (.fieldLink RX0 36 "RouteTrie$Node" "zero" "LRouteTrie$Node;") (by decide +kernel)) (fun _ h9 => h9) rfl rfl rfl (Nat.le_of_ble_eq_true rfl) dX0_replace_18 (fun f_1 H locs ef_1 hf hS => ?_)
    have hc_1 : f_1 a = some (.inr (0, [.int b, .int n, .int h, .int r0, .ref a3, va_rf o])) := by rw [ef_1]; exact va_up_self _ _ _
    exact hp_vret hx hb hr hlocks C0 hf hS (by first | exact Nat.le_refl _ | omega) (by first | exact Nat.le_refl _ | omega) dX0_replace_21 (Or.inr ⟨h5, ef_1⟩)
  · refine lv_aload_n hx hb dX0_replace_8 rfl (lv_at hl 0 rfl) ?_
    refine lv_aload_n hx hb dX0_replace_9 rfl (lv_at hl 2 rfl) ?_
    refine hp_put (ci := 0) (v := .ref a3) (C := RX0) (T := TX0) (N := 6) hx hb hts hin0 tyX0 tyX0_ok nmX0 hown C0 hf hS ha rfl 5 (by decide) (hts (.fieldLink RX0 32 "RouteTrie$Node" "one" "LRouteTrie$Node;") (by decide +kernel)) (fun _ h9 => h9) rfl rfl rfl (Nat.le_of_ble_eq_true rfl) dX0_replace_10 (fun f_2 H locs ef_2 hf hS => ?_)
    have hc_2 : f_2 a = some (.inr (0, [.int b, .int n, .int h, .int r0, va_rf z, .ref a3])) := by rw [ef_2]; exact va_up_self _ _ _
    refine lv_goto (tgt := 21) hx hb dX0_replace_13 (by decide) ?_
    exact hp_vret hx hb hr hlocks C0 hf hS (by first | exact Nat.le_refl _ | omega) (by first | exact Nat.le_refl _ | omega) dX0_replace_21 (Or.inl ⟨h5, ef_2⟩)
set_option maxHeartbeats 4000000 in
set_option maxRecDepth 100000 in
theorem c_X0_init (l : Launch) (D : va_G) (cy : ClassId) (base : Nat) (f : AH) (a : Nat) (b n h : Int32) (ha : f a = some (.inr (0, [.int 0, .int 0, .int 0, .int 0, .null, .null]))) : Met l yX0_init wsX0_init ({ frames := 1, cells := 0, slots := 0, locals := 12 }) (va_Pc [.ref a, .int b, .int n, .int h] (hp_B D cy base f)) (va_Qv (fun (u : AH) => u = va_up f a (some (ndE b n h (if h = -1 then 0 else 1) none none))) (hp_B D cy base) (hp_A base)) 0 0 (hp_A base) := by
  refine Met.ofW (cc := cX0_init) (maxL := 4) (ret := none) (by decide) rfl ?_
  intro p e s m args below meth c s₁ B hml hv
  obtain ⟨rfl, hf, C0⟩ := hv
  have hx := B.exec
  have hb := B.bytes
  have hr := B.returns
  have hts := atoms_spec (ws := wsX0_init) B.pre
  have hown : s.vm.findClass RX0 = some m.cls := findClass_of_methodNamed B.named
  have hlocks := B.notSynchronized
  have hin : meth.name = "<init>" := (name_of_methodNamed B.named B.method).1
  have hin0 : ∀ w ∈ wsX00, w ∈ wsX0_init := by decide +kernel
  have hS : va_S (hp_A base) s.heap s.heap [] := va_S.rf
  have hl := lv_entry ([.ref a, .int b, .int n, .int h]) (n := 4) (Nat.le_of_ble_eq_true rfl)
  rw [lg_entry_eq]
  generalize (lg_sl ([.ref a, .int b, .int n, .int h]) ++ List.replicate (4 - (lg_sl ([.ref a, .int b, .int n, .int h])).length) Slot.unset).toArray = ls at hl ⊢
  have hl : lv_has ls 4 [(0, .ref a), (1, .int b), (2, .int n), (3, .int h)] := hl
  refine lv_aload_n hx hb dX0_init_0 rfl (lv_at hl 0 rfl) ?_
  refine W.objInit hx hb hown (hts (.methodLink RX0 3 objectInit) (by decide +kernel)) (hts (.instanceMethod objectInit) (by decide +kernel)) (hts (.code objectInit ⟨#[0xb1]⟩ 1 none) (by decide +kernel)) rfl (by rw [hml]; exact hl.1) rfl dX0_init_1 (Nat.le_of_ble_eq_true rfl) (Nat.le_of_ble_eq_true rfl) ?_
  refine W.eq (g2 := F0 m 4 ls []) rfl ?_
  refine lv_aload_n hx hb dX0_init_4 rfl (lv_at hl 0 rfl) ?_
  refine lv_iload_n hx hb dX0_init_5 rfl (lv_at hl 1 rfl) ?_
  refine hp_putF (ci := 0) (v := .int b) (C := RX0) (T := TX0) (N := 6) hx hb hts hin0 tyX0 tyX0_ok nmX0 hown C0 hf hS ha rfl 0 (by decide) (hts (.fieldLink RX0 9 "RouteTrie$Node" "bits" "I") (by decide +kernel)) (fun _ h9 => h9) rfl hin rfl rfl rfl (Nat.le_of_ble_eq_true rfl) dX0_init_6 (fun f_1 H locs ef_1 hf hS => ?_)
  have hc_1 : f_1 a = some (.inr (0, [.int b, .int 0, .int 0, .int 0, .null, .null])) := by rw [ef_1]; exact va_up_self _ _ _
  refine lv_aload_n hx hb dX0_init_9 rfl (lv_at hl 0 rfl) ?_
  refine lv_iload_n hx hb dX0_init_10 rfl (lv_at hl 2 rfl) ?_
  refine hp_putF (ci := 0) (v := .int n) (C := RX0) (T := TX0) (N := 6) hx hb hts hin0 tyX0 tyX0_ok nmX0 hown C0 hf hS hc_1 rfl 1 (by decide) (hts (.fieldLink RX0 15 "RouteTrie$Node" "len" "I") (by decide +kernel)) (fun _ h9 => h9) rfl hin rfl rfl rfl (Nat.le_of_ble_eq_true rfl) dX0_init_11 (fun f_2 H locs ef_2 hf hS => ?_)
  have hc_2 : f_2 a = some (.inr (0, [.int b, .int n, .int 0, .int 0, .null, .null])) := by rw [ef_2]; exact va_up_self _ _ _
  refine lv_aload_n hx hb dX0_init_14 rfl (lv_at hl 0 rfl) ?_
  refine lv_iload_n hx hb dX0_init_15 rfl (lv_at hl 3 rfl) ?_
  refine hp_put (ci := 0) (v := .int h) (C := RX0) (T := TX0) (N := 6) hx hb hts hin0 tyX0 tyX0_ok nmX0 hown C0 hf hS hc_2 rfl 2 (by decide) (hts (.fieldLink RX0 18 "RouteTrie$Node" "hop" "I") (by decide +kernel)) (fun _ h9 => h9) rfl rfl rfl (Nat.le_of_ble_eq_true rfl) dX0_init_16 (fun f_3 H locs ef_3 hf hS => ?_)
  have hc_3 : f_3 a = some (.inr (0, [.int b, .int n, .int h, .int 0, .null, .null])) := by rw [ef_3]; exact va_up_self _ _ _
  refine lv_aload_n hx hb dX0_init_19 rfl (lv_at hl 0 rfl) ?_
  refine lv_iload_n hx hb dX0_init_20 rfl (lv_at hl 3 rfl) ?_
  refine lv_iconst (v := (-1)) hx hb dX0_init_21 (by decide) ?_
  refine lv_icmp_ne (tgt := 29) hx hb dX0_init_22 (by decide) (fun h22 => ?_) (fun h22 => ?_)
  · refine lv_iconst (v := 1) hx hb dX0_init_29 (by decide) ?_
    refine hp_put (ci := 0) (v := .int 1) (C := RX0) (T := TX0) (N := 6) hx hb hts hin0 tyX0 tyX0_ok nmX0 hown C0 hf hS hc_3 rfl 3 (by decide) (hts (.fieldLink RX0 21 "RouteTrie$Node" "routes" "I") (by decide +kernel)) (fun _ h9 => h9) rfl rfl rfl (Nat.le_of_ble_eq_true rfl) dX0_init_30 (fun f_4 H locs ef_4 hf hS => ?_)
    have hc_4 : f_4 a = some (.inr (0, [.int b, .int n, .int h, .int 1, .null, .null])) := by rw [ef_4]; exact va_up_self _ _ _
    exact hp_vret hx hb hr hlocks C0 hf hS (by first | exact Nat.le_refl _ | omega) (by first | exact Nat.le_refl _ | omega) dX0_init_33 (by rw [ef_4, ef_3, ef_2, ef_1, bx_uu, bx_uu, bx_uu]; simp only [if_neg h22]; rfl)
  · refine lv_iconst (v := 0) hx hb dX0_init_25 (by decide) ?_
    refine lv_goto (tgt := 30) hx hb dX0_init_26 (by decide) ?_
    refine hp_put (ci := 0) (v := .int 0) (C := RX0) (T := TX0) (N := 6) hx hb hts hin0 tyX0 tyX0_ok nmX0 hown C0 hf hS hc_3 rfl 3 (by decide) (hts (.fieldLink RX0 21 "RouteTrie$Node" "routes" "I") (by decide +kernel)) (fun _ h9 => h9) rfl rfl rfl (Nat.le_of_ble_eq_true rfl) dX0_init_30 (fun f_5 H locs ef_5 hf hS => ?_)
    have hc_5 : f_5 a = some (.inr (0, [.int b, .int n, .int h, .int 0, .null, .null])) := by rw [ef_5]; exact va_up_self _ _ _
    exact hp_vret hx hb hr hlocks C0 hf hS (by first | exact Nat.le_refl _ | omega) (by first | exact Nat.le_refl _ | omega) dX0_init_33 (by rw [ef_5, ef_3, ef_2, ef_1, bx_uu, bx_uu, bx_uu]; simp only [if_pos h22]; rfl)
end
section
/-! bits from the top; the rows bt .. b_ushr are pasted from kit/laws/BITS.to-paste -/
def bt (x : Int32) (i : Nat) : Bool := x.toBitVec.getLsbD i
theorem b_ext {x y : Int32} (h : ∀ i, i < 32 → bt x i = bt y i) : x = y := Int32.toBitVec_inj.mp (BitVec.eq_of_getLsbD_eq (fun i hi => h i hi))
theorem b_and (x y : Int32) (i : Nat) : bt (x &&& y) i = (bt x i && bt y i) := by unfold bt; rw [Int32.toBitVec_and, BitVec.getLsbD_and]
theorem b_xor (x y : Int32) (i : Nat) : bt (x ^^^ y) i = (bt x i ^^ bt y i) := by unfold bt; rw [Int32.toBitVec_xor, BitVec.getLsbD_xor]
theorem b_big {x : Int32} {i : Nat} (h : 32 ≤ i) : bt x i = false := BitVec.getLsbD_of_ge _ _ h
theorem s_u : ∀ n, n < 32 → (((nI n).toUInt32 &&& Int32.toUInt32 31).toBitVec % 32).toNat = n := by decide +kernel
theorem b_ushr (n : Nat) (hn : n < 32) (x : Int32) (i : Nat) : bt ((x.toUInt32 >>> ((nI n).toUInt32 &&& Int32.toUInt32 31)).toInt32) i = bt x (n + i) := by
  show (x.toUInt32 >>> ((nI n).toUInt32 &&& Int32.toUInt32 31)).toBitVec.getLsbD i = x.toUInt32.toBitVec.getLsbD (n + i)
  rw [UInt32.toBitVec_shiftRight]
  show (x.toUInt32.toBitVec >>> (((nI n).toUInt32 &&& Int32.toUInt32 31).toBitVec % 32).toNat).getLsbD i = _
  rw [s_u n hn, BitVec.getLsbD_ushiftRight]
def bi (x : Int32) (i : Nat) : Bool := decide (i < 32) && bt x (31 - i)
theorem bi_lt {x : Int32} {i : Nat} (h : i < 32) : bi x i = bt x (31 - i) := by simp [bi, h]
theorem bi_big {x : Int32} {i : Nat} (h : 32 ≤ i) : bi x i = false := by simp [bi, Nat.not_lt.mpr h]
theorem bi_ext {x y : Int32} (h : ∀ i, i < 32 → bi x i = bi y i) : x = y := by
  refine b_ext (fun i hi => ?_)
  have h1 := h (31 - i) (by omega)
  rw [bi_lt (by omega), bi_lt (by omega), show 31 - (31 - i) = i by omega] at h1
  exact h1
theorem bi_and (x y : Int32) (i : Nat) : bi (x &&& y) i = (bi x i && bi y i) := by
  unfold bi; rw [b_and]; cases decide (i < 32) <;> simp
theorem bi_xor (x y : Int32) (i : Nat) : bi (x ^^^ y) i = (bi x i ^^ bi y i) := by
  unfold bi; rw [b_xor]; cases decide (i < 32) <;> simp
def mkI (n : Nat) : Int32 := if nI n = 0 then 0 else (-1) <<< ((32 - nI n) &&& 31)
theorem mk_bi : ∀ n, n < 33 → ∀ i, i < 32 → bi (mkI n) i = decide (i < n) := by decide +kernel
def fb (x : Int32) (n : Nat) : Int32 := x &&& mkI n
theorem fbI_fb (x : Int32) (n : Nat) : fbI x (nI n) = fb x n := by
  unfold fbI fb mkI
  split
  · apply bi_ext; intro i hi; rw [bi_and]; simp [bi, bt]
  · rfl
theorem fb_bi {x : Int32} {n i : Nat} (hn : n ≤ 32) : bi (fb x n) i = (decide (i < n) && bi x i) := by
  unfold fb
  rw [bi_and]
  rcases Nat.lt_or_ge i 32 with h | h
  · rw [mk_bi n (by omega) i h, Bool.and_comm]
  · rw [bi_big h]; simp
def ag (x y : Int32) (n : Nat) : Prop := ∀ i, i < n → bi x i = bi y i
theorem ag_rf {x : Int32} {n : Nat} : ag x x n := fun _ _ => rfl
theorem ag_sy {x y : Int32} {n : Nat} (h : ag x y n) : ag y x n := fun i hi => (h i hi).symm
theorem ag_tr {x y z : Int32} {n : Nat} (h : ag x y n) (h2 : ag y z n) : ag x z n := fun i hi => (h i hi).trans (h2 i hi)
theorem ag_mono {x y : Int32} {n m : Nat} (h : ag x y n) (hm : m ≤ n) : ag x y m := fun i hi => h i (Nat.lt_of_lt_of_le hi hm)
theorem ag_0 {x y : Int32} : ag x y 0 := fun i hi => absurd hi (Nat.not_lt_zero i)
theorem ag_s {x y : Int32} {n : Nat} (h : ag x y n) (h2 : bi x n = bi y n) : ag x y (n + 1) := fun i hi => by
  rcases Nat.lt_or_ge i n with q | q
  · exact h i q
  · rw [show i = n by omega]; exact h2
theorem fb_eq {x y : Int32} {n : Nat} (hn : n ≤ 32) : fb x n = fb y n ↔ ag x y n := by
  constructor
  · intro h i hi
    have h1 : bi (fb x n) i = bi (fb y n) i := by rw [h]
    rw [fb_bi hn, fb_bi hn] at h1
    simpa [hi] using h1
  · intro h
    refine bi_ext (fun i _ => ?_)
    rw [fb_bi hn, fb_bi hn]
    by_cases q : i < n
    · simp [q, h i q]
    · simp [q]
theorem fb_ag {x : Int32} {n : Nat} (hn : n ≤ 32) : ag (fb x n) x n := fun i hi => by rw [fb_bi hn]; simp [hi]
/-- x has n bits that count: the others are 0 -/
def px (x : Int32) (n : Nat) : Prop := n ≤ 32 ∧ fb x n = x
theorem px_bi {x : Int32} {n i : Nat} (h : px x n) (hi : n ≤ i) : bi x i = false := by
  have h1 : bi (fb x n) i = bi x i := by rw [h.2]
  rw [fb_bi h.1] at h1
  simpa [Nat.not_lt.mpr hi] using h1.symm
theorem px_of {x : Int32} {n : Nat} (hn : n ≤ 32) (h : ∀ i, n ≤ i → bi x i = false) : px x n := ⟨hn, bi_ext fun i _ => by
  rw [fb_bi hn]
  by_cases q : i < n
  · simp [q]
  · simp [q, h i (by omega)]⟩
theorem fb_px {x : Int32} {n : Nat} (hn : n ≤ 32) : px (fb x n) n := px_of hn fun i hi => by rw [fb_bi hn]; simp [Nat.not_lt.mpr hi]
theorem px_fb {x y : Int32} {n : Nat} (h : px x n) : fb y n = x ↔ ag x y n := by
  rw [← fb_eq h.1, h.2]; exact eq_comm
theorem px_inj {x y : Int32} {n : Nat} (hx : px x n) (hy : px y n) (h : ag x y n) : x = y := by
  rw [← hx.2, ← hy.2]; exact (fb_eq hx.1).mpr h
theorem px_0 : px 0 0 := ⟨by omega, by decide +kernel⟩
theorem b_1 : ∀ i, i < 32 → bt 1 i = decide (i = 0) := by decide +kernel
theorem and1 (y : Int32) : y &&& 1 = 1 ↔ bt y 0 = true := by
  constructor
  · intro h
    have h1 : bt (y &&& 1) 0 = bt 1 0 := by rw [h]
    rw [b_and, b_1 0 (by omega)] at h1
    simpa using h1
  · intro h
    refine b_ext (fun i hi => ?_)
    rw [b_and, b_1 i hi]
    by_cases q : i = 0
    · subst q; simp [h]
    · simp [q]
theorem and1_cases (y : Int32) : (y &&& 1 = 1 ∧ bt y 0 = true) ∨ (y &&& 1 = 0 ∧ bt y 0 = false) := by
  cases h : bt y 0 with
  | true => exact Or.inl ⟨(and1 y).mpr h, rfl⟩
  | false =>
    refine Or.inr ⟨b_ext (fun i hi => ?_), rfl⟩
    rw [b_and, b_1 i hi, show bt 0 i = false from BitVec.getLsbD_zero]
    by_cases q : i = 0
    · subst q; simp [h]
    · simp [q]
theorem sh_bi {x : Int32} {n : Nat} (hn : n < 32) : bt ((x.toUInt32 >>> ((31 - nI n).toUInt32 &&& Int32.toUInt32 31)).toInt32) 0 = bi x n := by
  rw [show (31 : Int32) - nI n = nI (31 - n) from pk_sub (a := 31) (by omega), b_ushr (31 - n) (by omega), bi_lt hn]
  rfl
theorem g1_bi {x : Int32} {n : Nat} (hn : n ≤ 32) : g1I (nI n) x ↔ (n < 32 ∧ bi x n = true) := by
  unfold g1I
  have h0 : (32 : Int32) ≤ nI n ↔ 32 ≤ n := nI_leI (a := 32) (by omega) (by omega)
  rw [h0]
  constructor
  · intro ⟨h1, h2⟩
    have h3 : n < 32 := by omega
    rw [and1, sh_bi h3] at h2
    exact ⟨h3, h2⟩
  · intro ⟨h1, h2⟩
    refine ⟨by omega, ?_⟩
    rw [and1, sh_bi h1]
    exact h2
/-- by the bits, without sign -/
def ul (x y : Int32) : Prop := ∃ k, k < 32 ∧ ag x y k ∧ bi x k = false ∧ bi y k = true
theorem first_dif {x y : Int32} (h : ¬ x = y) : ∃ k, k < 32 ∧ ag x y k ∧ ¬ bi x k = bi y k := by
  have h1 : ∃ k, k < 32 ∧ ¬ bi x k = bi y k := by
    refine Classical.byContradiction fun q => h (bi_ext fun i hi => Classical.byContradiction fun q2 => q ⟨i, hi, q2⟩)
  obtain ⟨k, hk, hl⟩ := pk_least (fun k => k < 32 ∧ ¬ bi x k = bi y k) h1
  exact ⟨k, hk.1, fun i hi => Classical.byContradiction fun q => hl i hi ⟨by omega, q⟩, hk.2⟩
theorem ul_tri {x y : Int32} (h : ¬ x = y) : ul x y ∨ ul y x := by
  obtain ⟨k, h1, h2, h3⟩ := first_dif h
  cases hx : bi x k <;> cases hy : bi y k
  · rw [hx, hy] at h3; exact absurd rfl h3
  · exact Or.inl ⟨k, h1, h2, hx, hy⟩
  · exact Or.inr ⟨k, h1, ag_sy h2, hy, hx⟩
  · rw [hx, hy] at h3; exact absurd rfl h3
theorem lt_tb {x y i : Nat} (hx : x.testBit i = false) (hy : y.testBit i = true) (h : ∀ j, i < j → x.testBit j = y.testBit j) : x < y := by
  have e : x / 2 ^ (i + 1) = y / 2 ^ (i + 1) := Nat.eq_of_testBit_eq (fun j => by rw [Nat.testBit_div_two_pow, Nat.testBit_div_two_pow]; exact h _ (by omega))
  rw [Nat.pow_succ, ← Nat.div_div_eq_div_mul, ← Nat.div_div_eq_div_mul] at e
  rw [Nat.testBit_eq_decide_div_mod_eq] at hx hy
  have h1 : ¬ x / 2 ^ i % 2 = 1 := of_decide_eq_false hx
  have h2 : y / 2 ^ i % 2 = 1 := of_decide_eq_true hy
  refine Nat.lt_of_div_lt_div (c := 2 ^ i) ?_
  omega
theorem ul_nat {x y : Int32} (h : ul x y) : x.toBitVec.toNat < y.toBitVec.toNat := by
  obtain ⟨k, h1, h2, h3, h4⟩ := h
  refine lt_tb (i := 31 - k) ?_ ?_ ?_
  · rw [bi_lt h1] at h3; exact h3
  · rw [bi_lt h1] at h4; exact h4
  · intro j hj
    show bt x j = bt y j
    rcases Nat.lt_or_ge j 32 with q | q
    · have h5 := h2 (31 - j) (by omega)
      rw [bi_lt (by omega), bi_lt (by omega), show 31 - (31 - j) = j by omega] at h5
      exact h5
    · rw [b_big q, b_big q]
theorem ul_iff {x y : Int32} : ul x y ↔ x.toBitVec.toNat < y.toBitVec.toNat := by
  refine ⟨ul_nat, fun h => ?_⟩
  have hne : ¬ x = y := fun e => by subst e; omega
  rcases ul_tri hne with q | q
  · exact q
  · have := ul_nat q; omega
theorem bi_min : ∀ i, i < 32 → bi (-2147483648) i = decide (i = 0) := by decide +kernel
theorem toInt_bi (x : Int32) : x.toInt = if bi x 0 = true then (x.toBitVec.toNat : Int) - 4294967296 else (x.toBitVec.toNat : Int) := by
  show x.toBitVec.toInt = _
  rw [BitVec.toInt_eq_msb_cond, BitVec.msb_eq_getLsbD_last]
  rfl
theorem ul_sgn (x y : Int32) : (x ^^^ (-2147483648)) < (y ^^^ (-2147483648)) ↔ ul x y := by
  have bx : ∀ z : Int32, ∀ i, i < 32 → bi (z ^^^ (-2147483648)) i = (bi z i ^^ decide (i = 0)) := fun z i hi => by rw [bi_xor, bi_min i hi]
  have lx := (x ^^^ (-2147483648)).toBitVec.isLt
  have ly := (y ^^^ (-2147483648)).toBitVec.isLt
  have h0x : bi (x ^^^ (-2147483648)) 0 = !bi x 0 := by rw [bx x 0 (by omega)]; simp
  have h0y : bi (y ^^^ (-2147483648)) 0 = !bi y 0 := by rw [bx y 0 (by omega)]; simp
  rw [Int32.lt_iff_toInt_lt, toInt_bi, toInt_bi, h0x, h0y]
  have same : bi x 0 = bi y 0 → (ul (x ^^^ (-2147483648)) (y ^^^ (-2147483648)) ↔ ul x y) := by
    intro e
    constructor
    · intro ⟨k, h1, h2, h3, h4⟩
      rw [bx x k h1] at h3
      rw [bx y k h1] at h4
      have hk : k ≠ 0 := by
        intro q; subst q
        rw [e] at h3
        cases hh : bi y 0 <;> simp [hh] at h3 h4
      refine ⟨k, h1, fun i hi => ?_, by simpa [hk] using h3, by simpa [hk] using h4⟩
      have := h2 i hi
      rw [bx x i (by omega), bx y i (by omega)] at this
      simpa using this
    · intro ⟨k, h1, h2, h3, h4⟩
      have hk : k ≠ 0 := by
        intro q; subst q
        rw [h3, h4] at e; cases e
      refine ⟨k, h1, fun i hi => ?_, by rw [bx x k h1, h3]; simp [hk], by rw [bx y k h1, h4]; simp [hk]⟩
      rw [bx x i (by omega), bx y i (by omega), h2 i hi]
  cases hx : bi x 0 <;> cases hy : bi y 0
  · rw [if_pos (by rfl), if_pos (by rfl), ← same (by rw [hx, hy]), ul_iff]
    omega
  · rw [if_pos (by rfl), if_neg (by decide)]
    refine ⟨fun _ => ⟨0, by omega, ag_0, hx, hy⟩, fun _ => ?_⟩
    omega
  · rw [if_neg (by decide), if_pos (by rfl)]
    refine ⟨fun h => ?_, fun ⟨k, h1, h2, h3, h4⟩ => ?_⟩
    · omega
    · rcases Nat.eq_zero_or_pos k with q | q
      · subst q; rw [hx] at h3; cases h3
      · have := h2 0 q; rw [hx, hy] at this; cases this
  · rw [if_neg (by decide), if_neg (by decide), ← same (by rw [hx, hy]), ul_iff]
    omega
end
section
/-! the tree as a set of nodes: t gives each node's bits, length, hop, routes, children -/
abbrev NR : Type := Int32 × Nat × Int32 × Nat × Option Nat × Option Nat
abbrev NT : Type := Nat → NR
abbrev tB (t : NT) (a : Nat) : Int32 := (t a).1
abbrev tL (t : NT) (a : Nat) : Nat := (t a).2.1
abbrev tH (t : NT) (a : Nat) : Int32 := (t a).2.2.1
abbrev tR (t : NT) (a : Nat) : Nat := (t a).2.2.2.1
abbrev tZ (t : NT) (a : Nat) : Option Nat := (t a).2.2.2.2.1
abbrev tO (t : NT) (a : Nat) : Option Nat := (t a).2.2.2.2.2
def ch (t : NT) (a : Nat) (d : Bool) : Option Nat := if d = true then tO t a else tZ t a
def ST (N : List Nat) (t : NT) (root : Nat) : Prop :=
  (root ∈ N ∧ tL t root = 0) ∧ N.Nodup ∧ (∀ a ∈ N, px (tB t a) (tL t a)) ∧ (∀ a ∈ N, ∀ b ∈ N, tL t a = tL t b → ag (tB t a) (tB t b) (tL t a) → a = b) ∧
  (∀ a ∈ N, ∀ d c, ch t a d = some c → c ∈ N ∧ tL t a < tL t c ∧ ag (tB t a) (tB t c) (tL t a) ∧ bi (tB t c) (tL t a) = d) ∧
  (∀ a ∈ N, ∀ x ∈ N, tL t a < tL t x → ag (tB t a) (tB t x) (tL t a) → ∃ c, ch t a (bi (tB t x) (tL t a)) = some c ∧ tL t c ≤ tL t x ∧ ag (tB t c) (tB t x) (tL t c))
/-- from a node that begins x, the way on toward x leads to every longer one that does -/
theorem st_step {N : List Nat} {t : NT} {root a y : Nat} {x : Int32} (h : ST N t root) (ha : a ∈ N) (hax : ag (tB t a) x (tL t a)) (hy : y ∈ N) (hyx : ag (tB t y) x (tL t y)) (hl : tL t a < tL t y) :
    ∃ c, ch t a (bi x (tL t a)) = some c ∧ tL t c ≤ tL t y ∧ ag (tB t c) x (tL t c) := by
  obtain ⟨-, -, -, -, -, h6⟩ := h
  obtain ⟨c, h1, h2, h3⟩ := h6 a ha y hy hl (ag_tr hax (ag_sy (ag_mono hyx (by omega))))
  rw [hyx _ hl] at h1
  exact ⟨c, h1, h2, ag_tr h3 (ag_mono hyx h2)⟩
theorem st_ins {N : List Nat} {t : NT} {root q a n : Nat} {x : Int32} (h : ST N t root) (hq : q ∉ N) (ha : a ∈ N) (hn : tL t a < n) (hx : px x n) (hag : ag (tB t a) x (tL t a))
    (hc : ∀ c, ch t a (bi x (tL t a)) = some c → n < tL t c ∧ ag x (tB t c) n) (t' : NT) (e1 : ∀ b ∈ N, tB t' b = tB t b ∧ tL t' b = tL t b) (e2 : tB t' q = x ∧ tL t' q = n)
    (e3 : ∀ b ∈ N, ∀ d, ¬ (b = a ∧ d = bi x (tL t a)) → ch t' b d = ch t b d) (e3' : ch t' a (bi x (tL t a)) = some q)
    (e4 : ∀ c, ch t a (bi x (tL t a)) = some c → ch t' q (bi (tB t c) n) = some c) (e5 : ∀ d c, ch t' q d = some c → ch t a (bi x (tL t a)) = some c ∧ bi (tB t c) n = d) : ST (q :: N) t' root := by
  obtain ⟨⟨h1, h1'⟩, h2, h3, h4, h5, h6⟩ := h
  have nq : ∀ b ∈ N, b ≠ q := fun b hb e => hq (e ▸ hb)
  -- a node of N that q begins is not at its length or shorter
  have below : ∀ y ∈ N, tL t a < tL t y → ag (tB t a) (tB t y) (tL t a) → bi (tB t y) (tL t a) = bi x (tL t a) → n < tL t y ∧ ag x (tB t y) n ∧ ∃ c, ch t a (bi x (tL t a)) = some c ∧ tL t c ≤ tL t y ∧ ag (tB t c) (tB t y) (tL t c) := by
    intro y hy g1 g2 g3
    obtain ⟨c, k1, k2, k3⟩ := h6 a ha y hy g1 g2
    rw [g3] at k1
    obtain ⟨m1, m2⟩ := hc c k1
    exact ⟨by omega, ag_tr m2 (ag_mono k3 (by omega)), c, k1, k2, k3⟩
  refine ⟨⟨List.mem_cons_of_mem _ h1, by rw [(e1 root h1).2]; exact h1'⟩, List.nodup_cons.mpr ⟨hq, h2⟩, ?_, ?_, ?_, ?_⟩
  · intro b hb
    rcases List.mem_cons.mp hb with rfl | hb
    · rw [e2.1, e2.2]; exact hx
    · rw [(e1 b hb).1, (e1 b hb).2]; exact h3 b hb
  · have key : ∀ b ∈ N, tL t b = n → ag x (tB t b) n → False := by
      intro b hb g1 g2
      obtain ⟨k1, -⟩ := below b hb (by omega) (ag_tr hag (ag_mono g2 (by omega))) (g2 _ hn).symm
      omega
    intro b hb b' hb' g1 g2
    rcases List.mem_cons.mp hb with k0 | hb1 <;> rcases List.mem_cons.mp hb' with k0' | hb2
    · rw [k0, k0']
    · rw [k0, e2.2, (e1 b' hb2).2] at g1
      rw [k0, e2.1, e2.2, (e1 b' hb2).1] at g2
      exact (key b' hb2 g1.symm g2).elim
    · rw [k0', e2.2, (e1 b hb1).2] at g1
      rw [k0', e2.1, (e1 b hb1).1, (e1 b hb1).2, g1] at g2
      exact (key b hb1 g1 (ag_sy g2)).elim
    · rw [(e1 b hb1).2, (e1 b' hb2).2] at g1
      rw [(e1 b hb1).1, (e1 b hb1).2, (e1 b' hb2).1] at g2
      exact h4 b hb1 b' hb2 g1 g2
  · intro b hb d c hcc
    rcases List.mem_cons.mp hb with rfl | hb
    · obtain ⟨k1, k2⟩ := e5 d c hcc
      obtain ⟨m1, m2⟩ := hc c k1
      have hcN := (h5 a ha _ c k1).1
      rw [e2.1, e2.2, (e1 c hcN).1, (e1 c hcN).2]
      exact ⟨List.mem_cons_of_mem _ hcN, m1, m2, k2⟩
    · rw [(e1 b hb).1, (e1 b hb).2]
      by_cases hbd : b = a ∧ d = bi x (tL t a)
      · obtain ⟨rfl, rfl⟩ := hbd
        rw [e3'] at hcc
        cases hcc
        rw [e2.1, e2.2]
        exact ⟨List.mem_cons_self, hn, hag, rfl⟩
      · rw [e3 b hb d hbd] at hcc
        obtain ⟨k1, k2, k3, k4⟩ := h5 b hb d c hcc
        rw [(e1 c k1).1, (e1 c k1).2]
        exact ⟨List.mem_cons_of_mem _ k1, k2, k3, k4⟩
  · intro b hb y hy g1 g2
    rcases List.mem_cons.mp hb with k0 | hb1 <;> rcases List.mem_cons.mp hy with k0' | hy1
    · subst k0; subst k0'; omega
    · rw [k0, e2.2, (e1 y hy1).2] at g1
      rw [k0, e2.1, e2.2, (e1 y hy1).1] at g2
      rw [k0, e2.2, (e1 y hy1).1, (e1 y hy1).2]
      obtain ⟨-, -, c, k1, k2, k3⟩ := below y hy1 (by omega) (ag_tr hag (ag_mono g2 (by omega))) (g2 _ hn).symm
      obtain ⟨m1, m2⟩ := hc c k1
      have hcN := (h5 a ha _ c k1).1
      refine ⟨c, ?_, by rw [(e1 c hcN).2]; exact k2, by rw [(e1 c hcN).1, (e1 c hcN).2]; exact k3⟩
      rw [← k3 n m1]
      exact e4 c k1
    · rw [k0', e2.2, (e1 b hb1).2] at g1
      rw [k0', e2.1, (e1 b hb1).1, (e1 b hb1).2] at g2
      rw [k0', e2.1, e2.2, (e1 b hb1).2]
      by_cases hba : b = a
      · subst hba
        exact ⟨q, e3', by rw [e2.2]; exact Nat.le_refl n, by rw [e2.1]; exact ag_rf⟩
      · -- b begins x; it lies above a
        have hlt : tL t b < tL t a := by
          rcases Nat.lt_trichotomy (tL t b) (tL t a) with k | k | k
          · exact k
          · exact absurd (h4 b hb1 a ha k (ag_tr g2 (ag_sy (by rw [k]; exact hag)))) hba
          · obtain ⟨k1, -⟩ := below b hb1 k (ag_tr hag (ag_sy (ag_mono g2 (by omega)))) (g2 _ k)
            omega
        obtain ⟨c, k1, k2, k3⟩ := h6 b hb1 a ha hlt (ag_tr g2 (ag_sy (ag_mono hag (by omega))))
        rw [hag _ hlt] at k1
        have hcN := (h5 b hb1 _ c k1).1
        refine ⟨c, ?_, by rw [(e1 c hcN).2]; omega, by rw [(e1 c hcN).1, (e1 c hcN).2]; exact ag_tr k3 (ag_mono hag k2)⟩
        rw [e3 b hb1 _ (fun k => hba k.1)]
        exact k1
    · rw [(e1 b hb1).2, (e1 y hy1).2] at g1
      rw [(e1 b hb1).1, (e1 b hb1).2, (e1 y hy1).1] at g2
      rw [(e1 b hb1).2, (e1 y hy1).1, (e1 y hy1).2]
      by_cases hbd : b = a ∧ bi (tB t y) (tL t b) = bi x (tL t a)
      · obtain ⟨rfl, hd⟩ := hbd
        obtain ⟨k1, k2, -⟩ := below y hy1 g1 g2 hd
        rw [hd]
        exact ⟨q, e3', by rw [e2.2]; omega, by rw [e2.1, e2.2]; exact k2⟩
      · obtain ⟨c, k1, k2, k3⟩ := h6 b hb1 y hy1 g1 g2
        have hcN := (h5 b hb1 _ c k1).1
        refine ⟨c, ?_, by rw [(e1 c hcN).2]; exact k2, by rw [(e1 c hcN).1, (e1 c hcN).2]; exact k3⟩
        rw [e3 b hb1 _ hbd]
        exact k1
theorem st_del {N : List Nat} {t : NT} {root g p : Nat} {d : Bool} {one : Option Nat} (h : ST N t root) (hg : g ∈ N) (hgr : g ≠ root) (hp : p ∈ N) (hpg : ch t p d = some g)
    (ho : ∀ d' c, ch t g d' = some c → one = some c) (ho' : ∀ c, one = some c → ∃ d', ch t g d' = some c) (t' : NT) (e1 : ∀ b ∈ N, b ≠ g → tB t' b = tB t b ∧ tL t' b = tL t b)
    (e3 : ∀ b ∈ N, b ≠ g → ∀ d', ¬ (b = p ∧ d' = d) → ch t' b d' = ch t b d') (e3' : ch t' p d = one) : ST (N.erase g) t' root := by
  obtain ⟨⟨h1, h1'⟩, h2, h3, h4, h5, h6⟩ := h
  have hm : ∀ b, b ∈ N.erase g ↔ b ≠ g ∧ b ∈ N := fun b => h2.mem_erase_iff
  obtain ⟨p1, p2, p3, p4⟩ := h5 p hp d g hpg
  have pne : p ≠ g := fun e => by subst e; omega
  -- only p points to g
  have only : ∀ b ∈ N, ∀ d', ch t b d' = some g → b = p ∧ d' = d := by
    intro b hb d' hh
    obtain ⟨q1, q2, q3, q4⟩ := h5 b hb d' g hh
    have hbp : b = p := by
      rcases Nat.lt_trichotomy (tL t b) (tL t p) with k | k | k
      · obtain ⟨c, k1, k2, k3⟩ := h6 b hb p hp k (ag_tr q3 (ag_sy (ag_mono p3 (by omega))))
        rw [p3 _ k, q4, hh] at k1
        cases k1
        omega
      · exact h4 b hb p hp k (ag_tr q3 (ag_sy (by rw [k]; exact p3)))
      · obtain ⟨c, k1, k2, k3⟩ := h6 p hp b hb k (ag_tr p3 (ag_sy (ag_mono q3 (by omega))))
        rw [q3 _ k, p4, hpg] at k1
        cases k1
        omega
    subst hbp
    exact ⟨rfl, by rw [← q4, ← p4]⟩
  refine ⟨⟨(hm _).mpr ⟨Ne.symm hgr, h1⟩, by rw [(e1 root h1 (Ne.symm hgr)).2]; exact h1'⟩, h2.erase g, ?_, ?_, ?_, ?_⟩
  · intro b hb
    obtain ⟨n1, n2⟩ := (hm b).mp hb
    rw [(e1 b n2 n1).1, (e1 b n2 n1).2]; exact h3 b n2
  · intro b hb b' hb' g1 g2
    obtain ⟨n1, n2⟩ := (hm b).mp hb
    obtain ⟨n3, n4⟩ := (hm b').mp hb'
    rw [(e1 b n2 n1).2, (e1 b' n4 n3).2] at g1
    rw [(e1 b n2 n1).1, (e1 b n2 n1).2, (e1 b' n4 n3).1] at g2
    exact h4 b n2 b' n4 g1 g2
  · intro b hb d' c hcc
    obtain ⟨n1, n2⟩ := (hm b).mp hb
    rw [(e1 b n2 n1).1, (e1 b n2 n1).2]
    by_cases hbd : b = p ∧ d' = d
    · obtain ⟨rfl, rfl⟩ := hbd
      rw [e3'] at hcc
      obtain ⟨d2, k1⟩ := ho' c hcc
      obtain ⟨m1, m2, m3, m4⟩ := h5 g hg d2 c k1
      have cg : c ≠ g := fun e => by subst e; omega
      rw [(e1 c m1 cg).1, (e1 c m1 cg).2]
      exact ⟨(hm c).mpr ⟨cg, m1⟩, by omega, ag_tr p3 (ag_mono m3 (by omega)), by rw [← m3 _ p2]; exact p4⟩
    · rw [e3 b n2 n1 d' hbd] at hcc
      obtain ⟨k1, k2, k3, k4⟩ := h5 b n2 d' c hcc
      have cg : c ≠ g := fun e => by subst e; exact hbd (only b n2 d' hcc)
      rw [(e1 c k1 cg).1, (e1 c k1 cg).2]
      exact ⟨(hm c).mpr ⟨cg, k1⟩, k2, k3, k4⟩
  · intro b hb y hy g1 g2
    obtain ⟨n1, n2⟩ := (hm b).mp hb
    obtain ⟨n3, n4⟩ := (hm y).mp hy
    rw [(e1 b n2 n1).2, (e1 y n4 n3).2] at g1
    rw [(e1 b n2 n1).1, (e1 b n2 n1).2, (e1 y n4 n3).1] at g2
    rw [(e1 b n2 n1).2, (e1 y n4 n3).1, (e1 y n4 n3).2]
    obtain ⟨c, k1, k2, k3⟩ := h6 b n2 y n4 g1 g2
    by_cases hbd : b = p ∧ bi (tB t y) (tL t b) = d
    · obtain ⟨rfl, hd⟩ := hbd
      rw [hd, hpg] at k1
      cases k1
      have hlt : tL t g < tL t y := by
        rcases Nat.lt_or_ge (tL t g) (tL t y) with k | k
        · exact k
        · exact absurd (h4 g hg y n4 (by omega) k3).symm n3
      obtain ⟨c2, m1, m2, m3⟩ := h6 g hg y n4 hlt k3
      have hone := ho _ c2 m1
      obtain ⟨r1, r2, -, -⟩ := h5 g hg _ c2 m1
      have cg : c2 ≠ g := fun e => by subst e; omega
      rw [hd, e3']
      exact ⟨c2, hone, by rw [(e1 c2 r1 cg).2]; exact m2, by rw [(e1 c2 r1 cg).1, (e1 c2 r1 cg).2]; exact m3⟩
    · have hcN := (h5 b n2 _ c k1).1
      have cg : c ≠ g := fun e => by subst e; exact hbd (only b n2 _ k1)
      refine ⟨c, ?_, by rw [(e1 c hcN cg).2]; exact k2, by rw [(e1 c hcN cg).1, (e1 c hcN cg).2]; exact k3⟩
      rw [e3 b n2 n1 _ hbd]
      exact k1
theorem st_same {N : List Nat} {t t' : NT} {root : Nat} (h : ST N t root) (e : ∀ a ∈ N, tB t' a = tB t a ∧ tL t' a = tL t a ∧ tZ t' a = tZ t a ∧ tO t' a = tO t a) : ST N t' root := by
  obtain ⟨⟨h1, h1'⟩, h2, h3, h4, h5, h6⟩ := h
  have ec : ∀ a ∈ N, ∀ d, ch t' a d = ch t a d := fun a ha d => by unfold ch; rw [(e a ha).2.2.1, (e a ha).2.2.2]
  refine ⟨⟨h1, by rw [(e _ h1).2.1]; exact h1'⟩, h2, ?_, ?_, ?_, ?_⟩
  · intro a ha; rw [(e a ha).1, (e a ha).2.1]; exact h3 a ha
  · intro a ha b hb; rw [(e a ha).1, (e a ha).2.1, (e b hb).1, (e b hb).2.1]; exact h4 a ha b hb
  · intro a ha d c hc
    rw [ec a ha] at hc
    obtain ⟨k1, k2, k3, k4⟩ := h5 a ha d c hc
    rw [(e a ha).1, (e a ha).2.1, (e c k1).1, (e c k1).2.1]
    exact ⟨k1, k2, k3, k4⟩
  · intro a ha x hx
    rw [(e a ha).1, (e a ha).2.1, (e x hx).1, (e x hx).2.1, ec a ha]
    intro g1 g2
    obtain ⟨c, k1, k2, k3⟩ := h6 a ha x hx g1 g2
    have hcN := (h5 a ha _ c k1).1
    exact ⟨c, k1, by rw [(e c hcN).2.1]; exact k2, by rw [(e c hcN).1, (e c hcN).2.1]; exact k3⟩
/-- where two nodes part there is a node -/
theorem st_meet {N : List Nat} {t : NT} {root : Nat} (h : ST N t root) {x y : Nat} (hx : x ∈ N) (hy : y ∈ N) : ∃ a ∈ N, tL t a ≤ tL t x ∧ tL t a ≤ tL t y ∧ ag (tB t a) (tB t x) (tL t a) ∧ ag (tB t a) (tB t y) (tL t a) ∧ (tL t a < tL t x → tL t a < tL t y → bi (tB t x) (tL t a) ≠ bi (tB t y) (tL t a)) := by
  obtain ⟨⟨h1, h1'⟩, h2, h3, h4, h5, h6⟩ := h
  have go : ∀ k a, a ∈ N → 33 ≤ tL t a + k → tL t a ≤ tL t x → tL t a ≤ tL t y → ag (tB t a) (tB t x) (tL t a) → ag (tB t a) (tB t y) (tL t a) → ∃ a ∈ N, tL t a ≤ tL t x ∧ tL t a ≤ tL t y ∧ ag (tB t a) (tB t x) (tL t a) ∧ ag (tB t a) (tB t y) (tL t a) ∧ (tL t a < tL t x → tL t a < tL t y → bi (tB t x) (tL t a) ≠ bi (tB t y) (tL t a)) := by
    intro k
    induction k with
    | zero =>
      intro a ha hk
      have := (h3 a ha).1
      omega
    | succ k ih =>
      intro a ha hk g1 g2 g3 g4
      by_cases hc : tL t a < tL t x ∧ tL t a < tL t y ∧ bi (tB t x) (tL t a) = bi (tB t y) (tL t a)
      · obtain ⟨c1, c2, c3⟩ := hc
        obtain ⟨c, m1, m2, m3⟩ := h6 a ha x hx c1 g3
        obtain ⟨c', m1', m2', m3'⟩ := h6 a ha y hy c2 g4
        rw [c3, m1'] at m1
        have ec := Option.some.inj m1
        rw [← ec] at m2 m3
        obtain ⟨r1, r2, -, -⟩ := h5 a ha _ c' m1'
        exact ih c' r1 (by omega) m2 m2' m3 m3'
      · exact ⟨a, ha, g1, g2, g3, g4, fun c1 c2 c3 => hc ⟨c1, c2, c3⟩⟩
  exact go 33 root h1 (by omega) (by omega) (by omega) (by rw [h1']; exact ag_0) (by rw [h1']; exact ag_0)
/-! counting -/
theorem cnt_split {α : Type} {l : List α} {p q r : α → Bool} (h : ∀ y ∈ l, (p y = true ↔ (q y = true ∨ r y = true)) ∧ ¬ (q y = true ∧ r y = true)) : l.countP p = l.countP q + l.countP r := by
  induction l with
  | nil => rfl
  | cons a l ih =>
    have h1 := h a List.mem_cons_self
    have h2 := ih (fun y hy => h y (List.mem_cons_of_mem _ hy))
    rw [List.countP_cons, List.countP_cons, List.countP_cons, h2]
    cases hp : p a <;> cases hq : q a <;> cases hr : r a <;> simp [hp, hq, hr] at h1 ⊢ <;> omega
theorem cnt_one {l : List Nat} (hn : l.Nodup) {a : Nat} (ha : a ∈ l) : l.countP (fun y => y == a) = 1 := by
  induction l with
  | nil => cases ha
  | cons b l ih =>
    obtain ⟨n1, n2⟩ := List.nodup_cons.mp hn
    rw [List.countP_cons]
    rcases List.mem_cons.mp ha with rfl | h
    · have : l.countP (fun y => y == a) = 0 := List.countP_eq_zero.mpr (fun y hy => by simp; exact fun e => n1 (e ▸ hy))
      rw [this]; simp
    · have hne : ¬ b = a := fun e => n1 (e ▸ h)
      rw [ih n2 h]; simp [hne]
end
section
/-! the state of RouteTrie, and its reading methods -/
abbrev ndo (x : NR) : va_E := ndE x.1 (nI x.2.1) x.2.2.1 (nI x.2.2.2.1) x.2.2.2.2.1 x.2.2.2.2.2
def TN (f : AH) (N : List Nat) (t : NT) : Prop := ∀ a ∈ N, f a = some (ndo (t a))
abbrev trO (root : Nat) (cnt : Int32) : va_E := .inr (1, [.ref root, .int cnt])
def okP (x n : Int32) : Prop := ∃ k : Nat, n = nI k ∧ px x k
def TMp (N : List Nat) (t : NT) (x : Int32) (k : Nat) (r : Option Nat) : Prop := (∀ a, r = some a → a ∈ N ∧ k ≤ tL t a ∧ ag x (tB t a) k ∧ ∀ y ∈ N, k ≤ tL t y → ag x (tB t y) k → tL t a ≤ tL t y ∧ ag (tB t a) (tB t y) (tL t a)) ∧ (r = none → ∀ y ∈ N, k ≤ tL t y → ¬ ag x (tB t y) k)
def RAp (N : List Nat) (t : NT) (x n : Int32) (r : Option Nat) : Prop := (∀ a, r = some a → a ∈ N ∧ n = nI (tL t a) ∧ tB t a = x ∧ ¬ tH t a = -1) ∧ (r = none → ∀ a ∈ N, ¬ tH t a = -1 → n = nI (tL t a) → ¬ tB t a = x)
def LRp (N : List Nat) (t : NT) (x : Int32) (r : Option Nat) : Prop := (∀ a, r = some a → a ∈ N ∧ ag (tB t a) x (tL t a) ∧ ¬ tH t a = -1 ∧ ∀ y ∈ N, ag (tB t y) x (tL t y) → ¬ tH t y = -1 → tL t y ≤ tL t a) ∧ (r = none → ∀ y ∈ N, ag (tB t y) x (tL t y) → tH t y = -1)
theorem tw_ch {t : NT} {a : Nat} {x : Int32} {r : Option Nat} (hl : tL t a ≤ 32) (h : (g1I (nI (tL t a)) x ∧ r = tO t a) ∨ (¬ g1I (nI (tL t a)) x ∧ r = tZ t a)) : r = ch t a (bi x (tL t a)) := by
  rw [g1_bi hl] at h
  unfold ch
  rcases h with ⟨h1, h2⟩ | ⟨h1, h2⟩
  · rw [if_pos h1.2]; exact h2
  · rcases Nat.lt_or_ge (tL t a) 32 with q | q
    · rw [if_neg (fun k => h1 ⟨q, k⟩)]; exact h2
    · rw [bi_big q, if_neg (by decide)]; exact h2
theorem bg_iff {t : NT} {a : Nat} {x : Int32} (h : px (tB t a) (tL t a)) : fbI x (nI (tL t a)) = tB t a ↔ ag (tB t a) x (tL t a) := by rw [fbI_fb]; exact px_fb h
theorem ite1 {p : Prop} {r : Int32} (h : (r = 1 ∧ p) ∨ (r = 0 ∧ ¬ p)) : (¬ r = 0 ↔ p) := by
  rcases h with ⟨h1, h2⟩ | ⟨h1, h2⟩
  · rw [h1]; exact ⟨fun _ => h2, fun _ => by decide⟩
  · rw [h1]; exact ⟨fun k => absurd rfl k, fun k => absurd k h2⟩
set_option maxHeartbeats 4000000 in
set_option maxRecDepth 100000 in
theorem c_X1_isPrefix (l : Launch) (D : va_G) (cy : ClassId) (base : Nat) (f : AH) (x n : Int32)  : Met l yX1_isPrefix wsX1_isPrefix ({ frames := 1, cells := 0, slots := 0, locals := 21 }) (va_Pc [.int x, .int n] (hp_B D cy base f)) (va_Qi (fun (r : Int32) (u : AH) => ((r = 1 ∧ okP x n) ∨ (r = 0 ∧ ¬ okP x n)) ∧ u = f) (hp_B D cy base) (hp_A base)) 0 0 (hp_A base) := by
  refine Met.ofW (cc := cX1_isPrefix) (maxL := 2) (ret := (some .boolean)) (by decide) rfl ?_
  intro p e s m args below meth c s₁ B hml hv
  obtain ⟨rfl, hf, C0⟩ := hv
  have hx := B.exec
  have hb := B.bytes
  have hr := B.returns
  have hts := atoms_spec (ws := wsX1_isPrefix) B.pre
  have hown : s.vm.findClass RX1 = some m.cls := findClass_of_methodNamed B.named
  have hlocks := B.notSynchronized
  have hS : va_S (hp_A base) s.heap s.heap [] := va_S.rf
  have hl := lv_entry ([.int x, .int n]) (n := 2) (Nat.le_of_ble_eq_true rfl)
  rw [lg_entry_eq]
  generalize (lg_sl ([.int x, .int n]) ++ List.replicate (2 - (lg_sl ([.int x, .int n])).length) Slot.unset).toArray = ls at hl ⊢
  have hl : lv_has ls 2 [(0, .int x), (1, .int n)] := hl
  refine lv_iload_n hx hb dX1_isPrefix_0 rfl (lv_at hl 1 rfl) ?_
  refine lv_if_lt (tgt := 23) hx hb dX1_isPrefix_1 (by decide) (fun h1 => ?_) (fun h1 => ?_)
  · refine lv_iconst (v := 0) hx hb dX1_isPrefix_23 (by decide) ?_
    exact hp_zret (v := 0) hx hb hr hlocks C0 hf hS (by first | exact Nat.le_refl _ | omega) (by first | exact Nat.le_refl _ | omega) dX1_isPrefix_24 (by decide) (⟨Or.inr ⟨rfl, fun ⟨k, e, hk⟩ => nI_pos (by have := hk.1; omega) (e ▸ h1)⟩, rfl⟩)
  · refine lv_iload_n hx hb dX1_isPrefix_4 rfl (lv_at hl 1 rfl) ?_
    refine lv_bipush (v := 32) hx hb dX1_isPrefix_5 (by decide) ?_
    refine lv_icmp_gt (tgt := 23) hx hb dX1_isPrefix_7 (by decide) (fun h7 => ?_) (fun h7 => ?_)
    · refine lv_iconst (v := 0) hx hb dX1_isPrefix_23 (by decide) ?_
      exact hp_zret (v := 0) hx hb hr hlocks C0 hf hS (by first | exact Nat.le_refl _ | omega) (by first | exact Nat.le_refl _ | omega) dX1_isPrefix_24 (by decide) (⟨Or.inr ⟨rfl, fun ⟨k, e, hk⟩ => absurd h7 (by rw [e]; exact nI_nlt (a := 32) hk.1 (by omega))⟩, rfl⟩)
    · refine lv_iload_n hx hb dX1_isPrefix_10 rfl (lv_at hl 0 rfl) ?_
      refine lv_iload_n hx hb dX1_isPrefix_11 rfl (lv_at hl 1 rfl) ?_
      refine hp_ki (hp_rS (As := [.int x, .int n]) (rest := []) ⟨hx, hb, hml, hown, hts⟩ C0 hf hS (c_X1_firstBits l D cy base f x n) (va_cwS 2 hts gX1_isPrefix_X1_firstBits rfl rfl rfl (by decide +kernel) ⟨Nat.le_of_ble_eq_true rfl, Nat.le_of_ble_eq_true rfl⟩) rfl hl.1 rfl (Nat.le_of_ble_eq_true rfl) dX1_isPrefix_12 ⟨Nat.le_of_ble_eq_true rfl, Nat.le_of_ble_eq_true rfl⟩) hS (fun r_1 u_1 H locs hq_1 hf hS => ?_)
      obtain ⟨rfl, hu⟩ := hq_1
      rw [hu] at hf
      refine lv_iload_n hx hb dX1_isPrefix_15 rfl (lv_at hl 0 rfl) ?_
      refine lv_icmp_ne (tgt := 23) hx hb dX1_isPrefix_16 (by decide) (fun h16 => ?_) (fun h16 => ?_)
      · refine lv_iconst (v := 0) hx hb dX1_isPrefix_23 (by decide) ?_
        exact hp_zret (v := 0) hx hb hr hlocks C0 hf hS (by first | exact Nat.le_refl _ | omega) (by first | exact Nat.le_refl _ | omega) dX1_isPrefix_24 (by decide) (⟨Or.inr ⟨rfl, fun ⟨k, e, hk⟩ => h16 (by rw [e, fbI_fb]; exact hk.2)⟩, rfl⟩)
      · refine lv_iconst (v := 1) hx hb dX1_isPrefix_19 (by decide) ?_
        refine lv_goto (tgt := 24) hx hb dX1_isPrefix_20 (by decide) ?_
        exact hp_zret (v := 1) hx hb hr hlocks C0 hf hS (by first | exact Nat.le_refl _ | omega) (by first | exact Nat.le_refl _ | omega) dX1_isPrefix_24 (by decide) (⟨Or.inl ⟨rfl, by obtain ⟨j, hj, e⟩ := nI_of2 (M := 32) (n := 32) rfl h1 (Int32.not_lt.mp h7); exact ⟨j, e, hj, by rw [← fbI_fb, ← e]; exact h16⟩⟩, rfl⟩)
set_option maxHeartbeats 4000000 in
set_option maxRecDepth 100000 in
theorem c_X1_topmost (l : Launch) (D : va_G) (cy : ClassId) (base : Nat) (f : AH) (q : Nat) (N : List Nat) (t : NT) (root : Nat) (cnt : Int32) (x : Int32) (k : Nat) (hq : f q = some (trO root cnt)) (hT : TN f N t) (hst : ST N t root) (hk : px x k) : Met l yX1_topmost wsX1_topmost ({ frames := 2, cells := 0, slots := 0, locals := 42 }) (va_Pc [.ref q, .int x, .int (nI k)] (hp_B D cy base f)) (va_Qq (fun (r : Option Nat) (u : AH) => TMp N t x k r ∧ u = f) (hp_B D cy base) (hp_A base)) 0 0 (hp_A base) := by
  refine Met.ofW (cc := cX1_topmost) (maxL := 4) (ret := (some (.object "RouteTrie$Node"))) (by decide) rfl ?_
  intro p e s m args below meth c s₁ B hml hv
  obtain ⟨rfl, hf, C0⟩ := hv
  have hx := B.exec
  have hb := B.bytes
  have hr := B.returns
  have hts := atoms_spec (ws := wsX1_topmost) B.pre
  have hown : s.vm.findClass RX1 = some m.cls := findClass_of_methodNamed B.named
  have hlocks := B.notSynchronized
  have hin0 : ∀ w ∈ wsX00, w ∈ wsX1_topmost := by decide +kernel
  have hin1 : ∀ w ∈ wsX10, w ∈ wsX1_topmost := by decide +kernel
  have hS : va_S (hp_A base) s.heap s.heap [] := va_S.rf
  have hl := lv_entry ([.ref q, .int x, .int (nI k)]) (n := 4) (Nat.le_of_ble_eq_true rfl)
  rw [lg_entry_eq]
  generalize (lg_sl ([.ref q, .int x, .int (nI k)]) ++ List.replicate (4 - (lg_sl ([.ref q, .int x, .int (nI k)])).length) Slot.unset).toArray = ls at hl ⊢
  have hl : lv_has ls 4 [(0, .ref q), (1, .int x), (2, .int (nI k))] := hl
  have loop : ∀ (n : Nat) (at_ : Option Nat) (ls : Array Slot) (H : Heap) (locs : List Loc), 0 < n → (∀ a, at_ = some a → a ∈ N ∧ 34 ≤ tL t a + n) → (∀ y ∈ N, k ≤ tL t y → ag x (tB t y) k → ∃ a, at_ = some a ∧ tL t a ≤ tL t y ∧ ag (tB t a) (tB t y) (tL t a)) → hp_ok D base f H → va_S (hp_A base) s.heap H locs → lv_has ls 4 [(0, .ref q), (1, .int x), (2, .int (nI k)), (3, va_rf at_)] → W p l e (headSpec wsX1_topmost ({ frames := 2, cells := 0, slots := 0, locals := 42 } : Room)).room s m #[Value.ref q, Value.int x, Value.int (nI k)] below meth c H locs 0 0 (MQ below (va_Qq (fun (r : Option Nat) (u : AH) => TMp N t x k r ∧ u = f) (hp_B D cy base) (hp_A base)) #[Value.ref q, Value.int x, Value.int (nI k)] s 0 0 (hp_A base)) (F0 m 5 ls []) := by
    intro n
    induction n with
    | zero => intro _ _ _ _ h; exact absurd h (Nat.lt_irrefl 0)
    | succ n ih =>
      intro at_ ls H locs _ hA hI hf hS hl
      refine hp_aload_nq (r := at_) hx hb dX1_topmost_5 rfl (lv_at hl 3 rfl) ?_
      refine hp_ifnullq (tgt := 26) (r := at_) hx hb dX1_topmost_6 (by decide) (fun h6 => ?_) (fun x6 h6 => ?_)
      · rw [h6] at hl
        have hl : lv_has ls 4 [(0, .ref q), (1, .int x), (2, .int (nI k)), (3, .null)] := hl
        refine lv_aload_nN hx hb dX1_topmost_26 rfl (lv_at hl 3 rfl) ?_
        refine lv_ifnullN (tgt := 46) hx hb dX1_topmost_27 (by decide) ?_
        refine lv_null hx hb dX1_topmost_46 ?_
        exact hp_aret (r := none) hx hb hr hlocks C0 hf hS (by first | exact Nat.le_refl _ | omega) (by first | exact Nat.le_refl _ | omega) dX1_topmost_47 (⟨⟨fun a e => (by cases e), fun _ y hy g1 g2 => by obtain ⟨a, m1, -⟩ := hI y hy g1 g2; rw [h6] at m1; cases m1⟩, rfl⟩)
      · rw [h6] at hl
        have hl : lv_has ls 4 [(0, .ref q), (1, .int x), (2, .int (nI k)), (3, .ref x6)] := hl
        obtain ⟨hx6, hm6⟩ := hA x6 h6
        refine lv_aload_n hx hb dX1_topmost_9 rfl (lv_at hl 3 rfl) ?_
        refine hp_getN (ci := 0) (v := .int (nI (tL t x6))) (own := RX1) (ref := RX0) (host := RX1) (index := 53) (C := RX0) (T := TX0) (N := 6) hx hb hts hin0 hown C0 hf (hT x6 hx6) rfl 1 (by decide) (by decide +kernel) (fun _ h9 => h9) rfl dX1_topmost_10 ?_
        refine lv_iload_n hx hb dX1_topmost_13 rfl (lv_at hl 2 rfl) ?_
        refine lv_icmp_ge (tgt := 26) hx hb dX1_topmost_14 (by decide) (fun h14 => ?_) (fun h14 => ?_)
        · refine lv_aload_n hx hb dX1_topmost_26 rfl (lv_at hl 3 rfl) ?_
          refine lv_ifnull hx hb dX1_topmost_27 ?_
          refine lv_aload_n hx hb dX1_topmost_30 rfl (lv_at hl 3 rfl) ?_
          refine hp_getN (ci := 0) (v := .int (tB t x6)) (own := RX1) (ref := RX0) (host := RX1) (index := 62) (C := RX0) (T := TX0) (N := 6) hx hb hts hin0 hown C0 hf (hT x6 hx6) rfl 0 (by decide) (by decide +kernel) (fun _ h9 => h9) rfl dX1_topmost_31 ?_
          refine lv_iload_n hx hb dX1_topmost_34 rfl (lv_at hl 2 rfl) ?_
          refine hp_ki (hp_rS (As := [.int (tB t x6), .int (nI k)]) (rest := []) ⟨hx, hb, hml, hown, hts⟩ C0 hf hS (c_X1_firstBits l D cy base f (tB t x6) (nI k)) (va_cwS 2 hts gX1_topmost_X1_firstBits rfl rfl rfl (by decide +kernel) ⟨Nat.le_of_ble_eq_true rfl, Nat.le_of_ble_eq_true rfl⟩) rfl hl.1 rfl (Nat.le_of_ble_eq_true rfl) dX1_topmost_35 ⟨Nat.le_of_ble_eq_true rfl, Nat.le_of_ble_eq_true rfl⟩) hS (fun r_1 u_1 H locs hq_1 hf hS => ?_)
          obtain ⟨rfl, hu⟩ := hq_1
          rw [hu] at hf
          refine lv_iload_n hx hb dX1_topmost_38 rfl (lv_at hl 1 rfl) ?_
          refine lv_icmp_ne (tgt := 46) hx hb dX1_topmost_39 (by decide) (fun h39 => ?_) (fun h39 => ?_)
          · refine lv_null hx hb dX1_topmost_46 ?_
            have hge : k ≤ tL t x6 := by have := (hst.2.2.1 x6 hx6).1; exact Nat.not_lt.mp (fun q => absurd h14 (nI_ge q (by have := hk.1; omega)))
            exact hp_aret (r := none) hx hb hr hlocks C0 hf hS (by first | exact Nat.le_refl _ | omega) (by first | exact Nat.le_refl _ | omega) dX1_topmost_47 (⟨⟨fun a e => (by cases e), fun _ y hy g1 g2 => by obtain ⟨a, m1, m2, m3⟩ := hI y hy g1 g2; rw [h6] at m1; cases m1; exact h39 (by rw [fbI_fb]; exact (px_fb hk).mpr (ag_tr g2 (ag_sy (ag_mono m3 hge))))⟩, rfl⟩)
          · refine lv_aload_n hx hb dX1_topmost_42 rfl (lv_at hl 3 rfl) ?_
            refine lv_goto (tgt := 47) hx hb dX1_topmost_43 (by decide) ?_
            have hge : k ≤ tL t x6 := by have := (hst.2.2.1 x6 hx6).1; exact Nat.not_lt.mp (fun q => absurd h14 (nI_ge q (by have := hk.1; omega)))
            exact hp_aret (r := some x6) hx hb hr hlocks C0 hf hS (by first | exact Nat.le_refl _ | omega) (by first | exact Nat.le_refl _ | omega) dX1_topmost_47 (⟨⟨fun a e => by cases e; exact ⟨hx6, hge, (px_fb hk).mp (by rw [← fbI_fb]; exact h39), fun y hy g1 g2 => by obtain ⟨a, m1, m2, m3⟩ := hI y hy g1 g2; rw [h6] at m1; cases m1; exact ⟨m2, m3⟩⟩, fun e => by cases e⟩, rfl⟩)
        · refine lv_aload_n hx hb dX1_topmost_17 rfl (lv_at hl 3 rfl) ?_
          refine lv_iload_n hx hb dX1_topmost_18 rfl (lv_at hl 1 rfl) ?_
          refine hp_kq (hp_rVN (C := RX0) (As := [.int x]) (rest := []) ⟨hx, hb, hml, hown, hts⟩ C0 hf hS (c_X0_toward l D cy base f x6 (tB t x6) (nI (tL t x6)) (tH t x6) (nI (tR t x6)) (tZ t x6) (tO t x6) x (hT x6 hx6)) ⟨va_cnB (host := RX1) (index := 69) 1 hts gX1_topmost_X0_toward_n69 rfl rfl rfl (C0.2.2 _ (by decide +kernel)) (hts (.initialized RX0) (by decide +kernel)) (by decide +kernel) ⟨Nat.le_of_ble_eq_true rfl, Nat.le_of_ble_eq_true rfl⟩, hts (.instanceMethod yX0_toward) (by decide +kernel), hts (.selects RX0 yX0_toward yX0_toward) (by decide +kernel)⟩ (hT x6 hx6) rfl rfl hl.1 rfl (Nat.le_of_ble_eq_true rfl) dX1_topmost_19 ⟨Nat.le_of_ble_eq_true rfl, Nat.le_of_ble_eq_true rfl⟩) hS (fun r_2 u_2 H locs hq_2 hf hS => ?_)
          obtain ⟨hr_2, hu⟩ := hq_2
          rw [hu] at hf
          have er_2 := tw_ch (hst.2.2.1 x6 hx6).1 hr_2
          refine hp_astore_nq (lv' := [(3, va_rf r_2), (0, .ref q), (1, .int x), (2, .int (nI k))]) hx hb dX1_topmost_22 rfl hl (by decide) rfl (fun ls hl => ?_)
          refine lv_goto (tgt := 5) hx hb dX1_topmost_23 (by decide) ?_
          have hlt : tL t x6 < k := by have := (hst.2.2.1 x6 hx6).1; have := hk.1; exact Nat.not_le.mp (fun q => h14 (nI_le q (by omega)))
          have h32 := (hst.2.2.1 x6 hx6).1
          refine ih r_2 ls _ _ (by omega) (fun a e => ?_) (fun y hy g1 g2 => ?_) hf hS (lv_sub hl [1, 2, 3, 0] rfl)
          · rw [er_2] at e
            obtain ⟨m1, m2, -, -⟩ := hst.2.2.2.2.1 x6 hx6 _ a e
            exact ⟨m1, by omega⟩
          · obtain ⟨a, m1, m2, m3⟩ := hI y hy g1 g2
            have m4 : a = x6 := Option.some.inj (m1.symm.trans h6)
            subst m4
            obtain ⟨c2, k1, k2, k3⟩ := hst.2.2.2.2.2 a hx6 y hy (by omega) m3
            refine ⟨c2, ?_, k2, k3⟩
            rw [er_2, g2 _ hlt]
            exact k1
  refine lv_aload_n hx hb dX1_topmost_0 rfl (lv_at hl 0 rfl) ?_
  refine hp_get (ci := 1) (v := .ref root) (C := RX1) (T := TX1) (N := 2) hx hb hts hin1 hown C0 hf hq rfl 0 (by decide) (hts (.fieldLink RX1 14 "RouteTrie" "root" "LRouteTrie$Node;") (by decide +kernel)) (fun _ h9 => h9) rfl dX1_topmost_1 ?_
  refine lv_astore_n (lv' := [(3, .ref root), (0, .ref q), (1, .int x), (2, .int (nI k))]) hx hb dX1_topmost_4 rfl hl (by decide) rfl (fun ls hl => ?_)
  exact loop 34 (some root) ls _ _ (by omega) (fun a e => by cases e; exact ⟨hst.1.1, by omega⟩) (fun y hy _ _ => ⟨root, rfl, by rw [hst.1.2]; omega, by rw [hst.1.2]; exact ag_0⟩) hf hS (lv_sub hl [1, 2, 3, 0] rfl)
set_option maxHeartbeats 4000000 in
set_option maxRecDepth 100000 in
theorem c_X1_routeAt (l : Launch) (D : va_G) (cy : ClassId) (base : Nat) (f : AH) (q : Nat) (N : List Nat) (t : NT) (root : Nat) (cnt : Int32) (x n : Int32) (hq : f q = some (trO root cnt)) (hT : TN f N t) (hst : ST N t root) : Met l yX1_routeAt wsX1_routeAt ({ frames := 3, cells := 0, slots := 0, locals := 65 }) (va_Pc [.ref q, .int x, .int n] (hp_B D cy base f)) (va_Qq (fun (r : Option Nat) (u : AH) => RAp N t x n r ∧ u = f) (hp_B D cy base) (hp_A base)) 0 0 (hp_A base) := by
  refine Met.ofW (cc := cX1_routeAt) (maxL := 4) (ret := (some (.object "RouteTrie$Node"))) (by decide) rfl ?_
  intro p e s m args below meth c s₁ B hml hv
  obtain ⟨rfl, hf, C0⟩ := hv
  have hx := B.exec
  have hb := B.bytes
  have hr := B.returns
  have hts := atoms_spec (ws := wsX1_routeAt) B.pre
  have hown : s.vm.findClass RX1 = some m.cls := findClass_of_methodNamed B.named
  have hlocks := B.notSynchronized
  have hin0 : ∀ w ∈ wsX00, w ∈ wsX1_routeAt := by decide +kernel
  have hin1 : ∀ w ∈ wsX10, w ∈ wsX1_routeAt := by decide +kernel
  have hS : va_S (hp_A base) s.heap s.heap [] := va_S.rf
  have hl := lv_entry ([.ref q, .int x, .int n]) (n := 4) (Nat.le_of_ble_eq_true rfl)
  rw [lg_entry_eq]
  generalize (lg_sl ([.ref q, .int x, .int n]) ++ List.replicate (4 - (lg_sl ([.ref q, .int x, .int n])).length) Slot.unset).toArray = ls at hl ⊢
  have hl : lv_has ls 4 [(0, .ref q), (1, .int x), (2, .int n)] := hl
  refine lv_iload_n hx hb dX1_routeAt_0 rfl (lv_at hl 1 rfl) ?_
  refine lv_iload_n hx hb dX1_routeAt_1 rfl (lv_at hl 2 rfl) ?_
  refine hp_ki (hp_rS (As := [.int x, .int n]) (rest := []) ⟨hx, hb, hml, hown, hts⟩ C0 hf hS (c_X1_isPrefix l D cy base f x n) (va_cwS 2 hts gX1_routeAt_X1_isPrefix rfl rfl rfl (by decide +kernel) ⟨Nat.le_of_ble_eq_true rfl, Nat.le_of_ble_eq_true rfl⟩) rfl hl.1 rfl (Nat.le_of_ble_eq_true rfl) dX1_routeAt_2 ⟨Nat.le_of_ble_eq_true rfl, Nat.le_of_ble_eq_true rfl⟩) hS (fun r_1 u_1 H locs hq_1 hf hS => ?_)
  obtain ⟨hr_1, hu⟩ := hq_1
  rw [hu] at hf
  have hpf := ite1 hr_1
  refine lv_if_ne (tgt := 10) hx hb dX1_routeAt_5 (by decide) (fun h5 => ?_) (fun h5 => ?_)
  · refine lv_aload_n hx hb dX1_routeAt_10 rfl (lv_at hl 0 rfl) ?_
    refine lv_iload_n hx hb dX1_routeAt_11 rfl (lv_at hl 1 rfl) ?_
    refine lv_iload_n hx hb dX1_routeAt_12 rfl (lv_at hl 2 rfl) ?_
    obtain ⟨k, rfl, hk⟩ := hpf.mp h5
    refine hp_kq (hp_rV (C := RX1) (As := [.int x, .int (nI k)]) (rest := []) ⟨hx, hb, hml, hown, hts⟩ C0 hf hS (c_X1_topmost l D cy base f q N t root cnt x k hq hT hst hk) (cwV 2 hts gX1_routeAt_X1_topmost rfl rfl rfl (by decide +kernel) ⟨Nat.le_of_ble_eq_true rfl, Nat.le_of_ble_eq_true rfl⟩) hq rfl rfl hl.1 rfl (Nat.le_of_ble_eq_true rfl) dX1_routeAt_13 ⟨Nat.le_of_ble_eq_true rfl, Nat.le_of_ble_eq_true rfl⟩) hS (fun r_2 u_2 H locs hq_2 hf hS => ?_)
    obtain ⟨hr_2, hu⟩ := hq_2
    rw [hu] at hf
    refine hp_astore_nq (lv' := [(3, va_rf r_2), (0, .ref q), (1, .int x), (2, .int (nI k))]) hx hb dX1_routeAt_16 rfl hl (by decide) rfl (fun ls hl => ?_)
    refine hp_aload_nq (r := r_2) hx hb dX1_routeAt_17 rfl (lv_at hl 0 rfl) ?_
    refine hp_ifnullq (tgt := 40) (r := r_2) hx hb dX1_routeAt_18 (by decide) (fun h18 => ?_) (fun x18 h18 => ?_)
    · rw [h18] at hl
      have hl : lv_has ls 4 [(3, .null), (0, .ref q), (1, .int x), (2, .int (nI k))] := hl
      refine lv_null hx hb dX1_routeAt_40 ?_
      exact hp_aret (r := none) hx hb hr hlocks C0 hf hS (by first | exact Nat.le_refl _ | omega) (by first | exact Nat.le_refl _ | omega) dX1_routeAt_41 (⟨⟨fun a e => (by cases e), fun _ a ha g1 g2 g3 => hr_2.2 h18 a ha (by rw [nI_eq (by have := hk.1; omega) (by have := (hst.2.2.1 a ha).1; omega)] at g2; omega) (by rw [g3]; exact ag_rf)⟩, rfl⟩)
    · rw [h18] at hl
      have hl : lv_has ls 4 [(3, .ref x18), (0, .ref q), (1, .int x), (2, .int (nI k))] := hl
      obtain ⟨hxN, hxl, hxa, hxm⟩ := hr_2.1 x18 h18
      refine lv_aload_n hx hb dX1_routeAt_21 rfl (lv_at hl 0 rfl) ?_
      refine hp_getN (ci := 0) (v := .int (nI (tL t x18))) (own := RX1) (ref := RX0) (host := RX1) (index := 53) (C := RX0) (T := TX0) (N := 6) hx hb hts hin0 hown C0 hf (hT x18 hxN) rfl 1 (by decide) (by decide +kernel) (fun _ h9 => h9) rfl dX1_routeAt_22 ?_
      refine lv_iload_n hx hb dX1_routeAt_25 rfl (lv_at hl 3 rfl) ?_
      refine lv_icmp_ne (tgt := 40) hx hb dX1_routeAt_26 (by decide) (fun h26 => ?_) (fun h26 => ?_)
      · refine lv_null hx hb dX1_routeAt_40 ?_
        have hl32 := (hst.2.2.1 x18 hxN).1
        have hk32 := hk.1
        exact hp_aret (r := none) hx hb hr hlocks C0 hf hS (by first | exact Nat.le_refl _ | omega) (by first | exact Nat.le_refl _ | omega) dX1_routeAt_41 (⟨⟨fun a e => (by cases e), fun _ a ha g1 g2 g3 => by rw [nI_eq (by omega) (by have := (hst.2.2.1 a ha).1; omega)] at g2; obtain ⟨m1, m2⟩ := hxm a ha (by omega) (by rw [g3]; exact ag_rf); exact h26 (by rw [show tL t x18 = k by omega])⟩, rfl⟩)
      · refine lv_aload_n hx hb dX1_routeAt_29 rfl (lv_at hl 0 rfl) ?_
        refine hp_ki (hp_rVN (C := RX0) (As := []) (rest := []) ⟨hx, hb, hml, hown, hts⟩ C0 hf hS (c_X0_isRoute l D cy base f x18 (tB t x18) (nI (tL t x18)) (tH t x18) (nI (tR t x18)) (tZ t x18) (tO t x18) (hT x18 hxN)) ⟨va_cnB (host := RX1) (index := 87) 0 hts gX1_routeAt_X0_isRoute_n87 rfl rfl rfl (C0.2.2 _ (by decide +kernel)) (hts (.initialized RX0) (by decide +kernel)) (by decide +kernel) ⟨Nat.le_of_ble_eq_true rfl, Nat.le_of_ble_eq_true rfl⟩, hts (.instanceMethod yX0_isRoute) (by decide +kernel), hts (.selects RX0 yX0_isRoute yX0_isRoute) (by decide +kernel)⟩ (hT x18 hxN) rfl rfl hl.1 rfl (Nat.le_of_ble_eq_true rfl) dX1_routeAt_30 ⟨Nat.le_of_ble_eq_true rfl, Nat.le_of_ble_eq_true rfl⟩) hS (fun r_3 u_3 H locs hq_3 hf hS => ?_)
        obtain ⟨hr_3, hu⟩ := hq_3
        rw [hu] at hf
        have hir : r_3 = 0 ↔ tH t x18 = -1 := by rw [hr_3]; split <;> simp_all
        refine lv_if_eq (tgt := 40) hx hb dX1_routeAt_33 (by decide) (fun h33 => ?_) (fun h33 => ?_)
        · refine lv_null hx hb dX1_routeAt_40 ?_
          have hl32 := (hst.2.2.1 x18 hxN).1
          have hk32 := hk.1
          rw [nI_eq (by omega) (by omega)] at h26
          have hxb : tB t x18 = x := (px_inj hk (h26 ▸ hst.2.2.1 x18 hxN) hxa).symm
          exact hp_aret (r := none) hx hb hr hlocks C0 hf hS (by first | exact Nat.le_refl _ | omega) (by first | exact Nat.le_refl _ | omega) dX1_routeAt_41 (⟨⟨fun a e => (by cases e), fun _ a ha g1 g2 g3 => by rw [nI_eq (by omega) (by have := (hst.2.2.1 a ha).1; omega)] at g2; have e := hst.2.2.2.1 x18 hxN a ha (by omega) (by rw [hxb, g3]; exact ag_rf); subst e; exact g1 (hir.mp h33)⟩, rfl⟩)
        · refine lv_aload_n hx hb dX1_routeAt_36 rfl (lv_at hl 0 rfl) ?_
          refine lv_goto (tgt := 41) hx hb dX1_routeAt_37 (by decide) ?_
          have hl32 := (hst.2.2.1 x18 hxN).1
          have hk32 := hk.1
          rw [nI_eq (by omega) (by omega)] at h26
          have hxb : tB t x18 = x := (px_inj hk (h26 ▸ hst.2.2.1 x18 hxN) hxa).symm
          exact hp_aret (r := some x18) hx hb hr hlocks C0 hf hS (by first | exact Nat.le_refl _ | omega) (by first | exact Nat.le_refl _ | omega) dX1_routeAt_41 (⟨⟨fun a e => by cases e; exact ⟨hxN, by rw [h26], hxb, (not_congr hir).mp h33⟩, fun e => by cases e⟩, rfl⟩)
  · refine lv_null hx hb dX1_routeAt_8 ?_
    exact hp_aret (r := none) hx hb hr hlocks C0 hf hS (by first | exact Nat.le_refl _ | omega) (by first | exact Nat.le_refl _ | omega) dX1_routeAt_9 (⟨⟨fun a e => (by cases e), fun _ a ha g1 g2 g3 => ((not_congr hpf).mp (fun z => z h5)) ⟨tL t a, g2, g3 ▸ hst.2.2.1 a ha⟩⟩, rfl⟩)
set_option maxHeartbeats 4000000 in
set_option maxRecDepth 100000 in
theorem c_X1_longestRoute (l : Launch) (D : va_G) (cy : ClassId) (base : Nat) (f : AH) (q : Nat) (N : List Nat) (t : NT) (root : Nat) (cnt : Int32) (x : Int32) (hq : f q = some (trO root cnt)) (hT : TN f N t) (hst : ST N t root) : Met l yX1_longestRoute wsX1_longestRoute ({ frames := 2, cells := 0, slots := 0, locals := 42 }) (va_Pc [.ref q, .int x] (hp_B D cy base f)) (va_Qq (fun (r : Option Nat) (u : AH) => LRp N t x r ∧ u = f) (hp_B D cy base) (hp_A base)) 0 0 (hp_A base) := by
  refine Met.ofW (cc := cX1_longestRoute) (maxL := 4) (ret := (some (.object "RouteTrie$Node"))) (by decide) rfl ?_
  intro p e s m args below meth c s₁ B hml hv
  obtain ⟨rfl, hf, C0⟩ := hv
  have hx := B.exec
  have hb := B.bytes
  have hr := B.returns
  have hts := atoms_spec (ws := wsX1_longestRoute) B.pre
  have hown : s.vm.findClass RX1 = some m.cls := findClass_of_methodNamed B.named
  have hlocks := B.notSynchronized
  have hin0 : ∀ w ∈ wsX00, w ∈ wsX1_longestRoute := by decide +kernel
  have hin1 : ∀ w ∈ wsX10, w ∈ wsX1_longestRoute := by decide +kernel
  have hS : va_S (hp_A base) s.heap s.heap [] := va_S.rf
  have hl := lv_entry ([.ref q, .int x]) (n := 4) (Nat.le_of_ble_eq_true rfl)
  rw [lg_entry_eq]
  generalize (lg_sl ([.ref q, .int x]) ++ List.replicate (4 - (lg_sl ([.ref q, .int x])).length) Slot.unset).toArray = ls at hl ⊢
  have hl : lv_has ls 4 [(0, .ref q), (1, .int x)] := hl
  have loop : ∀ (n : Nat) (bs at_ : Option Nat) (ls : Array Slot) (H : Heap) (locs : List Loc), 0 < n → (∀ a, at_ = some a → a ∈ N ∧ 34 ≤ tL t a + n) → (∀ b, bs = some b → b ∈ N ∧ ag (tB t b) x (tL t b) ∧ (¬ tH t b = -1) ∧ ∀ a, at_ = some a → tL t b < tL t a) → (∀ y ∈ N, ag (tB t y) x (tL t y) → (∃ a, at_ = some a ∧ tL t a ≤ tL t y ∧ ag (tB t a) x (tL t a)) ∨ tH t y = -1 ∨ ∃ b, bs = some b ∧ tL t y ≤ tL t b) → hp_ok D base f H → va_S (hp_A base) s.heap H locs → lv_has ls 4 [(0, .ref q), (1, .int x), (2, va_rf bs), (3, va_rf at_)] → W p l e (headSpec wsX1_longestRoute ({ frames := 2, cells := 0, slots := 0, locals := 42 } : Room)).room s m #[Value.ref q, Value.int x] below meth c H locs 0 0 (MQ below (va_Qq (fun (r : Option Nat) (u : AH) => LRp N t x r ∧ u = f) (hp_B D cy base) (hp_A base)) #[Value.ref q, Value.int x] s 0 0 (hp_A base)) (F0 m 7 ls []) := by
    intro n
    induction n with
    | zero => intro _ _ _ _ _ h; exact absurd h (Nat.lt_irrefl 0)
    | succ n ih =>
      intro bs at_ ls H locs _ hA hB hI hf hS hl
      refine hp_aload_nq (r := at_) hx hb dX1_longestRoute_7 rfl (lv_at hl 3 rfl) ?_
      refine hp_ifnullq (tgt := 37) (r := at_) hx hb dX1_longestRoute_8 (by decide) (fun h8 => ?_) (fun x8 h8 => ?_)
      · rw [h8] at hl
        have hl : lv_has ls 4 [(0, .ref q), (1, .int x), (2, va_rf bs), (3, .null)] := hl
        refine hp_aload_nq (r := bs) hx hb dX1_longestRoute_37 rfl (lv_at hl 2 rfl) ?_
        exact hp_aret (r := bs) hx hb hr hlocks C0 hf hS (by first | exact Nat.le_refl _ | omega) (by first | exact Nat.le_refl _ | omega) dX1_longestRoute_38 (⟨⟨fun a e => ⟨(hB a e).1, (hB a e).2.1, (hB a e).2.2.1, fun y hy g1 g2 => by
            rcases hI y hy g1 with m | m | ⟨b, m1, m2⟩
            · obtain ⟨a', m1, m2, m3⟩ := m; rw [h8] at m1; cases m1
            · exact absurd m g2
            · rw [e] at m1; cases m1; exact m2⟩, fun e y hy g1 => by
            rcases hI y hy g1 with m | m | ⟨b, m1, m2⟩
            · obtain ⟨a', m1, m2, m3⟩ := m; rw [h8] at m1; cases m1
            · exact m
            · rw [e] at m1; cases m1⟩, rfl⟩)
      · rw [h8] at hl
        have hl : lv_has ls 4 [(0, .ref q), (1, .int x), (2, va_rf bs), (3, .ref x8)] := hl
        obtain ⟨hx8, hm8⟩ := hA x8 h8
        refine lv_aload_n hx hb dX1_longestRoute_11 rfl (lv_at hl 3 rfl) ?_
        refine lv_iload_n hx hb dX1_longestRoute_12 rfl (lv_at hl 1 rfl) ?_
        refine hp_ki (hp_rVN (C := RX0) (As := [.int x]) (rest := []) ⟨hx, hb, hml, hown, hts⟩ C0 hf hS (c_X0_isBeginOf l D cy base f x8 (tB t x8) (nI (tL t x8)) (tH t x8) (nI (tR t x8)) (tZ t x8) (tO t x8) x (hT x8 hx8)) ⟨va_cnB (host := RX1) (index := 65) 1 hts gX1_longestRoute_X0_isBeginOf_n65 rfl rfl rfl (C0.2.2 _ (by decide +kernel)) (hts (.initialized RX0) (by decide +kernel)) (by decide +kernel) ⟨Nat.le_of_ble_eq_true rfl, Nat.le_of_ble_eq_true rfl⟩, hts (.instanceMethod yX0_isBeginOf) (by decide +kernel), hts (.selects RX0 yX0_isBeginOf yX0_isBeginOf) (by decide +kernel)⟩ (hT x8 hx8) rfl rfl hl.1 rfl (Nat.le_of_ble_eq_true rfl) dX1_longestRoute_13 ⟨Nat.le_of_ble_eq_true rfl, Nat.le_of_ble_eq_true rfl⟩) hS (fun r_1 u_1 H locs hq_1 hf hS => ?_)
        obtain ⟨hr_1, hu⟩ := hq_1
        rw [hu] at hf
        have hbg : ¬ r_1 = 0 ↔ ag (tB t x8) x (tL t x8) := by rw [← bg_iff (hst.2.2.1 x8 hx8)]; rw [hr_1]; split <;> simp_all
        refine lv_if_eq (tgt := 37) hx hb dX1_longestRoute_16 (by decide) (fun h16 => ?_) (fun h16 => ?_)
        · refine hp_aload_nq (r := bs) hx hb dX1_longestRoute_37 rfl (lv_at hl 2 rfl) ?_
          exact hp_aret (r := bs) hx hb hr hlocks C0 hf hS (by first | exact Nat.le_refl _ | omega) (by first | exact Nat.le_refl _ | omega) dX1_longestRoute_38 (⟨⟨fun a e => ⟨(hB a e).1, (hB a e).2.1, (hB a e).2.2.1, fun y hy g1 g2 => by
              rcases hI y hy g1 with m | m | ⟨b, m1, m2⟩
              · obtain ⟨a', m1, m2, m3⟩ := m; rw [h8] at m1; cases m1; exact absurd m3 ((not_congr hbg).mp (fun z => z h16))
              · exact absurd m g2
              · rw [e] at m1; cases m1; exact m2⟩, fun e y hy g1 => by
              rcases hI y hy g1 with m | m | ⟨b, m1, m2⟩
              · obtain ⟨a', m1, m2, m3⟩ := m; rw [h8] at m1; cases m1; exact absurd m3 ((not_congr hbg).mp (fun z => z h16))
              · exact m
              · rw [e] at m1; cases m1⟩, rfl⟩)
        · refine lv_aload_n hx hb dX1_longestRoute_19 rfl (lv_at hl 3 rfl) ?_
          refine hp_ki (hp_rVN (C := RX0) (As := []) (rest := []) ⟨hx, hb, hml, hown, hts⟩ C0 hf hS (c_X0_isRoute l D cy base f x8 (tB t x8) (nI (tL t x8)) (tH t x8) (nI (tR t x8)) (tZ t x8) (tO t x8) (hT x8 hx8)) ⟨va_cnB (host := RX1) (index := 87) 0 hts gX1_longestRoute_X0_isRoute_n87 rfl rfl rfl (C0.2.2 _ (by decide +kernel)) (hts (.initialized RX0) (by decide +kernel)) (by decide +kernel) ⟨Nat.le_of_ble_eq_true rfl, Nat.le_of_ble_eq_true rfl⟩, hts (.instanceMethod yX0_isRoute) (by decide +kernel), hts (.selects RX0 yX0_isRoute yX0_isRoute) (by decide +kernel)⟩ (hT x8 hx8) rfl rfl hl.1 rfl (Nat.le_of_ble_eq_true rfl) dX1_longestRoute_20 ⟨Nat.le_of_ble_eq_true rfl, Nat.le_of_ble_eq_true rfl⟩) hS (fun r_2 u_2 H locs hq_2 hf hS => ?_)
          obtain ⟨hr_2, hu⟩ := hq_2
          rw [hu] at hf
          have hir : r_2 = 0 ↔ tH t x8 = -1 := by rw [hr_2]; split <;> simp_all
          refine lv_if_eq (tgt := 28) hx hb dX1_longestRoute_23 (by decide) (fun h23 => ?_) (fun h23 => ?_)
          · refine lv_aload_n hx hb dX1_longestRoute_28 rfl (lv_at hl 3 rfl) ?_
            refine lv_iload_n hx hb dX1_longestRoute_29 rfl (lv_at hl 1 rfl) ?_
            refine hp_kq (hp_rVN (C := RX0) (As := [.int x]) (rest := []) ⟨hx, hb, hml, hown, hts⟩ C0 hf hS (c_X0_toward l D cy base f x8 (tB t x8) (nI (tL t x8)) (tH t x8) (nI (tR t x8)) (tZ t x8) (tO t x8) x (hT x8 hx8)) ⟨va_cnB (host := RX1) (index := 69) 1 hts gX1_longestRoute_X0_toward_n69 rfl rfl rfl (C0.2.2 _ (by decide +kernel)) (hts (.initialized RX0) (by decide +kernel)) (by decide +kernel) ⟨Nat.le_of_ble_eq_true rfl, Nat.le_of_ble_eq_true rfl⟩, hts (.instanceMethod yX0_toward) (by decide +kernel), hts (.selects RX0 yX0_toward yX0_toward) (by decide +kernel)⟩ (hT x8 hx8) rfl rfl hl.1 rfl (Nat.le_of_ble_eq_true rfl) dX1_longestRoute_30 ⟨Nat.le_of_ble_eq_true rfl, Nat.le_of_ble_eq_true rfl⟩) hS (fun r_3 u_3 H locs hq_3 hf hS => ?_)
            obtain ⟨hr_3, hu⟩ := hq_3
            rw [hu] at hf
            have er_3 := tw_ch (hst.2.2.1 x8 hx8).1 hr_3
            refine hp_astore_nq (i := 3) (lv' := [(3, va_rf r_3), (0, .ref q), (1, .int x), (2, va_rf bs)]) hx hb dX1_longestRoute_33 rfl hl (by decide) (by simp [List.filter, va_rf_cat]) (fun ls hl => ?_)
            refine lv_goto (tgt := 7) hx hb dX1_longestRoute_34 (by decide) ?_
            have h32 := (hst.2.2.1 x8 hx8).1
            have hag := hbg.mp h16
            have hsuc : ∀ a, r_3 = some a → a ∈ N ∧ tL t x8 < tL t a := fun a e => by
              rw [er_3] at e
              obtain ⟨m1, m2, -, -⟩ := hst.2.2.2.2.1 x8 hx8 _ a e
              exact ⟨m1, m2⟩
            have hcv : ∀ y ∈ N, ag (tB t y) x (tL t y) → tL t x8 < tL t y → ∃ a, r_3 = some a ∧ tL t a ≤ tL t y ∧ ag (tB t a) x (tL t a) := fun y hy g1 g2 => by
              rw [er_3]
              exact st_step hst hx8 hag hy g1 g2
            exact ih bs r_3 ls _ _ (by omega) (fun a e => ⟨(hsuc a e).1, by have := (hsuc a e).2; omega⟩) (fun b e => ⟨(hB b e).1, (hB b e).2.1, (hB b e).2.2.1, fun a e2 => by have := (hsuc a e2).2; have := (hB b e).2.2.2 x8 h8; omega⟩) (fun y hy g1 => by
              rcases hI y hy g1 with ⟨a, m1, m2, m3⟩ | m | m
              · rw [h8] at m1; cases m1
                rcases Nat.lt_or_ge (tL t x8) (tL t y) with k | k
                · exact Or.inl (hcv y hy g1 k)
                · have e := hst.2.2.2.1 x8 hx8 y hy (by omega) (ag_tr hag (ag_sy (by rw [show tL t x8 = tL t y by omega]; exact g1)))
                  exact Or.inr (Or.inl (by rw [← e]; exact hir.mp h23))
              · exact Or.inr (Or.inl m)
              · exact Or.inr (Or.inr m)) hf hS (lv_sub hl [1, 2, 3, 0] rfl)
          · refine lv_aload_n hx hb dX1_longestRoute_26 rfl (lv_at hl 3 rfl) ?_
            refine lv_astore_n (lv' := [(2, .ref x8), (0, .ref q), (1, .int x), (3, .ref x8)]) hx hb dX1_longestRoute_27 rfl hl (by decide) rfl (fun ls hl => ?_)
            refine lv_aload_n hx hb dX1_longestRoute_28 rfl (lv_at hl 3 rfl) ?_
            refine lv_iload_n hx hb dX1_longestRoute_29 rfl (lv_at hl 2 rfl) ?_
            refine hp_kq (hp_rVN (C := RX0) (As := [.int x]) (rest := []) ⟨hx, hb, hml, hown, hts⟩ C0 hf hS (c_X0_toward l D cy base f x8 (tB t x8) (nI (tL t x8)) (tH t x8) (nI (tR t x8)) (tZ t x8) (tO t x8) x (hT x8 hx8)) ⟨va_cnB (host := RX1) (index := 69) 1 hts gX1_longestRoute_X0_toward_n69 rfl rfl rfl (C0.2.2 _ (by decide +kernel)) (hts (.initialized RX0) (by decide +kernel)) (by decide +kernel) ⟨Nat.le_of_ble_eq_true rfl, Nat.le_of_ble_eq_true rfl⟩, hts (.instanceMethod yX0_toward) (by decide +kernel), hts (.selects RX0 yX0_toward yX0_toward) (by decide +kernel)⟩ (hT x8 hx8) rfl rfl hl.1 rfl (Nat.le_of_ble_eq_true rfl) dX1_longestRoute_30 ⟨Nat.le_of_ble_eq_true rfl, Nat.le_of_ble_eq_true rfl⟩) hS (fun r_4 u_4 H locs hq_4 hf hS => ?_)
            obtain ⟨hr_4, hu⟩ := hq_4
            rw [hu] at hf
            have er_4 := tw_ch (hst.2.2.1 x8 hx8).1 hr_4
            refine hp_astore_nq (lv' := [(3, va_rf r_4), (2, .ref x8), (0, .ref q), (1, .int x)]) hx hb dX1_longestRoute_33 rfl hl (by decide) rfl (fun ls hl => ?_)
            refine lv_goto (tgt := 7) hx hb dX1_longestRoute_34 (by decide) ?_
            have h32 := (hst.2.2.1 x8 hx8).1
            have hag := hbg.mp h16
            have hsuc : ∀ a, r_4 = some a → a ∈ N ∧ tL t x8 < tL t a := fun a e => by
              rw [er_4] at e
              obtain ⟨m1, m2, -, -⟩ := hst.2.2.2.2.1 x8 hx8 _ a e
              exact ⟨m1, m2⟩
            have hcv : ∀ y ∈ N, ag (tB t y) x (tL t y) → tL t x8 < tL t y → ∃ a, r_4 = some a ∧ tL t a ≤ tL t y ∧ ag (tB t a) x (tL t a) := fun y hy g1 g2 => by
              rw [er_4]
              exact st_step hst hx8 hag hy g1 g2
            exact ih (some x8) r_4 ls _ _ (by omega) (fun a e => ⟨(hsuc a e).1, by have := (hsuc a e).2; omega⟩) (fun b e => by cases e; exact ⟨hx8, hag, (not_congr hir).mp h23, fun a e2 => (hsuc a e2).2⟩) (fun y hy g1 => by
              rcases Nat.lt_or_ge (tL t x8) (tL t y) with k | k
              · exact Or.inl (hcv y hy g1 k)
              · exact Or.inr (Or.inr ⟨x8, rfl, k⟩)) hf hS (lv_sub hl [2, 3, 1, 0] rfl)
  refine lv_null hx hb dX1_longestRoute_0 ?_
  refine lv_astore_nN (lv' := [(2, .null), (0, .ref q), (1, .int x)]) hx hb dX1_longestRoute_1 rfl hl (by decide) rfl (fun ls hl => ?_)
  refine lv_aload_n hx hb dX1_longestRoute_2 rfl (lv_at hl 1 rfl) ?_
  refine hp_get (ci := 1) (v := .ref root) (C := RX1) (T := TX1) (N := 2) hx hb hts hin1 hown C0 hf hq rfl 0 (by decide) (hts (.fieldLink RX1 14 "RouteTrie" "root" "LRouteTrie$Node;") (by decide +kernel)) (fun _ h9 => h9) rfl dX1_longestRoute_3 ?_
  refine lv_astore_n (lv' := [(3, .ref root), (2, .null), (0, .ref q), (1, .int x)]) hx hb dX1_longestRoute_6 rfl hl (by decide) rfl (fun ls hl => ?_)
  exact loop 34 none (some root) ls _ _ (by omega) (fun a e => by cases e; exact ⟨hst.1.1, by omega⟩) (fun b e => (by cases e)) (fun y hy _ => Or.inl ⟨root, rfl, by rw [hst.1.2]; omega, by rw [hst.1.2]; exact ag_0⟩) hf hS (lv_sub hl [2, 3, 1, 0] rfl)
end
section
/-! order and counts -/
def key (x : Int32) (n : Nat) : Nat := x.toBitVec.toNat * 64 + n
theorem nat_eq {x y : Int32} (h : x.toBitVec.toNat = y.toBitVec.toNat) : x = y := Int32.toBitVec_inj.mp (BitVec.eq_of_toNat_eq h)
theorem key_pre {x y : Int32} {n m : Nat} (hx : px x n) (hm : m ≤ 32) (h : n < m) (ha : ag x y n) : key x n < key y m := by
  unfold key
  by_cases e : x = y
  · subst e; omega
  · have h1 : ul x y := by
      obtain ⟨k, k1, k2, k3⟩ := first_dif e
      have hk : n ≤ k := Nat.not_lt.mp (fun q => k3 (ha k q))
      have h0 := px_bi hx hk
      exact ⟨k, k1, k2, h0, by cases hy : bi y k <;> simp_all⟩
    have h2 := ul_nat h1
    have := hx.1
    omega
theorem dif_lt {a y z : Int32} {n : Nat} (h1 : ag a z n) (h2 : ¬ ag a y n) : (¬ y = z ∧ ¬ y = a) ∧ (y.toBitVec.toNat < z.toBitVec.toNat ↔ y.toBitVec.toNat < a.toBitVec.toNat) := by
  have n1 : ¬ y = z := fun e => h2 (by rw [e]; exact h1)
  have n2 : ¬ y = a := fun e => h2 (by rw [e]; exact ag_rf)
  refine ⟨⟨n1, n2⟩, ?_⟩
  rw [← ul_iff, ← ul_iff]
  obtain ⟨k, k1, k2, k3⟩ := first_dif n2
  have hk : k < n := Nat.not_le.mp (fun q => h2 (ag_sy (ag_mono k2 q)))
  have a1 : ag y z k := ag_tr k2 (ag_mono h1 (by omega))
  have e1 := h1 k hk
  -- the first difference decides
  have dec : ∀ w : Int32, ag y w k → (¬ bi y k = bi w k) → (ul y w ↔ bi w k = true) := by
    intro w g1 g2
    constructor
    · intro ⟨j, j1, j2, j3, j4⟩
      rcases Nat.lt_trichotomy j k with q | q | q
      · have := g1 j q; rw [j3, j4] at this; cases this
      · subst q; exact j4
      · exact absurd (j2 k q) g2
    · intro g3
      exact ⟨k, k1, g1, by cases hy : bi y k <;> simp_all, g3⟩
  rw [dec z a1 (by rw [← e1]; exact k3), dec a k2 k3, e1]
theorem key_lt {x y : Int32} {n m : Nat} (hn : n ≤ 32) (hm : m ≤ 32) (h : ¬ x = y) : key x n < key y m ↔ x.toBitVec.toNat < y.toBitVec.toNat := by
  unfold key
  have : x.toBitVec.toNat ≠ y.toBitVec.toNat := fun e => h (nat_eq e)
  omega
/-- y among a and what lies below a: where it stands against z, a node below a -/
theorem lo_key {N : List Nat} {t : NT} {root a z y : Nat} {d : Bool} (h : ST N t root) (ha : a ∈ N) (hz : ch t a d = some z) (hy : y ∈ N) :
    key (tB t y) (tL t y) < key (tB t z) (tL t z) ↔ (key (tB t y) (tL t y) < key (tB t a) (tL t a) ∨ y = a ∨ (d = true ∧ tL t a < tL t y ∧ ag (tB t a) (tB t y) (tL t a) ∧ bi (tB t y) (tL t a) = false)) := by
  obtain ⟨⟨h1, h1'⟩, h2, h3, h4, h5, h6⟩ := h
  obtain ⟨z1, z2, z3, z4⟩ := h5 a ha d z hz
  have pa := h3 a ha
  have pz := h3 z z1
  have py := h3 y hy
  have haz := key_pre pa pz.1 z2 z3
  by_cases hag : ag (tB t a) (tB t y) (tL t a)
  · rcases Nat.lt_trichotomy (tL t y) (tL t a) with q | q | q
    · have e : tB t y = tB t a := by
        refine bi_ext fun i _ => ?_
        by_cases hi : i < tL t a
        · exact (hag i hi).symm
        · rw [px_bi pa (by omega), px_bi py (by omega)]
      have h7 : key (tB t y) (tL t y) < key (tB t a) (tL t a) := by unfold key; rw [e]; omega
      exact ⟨fun _ => Or.inl h7, fun _ => by omega⟩
    · have e : y = a := (h4 a ha y hy q.symm hag).symm
      subst e
      exact ⟨fun _ => Or.inr (Or.inl rfl), fun _ => haz⟩
    · have hnl : ¬ key (tB t y) (tL t y) < key (tB t a) (tL t a) := by have := key_pre pa py.1 q hag; omega
      have hne : ¬ y = a := fun e => by subst e; omega
      obtain ⟨c, k1, k2, k3⟩ := h6 a ha y hy q hag
      by_cases hb : bi (tB t y) (tL t a) = d
      · rw [hb, hz] at k1
        have ec := Option.some.inj k1
        rw [← ec] at k2 k3
        have hge : key (tB t z) (tL t z) ≤ key (tB t y) (tL t y) := by
          rcases Nat.lt_or_ge (tL t z) (tL t y) with r | r
          · exact Nat.le_of_lt (key_pre pz py.1 r k3)
          · have : z = y := h4 z z1 y hy (by omega) k3
            rw [this]; exact Nat.le_refl _
        refine ⟨fun g => by omega, fun g => ?_⟩
        rcases g with g | g | ⟨g1, -, -, g4⟩
        · exact absurd g hnl
        · exact absurd g hne
        · rw [hb, g1] at g4; cases g4
      · have hzy : ¬ tB t y = tB t z := fun e => hb (by rw [e]; exact z4)
        rw [key_lt py.1 pz.1 hzy, ← ul_iff]
        have ay : ag (tB t y) (tB t z) (tL t a) := ag_tr (ag_sy hag) z3
        have la : tL t a < 32 := by have := py.1; omega
        cases d with
        | true =>
          have hb' : bi (tB t y) (tL t a) = false := by cases hh : bi (tB t y) (tL t a) <;> simp_all
          exact ⟨fun _ => Or.inr (Or.inr ⟨rfl, q, hag, hb'⟩), fun _ => ⟨tL t a, la, ay, hb', z4⟩⟩
        | false =>
          have hb' : bi (tB t y) (tL t a) = true := by cases hh : bi (tB t y) (tL t a) <;> simp_all
          have hzl : ul (tB t z) (tB t y) := ⟨tL t a, la, ag_sy ay, z4, hb'⟩
          refine ⟨fun g => ?_, fun g => ?_⟩
          · have := ul_nat g; have := ul_nat hzl; omega
          · rcases g with g | g | ⟨g1, -⟩
            · exact absurd g hnl
            · exact absurd g hne
            · cases g1
  · obtain ⟨⟨n1, n2⟩, n3⟩ := dif_lt z3 hag
    rw [key_lt py.1 pz.1 n1, key_lt py.1 pa.1 n2, n3]
    refine ⟨Or.inl, fun g => ?_⟩
    rcases g with g | g | ⟨-, -, g3, -⟩
    · exact g
    · subst g; exact absurd ag_rf hag
    · exact absurd g3 hag
def isR (t : NT) (a : Nat) : Bool := !(tH t a == -1)
theorem isR_iff {t : NT} {a : Nat} : isR t a = true ↔ ¬ tH t a = -1 := by simp [isR]
/-- y is a or lies below a -/
def pb (t : NT) (a y : Nat) : Bool := decide (tL t a ≤ tL t y) && (fb (tB t y) (tL t a) == tB t a)
theorem pb_iff {t : NT} {a y : Nat} (h : px (tB t a) (tL t a)) : pb t a y = true ↔ (tL t a ≤ tL t y ∧ ag (tB t a) (tB t y) (tL t a)) := by
  simp only [pb, Bool.and_eq_true, decide_eq_true_eq, beq_iff_eq, px_fb h]
def eb (t : NT) (a : Nat) (d : Bool) (y : Nat) : Bool := decide (tL t a < tL t y) && (fb (tB t y) (tL t a) == tB t a) && (bi (tB t y) (tL t a) == d)
theorem eb_iff {t : NT} {a y : Nat} {d : Bool} (h : px (tB t a) (tL t a)) : eb t a d y = true ↔ (tL t a < tL t y ∧ ag (tB t a) (tB t y) (tL t a) ∧ bi (tB t y) (tL t a) = d) := by
  simp only [eb, Bool.and_eq_true, decide_eq_true_eq, beq_iff_eq, px_fb h, and_assoc]
def RC (N : List Nat) (t : NT) : Prop := ∀ a ∈ N, tR t a = N.countP (fun y => isR t y && pb t a y)
theorem cnt_congr {α : Type} {l : List α} {p q : α → Bool} (h : ∀ y ∈ l, p y = q y) : l.countP p = l.countP q := by
  induction l with
  | nil => rfl
  | cons a l ih => rw [List.countP_cons, List.countP_cons, ih (fun y hy => h y (List.mem_cons_of_mem _ hy)), h a List.mem_cons_self]
theorem cnt_le {α : Type} {l : List α} {p : α → Bool} : l.countP p ≤ l.length := List.countP_le_length
theorem bool_eq {a b : Bool} (h : a = true ↔ b = true) : a = b := by cases a <;> cases b <;> simp_all
theorem io_child {N : List Nat} {t : NT} {root a c y : Nat} {d : Bool} (h : ST N t root) (ha : a ∈ N) (hc : ch t a d = some c) (hy : y ∈ N) : eb t a d y = pb t c y := by
  obtain ⟨-, -, h3, -, h5, h6⟩ := h
  obtain ⟨c1, c2, c3, c4⟩ := h5 a ha d c hc
  refine bool_eq ?_
  rw [eb_iff (h3 a ha), pb_iff (h3 c c1)]
  constructor
  · intro ⟨g1, g2, g3⟩
    obtain ⟨c', k1, k2, k3⟩ := h6 a ha y hy g1 g2
    rw [g3, hc] at k1
    have e := Option.some.inj k1
    rw [← e] at k2 k3
    exact ⟨k2, k3⟩
  · intro ⟨g1, g2⟩
    exact ⟨by omega, ag_tr c3 (ag_mono g2 (by omega)), by rw [← g2 _ c2]; exact c4⟩
theorem io_none {N : List Nat} {t : NT} {root a y : Nat} {d : Bool} (h : ST N t root) (ha : a ∈ N) (hc : ch t a d = none) (hy : y ∈ N) : eb t a d y = false := by
  obtain ⟨-, -, h3, -, h5, h6⟩ := h
  cases he : eb t a d y with
  | false => rfl
  | true =>
    obtain ⟨g1, g2, g3⟩ := (eb_iff (h3 a ha)).mp he
    obtain ⟨c', k1, k2, k3⟩ := h6 a ha y hy g1 g2
    rw [g3, hc] at k1
    cases k1
/-- what lies on a side of a -/
def sd (N : List Nat) (t : NT) (a : Nat) (d : Bool) : Nat := N.countP (fun y => isR t y && eb t a d y)
def slf (t : NT) (a : Nat) : Nat := if isR t a = true then 1 else 0
theorem cnt_slf {N : List Nat} {t : NT} {a : Nat} (hn : N.Nodup) (ha : a ∈ N) : N.countP (fun y => isR t y && (y == a)) = slf t a := by
  unfold slf
  split
  · next h =>
    rw [← cnt_one hn ha]
    refine cnt_congr fun y _ => bool_eq ?_
    simp only [Bool.and_eq_true, beq_iff_eq]
    exact ⟨fun g => g.2, fun g => ⟨by rw [g]; exact h, g⟩⟩
  · next h =>
    refine List.countP_eq_zero.mpr fun y _ => ?_
    simp only [Bool.and_eq_true, beq_iff_eq]
    exact fun g => h (by rw [← g.2]; exact g.1)
theorem sd_child {N : List Nat} {t : NT} {root a c : Nat} {d : Bool} (h : ST N t root) (hr : RC N t) (ha : a ∈ N) (hc : ch t a d = some c) : sd N t a d = tR t c := by
  rw [hr c (h.2.2.2.2.1 a ha d c hc).1]
  exact cnt_congr fun y hy => by rw [io_child h ha hc hy]
theorem sd_none {N : List Nat} {t : NT} {root a : Nat} {d : Bool} (h : ST N t root) (ha : a ∈ N) (hc : ch t a d = none) : sd N t a d = 0 :=
  List.countP_eq_zero.mpr fun y hy => by rw [io_none h ha hc hy]; simp
theorem io_split {N : List Nat} {t : NT} {root a : Nat} (h : ST N t root) (hr : RC N t) (ha : a ∈ N) : tR t a = slf t a + sd N t a false + sd N t a true := by
  have pa := h.2.2.1 a ha
  rw [hr a ha, ← cnt_slf h.2.1 ha, sd, sd]
  rw [cnt_split (p := fun y => isR t y && pb t a y) (q := fun y => (isR t y && (y == a)) || (isR t y && eb t a false y)) (r := fun y => isR t y && eb t a true y),
    cnt_split (p := fun y => (isR t y && (y == a)) || (isR t y && eb t a false y)) (q := fun y => isR t y && (y == a)) (r := fun y => isR t y && eb t a false y)]
  · intro y hy
    simp only [Bool.or_eq_true, Bool.and_eq_true, beq_iff_eq, eb_iff pa]
    refine ⟨trivial, fun g => ?_⟩
    have e := g.1.2
    have := g.2.2.1
    rw [e] at this
    omega
  · intro y hy
    simp only [Bool.or_eq_true, Bool.and_eq_true, beq_iff_eq, eb_iff pa, pb_iff pa]
    constructor
    · constructor
      · intro ⟨g1, g2, g3⟩
        by_cases e : y = a
        · exact Or.inl (Or.inl ⟨g1, e⟩)
        · have hlt : tL t a < tL t y := by
            rcases Nat.lt_or_ge (tL t a) (tL t y) with q | q
            · exact q
            · exact absurd (h.2.2.2.1 a ha y hy (by omega) g3).symm e
          cases hb : bi (tB t y) (tL t a) with
          | false => exact Or.inl (Or.inr ⟨g1, hlt, g3, rfl⟩)
          | true => exact Or.inr ⟨g1, hlt, g3, rfl⟩
      · intro g
        rcases g with (⟨g1, g2⟩ | ⟨g1, g2, g3, g4⟩) | ⟨g1, g2, g3, g4⟩
        · rw [g2]; exact ⟨by rw [← g2]; exact g1, Nat.le_refl _, ag_rf⟩
        · exact ⟨g1, by omega, g3⟩
        · exact ⟨g1, by omega, g3⟩
    · intro ⟨g1, g2⟩
      rcases g1 with ⟨-, g⟩ | ⟨-, g⟩
      · have := g2.2.1; rw [g] at this; omega
      · rw [g.2.2] at g2; exact absurd g2.2.2.2 (by decide)
/-- how many routes stand before a -/
def lo (N : List Nat) (t : NT) (a : Nat) : Nat := N.countP (fun y => isR t y && decide (key (tB t y) (tL t y) < key (tB t a) (tL t a)))
theorem lo_zero {N : List Nat} {t : NT} {root a z : Nat} (h : ST N t root) (ha : a ∈ N) (hz : ch t a false = some z) : lo N t z = lo N t a + slf t a := by
  rw [← cnt_slf h.2.1 ha, lo, lo]
  refine cnt_split fun y hy => ?_
  simp only [Bool.and_eq_true, decide_eq_true_eq, beq_iff_eq, lo_key h ha hz hy]
  refine ⟨⟨fun ⟨g1, g2⟩ => ?_, fun g => ?_⟩, fun ⟨g1, g2⟩ => ?_⟩
  · rcases g2 with g2 | g2 | ⟨g2, -⟩
    · exact Or.inl ⟨g1, g2⟩
    · exact Or.inr ⟨g1, g2⟩
    · cases g2
  · rcases g with ⟨g1, g2⟩ | ⟨g1, g2⟩
    · exact ⟨g1, Or.inl g2⟩
    · exact ⟨g1, Or.inr (Or.inl g2)⟩
  · rw [g2.2] at g1; omega
theorem lo_one {N : List Nat} {t : NT} {root a z : Nat} (h : ST N t root) (ha : a ∈ N) (hz : ch t a true = some z) : lo N t z = lo N t a + slf t a + sd N t a false := by
  have pa := h.2.2.1 a ha
  rw [← cnt_slf h.2.1 ha, lo, lo, sd]
  rw [cnt_split (p := fun y => isR t y && decide (key (tB t y) (tL t y) < key (tB t z) (tL t z))) (q := fun y => (isR t y && decide (key (tB t y) (tL t y) < key (tB t a) (tL t a))) || (isR t y && (y == a))) (r := fun y => isR t y && eb t a false y),
    cnt_split (p := fun y => (isR t y && decide (key (tB t y) (tL t y) < key (tB t a) (tL t a))) || (isR t y && (y == a))) (q := fun y => isR t y && decide (key (tB t y) (tL t y) < key (tB t a) (tL t a))) (r := fun y => isR t y && (y == a))]
  · intro y hy
    simp only [Bool.or_eq_true, Bool.and_eq_true, beq_iff_eq, decide_eq_true_eq]
    refine ⟨trivial, fun ⟨g1, g2⟩ => ?_⟩
    rw [g2.2] at g1; omega
  · intro y hy
    simp only [Bool.or_eq_true, Bool.and_eq_true, beq_iff_eq, decide_eq_true_eq, lo_key h ha hz hy, eb_iff pa]
    refine ⟨⟨fun ⟨g1, g2⟩ => ?_, fun g => ?_⟩, fun ⟨g1, g2⟩ => ?_⟩
    · rcases g2 with g2 | g2 | ⟨-, g2⟩
      · exact Or.inl (Or.inl ⟨g1, g2⟩)
      · exact Or.inl (Or.inr ⟨g1, g2⟩)
      · exact Or.inr ⟨g1, g2⟩
    · rcases g with (⟨g1, g2⟩ | ⟨g1, g2⟩) | ⟨g1, g2⟩
      · exact ⟨g1, Or.inl g2⟩
      · exact ⟨g1, Or.inr (Or.inl g2)⟩
      · exact ⟨g1, Or.inr (Or.inr ⟨trivial, g2⟩)⟩
    · rcases g1 with ⟨-, g⟩ | ⟨-, g⟩
      · have := key_pre pa (h.2.2.1 y hy).1 g2.2.1 g2.2.2.1
        omega
      · have := g2.2.1; rw [g] at this; omega
theorem lo_root {N : List Nat} {t : NT} {root : Nat} (h : ST N t root) : lo N t root = 0 := by
  refine List.countP_eq_zero.mpr fun y hy => ?_
  have hb : tB t root = 0 := by have := h.2.2.1 root h.1.1; rw [h.1.2] at this; exact px_inj this px_0 ag_0
  simp only [Bool.and_eq_true, decide_eq_true_eq, hb, h.1.2]
  intro g
  have := g.2
  simp [key] at this
/-! depth -/
def dpq (t : NT) (x : Int32) (o : Option Nat) (y : Nat) : Bool := match o with
  | some a => (fb x (tL t a) == tB t a) && decide (tL t a ≤ tL t y)
  | none => false
def dpc (N : List Nat) (t : NT) (x : Int32) (o : Option Nat) : Nat := N.countP (fun y => (fb x (tL t y) == tB t y) && dpq t x o y)
theorem dp_step {N : List Nat} {t : NT} {root a : Nat} {x : Int32} (h : ST N t root) (ha : a ∈ N) (hax : ag (tB t a) x (tL t a)) : dpc N t x (some a) = 1 + dpc N t x (ch t a (bi x (tL t a))) := by
  have b1 : ∀ y ∈ N, (fb x (tL t y) = tB t y ↔ ag (tB t y) x (tL t y)) := fun y hy => px_fb (h.2.2.1 y hy)
  rw [← cnt_one h.2.1 ha, dpc, dpc]
  refine cnt_split fun y hy => ?_
  cases hc : ch t a (bi x (tL t a)) with
  | none =>
    simp only [dpq, Bool.and_eq_true, beq_iff_eq, decide_eq_true_eq, b1 y hy, b1 a ha]
    refine ⟨⟨fun ⟨g1, g2, g3⟩ => ?_, fun g => ?_⟩, fun g => by simp at g⟩
    · rcases Nat.lt_or_ge (tL t a) (tL t y) with q | q
      · obtain ⟨c, k1, -⟩ := st_step h ha hax hy g1 q
        rw [hc] at k1; cases k1
      · exact Or.inl (h.2.2.2.1 a ha y hy (by omega) (ag_tr hax (ag_sy (by rw [show tL t a = tL t y by omega]; exact g1)))).symm
    · rcases g with g | g
      · subst g; exact ⟨hax, hax, Nat.le_refl _⟩
      · simp at g
  | some c =>
    obtain ⟨c1, c2, c3, c4⟩ := h.2.2.2.2.1 a ha _ c hc
    simp only [dpq, Bool.and_eq_true, beq_iff_eq, decide_eq_true_eq, b1 y hy, b1 a ha, b1 c c1]
    refine ⟨⟨fun ⟨g1, g2, g3⟩ => ?_, fun g => ?_⟩, fun ⟨g, g1, g2, g3⟩ => ?_⟩
    · rcases Nat.lt_or_ge (tL t a) (tL t y) with q | q
      · obtain ⟨c', k1, k2, k3⟩ := st_step h ha hax hy g1 q
        rw [hc] at k1
        have e := Option.some.inj k1
        rw [← e] at k2 k3
        exact Or.inr ⟨g1, k3, k2⟩
      · exact Or.inl (h.2.2.2.1 a ha y hy (by omega) (ag_tr hax (ag_sy (by rw [show tL t a = tL t y by omega]; exact g1)))).symm
    · rcases g with g | ⟨g1, g2, g3⟩
      · subst g; exact ⟨hax, hax, Nat.le_refl _⟩
      · exact ⟨g1, hax, by omega⟩
    · rw [g] at g3; omega
theorem dp_root {N : List Nat} {t : NT} {root : Nat} {x : Int32} (h : ST N t root) : dpc N t x (some root) = N.countP (fun y => fb x (tL t y) == tB t y) := by
  refine cnt_congr fun y _ => bool_eq ?_
  simp only [dpq, Bool.and_eq_true, beq_iff_eq, decide_eq_true_eq]
  refine ⟨fun g => g.1, fun g => ⟨g, ?_, by rw [h.1.2]; omega⟩⟩
  exact (px_fb (h.2.2.1 root h.1.1)).mpr (by rw [h.1.2]; exact ag_0)
theorem dp_no {N : List Nat} {t : NT} {root a : Nat} {x : Int32} (h : ST N t root) (ha : a ∈ N) (hax : ¬ ag (tB t a) x (tL t a)) : dpc N t x (some a) = 0 := by
  refine List.countP_eq_zero.mpr fun y _ => ?_
  simp only [dpq, Bool.and_eq_true, beq_iff_eq]
  exact fun g => hax ((px_fb (h.2.2.1 a ha)).mp g.2.1)
theorem dp_none {N : List Nat} {t : NT} {x : Int32} : dpc N t x none = 0 := List.countP_eq_zero.mpr fun y _ => by simp [dpq]
end
section
/-! the answers of RouteTrie -/
def IOp (N : List Nat) (t : NT) (root : Nat) (k : Int32) (r : Option Nat) : Prop := (∀ a, r = some a → a ∈ N ∧ isR t a = true ∧ k = nI (lo N t a) ∧ lo N t a < tR t root) ∧ (r = none → k < 0 ∨ nI (tR t root) ≤ k)
def rtA (t : NT) (w : Int32) (a : Nat) : Int32 := if w = 0 then tB t a else if w = 1 then nI (tL t a) else if w = 2 then tH t a else 0
set_option maxHeartbeats 4000000 in
set_option maxRecDepth 100000 in
theorem c_X1_depth (l : Launch) (D : va_G) (cy : ClassId) (base : Nat) (f : AH) (q : Nat) (N : List Nat) (t : NT) (root : Nat) (cnt : Int32) (x : Int32) (hq : f q = some (trO root cnt)) (hT : TN f N t) (hst : ST N t root) : Met l yX1_depth wsX1_depth ({ frames := 2, cells := 0, slots := 0, locals := 42 }) (va_Pc [.ref q, .int x] (hp_B D cy base f)) (va_Qi (fun (r : Int32) (u : AH) => r = nI (N.countP (fun y => fb x (tL t y) == tB t y)) ∧ u = f) (hp_B D cy base) (hp_A base)) 0 0 (hp_A base) := by
  refine Met.ofW (cc := cX1_depth) (maxL := 4) (ret := (some .int)) (by decide) rfl ?_
  intro p e s m args below meth c s₁ B hml hv
  obtain ⟨rfl, hf, C0⟩ := hv
  have hx := B.exec
  have hb := B.bytes
  have hr := B.returns
  have hts := atoms_spec (ws := wsX1_depth) B.pre
  have hown : s.vm.findClass RX1 = some m.cls := findClass_of_methodNamed B.named
  have hlocks := B.notSynchronized
  have hin0 : ∀ w ∈ wsX00, w ∈ wsX1_depth := by decide +kernel
  have hin1 : ∀ w ∈ wsX10, w ∈ wsX1_depth := by decide +kernel
  have hS : va_S (hp_A base) s.heap s.heap [] := va_S.rf
  have hl := lv_entry ([.ref q, .int x]) (n := 4) (Nat.le_of_ble_eq_true rfl)
  rw [lg_entry_eq]
  generalize (lg_sl ([.ref q, .int x]) ++ List.replicate (4 - (lg_sl ([.ref q, .int x])).length) Slot.unset).toArray = ls at hl ⊢
  have hl : lv_has ls 4 [(0, .ref q), (1, .int x)] := hl
  have loop : ∀ (n ps : Nat) (at_ : Option Nat) (ls : Array Slot) (H : Heap) (locs : List Loc), 0 < n → (∀ a, at_ = some a → a ∈ N ∧ 34 ≤ tL t a + n) → ps + dpc N t x at_ = N.countP (fun y => fb x (tL t y) == tB t y) → hp_ok D base f H → va_S (hp_A base) s.heap H locs → lv_has ls 4 [(0, .ref q), (1, .int x), (2, .int (nI ps)), (3, va_rf at_)] → W p l e (headSpec wsX1_depth ({ frames := 2, cells := 0, slots := 0, locals := 42 } : Room)).room s m #[Value.ref q, Value.int x] below meth c H locs 0 0 (MQ below (va_Qi (fun (r : Int32) (u : AH) => r = nI (N.countP (fun y => fb x (tL t y) == tB t y)) ∧ u = f) (hp_B D cy base) (hp_A base)) #[Value.ref q, Value.int x] s 0 0 (hp_A base)) (F0 m 7 ls []) := by
    intro n
    induction n with
    | zero => intro _ _ _ _ _ h; exact absurd h (Nat.lt_irrefl 0)
    | succ n ih =>
      intro ps at_ ls H locs _ hA hI hf hS hl
      refine hp_aload_nq (r := at_) hx hb dX1_depth_7 rfl (lv_at hl 3 rfl) ?_
      refine hp_ifnullq (tgt := 31) (r := at_) hx hb dX1_depth_8 (by decide) (fun h8 => ?_) (fun x8 h8 => ?_)
      · rw [h8] at hl
        have hl : lv_has ls 4 [(0, .ref q), (1, .int x), (2, .int (nI ps)), (3, .null)] := hl
        refine lv_iload_n hx hb dX1_depth_31 rfl (lv_at hl 2 rfl) ?_
        exact hp_iret (v := nI ps) hx hb hr hlocks C0 hf hS (by first | exact Nat.le_refl _ | omega) (by first | exact Nat.le_refl _ | omega) dX1_depth_32 (⟨by rw [h8, dp_none] at hI; rw [← hI]; rfl, rfl⟩)
      · rw [h8] at hl
        have hl : lv_has ls 4 [(0, .ref q), (1, .int x), (2, .int (nI ps)), (3, .ref x8)] := hl
        obtain ⟨hx8, hm8⟩ := hA x8 h8
        refine lv_aload_n hx hb dX1_depth_11 rfl (lv_at hl 3 rfl) ?_
        refine lv_iload_n hx hb dX1_depth_12 rfl (lv_at hl 1 rfl) ?_
        refine hp_ki (hp_rVN (C := RX0) (As := [.int x]) (rest := []) ⟨hx, hb, hml, hown, hts⟩ C0 hf hS (c_X0_isBeginOf l D cy base f x8 (tB t x8) (nI (tL t x8)) (tH t x8) (nI (tR t x8)) (tZ t x8) (tO t x8) x (hT x8 hx8)) ⟨va_cnB (host := RX1) (index := 65) 1 hts gX1_depth_X0_isBeginOf_n65 rfl rfl rfl (C0.2.2 _ (by decide +kernel)) (hts (.initialized RX0) (by decide +kernel)) (by decide +kernel) ⟨Nat.le_of_ble_eq_true rfl, Nat.le_of_ble_eq_true rfl⟩, hts (.instanceMethod yX0_isBeginOf) (by decide +kernel), hts (.selects RX0 yX0_isBeginOf yX0_isBeginOf) (by decide +kernel)⟩ (hT x8 hx8) rfl rfl hl.1 rfl (Nat.le_of_ble_eq_true rfl) dX1_depth_13 ⟨Nat.le_of_ble_eq_true rfl, Nat.le_of_ble_eq_true rfl⟩) hS (fun r_1 u_1 H locs hq_1 hf hS => ?_)
        obtain ⟨hr_1, hu⟩ := hq_1
        rw [hu] at hf
        have hbg : ¬ r_1 = 0 ↔ ag (tB t x8) x (tL t x8) := by rw [← bg_iff (hst.2.2.1 x8 hx8)]; rw [hr_1]; split <;> simp_all
        refine lv_if_eq (tgt := 31) hx hb dX1_depth_16 (by decide) (fun h16 => ?_) (fun h16 => ?_)
        · refine lv_iload_n hx hb dX1_depth_31 rfl (lv_at hl 2 rfl) ?_
          exact hp_iret (v := nI ps) hx hb hr hlocks C0 hf hS (by first | exact Nat.le_refl _ | omega) (by first | exact Nat.le_refl _ | omega) dX1_depth_32 (⟨by rw [h8, dp_no hst hx8 ((not_congr hbg).mp (fun z => z h16))] at hI; rw [← hI]; rfl, rfl⟩)
        · refine lv_iinc (v := ((nI ps) + 1)) (lv' := [(2, .int ((nI ps) + 1)), (0, .ref q), (1, .int x), (3, .ref x8)]) hx hb dX1_depth_19 hl (k := 2) rfl rfl (by decide) rfl (fun ls hl => ?_)
          refine lv_aload_n hx hb dX1_depth_22 rfl (lv_at hl 3 rfl) ?_
          refine lv_iload_n hx hb dX1_depth_23 rfl (lv_at hl 2 rfl) ?_
          refine hp_kq (hp_rVN (C := RX0) (As := [.int x]) (rest := []) ⟨hx, hb, hml, hown, hts⟩ C0 hf hS (c_X0_toward l D cy base f x8 (tB t x8) (nI (tL t x8)) (tH t x8) (nI (tR t x8)) (tZ t x8) (tO t x8) x (hT x8 hx8)) ⟨va_cnB (host := RX1) (index := 69) 1 hts gX1_depth_X0_toward_n69 rfl rfl rfl (C0.2.2 _ (by decide +kernel)) (hts (.initialized RX0) (by decide +kernel)) (by decide +kernel) ⟨Nat.le_of_ble_eq_true rfl, Nat.le_of_ble_eq_true rfl⟩, hts (.instanceMethod yX0_toward) (by decide +kernel), hts (.selects RX0 yX0_toward yX0_toward) (by decide +kernel)⟩ (hT x8 hx8) rfl rfl hl.1 rfl (Nat.le_of_ble_eq_true rfl) dX1_depth_24 ⟨Nat.le_of_ble_eq_true rfl, Nat.le_of_ble_eq_true rfl⟩) hS (fun r_2 u_2 H locs hq_2 hf hS => ?_)
          obtain ⟨hr_2, hu⟩ := hq_2
          rw [hu] at hf
          have er_2 := tw_ch (hst.2.2.1 x8 hx8).1 hr_2
          refine hp_astore_nq (lv' := [(3, va_rf r_2), (2, .int ((nI ps) + 1)), (0, .ref q), (1, .int x)]) hx hb dX1_depth_27 rfl hl (by decide) rfl (fun ls hl => ?_)
          refine lv_goto (tgt := 7) hx hb dX1_depth_28 (by decide) ?_
          have h32 := (hst.2.2.1 x8 hx8).1
          have hag := hbg.mp h16
          exact ih (ps + 1) r_2 ls _ _ (by omega) (fun a e => by
            rw [er_2] at e
            obtain ⟨m1, m2, -, -⟩ := hst.2.2.2.2.1 x8 hx8 _ a e
            exact ⟨m1, by omega⟩) (by
            rw [h8, dp_step hst hx8 hag] at hI
            rw [er_2]; omega) hf hS (by
            rw [← nI_1]; exact (lv_sub hl [2, 3, 1, 0] rfl))
  refine lv_iconst (v := 0) hx hb dX1_depth_0 (by decide) ?_
  refine lv_istore_n (lv' := [(2, .int 0), (0, .ref q), (1, .int x)]) hx hb dX1_depth_1 rfl hl (by decide) rfl (fun ls hl => ?_)
  refine lv_aload_n hx hb dX1_depth_2 rfl (lv_at hl 1 rfl) ?_
  refine hp_get (ci := 1) (v := .ref root) (C := RX1) (T := TX1) (N := 2) hx hb hts hin1 hown C0 hf hq rfl 0 (by decide) (hts (.fieldLink RX1 14 "RouteTrie" "root" "LRouteTrie$Node;") (by decide +kernel)) (fun _ h9 => h9) rfl dX1_depth_3 ?_
  refine lv_astore_n (lv' := [(3, .ref root), (2, .int 0), (0, .ref q), (1, .int x)]) hx hb dX1_depth_6 rfl hl (by decide) rfl (fun ls hl => ?_)
  exact loop 34 0 (some root) ls _ _ (by omega) (fun a e => by cases e; exact ⟨hst.1.1, by omega⟩) (by rw [dp_root hst]; omega) hf hS (lv_sub hl [2, 3, 1, 0] rfl)
set_option maxHeartbeats 4000000 in
set_option maxRecDepth 100000 in
theorem c_X1_count (l : Launch) (D : va_G) (cy : ClassId) (base : Nat) (f : AH) (q : Nat) (N : List Nat) (t : NT) (root : Nat) (cnt : Int32) (hq : f q = some (trO root cnt)) (hT : TN f N t) (hst : ST N t root) : Met l yX1_count wsX1_count ({ frames := 0, cells := 0, slots := 0, locals := 0 }) (va_Pc [.ref q] (hp_B D cy base f)) (va_Qi (fun (r : Int32) (u : AH) => r = nI (tR t root) ∧ u = f) (hp_B D cy base) (hp_A base)) 0 0 (hp_A base) := by
  refine Met.ofW (cc := cX1_count) (maxL := 1) (ret := (some .int)) (by decide) rfl ?_
  intro p e s m args below meth c s₁ B hml hv
  obtain ⟨rfl, hf, C0⟩ := hv
  have hx := B.exec
  have hb := B.bytes
  have hr := B.returns
  have hts := atoms_spec (ws := wsX1_count) B.pre
  have hown : s.vm.findClass RX1 = some m.cls := findClass_of_methodNamed B.named
  have hlocks := B.notSynchronized
  have hin0 : ∀ w ∈ wsX00, w ∈ wsX1_count := by decide +kernel
  have hin1 : ∀ w ∈ wsX10, w ∈ wsX1_count := by decide +kernel
  have hS : va_S (hp_A base) s.heap s.heap [] := va_S.rf
  have hl := lv_entry ([.ref q]) (n := 1) (Nat.le_of_ble_eq_true rfl)
  rw [lg_entry_eq]
  generalize (lg_sl ([.ref q]) ++ List.replicate (1 - (lg_sl ([.ref q])).length) Slot.unset).toArray = ls at hl ⊢
  have hl : lv_has ls 1 [(0, .ref q)] := hl
  refine lv_aload_n hx hb dX1_count_0 rfl (lv_at hl 0 rfl) ?_
  refine hp_get (ci := 1) (v := .ref root) (C := RX1) (T := TX1) (N := 2) hx hb hts hin1 hown C0 hf hq rfl 0 (by decide) (hts (.fieldLink RX1 14 "RouteTrie" "root" "LRouteTrie$Node;") (by decide +kernel)) (fun _ h9 => h9) rfl dX1_count_1 ?_
  refine hp_getN (ci := 0) (v := .int (nI (tR t root))) (own := RX1) (ref := RX0) (host := RX1) (index := 25) (C := RX0) (T := TX0) (N := 6) hx hb hts hin0 hown C0 hf (hT root hst.1.1) rfl 3 (by decide) (by decide +kernel) (fun _ h9 => h9) rfl dX1_count_4 ?_
  exact hp_iret (v := nI (tR t root)) hx hb hr hlocks C0 hf hS (by first | exact Nat.le_refl _ | omega) (by first | exact Nat.le_refl _ | omega) dX1_count_7 (⟨rfl, rfl⟩)
set_option maxHeartbeats 4000000 in
set_option maxRecDepth 100000 in
theorem c_X1_nodes (l : Launch) (D : va_G) (cy : ClassId) (base : Nat) (f : AH) (q root : Nat) (cnt : Int32) (hq : f q = some (trO root cnt)) : Met l yX1_nodes wsX1_nodes ({ frames := 0, cells := 0, slots := 0, locals := 0 }) (va_Pc [.ref q] (hp_B D cy base f)) (va_Qi (fun (r : Int32) (u : AH) => r = cnt ∧ u = f) (hp_B D cy base) (hp_A base)) 0 0 (hp_A base) := by
  refine Met.ofW (cc := cX1_nodes) (maxL := 1) (ret := (some .int)) (by decide) rfl ?_
  intro p e s m args below meth c s₁ B hml hv
  obtain ⟨rfl, hf, C0⟩ := hv
  have hx := B.exec
  have hb := B.bytes
  have hr := B.returns
  have hts := atoms_spec (ws := wsX1_nodes) B.pre
  have hown : s.vm.findClass RX1 = some m.cls := findClass_of_methodNamed B.named
  have hlocks := B.notSynchronized
  have hin1 : ∀ w ∈ wsX10, w ∈ wsX1_nodes := by decide +kernel
  have hS : va_S (hp_A base) s.heap s.heap [] := va_S.rf
  have hl := lv_entry ([.ref q]) (n := 1) (Nat.le_of_ble_eq_true rfl)
  rw [lg_entry_eq]
  generalize (lg_sl ([.ref q]) ++ List.replicate (1 - (lg_sl ([.ref q])).length) Slot.unset).toArray = ls at hl ⊢
  have hl : lv_has ls 1 [(0, .ref q)] := hl
  refine lv_aload_n hx hb dX1_nodes_0 rfl (lv_at hl 0 rfl) ?_
  refine hp_get (ci := 1) (v := .int cnt) (C := RX1) (T := TX1) (N := 2) hx hb hts hin1 hown C0 hf hq rfl 1 (by decide) (hts (.fieldLink RX1 18 "RouteTrie" "nodeCount" "I") (by decide +kernel)) (fun _ h9 => h9) rfl dX1_nodes_1 ?_
  exact hp_iret (v := cnt) hx hb hr hlocks C0 hf hS (by first | exact Nat.le_refl _ | omega) (by first | exact Nat.le_refl _ | omega) dX1_nodes_4 (⟨rfl, rfl⟩)
set_option maxHeartbeats 4000000 in
set_option maxRecDepth 100000 in
theorem c_X1_lookup (l : Launch) (D : va_G) (cy : ClassId) (base : Nat) (f : AH) (q : Nat) (N : List Nat) (t : NT) (root : Nat) (cnt : Int32) (x : Int32) (hq : f q = some (trO root cnt)) (hT : TN f N t) (hst : ST N t root) : Met l yX1_lookup wsX1_lookup ({ frames := 3, cells := 0, slots := 0, locals := 65 }) (va_Pc [.ref q, .int x] (hp_B D cy base f)) (va_Qi (fun (r : Int32) (u : AH) => (∃ ro : Option Nat, LRp N t x ro ∧ r = ro.elim (-1) (tH t)) ∧ u = f) (hp_B D cy base) (hp_A base)) 0 0 (hp_A base) := by
  refine Met.ofW (cc := cX1_lookup) (maxL := 3) (ret := (some .int)) (by decide) rfl ?_
  intro p e s m args below meth c s₁ B hml hv
  obtain ⟨rfl, hf, C0⟩ := hv
  have hx := B.exec
  have hb := B.bytes
  have hr := B.returns
  have hts := atoms_spec (ws := wsX1_lookup) B.pre
  have hown : s.vm.findClass RX1 = some m.cls := findClass_of_methodNamed B.named
  have hlocks := B.notSynchronized
  have hin0 : ∀ w ∈ wsX00, w ∈ wsX1_lookup := by decide +kernel
  have hin1 : ∀ w ∈ wsX10, w ∈ wsX1_lookup := by decide +kernel
  have hS : va_S (hp_A base) s.heap s.heap [] := va_S.rf
  have hl := lv_entry ([.ref q, .int x]) (n := 3) (Nat.le_of_ble_eq_true rfl)
  rw [lg_entry_eq]
  generalize (lg_sl ([.ref q, .int x]) ++ List.replicate (3 - (lg_sl ([.ref q, .int x])).length) Slot.unset).toArray = ls at hl ⊢
  have hl : lv_has ls 3 [(0, .ref q), (1, .int x)] := hl
  refine lv_aload_n hx hb dX1_lookup_0 rfl (lv_at hl 0 rfl) ?_
  refine lv_iload_n hx hb dX1_lookup_1 rfl (lv_at hl 1 rfl) ?_
  refine hp_kq (hp_rV (C := RX1) (As := [.int x]) (rest := []) ⟨hx, hb, hml, hown, hts⟩ C0 hf hS (c_X1_longestRoute l D cy base f q N t root cnt x hq hT hst) (cwV 1 hts gX1_lookup_X1_longestRoute rfl rfl rfl (by decide +kernel) ⟨Nat.le_of_ble_eq_true rfl, Nat.le_of_ble_eq_true rfl⟩) hq rfl rfl hl.1 rfl (Nat.le_of_ble_eq_true rfl) dX1_lookup_2 ⟨Nat.le_of_ble_eq_true rfl, Nat.le_of_ble_eq_true rfl⟩) hS (fun r_1 u_1 H locs hq_1 hf hS => ?_)
  obtain ⟨hr_1, hu⟩ := hq_1
  rw [hu] at hf
  refine hp_astore_nq (lv' := [(2, va_rf r_1), (0, .ref q), (1, .int x)]) hx hb dX1_lookup_5 rfl hl (by decide) rfl (fun ls hl => ?_)
  refine hp_aload_nq (r := r_1) hx hb dX1_lookup_6 rfl (lv_at hl 0 rfl) ?_
  refine hp_ifnonnullq (tgt := 14) (r := r_1) hx hb dX1_lookup_7 (by decide) (fun x7 h7 => ?_) (fun h7 => ?_)
  · rw [h7] at hl
    have hl : lv_has ls 3 [(2, .ref x7), (0, .ref q), (1, .int x)] := hl
    obtain ⟨hxN, -⟩ := hr_1.1 x7 h7
    refine lv_aload_n hx hb dX1_lookup_14 rfl (lv_at hl 0 rfl) ?_
    refine hp_getN (ci := 0) (v := .int (tH t x7)) (own := RX1) (ref := RX0) (host := RX1) (index := 22) (C := RX0) (T := TX0) (N := 6) hx hb hts hin0 hown C0 hf (hT x7 hxN) rfl 2 (by decide) (by decide +kernel) (fun _ h9 => h9) rfl dX1_lookup_15 ?_
    exact hp_iret (v := tH t x7) hx hb hr hlocks C0 hf hS (by first | exact Nat.le_refl _ | omega) (by first | exact Nat.le_refl _ | omega) dX1_lookup_18 (⟨⟨some x7, by rw [← h7]; exact hr_1, rfl⟩, rfl⟩)
  · rw [h7] at hl
    have hl : lv_has ls 3 [(2, .null), (0, .ref q), (1, .int x)] := hl
    refine lv_iconst (v := (-1)) hx hb dX1_lookup_10 (by decide) ?_
    refine lv_goto (tgt := 18) hx hb dX1_lookup_11 (by decide) ?_
    exact hp_iret (v := (-1)) hx hb hr hlocks C0 hf hS (by first | exact Nat.le_refl _ | omega) (by first | exact Nat.le_refl _ | omega) dX1_lookup_18 (⟨⟨none, by rw [← h7]; exact hr_1, rfl⟩, rfl⟩)
set_option maxHeartbeats 4000000 in
set_option maxRecDepth 100000 in
theorem c_X1_lookupLen (l : Launch) (D : va_G) (cy : ClassId) (base : Nat) (f : AH) (q : Nat) (N : List Nat) (t : NT) (root : Nat) (cnt : Int32) (x : Int32) (hq : f q = some (trO root cnt)) (hT : TN f N t) (hst : ST N t root) : Met l yX1_lookupLen wsX1_lookupLen ({ frames := 3, cells := 0, slots := 0, locals := 65 }) (va_Pc [.ref q, .int x] (hp_B D cy base f)) (va_Qi (fun (r : Int32) (u : AH) => (∃ ro : Option Nat, LRp N t x ro ∧ r = ro.elim (-1) (fun a => nI (tL t a))) ∧ u = f) (hp_B D cy base) (hp_A base)) 0 0 (hp_A base) := by
  refine Met.ofW (cc := cX1_lookupLen) (maxL := 3) (ret := (some .int)) (by decide) rfl ?_
  intro p e s m args below meth c s₁ B hml hv
  obtain ⟨rfl, hf, C0⟩ := hv
  have hx := B.exec
  have hb := B.bytes
  have hr := B.returns
  have hts := atoms_spec (ws := wsX1_lookupLen) B.pre
  have hown : s.vm.findClass RX1 = some m.cls := findClass_of_methodNamed B.named
  have hlocks := B.notSynchronized
  have hin0 : ∀ w ∈ wsX00, w ∈ wsX1_lookupLen := by decide +kernel
  have hin1 : ∀ w ∈ wsX10, w ∈ wsX1_lookupLen := by decide +kernel
  have hS : va_S (hp_A base) s.heap s.heap [] := va_S.rf
  have hl := lv_entry ([.ref q, .int x]) (n := 3) (Nat.le_of_ble_eq_true rfl)
  rw [lg_entry_eq]
  generalize (lg_sl ([.ref q, .int x]) ++ List.replicate (3 - (lg_sl ([.ref q, .int x])).length) Slot.unset).toArray = ls at hl ⊢
  have hl : lv_has ls 3 [(0, .ref q), (1, .int x)] := hl
  refine lv_aload_n hx hb dX1_lookupLen_0 rfl (lv_at hl 0 rfl) ?_
  refine lv_iload_n hx hb dX1_lookupLen_1 rfl (lv_at hl 1 rfl) ?_
  refine hp_kq (hp_rV (C := RX1) (As := [.int x]) (rest := []) ⟨hx, hb, hml, hown, hts⟩ C0 hf hS (c_X1_longestRoute l D cy base f q N t root cnt x hq hT hst) (cwV 1 hts gX1_lookupLen_X1_longestRoute rfl rfl rfl (by decide +kernel) ⟨Nat.le_of_ble_eq_true rfl, Nat.le_of_ble_eq_true rfl⟩) hq rfl rfl hl.1 rfl (Nat.le_of_ble_eq_true rfl) dX1_lookupLen_2 ⟨Nat.le_of_ble_eq_true rfl, Nat.le_of_ble_eq_true rfl⟩) hS (fun r_1 u_1 H locs hq_1 hf hS => ?_)
  obtain ⟨hr_1, hu⟩ := hq_1
  rw [hu] at hf
  refine hp_astore_nq (lv' := [(2, va_rf r_1), (0, .ref q), (1, .int x)]) hx hb dX1_lookupLen_5 rfl hl (by decide) rfl (fun ls hl => ?_)
  refine hp_aload_nq (r := r_1) hx hb dX1_lookupLen_6 rfl (lv_at hl 0 rfl) ?_
  refine hp_ifnonnullq (tgt := 14) (r := r_1) hx hb dX1_lookupLen_7 (by decide) (fun x7 h7 => ?_) (fun h7 => ?_)
  · rw [h7] at hl
    have hl : lv_has ls 3 [(2, .ref x7), (0, .ref q), (1, .int x)] := hl
    obtain ⟨hxN, -⟩ := hr_1.1 x7 h7
    refine lv_aload_n hx hb dX1_lookupLen_14 rfl (lv_at hl 0 rfl) ?_
    refine hp_getN (ci := 0) (v := .int (nI (tL t x7))) (own := RX1) (ref := RX0) (host := RX1) (index := 53) (C := RX0) (T := TX0) (N := 6) hx hb hts hin0 hown C0 hf (hT x7 hxN) rfl 1 (by decide) (by decide +kernel) (fun _ h9 => h9) rfl dX1_lookupLen_15 ?_
    exact hp_iret (v := nI (tL t x7)) hx hb hr hlocks C0 hf hS (by first | exact Nat.le_refl _ | omega) (by first | exact Nat.le_refl _ | omega) dX1_lookupLen_18 (⟨⟨some x7, by rw [← h7]; exact hr_1, rfl⟩, rfl⟩)
  · rw [h7] at hl
    have hl : lv_has ls 3 [(2, .null), (0, .ref q), (1, .int x)] := hl
    refine lv_iconst (v := (-1)) hx hb dX1_lookupLen_10 (by decide) ?_
    refine lv_goto (tgt := 18) hx hb dX1_lookupLen_11 (by decide) ?_
    exact hp_iret (v := (-1)) hx hb hr hlocks C0 hf hS (by first | exact Nat.le_refl _ | omega) (by first | exact Nat.le_refl _ | omega) dX1_lookupLen_18 (⟨⟨none, by rw [← h7]; exact hr_1, rfl⟩, rfl⟩)
set_option maxHeartbeats 4000000 in
set_option maxRecDepth 100000 in
theorem c_X1_exact (l : Launch) (D : va_G) (cy : ClassId) (base : Nat) (f : AH) (q : Nat) (N : List Nat) (t : NT) (root : Nat) (cnt : Int32) (x n : Int32) (hq : f q = some (trO root cnt)) (hT : TN f N t) (hst : ST N t root) : Met l yX1_exact wsX1_exact ({ frames := 4, cells := 0, slots := 0, locals := 88 }) (va_Pc [.ref q, .int x, .int n] (hp_B D cy base f)) (va_Qi (fun (r : Int32) (u : AH) => (∃ ro : Option Nat, RAp N t x n ro ∧ r = ro.elim (-1) (tH t)) ∧ u = f) (hp_B D cy base) (hp_A base)) 0 0 (hp_A base) := by
  refine Met.ofW (cc := cX1_exact) (maxL := 4) (ret := (some .int)) (by decide) rfl ?_
  intro p e s m args below meth c s₁ B hml hv
  obtain ⟨rfl, hf, C0⟩ := hv
  have hx := B.exec
  have hb := B.bytes
  have hr := B.returns
  have hts := atoms_spec (ws := wsX1_exact) B.pre
  have hown : s.vm.findClass RX1 = some m.cls := findClass_of_methodNamed B.named
  have hlocks := B.notSynchronized
  have hin0 : ∀ w ∈ wsX00, w ∈ wsX1_exact := by decide +kernel
  have hin1 : ∀ w ∈ wsX10, w ∈ wsX1_exact := by decide +kernel
  have hS : va_S (hp_A base) s.heap s.heap [] := va_S.rf
  have hl := lv_entry ([.ref q, .int x, .int n]) (n := 4) (Nat.le_of_ble_eq_true rfl)
  rw [lg_entry_eq]
  generalize (lg_sl ([.ref q, .int x, .int n]) ++ List.replicate (4 - (lg_sl ([.ref q, .int x, .int n])).length) Slot.unset).toArray = ls at hl ⊢
  have hl : lv_has ls 4 [(0, .ref q), (1, .int x), (2, .int n)] := hl
  refine lv_aload_n hx hb dX1_exact_0 rfl (lv_at hl 0 rfl) ?_
  refine lv_iload_n hx hb dX1_exact_1 rfl (lv_at hl 1 rfl) ?_
  refine lv_iload_n hx hb dX1_exact_2 rfl (lv_at hl 2 rfl) ?_
  refine hp_kq (hp_rV (C := RX1) (As := [.int x, .int n]) (rest := []) ⟨hx, hb, hml, hown, hts⟩ C0 hf hS (c_X1_routeAt l D cy base f q N t root cnt x n hq hT hst) (cwV 2 hts gX1_exact_X1_routeAt rfl rfl rfl (by decide +kernel) ⟨Nat.le_of_ble_eq_true rfl, Nat.le_of_ble_eq_true rfl⟩) hq rfl rfl hl.1 rfl (Nat.le_of_ble_eq_true rfl) dX1_exact_3 ⟨Nat.le_of_ble_eq_true rfl, Nat.le_of_ble_eq_true rfl⟩) hS (fun r_1 u_1 H locs hq_1 hf hS => ?_)
  obtain ⟨hr_1, hu⟩ := hq_1
  rw [hu] at hf
  refine hp_astore_nq (lv' := [(3, va_rf r_1), (0, .ref q), (1, .int x), (2, .int n)]) hx hb dX1_exact_6 rfl hl (by decide) rfl (fun ls hl => ?_)
  refine hp_aload_nq (r := r_1) hx hb dX1_exact_7 rfl (lv_at hl 0 rfl) ?_
  refine hp_ifnonnullq (tgt := 15) (r := r_1) hx hb dX1_exact_8 (by decide) (fun x8 h8 => ?_) (fun h8 => ?_)
  · rw [h8] at hl
    have hl : lv_has ls 4 [(3, .ref x8), (0, .ref q), (1, .int x), (2, .int n)] := hl
    obtain ⟨hxN, -⟩ := hr_1.1 x8 h8
    refine lv_aload_n hx hb dX1_exact_15 rfl (lv_at hl 0 rfl) ?_
    refine hp_getN (ci := 0) (v := .int (tH t x8)) (own := RX1) (ref := RX0) (host := RX1) (index := 22) (C := RX0) (T := TX0) (N := 6) hx hb hts hin0 hown C0 hf (hT x8 hxN) rfl 2 (by decide) (by decide +kernel) (fun _ h9 => h9) rfl dX1_exact_16 ?_
    exact hp_iret (v := tH t x8) hx hb hr hlocks C0 hf hS (by first | exact Nat.le_refl _ | omega) (by first | exact Nat.le_refl _ | omega) dX1_exact_19 (⟨⟨some x8, by rw [← h8]; exact hr_1, rfl⟩, rfl⟩)
  · rw [h8] at hl
    have hl : lv_has ls 4 [(3, .null), (0, .ref q), (1, .int x), (2, .int n)] := hl
    refine lv_iconst (v := (-1)) hx hb dX1_exact_11 (by decide) ?_
    refine lv_goto (tgt := 19) hx hb dX1_exact_12 (by decide) ?_
    exact hp_iret (v := (-1)) hx hb hr hlocks C0 hf hS (by first | exact Nat.le_refl _ | omega) (by first | exact Nat.le_refl _ | omega) dX1_exact_19 (⟨⟨none, by rw [← h8]; exact hr_1, rfl⟩, rfl⟩)
set_option maxHeartbeats 4000000 in
set_option maxRecDepth 100000 in
theorem c_X1_under (l : Launch) (D : va_G) (cy : ClassId) (base : Nat) (f : AH) (q : Nat) (N : List Nat) (t : NT) (root : Nat) (cnt : Int32) (x n : Int32) (hq : f q = some (trO root cnt)) (hT : TN f N t) (hst : ST N t root) : Met l yX1_under wsX1_under ({ frames := 3, cells := 0, slots := 0, locals := 65 }) (va_Pc [.ref q, .int x, .int n] (hp_B D cy base f)) (va_Qi (fun (r : Int32) (u : AH) => (((¬ okP x n) ∧ r = -1) ∨ ∃ (k : Nat) (ro : Option Nat), n = nI k ∧ px x k ∧ TMp N t x k ro ∧ r = ro.elim 0 (fun a => nI (tR t a))) ∧ u = f) (hp_B D cy base) (hp_A base)) 0 0 (hp_A base) := by
  refine Met.ofW (cc := cX1_under) (maxL := 4) (ret := (some .int)) (by decide) rfl ?_
  intro p e s m args below meth c s₁ B hml hv
  obtain ⟨rfl, hf, C0⟩ := hv
  have hx := B.exec
  have hb := B.bytes
  have hr := B.returns
  have hts := atoms_spec (ws := wsX1_under) B.pre
  have hown : s.vm.findClass RX1 = some m.cls := findClass_of_methodNamed B.named
  have hlocks := B.notSynchronized
  have hin0 : ∀ w ∈ wsX00, w ∈ wsX1_under := by decide +kernel
  have hin1 : ∀ w ∈ wsX10, w ∈ wsX1_under := by decide +kernel
  have hS : va_S (hp_A base) s.heap s.heap [] := va_S.rf
  have hl := lv_entry ([.ref q, .int x, .int n]) (n := 4) (Nat.le_of_ble_eq_true rfl)
  rw [lg_entry_eq]
  generalize (lg_sl ([.ref q, .int x, .int n]) ++ List.replicate (4 - (lg_sl ([.ref q, .int x, .int n])).length) Slot.unset).toArray = ls at hl ⊢
  have hl : lv_has ls 4 [(0, .ref q), (1, .int x), (2, .int n)] := hl
  refine lv_iload_n hx hb dX1_under_0 rfl (lv_at hl 1 rfl) ?_
  refine lv_iload_n hx hb dX1_under_1 rfl (lv_at hl 2 rfl) ?_
  refine hp_ki (hp_rS (As := [.int x, .int n]) (rest := []) ⟨hx, hb, hml, hown, hts⟩ C0 hf hS (c_X1_isPrefix l D cy base f x n) (va_cwS 2 hts gX1_under_X1_isPrefix rfl rfl rfl (by decide +kernel) ⟨Nat.le_of_ble_eq_true rfl, Nat.le_of_ble_eq_true rfl⟩) rfl hl.1 rfl (Nat.le_of_ble_eq_true rfl) dX1_under_2 ⟨Nat.le_of_ble_eq_true rfl, Nat.le_of_ble_eq_true rfl⟩) hS (fun r_1 u_1 H locs hq_1 hf hS => ?_)
  obtain ⟨hr_1, hu⟩ := hq_1
  rw [hu] at hf
  have hpf := ite1 hr_1
  refine lv_if_ne (tgt := 10) hx hb dX1_under_5 (by decide) (fun h5 => ?_) (fun h5 => ?_)
  · refine lv_aload_n hx hb dX1_under_10 rfl (lv_at hl 0 rfl) ?_
    refine lv_iload_n hx hb dX1_under_11 rfl (lv_at hl 1 rfl) ?_
    refine lv_iload_n hx hb dX1_under_12 rfl (lv_at hl 2 rfl) ?_
    obtain ⟨k, rfl, hk⟩ := hpf.mp h5
    refine hp_kq (hp_rV (C := RX1) (As := [.int x, .int (nI k)]) (rest := []) ⟨hx, hb, hml, hown, hts⟩ C0 hf hS (c_X1_topmost l D cy base f q N t root cnt x k hq hT hst hk) (cwV 2 hts gX1_under_X1_topmost rfl rfl rfl (by decide +kernel) ⟨Nat.le_of_ble_eq_true rfl, Nat.le_of_ble_eq_true rfl⟩) hq rfl rfl hl.1 rfl (Nat.le_of_ble_eq_true rfl) dX1_under_13 ⟨Nat.le_of_ble_eq_true rfl, Nat.le_of_ble_eq_true rfl⟩) hS (fun r_2 u_2 H locs hq_2 hf hS => ?_)
    obtain ⟨hr_2, hu⟩ := hq_2
    rw [hu] at hf
    refine hp_astore_nq (lv' := [(3, va_rf r_2), (0, .ref q), (1, .int x), (2, .int (nI k))]) hx hb dX1_under_16 rfl hl (by decide) rfl (fun ls hl => ?_)
    refine hp_aload_nq (r := r_2) hx hb dX1_under_17 rfl (lv_at hl 0 rfl) ?_
    refine hp_ifnonnullq (tgt := 25) (r := r_2) hx hb dX1_under_18 (by decide) (fun x18 h18 => ?_) (fun h18 => ?_)
    · rw [h18] at hl
      have hl : lv_has ls 4 [(3, .ref x18), (0, .ref q), (1, .int x), (2, .int (nI k))] := hl
      obtain ⟨hxN, -⟩ := hr_2.1 x18 h18
      refine lv_aload_n hx hb dX1_under_25 rfl (lv_at hl 0 rfl) ?_
      refine hp_getN (ci := 0) (v := .int (nI (tR t x18))) (own := RX1) (ref := RX0) (host := RX1) (index := 25) (C := RX0) (T := TX0) (N := 6) hx hb hts hin0 hown C0 hf (hT x18 hxN) rfl 3 (by decide) (by decide +kernel) (fun _ h9 => h9) rfl dX1_under_26 ?_
      exact hp_iret (v := nI (tR t x18)) hx hb hr hlocks C0 hf hS (by first | exact Nat.le_refl _ | omega) (by first | exact Nat.le_refl _ | omega) dX1_under_29 (⟨Or.inr ⟨k, some x18, rfl, hk, by rw [← h18]; exact hr_2, rfl⟩, rfl⟩)
    · rw [h18] at hl
      have hl : lv_has ls 4 [(3, .null), (0, .ref q), (1, .int x), (2, .int (nI k))] := hl
      refine lv_iconst (v := 0) hx hb dX1_under_21 (by decide) ?_
      refine lv_goto (tgt := 29) hx hb dX1_under_22 (by decide) ?_
      exact hp_iret (v := 0) hx hb hr hlocks C0 hf hS (by first | exact Nat.le_refl _ | omega) (by first | exact Nat.le_refl _ | omega) dX1_under_29 (⟨Or.inr ⟨k, none, rfl, hk, by rw [← h18]; exact hr_2, rfl⟩, rfl⟩)
  · refine lv_iconst (v := (-1)) hx hb dX1_under_8 (by decide) ?_
    exact hp_iret (v := (-1)) hx hb hr hlocks C0 hf hS (by first | exact Nat.le_refl _ | omega) (by first | exact Nat.le_refl _ | omega) dX1_under_9 (⟨Or.inl ⟨(not_congr hpf).mp (fun z => z h5), rfl⟩, rfl⟩)
set_option maxHeartbeats 4000000 in
set_option maxRecDepth 100000 in
theorem c_X1_inOrder (l : Launch) (D : va_G) (cy : ClassId) (base : Nat) (f : AH) (q : Nat) (N : List Nat) (t : NT) (root : Nat) (cnt : Int32) (k : Int32) (hq : f q = some (trO root cnt)) (hT : TN f N t) (hst : ST N t root) (hrc : RC N t) (hbd : N.length < 2 ^ 30) : Met l yX1_inOrder wsX1_inOrder ({ frames := 1, cells := 0, slots := 0, locals := 20 }) (va_Pc [.ref q, .int k] (hp_B D cy base f)) (va_Qq (fun (r : Option Nat) (u : AH) => IOp N t root k r ∧ u = f) (hp_B D cy base) (hp_A base)) 0 0 (hp_A base) := by
  refine Met.ofW (cc := cX1_inOrder) (maxL := 5) (ret := (some (.object "RouteTrie$Node"))) (by decide) rfl ?_
  intro p e s m args below meth c s₁ B hml hv
  obtain ⟨rfl, hf, C0⟩ := hv
  have hx := B.exec
  have hb := B.bytes
  have hr := B.returns
  have hts := atoms_spec (ws := wsX1_inOrder) B.pre
  have hown : s.vm.findClass RX1 = some m.cls := findClass_of_methodNamed B.named
  have hlocks := B.notSynchronized
  have hin0 : ∀ w ∈ wsX00, w ∈ wsX1_inOrder := by decide +kernel
  have hin1 : ∀ w ∈ wsX10, w ∈ wsX1_inOrder := by decide +kernel
  have hS : va_S (hp_A base) s.heap s.heap [] := va_S.rf
  have hl := lv_entry ([.ref q, .int k]) (n := 5) (Nat.le_of_ble_eq_true rfl)
  rw [lg_entry_eq]
  generalize (lg_sl ([.ref q, .int k]) ++ List.replicate (5 - (lg_sl ([.ref q, .int k])).length) Slot.unset).toArray = ls at hl ⊢
  have hl : lv_has ls 5 [(0, .ref q), (1, .int k)] := hl
  have loop : ∀ (n j0 j a : Nat) (ls : Array Slot) (H : Heap) (locs : List Loc), k = nI j0 → a ∈ N → 34 ≤ tL t a + n → j < tR t a → lo N t a + j = j0 → j0 < tR t root → hp_ok D base f H → va_S (hp_A base) s.heap H locs → lv_has ls 5 [(0, .ref q), (1, .int k), (2, .int (nI j)), (3, .ref a)] → W p l e (headSpec wsX1_inOrder ({ frames := 1, cells := 0, slots := 0, locals := 20 } : Room)).room s m #[Value.ref q, Value.int k] below meth c H locs 0 0 (MQ below (va_Qq (fun (r : Option Nat) (u : AH) => IOp N t root k r ∧ u = f) (hp_B D cy base) (hp_A base)) #[Value.ref q, Value.int k] s 0 0 (hp_A base)) (F0 m 24 ls []) := by
    intro n
    induction n with
    | zero => intro _ _ a _ _ _ _ ha h; exact absurd h (by have := (hst.2.2.1 a ha).1; omega)
    | succ n ih =>
      intro j0 j a ls H locs ek ha hm hj hlo hj0 hf hS hl
      have hbn : ∀ c ∈ N, tR t c < 2 ^ 30 := fun c hc => by rw [hrc c hc]; exact Nat.lt_of_le_of_lt cnt_le hbd
      have hsp := io_split hst hrc ha
      have hja := hbn a ha
      refine lv_aload_n hx hb dX1_inOrder_24 rfl (lv_at hl 3 rfl) ?_
      refine lv_ifnull hx hb dX1_inOrder_25 ?_
      refine lv_aload_n hx hb dX1_inOrder_28 rfl (lv_at hl 3 rfl) ?_
      refine hp_ki (hp_rVN (C := RX0) (As := []) (rest := []) ⟨hx, hb, hml, hown, hts⟩ C0 hf hS (c_X0_isRoute l D cy base f a (tB t a) (nI (tL t a)) (tH t a) (nI (tR t a)) (tZ t a) (tO t a) (hT a ha)) ⟨va_cnB (host := RX1) (index := 87) 0 hts gX1_inOrder_X0_isRoute_n87 rfl rfl rfl (C0.2.2 _ (by decide +kernel)) (hts (.initialized RX0) (by decide +kernel)) (by decide +kernel) ⟨Nat.le_of_ble_eq_true rfl, Nat.le_of_ble_eq_true rfl⟩, hts (.instanceMethod yX0_isRoute) (by decide +kernel), hts (.selects RX0 yX0_isRoute yX0_isRoute) (by decide +kernel)⟩ (hT a ha) rfl rfl hl.1 rfl (Nat.le_of_ble_eq_true rfl) dX1_inOrder_29 ⟨Nat.le_of_ble_eq_true rfl, Nat.le_of_ble_eq_true rfl⟩) hS (fun r_1 u_1 H locs hq_1 hf hS => ?_)
      obtain ⟨hr_1, hu⟩ := hq_1
      rw [hu] at hf
      have hir : r_1 = 0 ↔ tH t a = -1 := by rw [hr_1]; split <;> simp_all
      refine lv_if_eq (tgt := 44) hx hb dX1_inOrder_32 (by decide) (fun h32 => ?_) (fun h32 => ?_)
      · have hs0 : slf t a = 0 := by unfold slf; rw [if_neg (by rw [isR_iff]; exact fun k => k (hir.mp h32))]
        obtain ⟨j1, ej1, hj1⟩ : ∃ j1, nI j = nI j1 ∧ j1 + slf t a = j := ⟨j, rfl, by omega⟩
        rw [ej1] at hl
        refine lv_aload_n hx hb dX1_inOrder_44 rfl (lv_at hl 3 rfl) ?_
        refine hp_getN (ci := 0) (v := va_rf (tZ t a)) (own := RX1) (ref := RX0) (host := RX1) (index := 28) (C := RX0) (T := TX0) (N := 6) hx hb hts hin0 hown C0 hf (hT a ha) rfl 4 (by decide) (by decide +kernel) (fun _ h9 => h9) rfl dX1_inOrder_45 ?_
        refine hp_ifnonnullq (tgt := 55) (r := tZ t a) hx hb dX1_inOrder_48 (by decide) (fun x48 h48 => ?_) (fun h48 => ?_)
        · obtain ⟨hzN, hzl, -, -⟩ := hst.2.2.2.2.1 a ha false x48 h48
          have hsz := sd_child hst hrc ha (d := false) (c := x48) h48
          have hzb := hbn x48 hzN
          have haz : f a = some (.inr (0, [.int (tB t a), .int (nI (tL t a)), .int (tH t a), .int (nI (tR t a)), .ref x48, va_rf (tO t a)])) := by rw [hT a ha]; show some (ndE (tB t a) (nI (tL t a)) (tH t a) (nI (tR t a)) (tZ t a) (tO t a)) = _; rw [h48]; rfl
          refine lv_aload_n hx hb dX1_inOrder_55 rfl (lv_at hl 3 rfl) ?_
          refine hp_getN (ci := 0) (v := .ref x48) (own := RX1) (ref := RX0) (host := RX1) (index := 28) (C := RX0) (T := TX0) (N := 6) hx hb hts hin0 hown C0 hf haz rfl 4 (by decide) (by decide +kernel) (fun _ h9 => h9) rfl dX1_inOrder_56 ?_
          refine hp_getN (ci := 0) (v := .int (nI (tR t x48))) (own := RX1) (ref := RX0) (host := RX1) (index := 25) (C := RX0) (T := TX0) (N := 6) hx hb hts hin0 hown C0 hf (hT x48 hzN) rfl 3 (by decide) (by decide +kernel) (fun _ h9 => h9) rfl dX1_inOrder_59 ?_
          refine lv_istore (lv' := [(4, .int (nI (tR t x48))), (0, .ref q), (1, .int k), (2, .int (nI j1)), (3, .ref a)]) hx hb dX1_inOrder_62 hl (by decide) rfl (fun ls hl => ?_)
          refine lv_iload_n hx hb dX1_inOrder_64 rfl (lv_at hl 3 rfl) ?_
          refine lv_iload hx hb dX1_inOrder_65 (lv_at hl 0 rfl) ?_
          refine lv_icmp_ge (tgt := 78) hx hb dX1_inOrder_67 (by decide) (fun h67 => ?_) (fun h67 => ?_)
          · refine lv_iload_n hx hb dX1_inOrder_78 rfl (lv_at hl 3 rfl) ?_
            refine lv_iload hx hb dX1_inOrder_79 (lv_at hl 0 rfl) ?_
            refine lv_isub hx hb dX1_inOrder_81 ?_
            refine lv_istore_n (lv' := [(2, .int ((nI j1) - (nI (tR t x48)))), (4, .int (nI (tR t x48))), (0, .ref q), (1, .int k), (3, .ref a)]) hx hb dX1_inOrder_82 rfl hl (by decide) rfl (fun ls hl => ?_)
            refine lv_aload_n hx hb dX1_inOrder_83 rfl (lv_at hl 4 rfl) ?_
            refine hp_getN (ci := 0) (v := va_rf (tO t a)) (own := RX1) (ref := RX0) (host := RX1) (index := 31) (C := RX0) (T := TX0) (N := 6) hx hb hts hin0 hown C0 hf haz rfl 5 (by decide) (by decide +kernel) (fun _ h9 => h9) rfl dX1_inOrder_84 ?_
            refine hp_astore_nq (lv' := [(3, va_rf (tO t a)), (2, .int ((nI j1) - (nI (tR t x48)))), (4, .int (nI (tR t x48))), (0, .ref q), (1, .int k)]) hx hb dX1_inOrder_87 rfl hl (by decide) rfl (fun ls hl => ?_)
            refine lv_goto (tgt := 24) hx hb dX1_inOrder_88 (by decide) ?_
            have hge : tR t x48 ≤ j1 := Nat.not_lt.mp (fun q => absurd h67 (nI_ge q (by omega)))
            have hj2 : nI j1 - nI (tR t x48) = nI (j1 - tR t x48) := pk_sub hge
            cases ho : ch t a true with
            | none => exact absurd (sd_none hst ha (d := true) ho) (by omega)
            | some o =>
              obtain ⟨hoN, hol, -, -⟩ := hst.2.2.2.2.1 a ha true o ho
              have hso := sd_child hst hrc ha (d := true) (c := o) ho
              have eo : tO t a = some o := ho
              rw [hj2, eo] at hl
              exact ih j0 (j1 - tR t x48) o ls _ _ ek hoN (by omega) (by omega) (by rw [lo_one hst ha ho]; omega) hj0 hf hS (lv_sub hl [3, 4, 1, 0] rfl)
          · refine lv_aload_n hx hb dX1_inOrder_70 rfl (lv_at hl 4 rfl) ?_
            refine hp_getN (ci := 0) (v := .ref x48) (own := RX1) (ref := RX0) (host := RX1) (index := 28) (C := RX0) (T := TX0) (N := 6) hx hb hts hin0 hown C0 hf haz rfl 4 (by decide) (by decide +kernel) (fun _ h9 => h9) rfl dX1_inOrder_71 ?_
            refine lv_astore_n (lv' := [(3, .ref x48), (4, .int (nI (tR t x48))), (0, .ref q), (1, .int k), (2, .int (nI j1))]) hx hb dX1_inOrder_74 rfl hl (by decide) rfl (fun ls hl => ?_)
            refine lv_goto (tgt := 88) hx hb dX1_inOrder_75 (by decide) ?_
            refine lv_goto (tgt := 24) hx hb dX1_inOrder_88 (by decide) ?_
            have hlt : j1 < tR t x48 := Nat.not_le.mp (fun q => h67 (nI_le q (by omega)))
            exact ih j0 j1 x48 ls _ _ ek hzN (by omega) hlt (by rw [lo_zero hst ha h48]; omega) hj0 hf hS (lv_sub hl [2, 3, 4, 0] rfl)
        · have hsz := sd_none hst ha (d := false) h48
          refine lv_iconst (v := 0) hx hb dX1_inOrder_51 (by decide) ?_
          refine lv_goto (tgt := 62) hx hb dX1_inOrder_52 (by decide) ?_
          refine lv_istore (lv' := [(4, .int 0), (0, .ref q), (1, .int k), (2, .int (nI j1)), (3, .ref a)]) hx hb dX1_inOrder_62 hl (by decide) rfl (fun ls hl => ?_)
          refine lv_iload_n hx hb dX1_inOrder_64 rfl (lv_at hl 3 rfl) ?_
          refine lv_iload hx hb dX1_inOrder_65 (lv_at hl 0 rfl) ?_
          refine lv_icmp_ge (tgt := 78) hx hb dX1_inOrder_67 (by decide) (fun h67 => ?_) (fun h67 => ?_)
          · refine lv_iload_n hx hb dX1_inOrder_78 rfl (lv_at hl 3 rfl) ?_
            refine lv_iload hx hb dX1_inOrder_79 (lv_at hl 0 rfl) ?_
            refine lv_isub hx hb dX1_inOrder_81 ?_
            refine lv_istore_n (lv' := [(2, .int ((nI j1) - 0)), (4, .int 0), (0, .ref q), (1, .int k), (3, .ref a)]) hx hb dX1_inOrder_82 rfl hl (by decide) rfl (fun ls hl => ?_)
            refine lv_aload_n hx hb dX1_inOrder_83 rfl (lv_at hl 4 rfl) ?_
            refine hp_getN (ci := 0) (v := va_rf (tO t a)) (own := RX1) (ref := RX0) (host := RX1) (index := 31) (C := RX0) (T := TX0) (N := 6) hx hb hts hin0 hown C0 hf (hT a ha) rfl 5 (by decide) (by decide +kernel) (fun _ h9 => h9) rfl dX1_inOrder_84 ?_
            refine hp_astore_nq (lv' := [(3, va_rf (tO t a)), (2, .int ((nI j1) - 0)), (4, .int 0), (0, .ref q), (1, .int k)]) hx hb dX1_inOrder_87 rfl hl (by decide) rfl (fun ls hl => ?_)
            refine lv_goto (tgt := 24) hx hb dX1_inOrder_88 (by decide) ?_
            have hj2 : nI j1 - 0 = nI j1 := by rw [show (0 : Int32) = nI 0 from rfl, pk_sub (Nat.zero_le _)]; rfl
            have hge : 0 ≤ j1 := Nat.zero_le _
            cases ho : ch t a true with
            | none => exact absurd (sd_none hst ha (d := true) ho) (by omega)
            | some o =>
              obtain ⟨hoN, hol, -, -⟩ := hst.2.2.2.2.1 a ha true o ho
              have hso := sd_child hst hrc ha (d := true) (c := o) ho
              have eo : tO t a = some o := ho
              rw [hj2, eo] at hl
              exact ih j0 j1 o ls _ _ ek hoN (by omega) (by omega) (by rw [lo_one hst ha ho]; omega) hj0 hf hS (lv_sub hl [3, 4, 1, 0] rfl)
          · refine lv_aload_n hx hb dX1_inOrder_70 rfl (lv_at hl 4 rfl) ?_
            refine hp_getN (ci := 0) (v := va_rf (tZ t a)) (own := RX1) (ref := RX0) (host := RX1) (index := 28) (C := RX0) (T := TX0) (N := 6) hx hb hts hin0 hown C0 hf (hT a ha) rfl 4 (by decide) (by decide +kernel) (fun _ h9 => h9) rfl dX1_inOrder_71 ?_
            refine hp_astore_nq (lv' := [(3, va_rf (tZ t a)), (4, .int 0), (0, .ref q), (1, .int k), (2, .int (nI j1))]) hx hb dX1_inOrder_74 rfl hl (by decide) rfl (fun ls hl => ?_)
            refine lv_goto (tgt := 88) hx hb dX1_inOrder_75 (by decide) ?_
            refine lv_goto (tgt := 24) hx hb dX1_inOrder_88 (by decide) ?_
            exact absurd h67 (by intro h; exact h (nI_pos' (n := j1) (by omega)))
      · refine lv_iload_n hx hb dX1_inOrder_35 rfl (lv_at hl 2 rfl) ?_
        refine lv_if_ne (tgt := 41) hx hb dX1_inOrder_36 (by decide) (fun h36 => ?_) (fun h36 => ?_)
        · have hjp : 0 < j := Nat.pos_of_ne_zero (fun e => h36 (by rw [e]; rfl))
          have hs0 : slf t a = 1 := by unfold slf; rw [if_pos (by rw [isR_iff]; exact (not_congr hir).mp h32)]
          refine lv_iinc (v := ((nI j) + (-1))) (lv' := [(2, .int ((nI j) + (-1))), (0, .ref q), (1, .int k), (3, .ref a)]) hx hb dX1_inOrder_41 hl (k := 2) rfl rfl (by decide) rfl (fun ls hl => ?_)
          obtain ⟨j1, ej1, hj1⟩ : ∃ j1, nI j + (-1) = nI j1 ∧ j1 + slf t a = j := ⟨j - 1, sb_m1 hjp, by omega⟩
          rw [ej1] at hl
          have hl : lv_has ls 5 [(2, .int (nI j1)), (0, .ref q), (1, .int k), (3, .ref a)] := hl
          refine lv_aload_n hx hb dX1_inOrder_44 rfl (lv_at hl 3 rfl) ?_
          refine hp_getN (ci := 0) (v := va_rf (tZ t a)) (own := RX1) (ref := RX0) (host := RX1) (index := 28) (C := RX0) (T := TX0) (N := 6) hx hb hts hin0 hown C0 hf (hT a ha) rfl 4 (by decide) (by decide +kernel) (fun _ h9 => h9) rfl dX1_inOrder_45 ?_
          refine hp_ifnonnullq (tgt := 55) (r := tZ t a) hx hb dX1_inOrder_48 (by decide) (fun x48 h48 => ?_) (fun h48 => ?_)
          · obtain ⟨hzN, hzl, -, -⟩ := hst.2.2.2.2.1 a ha false x48 h48
            have hsz := sd_child hst hrc ha (d := false) (c := x48) h48
            have hzb := hbn x48 hzN
            have haz : f a = some (.inr (0, [.int (tB t a), .int (nI (tL t a)), .int (tH t a), .int (nI (tR t a)), .ref x48, va_rf (tO t a)])) := by rw [hT a ha]; show some (ndE (tB t a) (nI (tL t a)) (tH t a) (nI (tR t a)) (tZ t a) (tO t a)) = _; rw [h48]; rfl
            refine lv_aload_n hx hb dX1_inOrder_55 rfl (lv_at hl 3 rfl) ?_
            refine hp_getN (ci := 0) (v := .ref x48) (own := RX1) (ref := RX0) (host := RX1) (index := 28) (C := RX0) (T := TX0) (N := 6) hx hb hts hin0 hown C0 hf haz rfl 4 (by decide) (by decide +kernel) (fun _ h9 => h9) rfl dX1_inOrder_56 ?_
            refine hp_getN (ci := 0) (v := .int (nI (tR t x48))) (own := RX1) (ref := RX0) (host := RX1) (index := 25) (C := RX0) (T := TX0) (N := 6) hx hb hts hin0 hown C0 hf (hT x48 hzN) rfl 3 (by decide) (by decide +kernel) (fun _ h9 => h9) rfl dX1_inOrder_59 ?_
            refine lv_istore (lv' := [(4, .int (nI (tR t x48))), (2, .int (nI j1)), (0, .ref q), (1, .int k), (3, .ref a)]) hx hb dX1_inOrder_62 hl (by decide) rfl (fun ls hl => ?_)
            refine lv_iload_n hx hb dX1_inOrder_64 rfl (lv_at hl 1 rfl) ?_
            refine lv_iload hx hb dX1_inOrder_65 (lv_at hl 0 rfl) ?_
            refine lv_icmp_ge (tgt := 78) hx hb dX1_inOrder_67 (by decide) (fun h67 => ?_) (fun h67 => ?_)
            · refine lv_iload_n hx hb dX1_inOrder_78 rfl (lv_at hl 1 rfl) ?_
              refine lv_iload hx hb dX1_inOrder_79 (lv_at hl 0 rfl) ?_
              refine lv_isub hx hb dX1_inOrder_81 ?_
              refine lv_istore_n (lv' := [(2, .int ((nI j1) - (nI (tR t x48)))), (4, .int (nI (tR t x48))), (0, .ref q), (1, .int k), (3, .ref a)]) hx hb dX1_inOrder_82 rfl hl (by decide) rfl (fun ls hl => ?_)
              refine lv_aload_n hx hb dX1_inOrder_83 rfl (lv_at hl 4 rfl) ?_
              refine hp_getN (ci := 0) (v := va_rf (tO t a)) (own := RX1) (ref := RX0) (host := RX1) (index := 31) (C := RX0) (T := TX0) (N := 6) hx hb hts hin0 hown C0 hf haz rfl 5 (by decide) (by decide +kernel) (fun _ h9 => h9) rfl dX1_inOrder_84 ?_
              refine hp_astore_nq (lv' := [(3, va_rf (tO t a)), (2, .int ((nI j1) - (nI (tR t x48)))), (4, .int (nI (tR t x48))), (0, .ref q), (1, .int k)]) hx hb dX1_inOrder_87 rfl hl (by decide) rfl (fun ls hl => ?_)
              refine lv_goto (tgt := 24) hx hb dX1_inOrder_88 (by decide) ?_
              have hge : tR t x48 ≤ j1 := Nat.not_lt.mp (fun q => absurd h67 (nI_ge q (by omega)))
              have hj2 : nI j1 - nI (tR t x48) = nI (j1 - tR t x48) := pk_sub hge
              cases ho : ch t a true with
              | none => exact absurd (sd_none hst ha (d := true) ho) (by omega)
              | some o =>
                obtain ⟨hoN, hol, -, -⟩ := hst.2.2.2.2.1 a ha true o ho
                have hso := sd_child hst hrc ha (d := true) (c := o) ho
                have eo : tO t a = some o := ho
                rw [hj2, eo] at hl
                exact ih j0 (j1 - tR t x48) o ls _ _ ek hoN (by omega) (by omega) (by rw [lo_one hst ha ho]; omega) hj0 hf hS (lv_sub hl [3, 4, 1, 0] rfl)
            · refine lv_aload_n hx hb dX1_inOrder_70 rfl (lv_at hl 4 rfl) ?_
              refine hp_getN (ci := 0) (v := .ref x48) (own := RX1) (ref := RX0) (host := RX1) (index := 28) (C := RX0) (T := TX0) (N := 6) hx hb hts hin0 hown C0 hf haz rfl 4 (by decide) (by decide +kernel) (fun _ h9 => h9) rfl dX1_inOrder_71 ?_
              refine lv_astore_n (lv' := [(3, .ref x48), (4, .int (nI (tR t x48))), (2, .int (nI j1)), (0, .ref q), (1, .int k)]) hx hb dX1_inOrder_74 rfl hl (by decide) rfl (fun ls hl => ?_)
              refine lv_goto (tgt := 88) hx hb dX1_inOrder_75 (by decide) ?_
              refine lv_goto (tgt := 24) hx hb dX1_inOrder_88 (by decide) ?_
              have hlt : j1 < tR t x48 := Nat.not_le.mp (fun q => h67 (nI_le q (by omega)))
              exact ih j0 j1 x48 ls _ _ ek hzN (by omega) hlt (by rw [lo_zero hst ha h48]; omega) hj0 hf hS (lv_sub hl [3, 4, 2, 0] rfl)
          · have hsz := sd_none hst ha (d := false) h48
            refine lv_iconst (v := 0) hx hb dX1_inOrder_51 (by decide) ?_
            refine lv_goto (tgt := 62) hx hb dX1_inOrder_52 (by decide) ?_
            refine lv_istore (lv' := [(4, .int 0), (2, .int (nI j1)), (0, .ref q), (1, .int k), (3, .ref a)]) hx hb dX1_inOrder_62 hl (by decide) rfl (fun ls hl => ?_)
            refine lv_iload_n hx hb dX1_inOrder_64 rfl (lv_at hl 1 rfl) ?_
            refine lv_iload hx hb dX1_inOrder_65 (lv_at hl 0 rfl) ?_
            refine lv_icmp_ge (tgt := 78) hx hb dX1_inOrder_67 (by decide) (fun h67 => ?_) (fun h67 => ?_)
            · refine lv_iload_n hx hb dX1_inOrder_78 rfl (lv_at hl 1 rfl) ?_
              refine lv_iload hx hb dX1_inOrder_79 (lv_at hl 0 rfl) ?_
              refine lv_isub hx hb dX1_inOrder_81 ?_
              refine lv_istore_n (lv' := [(2, .int ((nI j1) - 0)), (4, .int 0), (0, .ref q), (1, .int k), (3, .ref a)]) hx hb dX1_inOrder_82 rfl hl (by decide) rfl (fun ls hl => ?_)
              refine lv_aload_n hx hb dX1_inOrder_83 rfl (lv_at hl 4 rfl) ?_
              refine hp_getN (ci := 0) (v := va_rf (tO t a)) (own := RX1) (ref := RX0) (host := RX1) (index := 31) (C := RX0) (T := TX0) (N := 6) hx hb hts hin0 hown C0 hf (hT a ha) rfl 5 (by decide) (by decide +kernel) (fun _ h9 => h9) rfl dX1_inOrder_84 ?_
              refine hp_astore_nq (lv' := [(3, va_rf (tO t a)), (2, .int ((nI j1) - 0)), (4, .int 0), (0, .ref q), (1, .int k)]) hx hb dX1_inOrder_87 rfl hl (by decide) rfl (fun ls hl => ?_)
              refine lv_goto (tgt := 24) hx hb dX1_inOrder_88 (by decide) ?_
              have hj2 : nI j1 - 0 = nI j1 := by rw [show (0 : Int32) = nI 0 from rfl, pk_sub (Nat.zero_le _)]; rfl
              have hge : 0 ≤ j1 := Nat.zero_le _
              cases ho : ch t a true with
              | none => exact absurd (sd_none hst ha (d := true) ho) (by omega)
              | some o =>
                obtain ⟨hoN, hol, -, -⟩ := hst.2.2.2.2.1 a ha true o ho
                have hso := sd_child hst hrc ha (d := true) (c := o) ho
                have eo : tO t a = some o := ho
                rw [hj2, eo] at hl
                exact ih j0 j1 o ls _ _ ek hoN (by omega) (by omega) (by rw [lo_one hst ha ho]; omega) hj0 hf hS (lv_sub hl [3, 4, 1, 0] rfl)
            · refine lv_aload_n hx hb dX1_inOrder_70 rfl (lv_at hl 4 rfl) ?_
              refine hp_getN (ci := 0) (v := va_rf (tZ t a)) (own := RX1) (ref := RX0) (host := RX1) (index := 28) (C := RX0) (T := TX0) (N := 6) hx hb hts hin0 hown C0 hf (hT a ha) rfl 4 (by decide) (by decide +kernel) (fun _ h9 => h9) rfl dX1_inOrder_71 ?_
              refine hp_astore_nq (lv' := [(3, va_rf (tZ t a)), (4, .int 0), (2, .int (nI j1)), (0, .ref q), (1, .int k)]) hx hb dX1_inOrder_74 rfl hl (by decide) rfl (fun ls hl => ?_)
              refine lv_goto (tgt := 88) hx hb dX1_inOrder_75 (by decide) ?_
              refine lv_goto (tgt := 24) hx hb dX1_inOrder_88 (by decide) ?_
              exact absurd h67 (by intro h; exact h (nI_pos' (n := j1) (by omega)))
        · refine lv_aload_n hx hb dX1_inOrder_39 rfl (lv_at hl 3 rfl) ?_
          exact hp_aret (r := some a) hx hb hr hlocks C0 hf hS (by first | exact Nat.le_refl _ | omega) (by first | exact Nat.le_refl _ | omega) dX1_inOrder_40 (⟨⟨fun b e => by cases e; exact ⟨ha, by rw [isR_iff]; exact (not_congr hir).mp h32, by rw [ek, ← hlo, show j = 0 from (nI_eq (b := 0) (by omega) (by omega)).mp h36]; rfl, by omega⟩, fun e => by cases e⟩, rfl⟩)
  refine lv_iload_n hx hb dX1_inOrder_0 rfl (lv_at hl 1 rfl) ?_
  refine lv_if_lt (tgt := 15) hx hb dX1_inOrder_1 (by decide) (fun h1 => ?_) (fun h1 => ?_)
  · refine lv_null hx hb dX1_inOrder_15 ?_
    exact hp_aret (r := none) hx hb hr hlocks C0 hf hS (by first | exact Nat.le_refl _ | omega) (by first | exact Nat.le_refl _ | omega) dX1_inOrder_16 (⟨⟨fun a e => (by cases e), fun _ => Or.inl h1⟩, rfl⟩)
  · refine lv_iload_n hx hb dX1_inOrder_4 rfl (lv_at hl 1 rfl) ?_
    refine lv_aload_n hx hb dX1_inOrder_5 rfl (lv_at hl 0 rfl) ?_
    refine hp_get (ci := 1) (v := .ref root) (C := RX1) (T := TX1) (N := 2) hx hb hts hin1 hown C0 hf hq rfl 0 (by decide) (hts (.fieldLink RX1 14 "RouteTrie" "root" "LRouteTrie$Node;") (by decide +kernel)) (fun _ h9 => h9) rfl dX1_inOrder_6 ?_
    refine hp_getN (ci := 0) (v := .int (nI (tR t root))) (own := RX1) (ref := RX0) (host := RX1) (index := 25) (C := RX0) (T := TX0) (N := 6) hx hb hts hin0 hown C0 hf (hT root hst.1.1) rfl 3 (by decide) (by decide +kernel) (fun _ h9 => h9) rfl dX1_inOrder_9 ?_
    refine lv_icmp_lt (tgt := 17) hx hb dX1_inOrder_12 (by decide) (fun h12 => ?_) (fun h12 => ?_)
    · refine lv_iload_n hx hb dX1_inOrder_17 rfl (lv_at hl 1 rfl) ?_
      refine lv_istore_n (lv' := [(2, .int k), (0, .ref q), (1, .int k)]) hx hb dX1_inOrder_18 rfl hl (by decide) rfl (fun ls hl => ?_)
      refine lv_aload_n hx hb dX1_inOrder_19 rfl (lv_at hl 1 rfl) ?_
      refine hp_get (ci := 1) (v := .ref root) (C := RX1) (T := TX1) (N := 2) hx hb hts hin1 hown C0 hf hq rfl 0 (by decide) (hts (.fieldLink RX1 14 "RouteTrie" "root" "LRouteTrie$Node;") (by decide +kernel)) (fun _ h9 => h9) rfl dX1_inOrder_20 ?_
      refine lv_astore_n (lv' := [(3, .ref root), (2, .int k), (0, .ref q), (1, .int k)]) hx hb dX1_inOrder_23 rfl hl (by decide) rfl (fun ls hl => ?_)
      have hrt : tR t root < 2 ^ 30 := by rw [hrc root hst.1.1]; exact Nat.lt_of_le_of_lt cnt_le hbd
      obtain ⟨j, hj, rfl⟩ := nI_of h1
      have hjr : j < tR t root := (nI_ltI (by omega) (by omega)).mp h12
      exact loop 34 j j root ls _ _ rfl hst.1.1 (by omega) hjr (by rw [lo_root hst]; omega) hjr hf hS (lv_sub hl [2, 3, 1, 0] rfl)
    · refine lv_null hx hb dX1_inOrder_15 ?_
      exact hp_aret (r := none) hx hb hr hlocks C0 hf hS (by first | exact Nat.le_refl _ | omega) (by first | exact Nat.le_refl _ | omega) dX1_inOrder_16 (⟨⟨fun a e => (by cases e), fun _ => Or.inr (Int32.not_lt.mp h12)⟩, rfl⟩)
set_option maxHeartbeats 4000000 in
set_option maxRecDepth 100000 in
theorem c_X1_route (l : Launch) (D : va_G) (cy : ClassId) (base : Nat) (f : AH) (q : Nat) (N : List Nat) (t : NT) (root : Nat) (cnt : Int32) (k w : Int32) (hq : f q = some (trO root cnt)) (hT : TN f N t) (hst : ST N t root) (hrc : RC N t) (hbd : N.length < 2 ^ 30) : Met l yX1_route wsX1_route ({ frames := 2, cells := 0, slots := 0, locals := 44 }) (va_Pc [.ref q, .int k, .int w] (hp_B D cy base f)) (va_Qi (fun (r : Int32) (u : AH) => (∃ ro : Option Nat, IOp N t root k ro ∧ r = ro.elim 0 (rtA t w)) ∧ u = f) (hp_B D cy base) (hp_A base)) 0 0 (hp_A base) := by
  refine Met.ofW (cc := cX1_route) (maxL := 4) (ret := (some .int)) (by decide) rfl ?_
  intro p e s m args below meth c s₁ B hml hv
  obtain ⟨rfl, hf, C0⟩ := hv
  have hx := B.exec
  have hb := B.bytes
  have hr := B.returns
  have hts := atoms_spec (ws := wsX1_route) B.pre
  have hown : s.vm.findClass RX1 = some m.cls := findClass_of_methodNamed B.named
  have hlocks := B.notSynchronized
  have hin0 : ∀ w ∈ wsX00, w ∈ wsX1_route := by decide +kernel
  have hin1 : ∀ w ∈ wsX10, w ∈ wsX1_route := by decide +kernel
  have hS : va_S (hp_A base) s.heap s.heap [] := va_S.rf
  have hl := lv_entry ([.ref q, .int k, .int w]) (n := 4) (Nat.le_of_ble_eq_true rfl)
  rw [lg_entry_eq]
  generalize (lg_sl ([.ref q, .int k, .int w]) ++ List.replicate (4 - (lg_sl ([.ref q, .int k, .int w])).length) Slot.unset).toArray = ls at hl ⊢
  have hl : lv_has ls 4 [(0, .ref q), (1, .int k), (2, .int w)] := hl
  refine lv_aload_n hx hb dX1_route_0 rfl (lv_at hl 0 rfl) ?_
  refine lv_iload_n hx hb dX1_route_1 rfl (lv_at hl 1 rfl) ?_
  refine hp_kq (hp_rV (C := RX1) (As := [.int k]) (rest := []) ⟨hx, hb, hml, hown, hts⟩ C0 hf hS (c_X1_inOrder l D cy base f q N t root cnt k hq hT hst hrc hbd) (cwV 1 hts gX1_route_X1_inOrder rfl rfl rfl (by decide +kernel) ⟨Nat.le_of_ble_eq_true rfl, Nat.le_of_ble_eq_true rfl⟩) hq rfl rfl hl.1 rfl (Nat.le_of_ble_eq_true rfl) dX1_route_2 ⟨Nat.le_of_ble_eq_true rfl, Nat.le_of_ble_eq_true rfl⟩) hS (fun r_1 u_1 H locs hq_1 hf hS => ?_)
  obtain ⟨hr_1, hu⟩ := hq_1
  rw [hu] at hf
  refine hp_astore_nq (lv' := [(3, va_rf r_1), (0, .ref q), (1, .int k), (2, .int w)]) hx hb dX1_route_5 rfl hl (by decide) rfl (fun ls hl => ?_)
  refine hp_aload_nq (r := r_1) hx hb dX1_route_6 rfl (lv_at hl 0 rfl) ?_
  refine hp_ifnonnullq (tgt := 12) (r := r_1) hx hb dX1_route_7 (by decide) (fun x7 h7 => ?_) (fun h7 => ?_)
  · rw [h7] at hl
    have hl : lv_has ls 4 [(3, .ref x7), (0, .ref q), (1, .int k), (2, .int w)] := hl
    obtain ⟨hxN, -⟩ := hr_1.1 x7 h7
    refine lv_iload_n hx hb dX1_route_12 rfl (lv_at hl 3 rfl) ?_
    by_cases hw0 : w = 0
    · refine lv_tableIn (tgt := 40) (off := 27) hx hb dX1_route_13 (by rw [hw0]; decide) (by rw [hw0]; decide) (by rw [hw0]; decide) (by decide) ?_
      refine lv_aload_n hx hb dX1_route_40 rfl (lv_at hl 0 rfl) ?_
      refine hp_getN (ci := 0) (v := .int (tB t x7)) (own := RX1) (ref := RX0) (host := RX1) (index := 62) (C := RX0) (T := TX0) (N := 6) hx hb hts hin0 hown C0 hf (hT x7 hxN) rfl 0 (by decide) (by decide +kernel) (fun _ h9 => h9) rfl dX1_route_41 ?_
      exact hp_iret (v := tB t x7) hx hb hr hlocks C0 hf hS (by first | exact Nat.le_refl _ | omega) (by first | exact Nat.le_refl _ | omega) dX1_route_44 (⟨⟨some x7, by rw [← h7]; exact hr_1, by show _ = rtA t w x7; rw [rtA, if_pos hw0]⟩, rfl⟩)
    by_cases hw1 : w = 1
    · refine lv_tableIn (tgt := 45) (off := 32) hx hb dX1_route_13 (by rw [hw1]; decide) (by rw [hw1]; decide) (by rw [hw1]; decide) (by decide) ?_
      refine lv_aload_n hx hb dX1_route_45 rfl (lv_at hl 0 rfl) ?_
      refine hp_getN (ci := 0) (v := .int (nI (tL t x7))) (own := RX1) (ref := RX0) (host := RX1) (index := 53) (C := RX0) (T := TX0) (N := 6) hx hb hts hin0 hown C0 hf (hT x7 hxN) rfl 1 (by decide) (by decide +kernel) (fun _ h9 => h9) rfl dX1_route_46 ?_
      exact hp_iret (v := nI (tL t x7)) hx hb hr hlocks C0 hf hS (by first | exact Nat.le_refl _ | omega) (by first | exact Nat.le_refl _ | omega) dX1_route_49 (⟨⟨some x7, by rw [← h7]; exact hr_1, by show _ = rtA t w x7; rw [rtA, if_neg hw0, if_pos hw1]⟩, rfl⟩)
    by_cases hw2 : w = 2
    · refine lv_tableIn (tgt := 50) (off := 37) hx hb dX1_route_13 (by rw [hw2]; decide) (by rw [hw2]; decide) (by rw [hw2]; decide) (by decide) ?_
      refine lv_aload_n hx hb dX1_route_50 rfl (lv_at hl 0 rfl) ?_
      refine hp_getN (ci := 0) (v := .int (tH t x7)) (own := RX1) (ref := RX0) (host := RX1) (index := 22) (C := RX0) (T := TX0) (N := 6) hx hb hts hin0 hown C0 hf (hT x7 hxN) rfl 2 (by decide) (by decide +kernel) (fun _ h9 => h9) rfl dX1_route_51 ?_
      exact hp_iret (v := tH t x7) hx hb hr hlocks C0 hf hS (by first | exact Nat.le_refl _ | omega) (by first | exact Nat.le_refl _ | omega) dX1_route_54 (⟨⟨some x7, by rw [← h7]; exact hr_1, by show _ = rtA t w x7; rw [rtA, if_neg hw0, if_neg hw1, if_pos hw2]⟩, rfl⟩)
    refine lv_tableOut (tgt := 55) hx hb dX1_route_13 (by rcases (show w.toInt < 0 ∨ 2 < w.toInt ∨ w.toInt = 0 ∨ w.toInt = 1 ∨ w.toInt = 2 by omega) with q | q | q | q | q; exact Or.inl q; exact Or.inr q; exact absurd (Int32.toInt_inj.mp (q.trans (by decide))) hw0; exact absurd (Int32.toInt_inj.mp (q.trans (by decide))) hw1; exact absurd (Int32.toInt_inj.mp (q.trans (by decide))) hw2) (by decide) ?_
    refine lv_iconst (v := 0) hx hb dX1_route_55 (by decide) ?_
    exact hp_iret (v := 0) hx hb hr hlocks C0 hf hS (by first | exact Nat.le_refl _ | omega) (by first | exact Nat.le_refl _ | omega) dX1_route_56 (⟨⟨some x7, by rw [← h7]; exact hr_1, by show _ = rtA t w x7; rw [rtA, if_neg hw0, if_neg hw1, if_neg hw2]⟩, rfl⟩)
  · rw [h7] at hl
    have hl : lv_has ls 4 [(3, .null), (0, .ref q), (1, .int k), (2, .int w)] := hl
    refine lv_iconst (v := 0) hx hb dX1_route_10 (by decide) ?_
    exact hp_iret (v := 0) hx hb hr hlocks C0 hf hS (by first | exact Nat.le_refl _ | omega) (by first | exact Nat.le_refl _ | omega) dX1_route_11 (⟨⟨none, by rw [← h7]; exact hr_1, rfl⟩, rfl⟩)
end
section
/-! leading zeros, the common length, new nodes -/
def CZ (x : Int32) (k : Nat) : Prop := (k = 32 ∧ x = 0) ∨ (k < 32 ∧ 2 ^ (31 - k) ≤ x.toBitVec.toNat ∧ x.toBitVec.toNat < 2 ^ (32 - k))
theorem cz_ag {x y : Int32} {k : Nat} (h : CZ (x ^^^ y) k) : k ≤ 32 ∧ ag x y k ∧ (k < 32 → ¬ bi x k = bi y k) := by
  rcases h with ⟨h1, h2⟩ | ⟨h1, h2, h3⟩
  · subst h1
    refine ⟨Nat.le_refl _, fun i hi => ?_, fun q => absurd q (by omega)⟩
    have h4 : bi (x ^^^ y) i = bi 0 i := by rw [h2]
    rw [bi_xor, bi_lt (x := 0) hi] at h4
    rw [show bt 0 (31 - i) = false from BitVec.getLsbD_zero] at h4
    simpa using h4
  · refine ⟨by omega, fun i hi => ?_, fun _ => ?_⟩
    · have h4 : bi (x ^^^ y) i = false := by
        rw [bi_lt (by omega)]
        exact Nat.testBit_lt_two_pow (Nat.lt_of_lt_of_le h3 (Nat.pow_le_pow_right (by omega) (by omega)))
      rw [bi_xor] at h4
      simpa using h4
    · have h4 : bi (x ^^^ y) k = true := by
        rw [bi_lt h1]
        exact Nat.testBit_of_two_pow_le_and_two_pow_add_one_gt h2 (by rw [show 31 - k + 1 = 32 - k by omega]; exact h3)
      rw [bi_xor] at h4
      simpa using h4
theorem nI_addneg {a b : Nat} {m : Int32} (hm : m = -(nI b)) (h : b ≤ a) : nI a + m = nI (a - b) := by rw [hm, ← Int32.sub_eq_add_neg, pk_sub h]
theorem div_sh {V s v j : Nat} (h : V / 2 ^ s = v) : V / 2 ^ (s + j) = v / 2 ^ j := by rw [Nat.pow_add, ← Nat.div_div_eq_div_mul, h]
set_option maxHeartbeats 4000000 in
set_option maxRecDepth 100000 in
theorem c_J6_numberOfLeadingZeros_0f7a4 (l : Launch) (D : va_G) (cy : ClassId) (base : Nat) (f : AH) (x : Int32)  : Met l yJ6_numberOfLeadingZeros_0f7a4 wsJ6_numberOfLeadingZeros_0f7a4 ({ frames := 0, cells := 0, slots := 0, locals := 0 }) (va_Pc [.int x] (hp_B D cy base f)) (va_Qi (fun (r : Int32) (u : AH) => (∃ k : Nat, r = nI k ∧ CZ x k) ∧ u = f) (hp_B D cy base) (hp_A base)) 0 0 (hp_A base) := by
  refine Met.ofW (cc := cJ6_numberOfLeadingZeros_0f7a4) (maxL := 2) (ret := (some .int)) (by decide) rfl ?_
  intro p e s m args below meth c s₁ B hml hv
  obtain ⟨rfl, hf, C0⟩ := hv
  have hx := B.exec
  have hb := B.bytes
  have hr := B.returns
  have hts := atoms_spec (ws := wsJ6_numberOfLeadingZeros_0f7a4) B.pre
  have hown : s.vm.findClass RJ6 = some m.cls := findClass_of_methodNamed B.named
  have hlocks := B.notSynchronized
  have hS : va_S (hp_A base) s.heap s.heap [] := va_S.rf
  have hl := lv_entry ([.int x]) (n := 2) (Nat.le_of_ble_eq_true rfl)
  rw [lg_entry_eq]
  generalize (lg_sl ([.int x]) ++ List.replicate (2 - (lg_sl ([.int x])).length) Slot.unset).toArray = ls at hl ⊢
  have hl : lv_has ls 2 [(0, .int x)] := hl
  have j73 : ∀ (sh v : Nat) (ls : Array Slot) (H : Heap) (locs : List Loc), x.toBitVec.toNat / 2 ^ sh = v → 0 < v → v < 4 → sh + 0 ≤ 30 → hp_ok D base f H → va_S (hp_A base) s.heap H locs → lv_has ls 2 [(0, .int (nI v)), (1, .int (nI (31 - sh)))] → W p l e (headSpec wsJ6_numberOfLeadingZeros_0f7a4 ({ frames := 0, cells := 0, slots := 0, locals := 0 } : Room)).room s m #[Value.int x] below meth c H locs 0 0 (MQ below (va_Qi (fun (r : Int32) (u : AH) => (∃ k : Nat, r = nI k ∧ CZ x k) ∧ u = f) (hp_B D cy base) (hp_A base)) #[Value.int x] s 0 0 (hp_A base)) (F0 m 73 ls []) := by
    intro sh v ls H locs hV hv hB hs hf hS hl
    refine lv_iload_n hx hb dJ6_numberOfLeadingZeros_0f7a4_73 rfl (lv_at hl 1 rfl) ?_
    refine lv_iload_n hx hb dJ6_numberOfLeadingZeros_0f7a4_74 rfl (lv_at hl 0 rfl) ?_
    refine lv_iconst (v := 1) hx hb dJ6_numberOfLeadingZeros_0f7a4_75 (by decide) ?_
    refine lv_iushr hx hb dJ6_numberOfLeadingZeros_0f7a4_76 rfl ?_
    refine lv_isub hx hb dJ6_numberOfLeadingZeros_0f7a4_77 ?_
    rw [pk_ushrN (by omega) 1 1 (by decide), pk_sub (by omega)]
    exact hp_iret (v := nI (31 - sh - v / 2 ^ 1)) hx hb hr hlocks C0 hf hS (by first | exact Nat.le_refl _ | omega) (by first | exact Nat.le_refl _ | omega) dJ6_numberOfLeadingZeros_0f7a4_78 (⟨⟨31 - sh - v / 2 ^ 1, rfl, by
      have h1 : v = 1 ∨ v = 2 ∨ v = 3 := by omega
      have hd := Nat.div_add_mod x.toBitVec.toNat (2 ^ sh)
      have hm := Nat.mod_lt x.toBitVec.toNat (Nat.two_pow_pos sh)
      rw [hV] at hd
      refine Or.inr ⟨by omega, ?_⟩
      rcases h1 with e | e | e
      · subst e
        rw [show 31 - (31 - sh - 1 / 2 ^ 1) = sh by omega, show 32 - (31 - sh - 1 / 2 ^ 1) = sh + 1 by omega, Nat.pow_succ]
        omega
      · subst e
        rw [show 31 - (31 - sh - 2 / 2 ^ 1) = sh + 1 by omega, show 32 - (31 - sh - 2 / 2 ^ 1) = sh + 1 + 1 by omega, Nat.pow_succ, Nat.pow_succ]
        omega
      · subst e
        rw [show 31 - (31 - sh - 3 / 2 ^ 1) = sh + 1 by omega, show 32 - (31 - sh - 3 / 2 ^ 1) = sh + 1 + 1 by omega, Nat.pow_succ, Nat.pow_succ]
        omega⟩, rfl⟩)
  have j61 : ∀ (sh v : Nat) (ls : Array Slot) (H : Heap) (locs : List Loc), x.toBitVec.toNat / 2 ^ sh = v → 0 < v → v < 16 → sh + 2 ≤ 30 → hp_ok D base f H → va_S (hp_A base) s.heap H locs → lv_has ls 2 [(0, .int (nI v)), (1, .int (nI (31 - sh)))] → W p l e (headSpec wsJ6_numberOfLeadingZeros_0f7a4 ({ frames := 0, cells := 0, slots := 0, locals := 0 } : Room)).room s m #[Value.int x] below meth c H locs 0 0 (MQ below (va_Qi (fun (r : Int32) (u : AH) => (∃ k : Nat, r = nI k ∧ CZ x k) ∧ u = f) (hp_B D cy base) (hp_A base)) #[Value.int x] s 0 0 (hp_A base)) (F0 m 61 ls []) := by
    intro sh v ls H locs hV hv hB hs hf hS hl
    refine lv_iload_n hx hb dJ6_numberOfLeadingZeros_0f7a4_61 rfl (lv_at hl 0 rfl) ?_
    refine lv_iconst (v := 4) hx hb dJ6_numberOfLeadingZeros_0f7a4_62 (by decide) ?_
    refine lv_icmp_lt (tgt := 73) hx hb dJ6_numberOfLeadingZeros_0f7a4_63 (by decide) (fun h63 => ?_) (fun h63 => ?_)
    · exact j73 sh v ls _ _ hV hv ((nI_ltI (b := 4) (by omega) (by omega)).mp h63) (by omega) hf hS (lv_sub hl [0, 1] rfl)
    · refine lv_iinc (v := ((nI (31 - sh)) + (-2))) (lv' := [(1, .int ((nI (31 - sh)) + (-2))), (0, .int (nI v))]) hx hb dJ6_numberOfLeadingZeros_0f7a4_66 hl (k := 1) rfl rfl (by decide) rfl (fun ls hl => ?_)
      refine lv_iload_n hx hb dJ6_numberOfLeadingZeros_0f7a4_69 rfl (lv_at hl 1 rfl) ?_
      refine lv_iconst (v := 2) hx hb dJ6_numberOfLeadingZeros_0f7a4_70 (by decide) ?_
      refine lv_iushr hx hb dJ6_numberOfLeadingZeros_0f7a4_71 rfl ?_
      refine lv_istore_n (lv' := [(0, .int (((nI v : Int32).toUInt32 >>> ((2 : Int32).toUInt32 &&& Int32.toUInt32 31)).toInt32)), (1, .int ((nI (31 - sh)) + (-2)))]) hx hb dJ6_numberOfLeadingZeros_0f7a4_72 rfl hl (by decide) rfl (fun ls hl => ?_)
      have hge : 4 ≤ v := Nat.not_lt.mp (fun q => h63 ((nI_ltI (b := 4) (by omega) (by omega)).mpr q))
      have e1 : nI (31 - sh) + (-2) = nI (31 - (sh + 2)) := (nI_addneg (a := 31 - sh) (b := 2) (m := -2) rfl (by omega)).trans (by rw [show 31 - sh - 2 = 31 - (sh + 2) by omega])
      rw [pk_ushrN (by omega) 2 2 (by decide), e1] at hl
      have hdv : 0 < v / 2 ^ 2 := Nat.div_pos (by omega) (by omega)
      exact j73 (sh + 2) (v / 2 ^ 2) ls _ _ (div_sh hV) hdv (Nat.div_lt_of_lt_mul (by omega)) (by omega) hf hS (lv_sub hl [0, 1] rfl)
  have j48 : ∀ (sh v : Nat) (ls : Array Slot) (H : Heap) (locs : List Loc), x.toBitVec.toNat / 2 ^ sh = v → 0 < v → v < 256 → sh + 6 ≤ 30 → hp_ok D base f H → va_S (hp_A base) s.heap H locs → lv_has ls 2 [(0, .int (nI v)), (1, .int (nI (31 - sh)))] → W p l e (headSpec wsJ6_numberOfLeadingZeros_0f7a4 ({ frames := 0, cells := 0, slots := 0, locals := 0 } : Room)).room s m #[Value.int x] below meth c H locs 0 0 (MQ below (va_Qi (fun (r : Int32) (u : AH) => (∃ k : Nat, r = nI k ∧ CZ x k) ∧ u = f) (hp_B D cy base) (hp_A base)) #[Value.int x] s 0 0 (hp_A base)) (F0 m 48 ls []) := by
    intro sh v ls H locs hV hv hB hs hf hS hl
    refine lv_iload_n hx hb dJ6_numberOfLeadingZeros_0f7a4_48 rfl (lv_at hl 0 rfl) ?_
    refine lv_bipush (v := 16) hx hb dJ6_numberOfLeadingZeros_0f7a4_49 (by decide) ?_
    refine lv_icmp_lt (tgt := 61) hx hb dJ6_numberOfLeadingZeros_0f7a4_51 (by decide) (fun h51 => ?_) (fun h51 => ?_)
    · exact j61 sh v ls _ _ hV hv ((nI_ltI (b := 16) (by omega) (by omega)).mp h51) (by omega) hf hS (lv_sub hl [0, 1] rfl)
    · refine lv_iinc (v := ((nI (31 - sh)) + (-4))) (lv' := [(1, .int ((nI (31 - sh)) + (-4))), (0, .int (nI v))]) hx hb dJ6_numberOfLeadingZeros_0f7a4_54 hl (k := 1) rfl rfl (by decide) rfl (fun ls hl => ?_)
      refine lv_iload_n hx hb dJ6_numberOfLeadingZeros_0f7a4_57 rfl (lv_at hl 1 rfl) ?_
      refine lv_iconst (v := 4) hx hb dJ6_numberOfLeadingZeros_0f7a4_58 (by decide) ?_
      refine lv_iushr hx hb dJ6_numberOfLeadingZeros_0f7a4_59 rfl ?_
      refine lv_istore_n (lv' := [(0, .int (((nI v : Int32).toUInt32 >>> ((4 : Int32).toUInt32 &&& Int32.toUInt32 31)).toInt32)), (1, .int ((nI (31 - sh)) + (-4)))]) hx hb dJ6_numberOfLeadingZeros_0f7a4_60 rfl hl (by decide) rfl (fun ls hl => ?_)
      have hge : 16 ≤ v := Nat.not_lt.mp (fun q => h51 ((nI_ltI (b := 16) (by omega) (by omega)).mpr q))
      have e1 : nI (31 - sh) + (-4) = nI (31 - (sh + 4)) := (nI_addneg (a := 31 - sh) (b := 4) (m := -4) rfl (by omega)).trans (by rw [show 31 - sh - 4 = 31 - (sh + 4) by omega])
      rw [pk_ushrN (by omega) 4 4 (by decide), e1] at hl
      have hdv : 0 < v / 2 ^ 4 := Nat.div_pos (by omega) (by omega)
      exact j61 (sh + 4) (v / 2 ^ 4) ls _ _ (div_sh hV) hdv (Nat.div_lt_of_lt_mul (by omega)) (by omega) hf hS (lv_sub hl [0, 1] rfl)
  have j33 : ∀ (sh v : Nat) (ls : Array Slot) (H : Heap) (locs : List Loc), x.toBitVec.toNat / 2 ^ sh = v → 0 < v → v < 65536 → sh + 14 ≤ 30 → hp_ok D base f H → va_S (hp_A base) s.heap H locs → lv_has ls 2 [(0, .int (nI v)), (1, .int (nI (31 - sh)))] → W p l e (headSpec wsJ6_numberOfLeadingZeros_0f7a4 ({ frames := 0, cells := 0, slots := 0, locals := 0 } : Room)).room s m #[Value.int x] below meth c H locs 0 0 (MQ below (va_Qi (fun (r : Int32) (u : AH) => (∃ k : Nat, r = nI k ∧ CZ x k) ∧ u = f) (hp_B D cy base) (hp_A base)) #[Value.int x] s 0 0 (hp_A base)) (F0 m 33 ls []) := by
    intro sh v ls H locs hV hv hB hs hf hS hl
    refine lv_iload_n hx hb dJ6_numberOfLeadingZeros_0f7a4_33 rfl (lv_at hl 0 rfl) ?_
    refine lv_sipush (v := 256) hx hb dJ6_numberOfLeadingZeros_0f7a4_34 (by decide) ?_
    refine lv_icmp_lt (tgt := 48) hx hb dJ6_numberOfLeadingZeros_0f7a4_37 (by decide) (fun h37 => ?_) (fun h37 => ?_)
    · exact j48 sh v ls _ _ hV hv ((nI_ltI (b := 256) (by omega) (by omega)).mp h37) (by omega) hf hS (lv_sub hl [0, 1] rfl)
    · refine lv_iinc (v := ((nI (31 - sh)) + (-8))) (lv' := [(1, .int ((nI (31 - sh)) + (-8))), (0, .int (nI v))]) hx hb dJ6_numberOfLeadingZeros_0f7a4_40 hl (k := 1) rfl rfl (by decide) rfl (fun ls hl => ?_)
      refine lv_iload_n hx hb dJ6_numberOfLeadingZeros_0f7a4_43 rfl (lv_at hl 1 rfl) ?_
      refine lv_bipush (v := 8) hx hb dJ6_numberOfLeadingZeros_0f7a4_44 (by decide) ?_
      refine lv_iushr hx hb dJ6_numberOfLeadingZeros_0f7a4_46 rfl ?_
      refine lv_istore_n (lv' := [(0, .int (((nI v : Int32).toUInt32 >>> ((8 : Int32).toUInt32 &&& Int32.toUInt32 31)).toInt32)), (1, .int ((nI (31 - sh)) + (-8)))]) hx hb dJ6_numberOfLeadingZeros_0f7a4_47 rfl hl (by decide) rfl (fun ls hl => ?_)
      have hge : 256 ≤ v := Nat.not_lt.mp (fun q => h37 ((nI_ltI (b := 256) (by omega) (by omega)).mpr q))
      have e1 : nI (31 - sh) + (-8) = nI (31 - (sh + 8)) := (nI_addneg (a := 31 - sh) (b := 8) (m := -8) rfl (by omega)).trans (by rw [show 31 - sh - 8 = 31 - (sh + 8) by omega])
      rw [pk_ushrN (by omega) 8 8 (by decide), e1] at hl
      have hdv : 0 < v / 2 ^ 8 := Nat.div_pos (by omega) (by omega)
      exact j48 (sh + 8) (v / 2 ^ 8) ls _ _ (div_sh hV) hdv (Nat.div_lt_of_lt_mul (by omega)) (by omega) hf hS (lv_sub hl [0, 1] rfl)
  have j18 : ∀ (sh v : Nat) (ls : Array Slot) (H : Heap) (locs : List Loc), x.toBitVec.toNat / 2 ^ sh = v → 0 < v → v < 2147483648 → sh + 30 ≤ 30 → hp_ok D base f H → va_S (hp_A base) s.heap H locs → lv_has ls 2 [(0, .int (nI v)), (1, .int (nI (31 - sh)))] → W p l e (headSpec wsJ6_numberOfLeadingZeros_0f7a4 ({ frames := 0, cells := 0, slots := 0, locals := 0 } : Room)).room s m #[Value.int x] below meth c H locs 0 0 (MQ below (va_Qi (fun (r : Int32) (u : AH) => (∃ k : Nat, r = nI k ∧ CZ x k) ∧ u = f) (hp_B D cy base) (hp_A base)) #[Value.int x] s 0 0 (hp_A base)) (F0 m 18 ls []) := by
    intro sh v ls H locs hV hv hB hs hf hS hl
    refine lv_iload_n hx hb dJ6_numberOfLeadingZeros_0f7a4_18 rfl (lv_at hl 0 rfl) ?_
    refine lv_ldcw (own := RJ6) (index := 264) (v := 65536) hx hb hown (hts (.constant RJ6 264 65536) (by decide +kernel)) dJ6_numberOfLeadingZeros_0f7a4_19 ?_
    refine lv_icmp_lt (tgt := 33) hx hb dJ6_numberOfLeadingZeros_0f7a4_22 (by decide) (fun h22 => ?_) (fun h22 => ?_)
    · exact j33 sh v ls _ _ hV hv ((nI_ltI (b := 65536) (by omega) (by omega)).mp h22) (by omega) hf hS (lv_sub hl [0, 1] rfl)
    · refine lv_iinc (v := ((nI (31 - sh)) + (-16))) (lv' := [(1, .int ((nI (31 - sh)) + (-16))), (0, .int (nI v))]) hx hb dJ6_numberOfLeadingZeros_0f7a4_25 hl (k := 1) rfl rfl (by decide) rfl (fun ls hl => ?_)
      refine lv_iload_n hx hb dJ6_numberOfLeadingZeros_0f7a4_28 rfl (lv_at hl 1 rfl) ?_
      refine lv_bipush (v := 16) hx hb dJ6_numberOfLeadingZeros_0f7a4_29 (by decide) ?_
      refine lv_iushr hx hb dJ6_numberOfLeadingZeros_0f7a4_31 rfl ?_
      refine lv_istore_n (lv' := [(0, .int (((nI v : Int32).toUInt32 >>> ((16 : Int32).toUInt32 &&& Int32.toUInt32 31)).toInt32)), (1, .int ((nI (31 - sh)) + (-16)))]) hx hb dJ6_numberOfLeadingZeros_0f7a4_32 rfl hl (by decide) rfl (fun ls hl => ?_)
      have hge : 65536 ≤ v := Nat.not_lt.mp (fun q => h22 ((nI_ltI (b := 65536) (by omega) (by omega)).mpr q))
      have e1 : nI (31 - sh) + (-16) = nI (31 - (sh + 16)) := (nI_addneg (a := 31 - sh) (b := 16) (m := -16) rfl (by omega)).trans (by rw [show 31 - sh - 16 = 31 - (sh + 16) by omega])
      rw [pk_ushrN (by omega) 16 16 (by decide), e1] at hl
      have hdv : 0 < v / 2 ^ 16 := Nat.div_pos (by omega) (by omega)
      exact j33 (sh + 16) (v / 2 ^ 16) ls _ _ (div_sh hV) hdv (Nat.div_lt_of_lt_mul (by omega)) (by omega) hf hS (lv_sub hl [0, 1] rfl)
  refine lv_iload_n hx hb dJ6_numberOfLeadingZeros_0f7a4_0 rfl (lv_at hl 0 rfl) ?_
  refine lv_if_gt (tgt := 15) hx hb dJ6_numberOfLeadingZeros_0f7a4_1 (by decide) (fun h1 => ?_) (fun h1 => ?_)
  · refine lv_bipush (v := 31) hx hb dJ6_numberOfLeadingZeros_0f7a4_15 (by decide) ?_
    refine lv_istore_n (lv' := [(1, .int 31), (0, .int x)]) hx hb dJ6_numberOfLeadingZeros_0f7a4_17 rfl hl (by decide) rfl (fun ls hl => ?_)
    obtain ⟨v, hv, rfl⟩ := nI_of (x := x) (fun q => absurd h1 (by rw [Int32.not_lt]; exact Int32.le_of_lt q))
    have hv0 : 0 < v := Nat.pos_of_ne_zero (fun e => by rw [e] at h1; exact absurd h1 (by decide))
    exact j18 0 v ls _ _ (by rw [Nat.pow_zero, Nat.div_one]; exact pk_tn (by omega)) hv0 (by omega) (by omega) hf hS (lv_sub hl [1, 0] rfl)
  · refine lv_iload_n hx hb dJ6_numberOfLeadingZeros_0f7a4_4 rfl (lv_at hl 0 rfl) ?_
    refine lv_if_ne (tgt := 13) hx hb dJ6_numberOfLeadingZeros_0f7a4_5 (by decide) (fun h5 => ?_) (fun h5 => ?_)
    · refine lv_iconst (v := 0) hx hb dJ6_numberOfLeadingZeros_0f7a4_13 (by decide) ?_
      have hneg : x < 0 := by
        rcases Int32.lt_or_eq_of_le (Int32.not_lt.mp h1) with q | q
        · exact q
        · exact absurd q h5
      have hlt := x.toBitVec.isLt
      have hi := Int32.lt_iff_toInt_lt.mp hneg
      rw [toInt_bi] at hi
      have h0 : (0 : Int32).toInt = 0 := rfl
      have hb0 : bi x 0 = true := by
        cases hh : bi x 0 with
        | true => rfl
        | false => rw [hh, if_neg (by decide), h0] at hi; omega
      have hge : 2 ^ 31 ≤ x.toBitVec.toNat := Nat.ge_two_pow_of_testBit (by rw [bi_lt (by omega)] at hb0; exact hb0)
      exact hp_iret (v := 0) hx hb hr hlocks C0 hf hS (by first | exact Nat.le_refl _ | omega) (by first | exact Nat.le_refl _ | omega) dJ6_numberOfLeadingZeros_0f7a4_14 (⟨⟨0, rfl, Or.inr ⟨by omega, hge, hlt⟩⟩, rfl⟩)
    · refine lv_bipush (v := 32) hx hb dJ6_numberOfLeadingZeros_0f7a4_8 (by decide) ?_
      refine lv_goto (tgt := 14) hx hb dJ6_numberOfLeadingZeros_0f7a4_10 (by decide) ?_
      exact hp_iret (v := 32) hx hb hr hlocks C0 hf hS (by first | exact Nat.le_refl _ | omega) (by first | exact Nat.le_refl _ | omega) dJ6_numberOfLeadingZeros_0f7a4_14 (⟨⟨32, rfl, Or.inl ⟨rfl, h5⟩⟩, rfl⟩)
theorem min_nI {x y : Nat} (hx : x < 2 ^ 31) (hy : y < 2 ^ 31) : ∃ k : Nat, (if nI y < nI x then nI y else nI x) = nI k ∧ ((k = y ∧ y ≤ x) ∨ (k = x ∧ x ≤ y)) := by
  by_cases h : y < x
  · exact ⟨y, by rw [if_pos ((nI_ltI hy hx).mpr h)], Or.inl ⟨rfl, by omega⟩⟩
  · exact ⟨x, by rw [if_neg (fun q => h ((nI_ltI hy hx).mp q))], Or.inr ⟨rfl, by omega⟩⟩
set_option maxHeartbeats 4000000 in
set_option maxRecDepth 100000 in
theorem c_X1_commonLength (l : Launch) (D : va_G) (cy : ClassId) (base : Nat) (f : AH) (a a2 : Nat) (b1 : Int32) (n1 : Nat) (h1 r1 : Int32) (z1 o1 : Option Nat) (b2 : Int32) (n2 : Nat) (h2 r2 : Int32) (z2 o2 : Option Nat) (hn1 : n1 ≤ 32) (hn2 : n2 ≤ 32) (ha : f a = some (ndE b1 (nI n1) h1 r1 z1 o1)) (hc : f a2 = some (ndE b2 (nI n2) h2 r2 z2 o2)) : Met l yX1_commonLength wsX1_commonLength ({ frames := 1, cells := 0, slots := 0, locals := 21 }) (va_Pc [.ref a, .ref a2] (hp_B D cy base f)) (va_Qi (fun (r : Int32) (u : AH) => (∃ k : Nat, r = nI k ∧ k ≤ n1 ∧ k ≤ n2 ∧ ag b1 b2 k ∧ (k < n1 → k < n2 → ¬ bi b1 k = bi b2 k)) ∧ u = f) (hp_B D cy base) (hp_A base)) 0 0 (hp_A base) := by
  refine Met.ofW (cc := cX1_commonLength) (maxL := 3) (ret := (some .int)) (by decide) rfl ?_
  intro p e s m args below meth c s₁ B hml hv
  obtain ⟨rfl, hf, C0⟩ := hv
  have hx := B.exec
  have hb := B.bytes
  have hr := B.returns
  have hts := atoms_spec (ws := wsX1_commonLength) B.pre
  have hown : s.vm.findClass RX1 = some m.cls := findClass_of_methodNamed B.named
  have hlocks := B.notSynchronized
  have hin0 : ∀ w ∈ wsX00, w ∈ wsX1_commonLength := by decide +kernel
  have hS : va_S (hp_A base) s.heap s.heap [] := va_S.rf
  have hl := lv_entry ([.ref a, .ref a2]) (n := 3) (Nat.le_of_ble_eq_true rfl)
  rw [lg_entry_eq]
  generalize (lg_sl ([.ref a, .ref a2]) ++ List.replicate (3 - (lg_sl ([.ref a, .ref a2])).length) Slot.unset).toArray = ls at hl ⊢
  have hl : lv_has ls 3 [(0, .ref a), (1, .ref a2)] := hl
  refine lv_aload_n hx hb dX1_commonLength_0 rfl (lv_at hl 0 rfl) ?_
  refine hp_getN (ci := 0) (v := .int b1) (own := RX1) (ref := RX0) (host := RX1) (index := 62) (C := RX0) (T := TX0) (N := 6) hx hb hts hin0 hown C0 hf ha rfl 0 (by decide) (by decide +kernel) (fun _ h9 => h9) rfl dX1_commonLength_1 ?_
  refine lv_aload_n hx hb dX1_commonLength_4 rfl (lv_at hl 1 rfl) ?_
  refine hp_getN (ci := 0) (v := .int b2) (own := RX1) (ref := RX0) (host := RX1) (index := 62) (C := RX0) (T := TX0) (N := 6) hx hb hts hin0 hown C0 hf hc rfl 0 (by decide) (by decide +kernel) (fun _ h9 => h9) rfl dX1_commonLength_5 ?_
  refine lv_ixor hx hb dX1_commonLength_8 ?_
  refine hp_ki (hp_rS (As := [.int (b1 ^^^ b2)]) (rest := []) ⟨hx, hb, hml, hown, hts⟩ C0 hf hS (c_J6_numberOfLeadingZeros_0f7a4 l D cy base f (b1 ^^^ b2)) (va_cwS 1 hts gX1_commonLength_J6_numberOfLeadingZeros_0f7a4 rfl rfl rfl (by decide +kernel) ⟨Nat.le_of_ble_eq_true rfl, Nat.le_of_ble_eq_true rfl⟩) rfl hl.1 rfl (Nat.le_of_ble_eq_true rfl) dX1_commonLength_9 ⟨Nat.le_of_ble_eq_true rfl, Nat.le_of_ble_eq_true rfl⟩) hS (fun r_1 u_1 H locs hq_1 hf hS => ?_)
  obtain ⟨⟨j, rfl, hj⟩, hu⟩ := hq_1
  rw [hu] at hf
  obtain ⟨hj32, hja, hjd⟩ := cz_ag hj
  refine lv_istore_n (lv' := [(2, .int (nI j)), (0, .ref a), (1, .ref a2)]) hx hb dX1_commonLength_12 rfl hl (by decide) rfl (fun ls hl => ?_)
  refine lv_iload_n hx hb dX1_commonLength_13 rfl (lv_at hl 0 rfl) ?_
  refine lv_aload_n hx hb dX1_commonLength_14 rfl (lv_at hl 1 rfl) ?_
  refine hp_getN (ci := 0) (v := .int (nI n1)) (own := RX1) (ref := RX0) (host := RX1) (index := 53) (C := RX0) (T := TX0) (N := 6) hx hb hts hin0 hown C0 hf ha rfl 1 (by decide) (by decide +kernel) (fun _ h9 => h9) rfl dX1_commonLength_15 ?_
  refine lv_aload_n hx hb dX1_commonLength_18 rfl (lv_at hl 2 rfl) ?_
  refine hp_getN (ci := 0) (v := .int (nI n2)) (own := RX1) (ref := RX0) (host := RX1) (index := 53) (C := RX0) (T := TX0) (N := 6) hx hb hts hin0 hown C0 hf hc rfl 1 (by decide) (by decide +kernel) (fun _ h9 => h9) rfl dX1_commonLength_19 ?_
  refine va_mmin hx hb (hml.trans hl.1.symm) hown (hts (.methodLink RX1 82 Lib.Math.min.name) (by decide +kernel)) (hts (.static Lib.Math.min.name) (by decide +kernel)) (hts (.initialized "java/lang/Math") (by decide +kernel)) (hts (.code Lib.Math.min.name Lib.Math.min.code 2 (some .int)) (by decide +kernel)) (Nat.le_of_ble_eq_true rfl) (Nat.le_of_ble_eq_true rfl) (Nat.le_of_ble_eq_true rfl) (Nat.le_of_ble_eq_true rfl) dX1_commonLength_22 ?_
  obtain ⟨k_2, ek_2, hk_2⟩ := min_nI (x := n1) (y := n2) (by omega) (by omega)
  rw [ek_2]
  refine va_mmin hx hb (hml.trans hl.1.symm) hown (hts (.methodLink RX1 82 Lib.Math.min.name) (by decide +kernel)) (hts (.static Lib.Math.min.name) (by decide +kernel)) (hts (.initialized "java/lang/Math") (by decide +kernel)) (hts (.code Lib.Math.min.name Lib.Math.min.code 2 (some .int)) (by decide +kernel)) (Nat.le_of_ble_eq_true rfl) (Nat.le_of_ble_eq_true rfl) (Nat.le_of_ble_eq_true rfl) (Nat.le_of_ble_eq_true rfl) dX1_commonLength_25 ?_
  obtain ⟨k_3, ek_3, hk_3⟩ := min_nI (x := j) (y := k_2) (by omega) (by omega)
  rw [ek_3]
  exact hp_iret (v := nI k_3) hx hb hr hlocks C0 hf hS (by first | exact Nat.le_refl _ | omega) (by first | exact Nat.le_refl _ | omega) dX1_commonLength_28 (⟨⟨k_3, rfl, by omega, by omega, ag_mono hja (by omega), fun g1 g2 => by have e : k_3 = j := (by omega); rw [e]; exact hjd (by omega)⟩, rfl⟩)
set_option maxHeartbeats 4000000 in
set_option maxRecDepth 100000 in
theorem c_X1_newNode (l : Launch) (D : va_G) (cy : ClassId) (base : Nat) (f : AH) (q root : Nat) (cnt b n h : Int32) (hq : f q = some (trO root cnt)) : Met l yX1_newNode wsX1_newNode ({ frames := 2, cells := 1, slots := 6, locals := 35 }) (va_Pc [.ref q, .int b, .int n, .int h] (hp_B D cy base f)) (va_Qq (fun (r : Option Nat) (u : AH) => ∃ a : Nat, r = some a ∧ f a = none ∧ a ≠ q ∧ u = va_up (va_up f q (some (trO root (cnt + 1)))) a (some (ndE b n h (if h = -1 then 0 else 1) none none))) (hp_B D cy base) (hp_A base)) 1 6 (hp_A base) := by
  refine Met.ofW (cc := cX1_newNode) (maxL := 4) (ret := (some (.object "RouteTrie$Node"))) (by decide) rfl ?_
  intro p e s m args below meth c s₁ B hml hv
  obtain ⟨rfl, hf, C0⟩ := hv
  have hx := B.exec
  have hb := B.bytes
  have hr := B.returns
  have hts := atoms_spec (ws := wsX1_newNode) B.pre
  have hown : s.vm.findClass RX1 = some m.cls := findClass_of_methodNamed B.named
  have hlocks := B.notSynchronized
  have hin0 : ∀ w ∈ wsX00, w ∈ wsX1_newNode := by decide +kernel
  have hin1 : ∀ w ∈ wsX10, w ∈ wsX1_newNode := by decide +kernel
  have hS : va_S (hp_A base) s.heap s.heap [] := va_S.rf
  have hl := lv_entry ([.ref q, .int b, .int n, .int h]) (n := 4) (Nat.le_of_ble_eq_true rfl)
  rw [lg_entry_eq]
  generalize (lg_sl ([.ref q, .int b, .int n, .int h]) ++ List.replicate (4 - (lg_sl ([.ref q, .int b, .int n, .int h])).length) Slot.unset).toArray = ls at hl ⊢
  have hl : lv_has ls 4 [(0, .ref q), (1, .int b), (2, .int n), (3, .int h)] := hl
  refine lv_aload_n hx hb dX1_newNode_0 rfl (lv_at hl 0 rfl) ?_
  refine lv_dup hx hb dX1_newNode_1 rfl ?_
  refine hp_get (ci := 1) (v := .int cnt) (C := RX1) (T := TX1) (N := 2) hx hb hts hin1 hown C0 hf hq rfl 1 (by decide) (hts (.fieldLink RX1 18 "RouteTrie" "nodeCount" "I") (by decide +kernel)) (fun _ h9 => h9) rfl dX1_newNode_2 ?_
  refine lv_iconst (v := 1) hx hb dX1_newNode_5 (by decide) ?_
  refine lv_iadd hx hb dX1_newNode_6 ?_
  refine hp_put (ci := 1) (v := .int (cnt + 1)) (C := RX1) (T := TX1) (N := 2) hx hb hts hin1 tyX1 tyX1_ok nmX1 hown C0 hf hS hq rfl 1 (by decide) (hts (.fieldLink RX1 18 "RouteTrie" "nodeCount" "I") (by decide +kernel)) (fun _ h9 => h9) rfl rfl rfl (Nat.le_of_ble_eq_true rfl) dX1_newNode_7 (fun f_1 H locs ef_1 hf hS => ?_)
  have hc_1 : f_1 q = some (.inr (1, [.ref root, .int (cnt + 1)])) := by rw [ef_1]; exact va_up_self _ _ _
  refine hp_new (ci := 0) (fs := [.int 0, .int 0, .int 0, .int 0, .null, .null]) (C := RX0) (T := TX0) (N := 6) hx hb hts hin0 tyX0 tyX0_ok hown (hts (.classLink RX1 7 RX0) (by decide +kernel)) (hts (.instantiable RX0 6) (by decide +kernel)) (hts (.initialized RX0) (by decide +kernel)) C0 hf hS C0.1 rfl (fun j hj => by rcases (show j = 0 ∨ j = 1 ∨ j = 2 ∨ j = 3 ∨ j = 4 ∨ j = 5 by omega) with rfl | rfl | rfl | rfl | rfl | rfl <;> rfl) (Nat.le_of_ble_eq_true rfl) (Nat.le_of_ble_eq_true rfl) dX1_newNode_10 (fun a f_2 H hfr ef_2 hf hS => ?_)
  have ha : f_2 a = some (.inr (0, [.int 0, .int 0, .int 0, .int 0, .null, .null])) := by rw [ef_2]; exact va_up_self _ _ _
  have hne : a ≠ q := fun e => by rw [ef_1, e, va_up_self] at hfr; cases hfr
  have hfa : f a = none := by rw [ef_1, va_up_ne _ _ hne] at hfr; exact hfr
  refine lv_dup hx hb dX1_newNode_13 rfl ?_
  refine lv_iload_n hx hb dX1_newNode_14 rfl (lv_at hl 1 rfl) ?_
  refine lv_iload_n hx hb dX1_newNode_15 rfl (lv_at hl 2 rfl) ?_
  refine lv_iload_n hx hb dX1_newNode_16 rfl (lv_at hl 3 rfl) ?_
  refine hp_kv (hp_rIN (As := [.int b, .int n, .int h]) (rest := [.ref a]) ⟨hx, hb, hml, hown, hts⟩ C0 hf hS (c_X0_init l D cy base f_2 a b n h ha) ⟨va_cnB (host := RX1) (index := 11) 3 hts gX1_newNode_X0_init_n11 rfl rfl rfl (C0.2.2 _ (by decide +kernel)) (hts (.initialized RX0) (by decide +kernel)) (by decide +kernel) ⟨Nat.le_of_ble_eq_true rfl, Nat.le_of_ble_eq_true rfl⟩, rfl, hts (.instanceMethod yX0_init) (by decide +kernel)⟩ rfl hl.1 rfl (Nat.le_of_ble_eq_true rfl) dX1_newNode_17 ⟨Nat.le_of_ble_eq_true rfl, Nat.le_of_ble_eq_true rfl⟩) hS (fun u_3 H locs hq_3 hf hS => ?_)
  rw [hq_3, ef_2, bx_uu, ef_1] at hf
  exact hp_aret (r := some a) hx hb hr hlocks C0 hf hS (by first | exact Nat.le_refl _ | omega) (by first | exact Nat.le_refl _ | omega) dX1_newNode_20 (⟨a, rfl, hfa, hne, rfl⟩)
end
section
/-! a new node: what the tree is then -/
abbrev RT : Type := Int32 × Nat × Int32
def rdt (t : NT) (a : Nat) : RT := (tB t a, tL t a, tH t a)
def rts (N : List Nat) (t : NT) : List RT := (N.filter (isR t)).map (rdt t)
def FK (N : List Nat) (t : NT) (root : Nat) : Prop := ∀ b ∈ N, b ≠ root → isR t b = false → ∀ d, ch t b d ≠ none
def CI (N : List Nat) (t : NT) (root : Nat) : Prop := ST N t root ∧ RC N t ∧ FK N t root
def setch (r : NR) (d : Bool) (v : Option Nat) : NR := (r.1, r.2.1, r.2.2.1, r.2.2.2.1, if d = true then r.2.2.2.2.1 else v, if d = true then v else r.2.2.2.2.2)
def up1 (r : NR) : NR := (r.1, r.2.1, r.2.2.1, r.2.2.2.1 + 1, r.2.2.2.2.1, r.2.2.2.2.2)
def sethop (r : NR) (h : Int32) : NR := (r.1, r.2.1, h, r.2.2.2.1, r.2.2.2.2.1, r.2.2.2.2.2)
def bgx (t : NT) (x : Int32) (y : Nat) : Bool := fb x (tL t y) == tB t y
def inc (t : NT) (x : Int32) (j : Nat) : NT := fun y => if (bgx t x y && decide (tL t y ≤ j)) = true then up1 (t y) else t y
theorem inc_B (t : NT) (x : Int32) (j y : Nat) : tB (inc t x j) y = tB t y := by unfold inc; simp only [tB]; split <;> rfl
theorem inc_L (t : NT) (x : Int32) (j y : Nat) : tL (inc t x j) y = tL t y := by unfold inc; simp only [tL]; split <;> rfl
theorem inc_H (t : NT) (x : Int32) (j y : Nat) : tH (inc t x j) y = tH t y := by unfold inc; simp only [tH]; split <;> rfl
theorem inc_Z (t : NT) (x : Int32) (j y : Nat) : tZ (inc t x j) y = tZ t y := by unfold inc; simp only [tZ]; split <;> rfl
theorem inc_O (t : NT) (x : Int32) (j y : Nat) : tO (inc t x j) y = tO t y := by unfold inc; simp only [tO]; split <;> rfl
theorem inc_R (t : NT) (x : Int32) (j y : Nat) : tR (inc t x j) y = tR t y + (if (bgx t x y && decide (tL t y ≤ j)) = true then 1 else 0) := by unfold inc; simp only [tR]; split <;> rfl
theorem inc_ch (t : NT) (x : Int32) (j y : Nat) (d : Bool) : ch (inc t x j) y d = ch t y d := by unfold ch; rw [inc_Z, inc_O]
theorem bgx_iff {t : NT} {x : Int32} {y : Nat} (h : px (tB t y) (tL t y)) : bgx t x y = true ↔ ag (tB t y) x (tL t y) := by unfold bgx; rw [beq_iff_eq]; exact px_fb h
theorem inc_step {N : List Nat} {t : NT} {root a c y : Nat} {x : Int32} (h : ST N t root) (ha : a ∈ N) (hax : ag (tB t a) x (tL t a)) (hc : ch t a (bi x (tL t a)) = some c) (hcx : ag (tB t c) x (tL t c)) (hy : y ∈ N) (hyc : y ≠ c) : inc t x (tL t c) y = inc t x (tL t a) y := by
  obtain ⟨c1, c2, c3, c4⟩ := h.2.2.2.2.1 a ha _ c hc
  unfold inc
  by_cases hb : bgx t x y = true
  · have hyx := (bgx_iff (h.2.2.1 y hy)).mp hb
    have key : tL t y ≤ tL t c ↔ tL t y ≤ tL t a := by
      refine ⟨fun g => ?_, fun g => by omega⟩
      rcases Nat.lt_or_ge (tL t a) (tL t y) with q | q
      · obtain ⟨c', k1, k2, k3⟩ := st_step h ha hax hy hyx q
        rw [hc] at k1
        have e := Option.some.inj k1
        rw [← e] at k2
        exact absurd (h.2.2.2.1 c c1 y hy (by omega) (ag_tr hcx (ag_sy (by rw [show tL t c = tL t y by omega]; exact hyx)))).symm hyc
      · exact q
    rw [decide_eq_decide.mpr key]
  · simp [hb]
theorem inc_end {N : List Nat} {t : NT} {root a l y : Nat} {x : Int32} (h : ST N t root) (ha : a ∈ N) (hax : ag (tB t a) x (tL t a)) (hl : tL t a ≤ l) (hc : ∀ c, ch t a (bi x (tL t a)) = some c → ¬ (tL t c ≤ l ∧ ag (tB t c) x (tL t c))) (hy : y ∈ N) : inc t x (tL t a) y = inc t x l y := by
  unfold inc
  by_cases hb : bgx t x y = true
  · have hyx := (bgx_iff (h.2.2.1 y hy)).mp hb
    have key : tL t y ≤ tL t a ↔ tL t y ≤ l := by
      refine ⟨fun g => by omega, fun g => ?_⟩
      rcases Nat.lt_or_ge (tL t a) (tL t y) with q | q
      · obtain ⟨c', k1, k2, k3⟩ := st_step h ha hax hy hyx q
        exact absurd ⟨by omega, k3⟩ (hc c' k1)
      · exact q
    rw [decide_eq_decide.mpr key]
  · simp [hb]
theorem isR_eq {t t' : NT} {a : Nat} (h : tH t' a = tH t a) : isR t' a = isR t a := by unfold isR; rw [h]
theorem pb_eq {t t' : NT} {a y : Nat} (h1 : tB t' a = tB t a) (h2 : tL t' a = tL t a) (h3 : tB t' y = tB t y) (h4 : tL t' y = tL t y) : pb t' a y = pb t a y := by unfold pb; rw [h1, h2, h3, h4]
theorem rc_ins {N : List Nat} {t : NT} {root q a n : Nat} {x : Int32} (h : ST N t root) (hr : RC N t) (hq : q ∉ N) (ha : a ∈ N) (hn : tL t a < n) (hx : px x n) (hag : ag (tB t a) x (tL t a))
    (hc : ∀ c, ch t a (bi x (tL t a)) = some c → n < tL t c ∧ ag x (tB t c) n) (t' : NT) (e1 : ∀ b ∈ N, tB t' b = tB t b ∧ tL t' b = tL t b) (e2 : tB t' q = x ∧ tL t' q = n) (eh : ∀ b ∈ N, tH t' b = tH t b)
    (er : ∀ b ∈ N, tR t' b = tR t b + (if (isR t' q && pb t' b q) = true then 1 else 0)) (erq : tR t' q = (ch t a (bi x (tL t a))).elim 0 (tR t) + (if isR t' q = true then 1 else 0)) : RC (q :: N) t' := by
  intro b hb
  rw [List.countP_cons]
  rcases List.mem_cons.mp hb with k0 | hb1
  · subst k0
    have hself : pb t' b b = true := by rw [pb_iff (by rw [e2.1, e2.2]; exact hx)]; exact ⟨Nat.le_refl _, ag_rf⟩
    rw [erq, hself, Bool.and_true]
    congr 1
    have hpx : px (tB t' b) (tL t' b) := by rw [e2.1, e2.2]; exact hx
    have ext : ∀ y ∈ N, pb t' b y = true → ∃ c, ch t a (bi x (tL t a)) = some c ∧ pb t c y = true := by
      intro y hy g
      rw [pb_iff hpx, e2.1, e2.2, (e1 y hy).1, (e1 y hy).2] at g
      obtain ⟨c, k1, k2, k3⟩ := h.2.2.2.2.2 a ha y hy (by omega) (ag_tr hag (ag_mono g.2 (by omega)))
      rw [← g.2 _ hn] at k1
      exact ⟨c, k1, (pb_iff (h.2.2.1 c (h.2.2.2.2.1 a ha _ c k1).1)).mpr ⟨k2, k3⟩⟩
    cases hcc : ch t a (bi x (tL t a)) with
    | none =>
      show 0 = _
      symm
      refine List.countP_eq_zero.mpr fun y hy => ?_
      simp only [Bool.and_eq_true]
      intro g
      obtain ⟨c, k1, -⟩ := ext y hy g.2
      rw [hcc] at k1; cases k1
    | some c =>
      show tR t c = _
      have cN := (h.2.2.2.2.1 a ha _ c hcc).1
      obtain ⟨m1, m2⟩ := hc c hcc
      rw [hr c cN]
      refine cnt_congr fun y hy => ?_
      rw [isR_eq (eh y hy)]
      congr 1
      refine bool_eq ⟨fun g => ?_, fun g => ?_⟩
      · rw [pb_iff (h.2.2.1 c cN)] at g
        rw [pb_iff hpx, e2.1, e2.2, (e1 y hy).1, (e1 y hy).2]
        exact ⟨by omega, ag_tr m2 (ag_mono g.2 (by omega))⟩
      · obtain ⟨c', k1, k2⟩ := ext y hy g
        rw [hcc] at k1
        rw [Option.some.inj k1]
        exact k2
  · rw [er b hb1, hr b hb1]
    congr 1
    exact cnt_congr fun y hy => by rw [isR_eq (eh y hy), pb_eq (e1 b hb1).1 (e1 b hb1).2 (e1 y hy).1 (e1 y hy).2]
theorem rts_congr {N : List Nat} {t t' : NT} (e : ∀ a ∈ N, rdt t' a = rdt t a) : rts N t' = rts N t := by
  unfold rts
  have hH : ∀ a ∈ N, tH t' a = tH t a := fun a ha => by have := congrArg (fun z : RT => z.2.2) (e a ha); exact this
  rw [List.filter_congr (fun a ha => isR_eq (hH a ha))]
  exact List.map_congr_left (fun a ha => e a (List.mem_filter.mp ha).1)
theorem rts_cons {N : List Nat} {t : NT} {q : Nat} : rts (q :: N) t = if isR t q = true then rdt t q :: rts N t else rts N t := by
  unfold rts
  rw [List.filter_cons]
  split <;> rfl
theorem rts_perm {N N' : List Nat} {t : NT} (h : N.Perm N') : (rts N t).Perm (rts N' t) := (h.filter _).map _
/-- at most one node's data differ -/
theorem rts_one {N : List Nat} {t t' : NT} {a : Nat} (ha : a ∈ N) (hn : N.Nodup) (e : ∀ b ∈ N, b ≠ a → rdt t' b = rdt t b) : ∃ M : List Nat, a ∉ M ∧ (rts N t).Perm (rts (a :: M) t) ∧ (rts N t').Perm (rts (a :: M) t') ∧ rts M t' = rts M t := by
  refine ⟨N.erase a, ?_, rts_perm (List.perm_cons_erase ha), rts_perm (List.perm_cons_erase ha), rts_congr fun b hb => ?_⟩
  · rw [hn.mem_erase_iff]; exact fun k => k.1 rfl
  · rw [hn.mem_erase_iff] at hb
    exact e b hb.2 hb.1
theorem setch_B (r : NR) (d : Bool) (v : Option Nat) : (setch r d v).1 = r.1 := rfl
/-- a fork that was there becomes a route -/
theorem grow_A {N : List Nat} {t : NT} {root a l : Nat} {x h : Int32} (C : CI N t root) (ha : a ∈ N) (hal : tL t a = l) (hax : tB t a = x) (hno : isR t a = false) (hh : ¬ h = -1) (t' : NT) (et : ∀ y ∈ N, t' y = if y = a then sethop (inc t x l a) h else inc t x l y) :
    CI N t' root ∧ ((x, l, h) :: rts N t).Perm (rts N t') := by
  obtain ⟨hs, hr, hf⟩ := C
  have eB : ∀ y ∈ N, tB t' y = tB t y := fun y hy => by
    show (t' y).1 = _
    rw [et y hy]; split
    · next e => subst e; exact inc_B t x l y
    · exact inc_B t x l y
  have eL : ∀ y ∈ N, tL t' y = tL t y := fun y hy => by
    show (t' y).2.1 = _
    rw [et y hy]; split
    · next e => subst e; exact inc_L t x l y
    · exact inc_L t x l y
  have eZ : ∀ y ∈ N, tZ t' y = tZ t y := fun y hy => by
    show (t' y).2.2.2.2.1 = _
    rw [et y hy]; split
    · next e => subst e; exact inc_Z t x l y
    · exact inc_Z t x l y
  have eO : ∀ y ∈ N, tO t' y = tO t y := fun y hy => by
    show (t' y).2.2.2.2.2 = _
    rw [et y hy]; split
    · next e => subst e; exact inc_O t x l y
    · exact inc_O t x l y
  have eR : ∀ y ∈ N, tR t' y = tR (inc t x l) y := fun y hy => by
    show (t' y).2.2.2.1 = _
    rw [et y hy]; split
    · next e => subst e; rfl
    · rfl
  have eH : ∀ y ∈ N, tH t' y = if y = a then h else tH t y := fun y hy => by
    show (t' y).2.2.1 = _
    rw [et y hy]; split
    · rfl
    · exact inc_H t x l y
  have hRa : isR t' a = true := by rw [isR_iff, eH a ha, if_pos rfl]; exact hh
  have hRn : ∀ y ∈ N, y ≠ a → isR t' y = isR t y := fun y hy q => isR_eq (by rw [eH y hy, if_neg q])
  have hs' : ST N t' root := st_same hs (fun y hy => ⟨eB y hy, eL y hy, eZ y hy, eO y hy⟩)
  have pa := hs.2.2.1 a ha
  refine ⟨⟨hs', fun b hb => ?_, fun b hb g1 g2 d => ?_⟩, ?_⟩
  · rw [eR b hb, inc_R, hr b hb]
    have h1 : (bgx t x b && decide (tL t b ≤ l)) = pb t b a := by
      refine bool_eq ?_
      rw [pb_iff (hs.2.2.1 b hb), Bool.and_eq_true, bgx_iff (hs.2.2.1 b hb), decide_eq_true_eq, hal, hax]
      exact And.comm
    rw [h1]
    rw [cnt_split (p := fun y => isR t' y && pb t' b y) (q := fun y => isR t y && pb t b y) (r := fun y => (y == a) && pb t b a)]
    · congr 1
      cases hp : pb t b a with
      | false => simp
      | true => simp only [Bool.and_true, if_true]; exact (cnt_one hs.2.1 ha).symm
    · intro y hy
      rw [pb_eq (eB b hb) (eL b hb) (eB y hy) (eL y hy)]
      by_cases e : y = a
      · subst e
        simp [hRa, hno]
      · rw [hRn y hy e]
        simp [e]
  · have : isR t b = false := by
      by_cases e : b = a
      · rw [e] at g2; rw [g2] at hRa; cases hRa
      · rw [← hRn b hb e]; exact g2
    have h2 := hf b hb g1 this d
    unfold ch at h2 ⊢
    rw [eZ b hb, eO b hb]
    exact h2
  · obtain ⟨M, m1, m2, m3, m4⟩ := rts_one (t := t) (t' := t') ha hs.2.1 (fun b hb e => by unfold rdt; rw [eB b hb, eL b hb, eH b hb, if_neg e])
    refine List.Perm.trans (List.Perm.cons _ m2) (List.Perm.trans ?_ m3.symm)
    rw [rts_cons, rts_cons, hno, hRa, m4]
    simp only [Bool.false_eq_true, if_false, if_true]
    rw [show rdt t' a = (x, l, h) by unfold rdt; rw [eB a ha, eL a ha, eH a ha, if_pos rfl, hal, hax]]
theorem ch_setch {t : NT} {y : Nat} {r : NR} {d : Bool} {v : Option Nat} (e : t y = setch r d v) (d' : Bool) : ch t y d' = if d' = d then v else (if d' = true then r.2.2.2.2.2 else r.2.2.2.2.1) := by
  unfold ch
  simp only [tO, tZ, e, setch]
  cases d <;> cases d' <;> simp
/-- a node comes between a and what is below it on its side (or as its new child) -/
theorem ci_ins {N : List Nat} {t : NT} {root q a n : Nat} {x hp : Int32} (h : ST N t root) (hr : RC N t) (hq : q ∉ N) (ha : a ∈ N) (hn : tL t a < n) (hx : px x n) (hag : ag (tB t a) x (tL t a))
    (hc : ∀ c, ch t a (bi x (tL t a)) = some c → n < tL t c ∧ ag x (tB t c) n) (t' : NT)
    (eq : tB t' q = x ∧ tL t' q = n ∧ tH t' q = hp) (ed : ∀ b ∈ N, tB t' b = tB t b ∧ tL t' b = tL t b ∧ tH t' b = tH t b)
    (ec : ∀ b ∈ N, ∀ d, ch t' b d = if b = a ∧ d = bi x (tL t a) then some q else ch t b d)
    (eqc : ∀ d, ch t' q d = (ch t a (bi x (tL t a))).elim none (fun c => if d = bi (tB t c) n then some c else none))
    (er : ∀ b ∈ N, tR t' b = tR t b + (if (isR t' q && pb t' b q) = true then 1 else 0)) (erq : tR t' q = (ch t a (bi x (tL t a))).elim 0 (tR t) + (if isR t' q = true then 1 else 0)) :
    ST (q :: N) t' root ∧ RC (q :: N) t' := by
  refine ⟨st_ins h hq ha hn hx hag hc t' (fun b hb => ⟨(ed b hb).1, (ed b hb).2.1⟩) ⟨eq.1, eq.2.1⟩ (fun b hb d g => by rw [ec b hb, if_neg g]) (by rw [ec a ha, if_pos ⟨rfl, rfl⟩]) (fun c g => by rw [eqc, g]; simp) (fun d c g => ?_), rc_ins h hr hq ha hn hx hag hc t' (fun b hb => ⟨(ed b hb).1, (ed b hb).2.1⟩) ⟨eq.1, eq.2.1⟩ (fun b hb => (ed b hb).2.2) er erq⟩
  rw [eqc] at g
  cases hcc : ch t a (bi x (tL t a)) with
  | none => rw [hcc] at g; cases g
  | some c' =>
    rw [hcc] at g
    simp only [Option.elim] at g
    split at g
    · next e => cases g; exact ⟨rfl, e.symm⟩
    · cases g
end
section
theorem fk_of {N : List Nat} {t t' : NT} {root : Nat} (hf : FK N t root) (eh : ∀ b ∈ N, isR t' b = isR t b) (ec : ∀ b ∈ N, ∀ d, ch t' b d = none → ch t b d = none) : ∀ b ∈ N, b ≠ root → isR t' b = false → ∀ d, ch t' b d ≠ none :=
  fun b hb g1 g2 d g3 => hf b hb g1 (by rw [← eh b hb]; exact g2) d (ec b hb d g3)
theorem grow_BC {N : List Nat} {t : NT} {root a l q : Nat} {x h : Int32} (C : CI N t root) (ha : a ∈ N) (hax : ag (tB t a) x (tL t a)) (hal : tL t a < l) (hx : px x l) (hq : q ∉ N) (hh : ¬ h = -1)
    (hc : ∀ c, ch t a (bi x (tL t a)) = some c → l < tL t c ∧ ag x (tB t c) l) (t' : NT) (eN : ∀ y ∈ N, t' y = if y = a then setch (inc t x l a) (bi x (tL t a)) (some q) else inc t x l y)
    (eq : tB t' q = x ∧ tL t' q = l ∧ tH t' q = h ∧ tR t' q = (ch t a (bi x (tL t a))).elim 0 (tR t) + 1) (eqc : ∀ d, ch t' q d = (ch t a (bi x (tL t a))).elim none (fun c => if d = bi (tB t c) l then some c else none)) :
    CI (q :: N) t' root ∧ ((x, l, h) :: rts N t).Perm (rts (q :: N) t') := by
  obtain ⟨hs, hr, hf⟩ := C
  have eB : ∀ y ∈ N, tB t' y = tB t y := fun y hy => by
    show (t' y).1 = _
    rw [eN y hy]; split
    · next e => subst e; exact inc_B t x l y
    · exact inc_B t x l y
  have eL : ∀ y ∈ N, tL t' y = tL t y := fun y hy => by
    show (t' y).2.1 = _
    rw [eN y hy]; split
    · next e => subst e; exact inc_L t x l y
    · exact inc_L t x l y
  have eH : ∀ y ∈ N, tH t' y = tH t y := fun y hy => by
    show (t' y).2.2.1 = _
    rw [eN y hy]; split
    · next e => subst e; exact inc_H t x l y
    · exact inc_H t x l y
  have eR : ∀ y ∈ N, tR t' y = tR (inc t x l) y := fun y hy => by
    show (t' y).2.2.2.1 = _
    rw [eN y hy]; split
    · next e => subst e; rfl
    · rfl
  have ec : ∀ y ∈ N, ∀ d, ch t' y d = if y = a ∧ d = bi x (tL t a) then some q else ch t y d := fun y hy d => by
    by_cases e : y = a
    · subst e
      have e2 := eN y hy
      rw [if_pos rfl] at e2
      rw [ch_setch e2]
      by_cases g : d = bi x (tL t y)
      · rw [if_pos g, if_pos ⟨rfl, g⟩]
      · rw [if_neg g, show (if y = y ∧ d = bi x (tL t y) then some q else ch t y d) = ch t y d from if_neg (fun k => g k.2), ← inc_ch t x l y d]; rfl
    · rw [if_neg (fun k => e k.1), ← inc_ch t x l y d]
      have e2 := eN y hy
      rw [if_neg e] at e2
      unfold ch; simp only [tO, tZ, e2]
  have hRq : isR t' q = true := by rw [isR_iff, eq.2.2.1]; exact hh
  obtain ⟨k1, k2⟩ := ci_ins (hp := h) hs hr hq ha hal hx hax hc t' ⟨eq.1, eq.2.1, eq.2.2.1⟩ (fun b hb => ⟨eB b hb, eL b hb, eH b hb⟩) ec eqc (fun b hb => by
    rw [eR b hb, inc_R, hRq, Bool.true_and]
    congr 2
    unfold pb bgx
    rw [eq.1, eq.2.1, eB b hb, eL b hb, Bool.and_comm]) (by rw [eq.2.2.2, hRq]; rfl)
  refine ⟨⟨k1, k2, fun b hb g1 g2 => ?_⟩, ?_⟩
  · rcases List.mem_cons.mp hb with k0 | hb1
    · rw [k0, hRq] at g2; cases g2
    · exact fk_of hf (fun b hb => isR_eq (eH b hb)) (fun b hb d g => by
        rw [ec b hb d] at g
        split at g
        · cases g
        · exact g) b hb1 g1 g2
  · rw [rts_cons, hRq, if_pos rfl, rts_congr (t := t) (t' := t') (fun b hb => by unfold rdt; rw [eB b hb, eL b hb, eH b hb])]
    rw [show rdt t' q = (x, l, h) by unfold rdt; rw [eq.1, eq.2.1, eq.2.2.1]]
theorem grow_D {N : List Nat} {t : NT} {root a l q g c k : Nat} {x h : Int32} (C : CI N t root) (ha : a ∈ N) (hax : ag (tB t a) x (tL t a)) (hal : tL t a < l) (hx : px x l) (hq : q ∉ N) (hg : g ∉ N) (hqg : q ≠ g) (hh : ¬ h = -1)
    (hc : ch t a (bi x (tL t a)) = some c) (kl : k < l) (kc : k < tL t c) (kag : ag (tB t c) x k) (kd : ¬ bi (tB t c) k = bi x k) (t' : NT) (eN : ∀ y ∈ N, t' y = if y = a then setch (inc t x l a) (bi x (tL t a)) (some g) else inc t x l y)
    (eq : t' q = (x, l, h, 1, none, none)) (eg : tB t' g = fb x k ∧ tL t' g = k ∧ tH t' g = -1 ∧ tR t' g = tR t c + 1) (egc : ∀ d, ch t' g d = if d = bi x k then some q else some c) :
    CI (q :: g :: N) t' root ∧ ((x, l, h) :: rts N t).Perm (rts (q :: g :: N) t') := by
  obtain ⟨hs, hr, hf⟩ := C
  have k32 : k ≤ 32 := by have := hx.1; omega
  obtain ⟨c1, c2, c3, c4⟩ := hs.2.2.2.2.1 a ha _ c hc
  have hak : tL t a < k := by
    rcases Nat.lt_trichotomy (tL t a) k with z | z | z
    · exact z
    · exact absurd (by rw [← z]; exact c4) kd
    · exact absurd ((c3 k z).symm.trans (hax k z)) kd
  have ga : g ≠ a := fun e => hg (e ▸ ha)
  have gN : ∀ y ∈ N, y ≠ g := fun y hy e => hg (e ▸ hy)
  have hbk : bi (fb x k) (tL t a) = bi x (tL t a) := fb_ag k32 _ hak
  -- the fork alone
  obtain ⟨t1, et1⟩ : ∃ t1 : NT, t1 = fun y => if y = g then (fb x k, k, (-1 : Int32), tR t c, if bi (tB t c) k = true then none else some c, if bi (tB t c) k = true then some c else none) else if y = a then setch (t a) (bi x (tL t a)) (some g) else t y := ⟨_, rfl⟩
  have t1g : t1 g = (fb x k, k, (-1 : Int32), tR t c, if bi (tB t c) k = true then none else some c, if bi (tB t c) k = true then some c else none) := by rw [et1]; simp
  have t1N : ∀ y ∈ N, t1 y = if y = a then setch (t a) (bi x (tL t a)) (some g) else t y := fun y hy => by rw [et1]; simp [gN y hy]
  have d1 : ∀ y ∈ N, tB t1 y = tB t y ∧ tL t1 y = tL t y ∧ tH t1 y = tH t y ∧ tR t1 y = tR t y := fun y hy => by
    simp only [tB, tL, tH, tR]
    rw [t1N y hy]; split
    · next e => subst e; exact ⟨rfl, rfl, rfl, rfl⟩
    · exact ⟨rfl, rfl, rfl, rfl⟩
  have c1' : ∀ y ∈ N, ∀ d, ch t1 y d = if y = a ∧ d = bi x (tL t a) then some g else ch t y d := fun y hy d => by
    by_cases e : y = a
    · subst e
      have e2 := t1N y hy
      rw [if_pos rfl] at e2
      rw [ch_setch e2]
      by_cases z : d = bi x (tL t y)
      · rw [if_pos z, if_pos ⟨rfl, z⟩]
      · rw [if_neg z, show (if y = y ∧ d = bi x (tL t y) then some g else ch t y d) = ch t y d from if_neg (fun k => z k.2)]; rfl
    · rw [if_neg (fun k => e k.1)]
      have e2 := t1N y hy
      rw [if_neg e] at e2
      unfold ch; simp only [tO, tZ, e2]
  have hRg1 : isR t1 g = false := by unfold isR; simp only [tH]; rw [t1g]; rfl
  have cg1 : ∀ d, ch t1 g d = if d = bi (tB t c) k then some c else none := fun d => by
    unfold ch; simp only [tO, tZ]; rw [t1g]
    cases d <;> cases bi (tB t c) k <;> simp
  obtain ⟨s1, r1⟩ := ci_ins (hp := -1) (q := g) (n := k) (x := fb x k) hs hr hg ha hak (fb_px k32) (ag_tr hax (ag_sy (ag_mono (fb_ag k32) (by omega)))) (fun c' e => by
      rw [hbk, hc] at e; cases e
      exact ⟨kc, ag_tr (fb_ag k32) (ag_sy kag)⟩) t1 ⟨by simp only [tB]; rw [t1g], by simp only [tL]; rw [t1g], by simp only [tH]; rw [t1g]⟩ (fun b hb => ⟨(d1 b hb).1, (d1 b hb).2.1, (d1 b hb).2.2.1⟩)
      (fun b hb d => by rw [hbk]; exact c1' b hb d) (fun d => by rw [hbk, hc]; exact cg1 d) (fun b hb => by rw [(d1 b hb).2.2.2, hRg1]; rfl) (by rw [hbk, hc, hRg1]; simp only [tR]; rw [t1g]; rfl)
  -- the route below it
  have gB : tB t1 g = fb x k := by simp only [tB]; rw [t1g]
  have gL : tL t1 g = k := by simp only [tL]; rw [t1g]
  have gR : tR t1 g = tR t c := by simp only [tR]; rw [t1g]
  have gH : tH t1 g = -1 := by simp only [tH]; rw [t1g]
  have qB : tB t' q = x := by simp only [tB]; rw [eq]
  have qL : tL t' q = l := by simp only [tL]; rw [eq]
  have qH : tH t' q = h := by simp only [tH]; rw [eq]
  have qR : tR t' q = 1 := by simp only [tR]; rw [eq]
  have hRq : isR t' q = true := by rw [isR_iff, qH]; exact hh
  have nog : ch t1 g (bi x k) = none := by rw [cg1, if_neg (fun e => kd e.symm)]
  have eB : ∀ y ∈ N, tB t' y = tB t y := fun y hy => by
    show (t' y).1 = _
    rw [eN y hy]; split
    · next e => subst e; exact inc_B t x l y
    · exact inc_B t x l y
  have eL : ∀ y ∈ N, tL t' y = tL t y := fun y hy => by
    show (t' y).2.1 = _
    rw [eN y hy]; split
    · next e => subst e; exact inc_L t x l y
    · exact inc_L t x l y
  have eH : ∀ y ∈ N, tH t' y = tH t y := fun y hy => by
    show (t' y).2.2.1 = _
    rw [eN y hy]; split
    · next e => subst e; exact inc_H t x l y
    · exact inc_H t x l y
  have eR : ∀ y ∈ N, tR t' y = tR (inc t x l) y := fun y hy => by
    show (t' y).2.2.2.1 = _
    rw [eN y hy]; split
    · next e => subst e; rfl
    · rfl
  have ec : ∀ y ∈ N, ∀ d, ch t' y d = ch t1 y d := fun y hy d => by
    rw [c1' y hy]
    by_cases e : y = a
    · subst e
      have e2 := eN y hy
      rw [if_pos rfl] at e2
      rw [ch_setch e2]
      by_cases z : d = bi x (tL t y)
      · rw [if_pos z, if_pos ⟨rfl, z⟩]
      · rw [if_neg z, show (if y = y ∧ d = bi x (tL t y) then some g else ch t y d) = ch t y d from if_neg (fun k => z k.2), ← inc_ch t x l y d]; rfl
    · rw [if_neg (fun k => e k.1), ← inc_ch t x l y d]
      have e2 := eN y hy
      rw [if_neg e] at e2
      unfold ch; simp only [tO, tZ, e2]
  have hpq : ∀ b, px (tB t1 b) (tL t1 b) → tB t' b = tB t1 b → tL t' b = tL t1 b → pb t' b q = (bgx t1 x b && decide (tL t1 b ≤ l)) := fun b hp g1 g2 => by
    unfold pb bgx; rw [qB, qL, g1, g2, Bool.and_comm]
  obtain ⟨s2, r2⟩ := ci_ins (hp := h) (q := q) (n := l) (x := x) (a := g) s1 r1 (fun z => (List.mem_cons.mp z).elim hqg hq) List.mem_cons_self (by rw [gL]; exact kl) hx (by rw [gB, gL]; exact fb_ag k32) (fun c' e => by rw [gL, nog] at e; cases e) t' ⟨qB, qL, qH⟩
    (fun b hb => by
      rcases List.mem_cons.mp hb with k0 | hb1
      · rw [k0]; exact ⟨eg.1.trans gB.symm, eg.2.1.trans gL.symm, eg.2.2.1.trans gH.symm⟩
      · rw [eB b hb1, eL b hb1, eH b hb1, (d1 b hb1).1, (d1 b hb1).2.1, (d1 b hb1).2.2.1]; exact ⟨rfl, rfl, rfl⟩)
    (fun b hb d => by
      rcases List.mem_cons.mp hb with k0 | hb1
      · rw [k0, egc, gL, cg1]
        by_cases z : d = bi x k
        · rw [if_pos z, if_pos ⟨rfl, z⟩]
        · rw [if_neg z, if_neg (fun w => z w.2), if_pos (by revert z kd; cases d <;> cases bi x k <;> cases bi (tB t c) k <;> simp)]
      · rw [if_neg (fun w => gN b hb1 w.1)]; exact ec b hb1 d)
    (fun d => by rw [gL, nog]; unfold ch; simp only [tO, tZ]; rw [eq]; cases d <;> rfl)
    (fun b hb => by
      rw [hRq, Bool.true_and]
      rcases List.mem_cons.mp hb with k0 | hb1
      · rw [k0, eg.2.2.2, gR]
        have : pb t' g q = true := by
          rw [pb_iff (by rw [eg.1, eg.2.1]; exact fb_px k32), qB, qL, eg.1, eg.2.1]
          exact ⟨by omega, fb_ag k32⟩
        rw [this]; rfl
      · rw [eR b hb1, inc_R, (d1 b hb1).2.2.2]
        congr 2
        unfold pb bgx
        rw [qB, qL, eB b hb1, eL b hb1, Bool.and_comm])
    (by rw [gL, nog, qR, hRq]; rfl)
  have hRg : isR t' g = false := by unfold isR; rw [eg.2.2.1]; rfl
  refine ⟨⟨s2, r2, fun b hb g1 g2 => ?_⟩, ?_⟩
  · rcases List.mem_cons.mp hb with k0 | hb1
    · rw [k0, hRq] at g2; cases g2
    · rcases List.mem_cons.mp hb1 with k0 | hb2
      · intro d e; rw [k0, egc] at e; split at e <;> cases e
      · exact fk_of hf (fun b hb => isR_eq (eH b hb)) (fun b hb d z => by
          rw [ec b hb d, c1' b hb d] at z
          split at z
          · cases z
          · exact z) b hb2 g1 g2
  · rw [rts_cons, hRq, if_pos rfl, rts_cons, hRg, if_neg (by decide), rts_congr (t := t) (t' := t') (fun b hb => by unfold rdt; rw [eB b hb, eL b hb, eH b hb])]
    rw [show rdt t' q = (x, l, h) by unfold rdt; rw [qB, qL, qH]]
end
section
/-! joined -/
theorem g1_n {n : Nat} {x : Int32} (hn : n < 32) : g1I (nI n) x ↔ bi x n = true := by rw [g1_bi (by omega)]; exact ⟨fun h => h.2, fun h => ⟨hn, h⟩⟩
set_option maxHeartbeats 4000000 in
set_option maxRecDepth 100000 in
theorem c_X1_joined_none (l : Launch) (D : va_G) (cy : ClassId) (base : Nat) (f : AH) (q fr : Nat)  : Met l yX1_joined wsX1_joined ({ frames := 4, cells := 1, slots := 6, locals := 58 }) (va_Pc [.ref q, .null, .ref fr] (hp_B D cy base f)) (va_Qq (fun (r : Option Nat) (u : AH) => r = some fr ∧ u = f) (hp_B D cy base) (hp_A base)) 1 6 (hp_A base) := by
  refine Met.ofW (cc := cX1_joined) (maxL := 5) (ret := (some (.object "RouteTrie$Node"))) (by decide) rfl ?_
  intro p e s m args below meth c s₁ B hml hv
  obtain ⟨rfl, hf, C0⟩ := hv
  have hx := B.exec
  have hb := B.bytes
  have hr := B.returns
  have hts := atoms_spec (ws := wsX1_joined) B.pre
  have hown : s.vm.findClass RX1 = some m.cls := findClass_of_methodNamed B.named
  have hlocks := B.notSynchronized
  have hS : va_S (hp_A base) s.heap s.heap [] := va_S.rf
  have hl := lv_entry ([.ref q, .null, .ref fr]) (n := 5) (Nat.le_of_ble_eq_true rfl)
  rw [lg_entry_eq]
  generalize (lg_sl ([.ref q, .null, .ref fr]) ++ List.replicate (5 - (lg_sl ([.ref q, .null, .ref fr])).length) Slot.unset).toArray = ls at hl ⊢
  have hl : lv_has ls 5 [(0, .ref q), (1, .null), (2, .ref fr)] := hl
  refine lv_aload_nN hx hb dX1_joined_0 rfl (lv_at hl 1 rfl) ?_
  refine lv_ifnonnullN hx hb dX1_joined_1 ?_
  refine lv_aload_n hx hb dX1_joined_4 rfl (lv_at hl 2 rfl) ?_
  exact hp_aret (r := some fr) hx hb hr hlocks C0 hf hS (by first | exact Nat.le_refl _ | omega) (by first | exact Nat.le_refl _ | omega) dX1_joined_5 (⟨rfl, rfl⟩)
set_option maxHeartbeats 4000000 in
set_option maxRecDepth 100000 in
theorem c_X1_joined_some (l : Launch) (D : va_G) (cy : ClassId) (base : Nat) (f : AH) (q root : Nat) (cnt : Int32) (c2 : Nat) (cb : Int32) (cl : Nat) (chh : Int32) (cr : Nat) (cz co : Option Nat) (fr : Nat) (xb : Int32) (xl : Nat) (xh xr : Int32) (hq : f q = some (trO root cnt)) (hc2 : f c2 = some (ndE cb (nI cl) chh (nI cr) cz co)) (hfr : f fr = some (ndE xb (nI xl) xh xr none none)) (hne : c2 ≠ fr) (hcl : cl ≤ 32) (hx0 : px xb xl) (hnb : ¬ (cl ≤ xl ∧ ag cb xb cl)) : Met l yX1_joined wsX1_joined ({ frames := 4, cells := 1, slots := 6, locals := 58 }) (va_Pc [.ref q, .ref c2, .ref fr] (hp_B D cy base f)) (va_Qq (fun (r : Option Nat) (u : AH) => ((xl < cl ∧ ag xb cb xl) ∧ r = some fr ∧ u = va_up f fr (some (ndE xb (nI xl) xh (nI (cr + 1)) (if bi cb xl = true then none else some c2) (if bi cb xl = true then some c2 else none)))) ∨ ∃ (k g : Nat), k < xl ∧ k < cl ∧ ag cb xb k ∧ (¬ bi cb k = bi xb k) ∧ r = some g ∧ f g = none ∧ g ≠ q ∧ u = va_up (va_up f q (some (trO root (cnt + 1)))) g (some (ndE (fb xb k) (nI k) (-1) (nI (cr + 1)) (if bi xb k = true then some c2 else some fr) (if bi xb k = true then some fr else some c2)))) (hp_B D cy base) (hp_A base)) 1 6 (hp_A base) := by
  refine Met.ofW (cc := cX1_joined) (maxL := 5) (ret := (some (.object "RouteTrie$Node"))) (by decide) rfl ?_
  intro p e s m args below meth c s₁ B hml hv
  obtain ⟨rfl, hf, C0⟩ := hv
  have hx := B.exec
  have hb := B.bytes
  have hr := B.returns
  have hts := atoms_spec (ws := wsX1_joined) B.pre
  have hown : s.vm.findClass RX1 = some m.cls := findClass_of_methodNamed B.named
  have hlocks := B.notSynchronized
  have hin0 : ∀ w ∈ wsX00, w ∈ wsX1_joined := by decide +kernel
  have hin1 : ∀ w ∈ wsX10, w ∈ wsX1_joined := by decide +kernel
  have hS : va_S (hp_A base) s.heap s.heap [] := va_S.rf
  have hl := lv_entry ([.ref q, .ref c2, .ref fr]) (n := 5) (Nat.le_of_ble_eq_true rfl)
  rw [lg_entry_eq]
  generalize (lg_sl ([.ref q, .ref c2, .ref fr]) ++ List.replicate (5 - (lg_sl ([.ref q, .ref c2, .ref fr])).length) Slot.unset).toArray = ls at hl ⊢
  have hl : lv_has ls 5 [(0, .ref q), (1, .ref c2), (2, .ref fr)] := hl
  refine lv_aload_n hx hb dX1_joined_0 rfl (lv_at hl 1 rfl) ?_
  refine lv_ifnonnull (tgt := 6) hx hb dX1_joined_1 (by decide) ?_
  refine lv_aload_n hx hb dX1_joined_6 rfl (lv_at hl 1 rfl) ?_
  refine lv_aload_n hx hb dX1_joined_7 rfl (lv_at hl 2 rfl) ?_
  refine hp_ki (hp_rS (As := [.ref c2, .ref fr]) (rest := []) ⟨hx, hb, hml, hown, hts⟩ C0 hf hS (c_X1_commonLength l D cy base f c2 fr cb cl chh (nI cr) cz co xb xl xh xr none none hcl hx0.1 hc2 hfr) (va_cwS 2 hts gX1_joined_X1_commonLength rfl rfl rfl (by decide +kernel) ⟨Nat.le_of_ble_eq_true rfl, Nat.le_of_ble_eq_true rfl⟩) rfl hl.1 rfl (Nat.le_of_ble_eq_true rfl) dX1_joined_8 ⟨Nat.le_of_ble_eq_true rfl, Nat.le_of_ble_eq_true rfl⟩) hS (fun r_1 u_1 H locs hq_1 hf hS => ?_)
  obtain ⟨⟨k, rfl, k1, k2, k3, k4⟩, hu⟩ := hq_1
  rw [hu] at hf
  have x32 := hx0.1
  refine lv_istore_n (lv' := [(3, .int (nI k)), (0, .ref q), (1, .ref c2), (2, .ref fr)]) hx hb dX1_joined_11 rfl hl (by decide) rfl (fun ls hl => ?_)
  refine lv_aload_n hx hb dX1_joined_12 rfl (lv_at hl 3 rfl) ?_
  refine lv_astore (lv' := [(4, .ref fr), (3, .int (nI k)), (0, .ref q), (1, .ref c2), (2, .ref fr)]) hx hb dX1_joined_13 hl (by decide) rfl (fun ls hl => ?_)
  refine lv_iload_n hx hb dX1_joined_15 rfl (lv_at hl 1 rfl) ?_
  refine lv_aload_n hx hb dX1_joined_16 rfl (lv_at hl 4 rfl) ?_
  refine hp_getN (ci := 0) (v := .int (nI xl)) (own := RX1) (ref := RX0) (host := RX1) (index := 53) (C := RX0) (T := TX0) (N := 6) hx hb hts hin0 hown C0 hf hfr rfl 1 (by decide) (by decide +kernel) (fun _ h9 => h9) rfl dX1_joined_17 ?_
  refine lv_icmp_ge (tgt := 45) hx hb dX1_joined_20 (by decide) (fun h20 => ?_) (fun h20 => ?_)
  · have hke : k = xl := by have := (nI_leI (a := xl) (b := k) (by omega) (by omega)).mp h20; omega
    subst hke
    have hlt : k < cl := by rcases Nat.lt_or_ge k cl with z | z; exact z; exact absurd ⟨z, ag_mono k3 z⟩ hnb
    refine lv_aload hx hb dX1_joined_45 (lv_at hl 0 rfl) ?_
    refine lv_aload_n hx hb dX1_joined_47 rfl (lv_at hl 3 rfl) ?_
    refine hp_kv (hp_rVN (C := RX0) (As := [.ref c2]) (rest := []) ⟨hx, hb, hml, hown, hts⟩ C0 hf hS (c_X0_hang l D cy base f fr xb (nI k) xh xr none none c2 cb (nI cl) chh (nI cr) cz co hfr hc2) ⟨va_cnB (host := RX1) (index := 99) 1 hts gX1_joined_X0_hang_n99 rfl rfl rfl (C0.2.2 _ (by decide +kernel)) (hts (.initialized RX0) (by decide +kernel)) (by decide +kernel) ⟨Nat.le_of_ble_eq_true rfl, Nat.le_of_ble_eq_true rfl⟩, hts (.instanceMethod yX0_hang) (by decide +kernel), hts (.selects RX0 yX0_hang yX0_hang) (by decide +kernel)⟩ hfr rfl rfl hl.1 rfl (Nat.le_of_ble_eq_true rfl) dX1_joined_48 ⟨Nat.le_of_ble_eq_true rfl, Nat.le_of_ble_eq_true rfl⟩) hS (fun u_2 H locs hq_2 hf hS => ?_)
    rcases hq_2 with ⟨dy, ey⟩ | ⟨dy, ey⟩
    · rw [g1_n (by omega)] at dy
      have ky_fr : u_2 fr = some (.inr (0, [.int xb, .int (nI k), .int xh, .int xr, .null, .ref c2])) := by rw [ey]; exact va_up_self _ _ _
      have ky_c2 : u_2 c2 = some (.inr (0, [.int cb, .int (nI cl), .int chh, .int (nI cr), va_rf cz, va_rf co])) := by rw [ey, va_up_ne _ _ hne]; exact hc2
      refine lv_aload hx hb dX1_joined_51 (lv_at hl 0 rfl) ?_
      refine lv_aload_n hx hb dX1_joined_53 rfl (lv_at hl 3 rfl) ?_
      refine hp_getN (ci := 0) (v := .int (nI cr)) (own := RX1) (ref := RX0) (host := RX1) (index := 25) (C := RX0) (T := TX0) (N := 6) hx hb hts hin0 hown C0 hf ky_c2 rfl 3 (by decide) (by decide +kernel) (fun _ h9 => h9) rfl dX1_joined_54 ?_
      refine lv_iconst (v := 1) hx hb dX1_joined_57 (by decide) ?_
      refine lv_iadd hx hb dX1_joined_58 ?_
      refine hp_putN (ci := 0) (v := .int ((nI cr) + 1)) (own := RX1) (ref := RX0) (host := RX1) (index := 25) (C := RX0) (T := TX0) (N := 6) hx hb hts hin0 tyX0 tyX0_ok nmX0 hown C0 hf hS ky_fr rfl 3 (by decide) (by decide +kernel) (fun _ h9 => h9) rfl rfl rfl (Nat.le_of_ble_eq_true rfl) dX1_joined_59 (fun f_3 H locs ef_3 hf hS => ?_)
      have hc_3 : f_3 fr = some (.inr (0, [.int xb, .int (nI k), .int xh, .int ((nI cr) + 1), .null, .ref c2])) := by rw [ef_3]; exact va_up_self _ _ _
      have hc_3_c2 : f_3 c2 = some (.inr (0, [.int cb, .int (nI cl), .int chh, .int (nI cr), va_rf cz, va_rf co])) := by rw [ef_3, va_up_ne _ _ hne]; exact ky_c2
      refine lv_aload hx hb dX1_joined_62 (lv_at hl 0 rfl) ?_
      exact hp_aret (r := some fr) hx hb hr hlocks C0 hf hS (by first | exact Nat.le_refl _ | omega) (by first | exact Nat.le_refl _ | omega) dX1_joined_64 (Or.inl ⟨⟨hlt, ag_sy k3⟩, rfl, by rw [ef_3, ey, bx_uu, if_pos dy, if_pos dy, nI_1]; rfl⟩)
    · rw [g1_n (by omega)] at dy
      have ky_fr : u_2 fr = some (.inr (0, [.int xb, .int (nI k), .int xh, .int xr, .ref c2, .null])) := by rw [ey]; exact va_up_self _ _ _
      have ky_c2 : u_2 c2 = some (.inr (0, [.int cb, .int (nI cl), .int chh, .int (nI cr), va_rf cz, va_rf co])) := by rw [ey, va_up_ne _ _ hne]; exact hc2
      refine lv_aload hx hb dX1_joined_51 (lv_at hl 0 rfl) ?_
      refine lv_aload_n hx hb dX1_joined_53 rfl (lv_at hl 3 rfl) ?_
      refine hp_getN (ci := 0) (v := .int (nI cr)) (own := RX1) (ref := RX0) (host := RX1) (index := 25) (C := RX0) (T := TX0) (N := 6) hx hb hts hin0 hown C0 hf ky_c2 rfl 3 (by decide) (by decide +kernel) (fun _ h9 => h9) rfl dX1_joined_54 ?_
      refine lv_iconst (v := 1) hx hb dX1_joined_57 (by decide) ?_
      refine lv_iadd hx hb dX1_joined_58 ?_
      refine hp_putN (ci := 0) (v := .int ((nI cr) + 1)) (own := RX1) (ref := RX0) (host := RX1) (index := 25) (C := RX0) (T := TX0) (N := 6) hx hb hts hin0 tyX0 tyX0_ok nmX0 hown C0 hf hS ky_fr rfl 3 (by decide) (by decide +kernel) (fun _ h9 => h9) rfl rfl rfl (Nat.le_of_ble_eq_true rfl) dX1_joined_59 (fun f_4 H locs ef_4 hf hS => ?_)
      have hc_4 : f_4 fr = some (.inr (0, [.int xb, .int (nI k), .int xh, .int ((nI cr) + 1), .ref c2, .null])) := by rw [ef_4]; exact va_up_self _ _ _
      have hc_4_c2 : f_4 c2 = some (.inr (0, [.int cb, .int (nI cl), .int chh, .int (nI cr), va_rf cz, va_rf co])) := by rw [ef_4, va_up_ne _ _ hne]; exact ky_c2
      refine lv_aload hx hb dX1_joined_62 (lv_at hl 0 rfl) ?_
      exact hp_aret (r := some fr) hx hb hr hlocks C0 hf hS (by first | exact Nat.le_refl _ | omega) (by first | exact Nat.le_refl _ | omega) dX1_joined_64 (Or.inl ⟨⟨hlt, ag_sy k3⟩, rfl, by rw [ef_4, ey, bx_uu, if_neg dy, if_neg dy, nI_1]; rfl⟩)
  · have hkl : k < xl := Nat.not_le.mp (fun z => h20 ((nI_leI (by omega) (by omega)).mpr z))
    have hkc : k < cl := by rcases Nat.lt_or_ge k cl with z | z; exact z; exact absurd ⟨by omega, ag_mono k3 z⟩ hnb
    have hkd := k4 hkc hkl
    refine lv_aload_n hx hb dX1_joined_23 rfl (lv_at hl 2 rfl) ?_
    refine lv_aload_n hx hb dX1_joined_24 rfl (lv_at hl 4 rfl) ?_
    refine hp_getN (ci := 0) (v := .int xb) (own := RX1) (ref := RX0) (host := RX1) (index := 62) (C := RX0) (T := TX0) (N := 6) hx hb hts hin0 hown C0 hf hfr rfl 0 (by decide) (by decide +kernel) (fun _ h9 => h9) rfl dX1_joined_25 ?_
    refine lv_iload_n hx hb dX1_joined_28 rfl (lv_at hl 1 rfl) ?_
    refine hp_ki (hp_rS (As := [.int xb, .int (nI k)]) (rest := [.ref q]) ⟨hx, hb, hml, hown, hts⟩ C0 hf hS (c_X1_firstBits l D cy base f xb (nI k)) (va_cwS 2 hts gX1_joined_X1_firstBits rfl rfl rfl (by decide +kernel) ⟨Nat.le_of_ble_eq_true rfl, Nat.le_of_ble_eq_true rfl⟩) rfl hl.1 rfl (Nat.le_of_ble_eq_true rfl) dX1_joined_29 ⟨Nat.le_of_ble_eq_true rfl, Nat.le_of_ble_eq_true rfl⟩) hS (fun r_5 u_5 H locs hq_5 hf hS => ?_)
    obtain ⟨rfl, hu⟩ := hq_5
    rw [hu] at hf
    rw [fbI_fb]
    refine lv_iload_n hx hb dX1_joined_32 rfl (lv_at hl 1 rfl) ?_
    refine lv_iconst (v := (-1)) hx hb dX1_joined_33 (by decide) ?_
    refine hp_kq (hp_rV (C := RX1) (As := [.int (fb xb k), .int (nI k), .int (-1)]) (rest := []) ⟨hx, hb, hml, hown, hts⟩ C0 hf hS (c_X1_newNode l D cy base f q root cnt (fb xb k) (nI k) (-1) hq) (cwV 3 hts gX1_joined_X1_newNode rfl rfl rfl (by decide +kernel) ⟨Nat.le_of_ble_eq_true rfl, Nat.le_of_ble_eq_true rfl⟩) hq rfl rfl hl.1 rfl (Nat.le_of_ble_eq_true rfl) dX1_joined_34 ⟨Nat.le_of_ble_eq_true rfl, Nat.le_of_ble_eq_true rfl⟩) hS (fun r_6 u_6 H locs hq_6 hf hS => ?_)
    obtain ⟨g, rfl, hg0, hgq, hu⟩ := hq_6
    have n1 : c2 ≠ g := fun e => by rw [e, hg0] at hc2; cases hc2
    have n2 : fr ≠ g := fun e => by rw [e, hg0] at hfr; cases hfr
    have n3 : c2 ≠ q := hp_dif hc2 hq (by simp)
    have n4 : fr ≠ q := hp_dif hfr hq (by simp)
    have kc2 : u_6 c2 = some (ndE cb (nI cl) chh (nI cr) cz co) := by rw [hu, va_up_ne _ _ n1, va_up_ne _ _ n3]; exact hc2
    have kfr : u_6 fr = some (ndE xb (nI xl) xh xr none none) := by rw [hu, va_up_ne _ _ n2, va_up_ne _ _ n4]; exact hfr
    have kg : u_6 g = some (ndE (fb xb k) (nI k) (-1) (if (-1 : Int32) = -1 then 0 else 1) none none) := by rw [hu]; exact va_up_self _ _ _
    refine lv_astore (lv' := [(4, .ref g), (3, .int (nI k)), (0, .ref q), (1, .ref c2), (2, .ref fr)]) hx hb dX1_joined_37 hl (by decide) rfl (fun ls hl => ?_)
    refine lv_aload hx hb dX1_joined_39 (lv_at hl 0 rfl) ?_
    refine lv_aload_n hx hb dX1_joined_41 rfl (lv_at hl 4 rfl) ?_
    refine hp_kv (hp_rVN (C := RX0) (As := [.ref fr]) (rest := []) ⟨hx, hb, hml, hown, hts⟩ C0 hf hS (c_X0_hang l D cy base u_6 g (fb xb k) (nI k) (-1) (if (-1 : Int32) = -1 then 0 else 1) none none fr xb (nI xl) xh xr none none kg kfr) ⟨va_cnB (host := RX1) (index := 99) 1 hts gX1_joined_X0_hang_n99 rfl rfl rfl (C0.2.2 _ (by decide +kernel)) (hts (.initialized RX0) (by decide +kernel)) (by decide +kernel) ⟨Nat.le_of_ble_eq_true rfl, Nat.le_of_ble_eq_true rfl⟩, hts (.instanceMethod yX0_hang) (by decide +kernel), hts (.selects RX0 yX0_hang yX0_hang) (by decide +kernel)⟩ kg rfl rfl hl.1 rfl (Nat.le_of_ble_eq_true rfl) dX1_joined_42 ⟨Nat.le_of_ble_eq_true rfl, Nat.le_of_ble_eq_true rfl⟩) hS (fun u_7 H locs hq_7 hf hS => ?_)
    rcases hq_7 with ⟨dx, ex⟩ | ⟨dx, ex⟩
    · rw [g1_n (by omega)] at dx
      have kx_g : u_7 g = some (.inr (0, [.int (fb xb k), .int (nI k), .int (-1), .int (if (-1 : Int32) = -1 then 0 else 1), .null, .ref fr])) := by rw [ex]; exact va_up_self _ _ _
      have kx_c2 : u_7 c2 = some (.inr (0, [.int cb, .int (nI cl), .int chh, .int (nI cr), va_rf cz, va_rf co])) := by rw [ex, va_up_ne _ _ n1]; exact kc2
      have kx_fr : u_7 fr = some (.inr (0, [.int xb, .int (nI xl), .int xh, .int xr, .null, .null])) := by rw [ex, va_up_ne _ _ n2]; exact kfr
      refine lv_aload hx hb dX1_joined_45 (lv_at hl 0 rfl) ?_
      refine lv_aload_n hx hb dX1_joined_47 rfl (lv_at hl 3 rfl) ?_
      refine hp_kv (hp_rVN (C := RX0) (As := [.ref c2]) (rest := []) ⟨hx, hb, hml, hown, hts⟩ C0 hf hS (c_X0_hang l D cy base u_7 g (fb xb k) (nI k) (-1) (if (-1 : Int32) = -1 then 0 else 1) none (some fr) c2 cb (nI cl) chh (nI cr) cz co kx_g kx_c2) ⟨va_cnB (host := RX1) (index := 99) 1 hts gX1_joined_X0_hang_n99 rfl rfl rfl (C0.2.2 _ (by decide +kernel)) (hts (.initialized RX0) (by decide +kernel)) (by decide +kernel) ⟨Nat.le_of_ble_eq_true rfl, Nat.le_of_ble_eq_true rfl⟩, hts (.instanceMethod yX0_hang) (by decide +kernel), hts (.selects RX0 yX0_hang yX0_hang) (by decide +kernel)⟩ kx_g rfl rfl hl.1 rfl (Nat.le_of_ble_eq_true rfl) dX1_joined_48 ⟨Nat.le_of_ble_eq_true rfl, Nat.le_of_ble_eq_true rfl⟩) hS (fun u_8 H locs hq_8 hf hS => ?_)
      rcases hq_8 with ⟨dy, ey⟩ | ⟨dy, ey⟩
      · rw [g1_n (by omega)] at dy
        have ky_g : u_8 g = some (.inr (0, [.int (fb xb k), .int (nI k), .int (-1), .int (if (-1 : Int32) = -1 then 0 else 1), .null, .ref c2])) := by rw [ey]; exact va_up_self _ _ _
        have ky_c2 : u_8 c2 = some (.inr (0, [.int cb, .int (nI cl), .int chh, .int (nI cr), va_rf cz, va_rf co])) := by rw [ey, va_up_ne _ _ n1]; exact kx_c2
        have ky_fr : u_8 fr = some (.inr (0, [.int xb, .int (nI xl), .int xh, .int xr, .null, .null])) := by rw [ey, va_up_ne _ _ n2]; exact kx_fr
        refine lv_aload hx hb dX1_joined_51 (lv_at hl 0 rfl) ?_
        refine lv_aload_n hx hb dX1_joined_53 rfl (lv_at hl 3 rfl) ?_
        refine hp_getN (ci := 0) (v := .int (nI cr)) (own := RX1) (ref := RX0) (host := RX1) (index := 25) (C := RX0) (T := TX0) (N := 6) hx hb hts hin0 hown C0 hf ky_c2 rfl 3 (by decide) (by decide +kernel) (fun _ h9 => h9) rfl dX1_joined_54 ?_
        refine lv_iconst (v := 1) hx hb dX1_joined_57 (by decide) ?_
        refine lv_iadd hx hb dX1_joined_58 ?_
        refine hp_putN (ci := 0) (v := .int ((nI cr) + 1)) (own := RX1) (ref := RX0) (host := RX1) (index := 25) (C := RX0) (T := TX0) (N := 6) hx hb hts hin0 tyX0 tyX0_ok nmX0 hown C0 hf hS ky_g rfl 3 (by decide) (by decide +kernel) (fun _ h9 => h9) rfl rfl rfl (Nat.le_of_ble_eq_true rfl) dX1_joined_59 (fun f_9 H locs ef_9 hf hS => ?_)
        have hc_9 : f_9 g = some (.inr (0, [.int (fb xb k), .int (nI k), .int (-1), .int ((nI cr) + 1), .null, .ref c2])) := by rw [ef_9]; exact va_up_self _ _ _
        have hc_9_c2 : f_9 c2 = some (.inr (0, [.int cb, .int (nI cl), .int chh, .int (nI cr), va_rf cz, va_rf co])) := by rw [ef_9, va_up_ne _ _ n1]; exact ky_c2
        have hc_9_fr : f_9 fr = some (.inr (0, [.int xb, .int (nI xl), .int xh, .int xr, .null, .null])) := by rw [ef_9, va_up_ne _ _ n2]; exact ky_fr
        refine lv_aload hx hb dX1_joined_62 (lv_at hl 0 rfl) ?_
        exact hp_aret (r := some g) hx hb hr hlocks C0 hf hS (by first | exact Nat.le_refl _ | omega) (by first | exact Nat.le_refl _ | omega) dX1_joined_64 (absurd (dy.trans dx.symm) hkd)
      · rw [g1_n (by omega)] at dy
        have ky_g : u_8 g = some (.inr (0, [.int (fb xb k), .int (nI k), .int (-1), .int (if (-1 : Int32) = -1 then 0 else 1), .ref c2, .ref fr])) := by rw [ey]; exact va_up_self _ _ _
        have ky_c2 : u_8 c2 = some (.inr (0, [.int cb, .int (nI cl), .int chh, .int (nI cr), va_rf cz, va_rf co])) := by rw [ey, va_up_ne _ _ n1]; exact kx_c2
        have ky_fr : u_8 fr = some (.inr (0, [.int xb, .int (nI xl), .int xh, .int xr, .null, .null])) := by rw [ey, va_up_ne _ _ n2]; exact kx_fr
        refine lv_aload hx hb dX1_joined_51 (lv_at hl 0 rfl) ?_
        refine lv_aload_n hx hb dX1_joined_53 rfl (lv_at hl 3 rfl) ?_
        refine hp_getN (ci := 0) (v := .int (nI cr)) (own := RX1) (ref := RX0) (host := RX1) (index := 25) (C := RX0) (T := TX0) (N := 6) hx hb hts hin0 hown C0 hf ky_c2 rfl 3 (by decide) (by decide +kernel) (fun _ h9 => h9) rfl dX1_joined_54 ?_
        refine lv_iconst (v := 1) hx hb dX1_joined_57 (by decide) ?_
        refine lv_iadd hx hb dX1_joined_58 ?_
        refine hp_putN (ci := 0) (v := .int ((nI cr) + 1)) (own := RX1) (ref := RX0) (host := RX1) (index := 25) (C := RX0) (T := TX0) (N := 6) hx hb hts hin0 tyX0 tyX0_ok nmX0 hown C0 hf hS ky_g rfl 3 (by decide) (by decide +kernel) (fun _ h9 => h9) rfl rfl rfl (Nat.le_of_ble_eq_true rfl) dX1_joined_59 (fun f_10 H locs ef_10 hf hS => ?_)
        have hc_10 : f_10 g = some (.inr (0, [.int (fb xb k), .int (nI k), .int (-1), .int ((nI cr) + 1), .ref c2, .ref fr])) := by rw [ef_10]; exact va_up_self _ _ _
        have hc_10_c2 : f_10 c2 = some (.inr (0, [.int cb, .int (nI cl), .int chh, .int (nI cr), va_rf cz, va_rf co])) := by rw [ef_10, va_up_ne _ _ n1]; exact ky_c2
        have hc_10_fr : f_10 fr = some (.inr (0, [.int xb, .int (nI xl), .int xh, .int xr, .null, .null])) := by rw [ef_10, va_up_ne _ _ n2]; exact ky_fr
        refine lv_aload hx hb dX1_joined_62 (lv_at hl 0 rfl) ?_
        exact hp_aret (r := some g) hx hb hr hlocks C0 hf hS (by first | exact Nat.le_refl _ | omega) (by first | exact Nat.le_refl _ | omega) dX1_joined_64 (Or.inr ⟨k, g, hkl, hkc, k3, hkd, rfl, hg0, hgq, by rw [ef_10, ey, ex, bx_uu, bx_uu, hu, bx_uu, if_pos dx, if_pos dx, nI_1]; rfl⟩)
    · rw [g1_n (by omega)] at dx
      have kx_g : u_7 g = some (.inr (0, [.int (fb xb k), .int (nI k), .int (-1), .int (if (-1 : Int32) = -1 then 0 else 1), .ref fr, .null])) := by rw [ex]; exact va_up_self _ _ _
      have kx_c2 : u_7 c2 = some (.inr (0, [.int cb, .int (nI cl), .int chh, .int (nI cr), va_rf cz, va_rf co])) := by rw [ex, va_up_ne _ _ n1]; exact kc2
      have kx_fr : u_7 fr = some (.inr (0, [.int xb, .int (nI xl), .int xh, .int xr, .null, .null])) := by rw [ex, va_up_ne _ _ n2]; exact kfr
      refine lv_aload hx hb dX1_joined_45 (lv_at hl 0 rfl) ?_
      refine lv_aload_n hx hb dX1_joined_47 rfl (lv_at hl 3 rfl) ?_
      refine hp_kv (hp_rVN (C := RX0) (As := [.ref c2]) (rest := []) ⟨hx, hb, hml, hown, hts⟩ C0 hf hS (c_X0_hang l D cy base u_7 g (fb xb k) (nI k) (-1) (if (-1 : Int32) = -1 then 0 else 1) (some fr) none c2 cb (nI cl) chh (nI cr) cz co kx_g kx_c2) ⟨va_cnB (host := RX1) (index := 99) 1 hts gX1_joined_X0_hang_n99 rfl rfl rfl (C0.2.2 _ (by decide +kernel)) (hts (.initialized RX0) (by decide +kernel)) (by decide +kernel) ⟨Nat.le_of_ble_eq_true rfl, Nat.le_of_ble_eq_true rfl⟩, hts (.instanceMethod yX0_hang) (by decide +kernel), hts (.selects RX0 yX0_hang yX0_hang) (by decide +kernel)⟩ kx_g rfl rfl hl.1 rfl (Nat.le_of_ble_eq_true rfl) dX1_joined_48 ⟨Nat.le_of_ble_eq_true rfl, Nat.le_of_ble_eq_true rfl⟩) hS (fun u_11 H locs hq_11 hf hS => ?_)
      rcases hq_11 with ⟨dy, ey⟩ | ⟨dy, ey⟩
      · rw [g1_n (by omega)] at dy
        have ky_g : u_11 g = some (.inr (0, [.int (fb xb k), .int (nI k), .int (-1), .int (if (-1 : Int32) = -1 then 0 else 1), .ref fr, .ref c2])) := by rw [ey]; exact va_up_self _ _ _
        have ky_c2 : u_11 c2 = some (.inr (0, [.int cb, .int (nI cl), .int chh, .int (nI cr), va_rf cz, va_rf co])) := by rw [ey, va_up_ne _ _ n1]; exact kx_c2
        have ky_fr : u_11 fr = some (.inr (0, [.int xb, .int (nI xl), .int xh, .int xr, .null, .null])) := by rw [ey, va_up_ne _ _ n2]; exact kx_fr
        refine lv_aload hx hb dX1_joined_51 (lv_at hl 0 rfl) ?_
        refine lv_aload_n hx hb dX1_joined_53 rfl (lv_at hl 3 rfl) ?_
        refine hp_getN (ci := 0) (v := .int (nI cr)) (own := RX1) (ref := RX0) (host := RX1) (index := 25) (C := RX0) (T := TX0) (N := 6) hx hb hts hin0 hown C0 hf ky_c2 rfl 3 (by decide) (by decide +kernel) (fun _ h9 => h9) rfl dX1_joined_54 ?_
        refine lv_iconst (v := 1) hx hb dX1_joined_57 (by decide) ?_
        refine lv_iadd hx hb dX1_joined_58 ?_
        refine hp_putN (ci := 0) (v := .int ((nI cr) + 1)) (own := RX1) (ref := RX0) (host := RX1) (index := 25) (C := RX0) (T := TX0) (N := 6) hx hb hts hin0 tyX0 tyX0_ok nmX0 hown C0 hf hS ky_g rfl 3 (by decide) (by decide +kernel) (fun _ h9 => h9) rfl rfl rfl (Nat.le_of_ble_eq_true rfl) dX1_joined_59 (fun f_12 H locs ef_12 hf hS => ?_)
        have hc_12 : f_12 g = some (.inr (0, [.int (fb xb k), .int (nI k), .int (-1), .int ((nI cr) + 1), .ref fr, .ref c2])) := by rw [ef_12]; exact va_up_self _ _ _
        have hc_12_c2 : f_12 c2 = some (.inr (0, [.int cb, .int (nI cl), .int chh, .int (nI cr), va_rf cz, va_rf co])) := by rw [ef_12, va_up_ne _ _ n1]; exact ky_c2
        have hc_12_fr : f_12 fr = some (.inr (0, [.int xb, .int (nI xl), .int xh, .int xr, .null, .null])) := by rw [ef_12, va_up_ne _ _ n2]; exact ky_fr
        refine lv_aload hx hb dX1_joined_62 (lv_at hl 0 rfl) ?_
        exact hp_aret (r := some g) hx hb hr hlocks C0 hf hS (by first | exact Nat.le_refl _ | omega) (by first | exact Nat.le_refl _ | omega) dX1_joined_64 (Or.inr ⟨k, g, hkl, hkc, k3, hkd, rfl, hg0, hgq, by rw [ef_12, ey, ex, bx_uu, bx_uu, hu, bx_uu, if_neg dx, if_neg dx, nI_1]; rfl⟩)
      · rw [g1_n (by omega)] at dy
        have ky_g : u_11 g = some (.inr (0, [.int (fb xb k), .int (nI k), .int (-1), .int (if (-1 : Int32) = -1 then 0 else 1), .ref c2, .null])) := by rw [ey]; exact va_up_self _ _ _
        have ky_c2 : u_11 c2 = some (.inr (0, [.int cb, .int (nI cl), .int chh, .int (nI cr), va_rf cz, va_rf co])) := by rw [ey, va_up_ne _ _ n1]; exact kx_c2
        have ky_fr : u_11 fr = some (.inr (0, [.int xb, .int (nI xl), .int xh, .int xr, .null, .null])) := by rw [ey, va_up_ne _ _ n2]; exact kx_fr
        refine lv_aload hx hb dX1_joined_51 (lv_at hl 0 rfl) ?_
        refine lv_aload_n hx hb dX1_joined_53 rfl (lv_at hl 3 rfl) ?_
        refine hp_getN (ci := 0) (v := .int (nI cr)) (own := RX1) (ref := RX0) (host := RX1) (index := 25) (C := RX0) (T := TX0) (N := 6) hx hb hts hin0 hown C0 hf ky_c2 rfl 3 (by decide) (by decide +kernel) (fun _ h9 => h9) rfl dX1_joined_54 ?_
        refine lv_iconst (v := 1) hx hb dX1_joined_57 (by decide) ?_
        refine lv_iadd hx hb dX1_joined_58 ?_
        refine hp_putN (ci := 0) (v := .int ((nI cr) + 1)) (own := RX1) (ref := RX0) (host := RX1) (index := 25) (C := RX0) (T := TX0) (N := 6) hx hb hts hin0 tyX0 tyX0_ok nmX0 hown C0 hf hS ky_g rfl 3 (by decide) (by decide +kernel) (fun _ h9 => h9) rfl rfl rfl (Nat.le_of_ble_eq_true rfl) dX1_joined_59 (fun f_13 H locs ef_13 hf hS => ?_)
        have hc_13 : f_13 g = some (.inr (0, [.int (fb xb k), .int (nI k), .int (-1), .int ((nI cr) + 1), .ref c2, .null])) := by rw [ef_13]; exact va_up_self _ _ _
        have hc_13_c2 : f_13 c2 = some (.inr (0, [.int cb, .int (nI cl), .int chh, .int (nI cr), va_rf cz, va_rf co])) := by rw [ef_13, va_up_ne _ _ n1]; exact ky_c2
        have hc_13_fr : f_13 fr = some (.inr (0, [.int xb, .int (nI xl), .int xh, .int xr, .null, .null])) := by rw [ef_13, va_up_ne _ _ n2]; exact ky_fr
        refine lv_aload hx hb dX1_joined_62 (lv_at hl 0 rfl) ?_
        exact hp_aret (r := some g) hx hb hr hlocks C0 hf hS (by first | exact Nat.le_refl _ | omega) (by first | exact Nat.le_refl _ | omega) dX1_joined_64 (absurd (by revert dx dy; cases bi cb k <;> cases bi xb k <;> simp) hkd)
end
section
/-! the heap behind growing -/
def FR (f u : AH) (N : List Nat) (q : Nat) : Prop := ∀ b v, f b = some v → b ∉ N → b ≠ q → u b = some v
def GP (f : AH) (q : Nat) (N : List Nat) (t : NT) (root : Nat) (e : RT) (u : AH) : Prop := ∃ (N' : List Nat) (t' : NT), u q = some (trO root (nI N'.length)) ∧ TN u N' t' ∧ CI N' t' root ∧ (e :: rts N t).Perm (rts N' t') ∧ FR f u N q ∧ N'.length ≤ N.length + 2
theorem inc_self {t : NT} {x : Int32} {a : Nat} (hp : px (tB t a) (tL t a)) (h : ag (tB t a) x (tL t a)) : inc t x (tL t a) a = up1 (t a) := by
  unfold inc
  rw [if_pos]
  rw [Bool.and_eq_true, bgx_iff hp]
  exact ⟨h, by simp⟩
theorem inc_gt {t : NT} {x : Int32} {j c : Nat} (h : j < tL t c) : inc t x j c = t c := by
  unfold inc
  rw [if_neg]
  rw [Bool.and_eq_true, decide_eq_true_eq]
  omega
theorem q_notin {fc : AH} {N : List Nat} {t : NT} {q root : Nat} {cnt : Int32} (hq : fc q = some (trO root cnt)) (hT : TN fc N t) : q ∉ N := fun h => by
  have := (hT q h).symm.trans hq
  simp [ndo, ndE, trO] at this
theorem fr_notin {fc : AH} {N : List Nat} {t : NT} {q : Nat} (hq : fc q = none) (hT : TN fc N t) : q ∉ N := fun h => by
  have := (hT q h).symm.trans hq
  cases this
theorem fin_A {f fc u : AH} {N : List Nat} {t : NT} {root a l q : Nat} {x h : Int32} (C : CI N t root) (ha : a ∈ N) (hax : ag (tB t a) x (tL t a)) (hal : tL t a = l) (hx : px x l) (hh : ¬ h = -1) (hno : ∀ b ∈ N, tL t b = l → tB t b = x → isR t b = false)
    (hq : fc q = some (trO root (nI N.length))) (hT : TN fc N (inc t x (tL t a))) (hF : FR f fc N q) (hu : u = va_up fc a (some (ndE (tB t a) (nI (tL t a)) h (nI (tR t a + 1)) (tZ t a) (tO t a)))) : GP f q N t root (x, l, h) u := by
  have pa := C.1.2.2.1 a ha
  have hbx : tB t a = x := px_inj (hal ▸ pa) hx (hal ▸ hax)
  have hqN := q_notin hq hT
  obtain ⟨g1, g2⟩ := grow_A (t' := fun y => if y = a then sethop (inc t x l a) h else inc t x l y) C ha hal hbx (hno a ha hal hbx) hh (fun y _ => rfl)
  refine ⟨N, _, ?_, fun y hy => ?_, g1, g2, fun b v k1 k2 k3 => ?_, by omega⟩
  · have e : q ≠ a := fun e => hqN (e ▸ ha)
    rw [hu, va_up_ne _ _ e]; exact hq
  · by_cases e : y = a
    · subst e
      rw [hu, va_up_self]
      simp only [if_true]
      rw [← hal, inc_self pa hax]
      rfl
    · rw [hu, va_up_ne _ _ e]
      simp only [e, if_false]
      rw [← hal]
      exact hT y hy
  · have e : b ≠ a := fun e => k2 (e ▸ ha)
    rw [hu, va_up_ne _ _ e]; exact hF b v k1 k2 k3
theorem fin_BC {f fc u : AH} {N : List Nat} {t : NT} {root a l q fr rr : Nat} {zz oo : Option Nat} {x h : Int32} (C : CI N t root) (ha : a ∈ N) (hax : ag (tB t a) x (tL t a)) (hal : tL t a < l) (hx : px x l) (hh : ¬ h = -1) (hend : ∀ c, ch t a (bi x (tL t a)) = some c → ¬ (tL t c ≤ l ∧ ag (tB t c) x (tL t c)))
    (hq : fc q = some (trO root (nI N.length))) (hT : TN fc N (inc t x (tL t a))) (hF : FR f fc N q) (hfr : fc fr = none)
    (uf : u fr = some (ndE x (nI l) h (nI rr) zz oo)) (ua : u a = some (ndE (tB t a) (nI (tL t a)) (tH t a) (nI (tR t a + 1)) (if bi x (tL t a) = true then tZ t a else some fr) (if bi x (tL t a) = true then some fr else tO t a)))
    (uq : u q = some (trO root (nI N.length + 1))) (uo : ∀ b, b ≠ fr → b ≠ a → b ≠ q → u b = fc b)
    (hcase : (ch t a (bi x (tL t a)) = none ∧ rr = 1 ∧ zz = none ∧ oo = none) ∨ ∃ c, ch t a (bi x (tL t a)) = some c ∧ l < tL t c ∧ ag x (tB t c) l ∧ rr = tR t c + 1 ∧ zz = (if bi (tB t c) l = true then none else some c) ∧ oo = (if bi (tB t c) l = true then some c else none)) : GP f q N t root (x, l, h) u := by
  have pa := C.1.2.2.1 a ha
  have hqN := q_notin hq hT
  have hfN := fr_notin hfr hT
  have hqf : q ≠ fr := fun e => by rw [e, hfr] at hq; cases hq
  have fa : ∀ y ∈ N, y ≠ fr := fun y hy e => hfN (e ▸ hy)
  obtain ⟨t', et⟩ : ∃ t' : NT, t' = fun y => if y = fr then (x, l, h, rr, zz, oo) else if y = a then setch (inc t x l a) (bi x (tL t a)) (some fr) else inc t x l y := ⟨_, rfl⟩
  have tf : t' fr = (x, l, h, rr, zz, oo) := by rw [et]; simp
  have tN : ∀ y ∈ N, t' y = if y = a then setch (inc t x l a) (bi x (tL t a)) (some fr) else inc t x l y := fun y hy => by rw [et]; simp [fa y hy]
  have hcf : ∀ d, ch t' fr d = (ch t a (bi x (tL t a))).elim none (fun c => if d = bi (tB t c) l then some c else none) := fun d => by
    unfold ch; simp only [tO, tZ]; rw [tf]
    rcases hcase with ⟨c0, c1, c2, c3⟩ | ⟨c, c0, c1, c2, c3, c4, c5⟩
    · have c0' := c0; unfold ch at c0'; rw [c0']; subst c2; subst c3; cases d <;> rfl
    · have c0' := c0; unfold ch at c0'; rw [c0']; subst c4; subst c5; simp only [Option.elim]; cases d <;> cases bi (tB t c) l <;> simp
  obtain ⟨g1, g2⟩ := grow_BC (t' := t') C ha hax hal hx hfN hh (fun c k => by
      rcases hcase with ⟨c0, -⟩ | ⟨c', c0, c1, c2, -⟩
      · rw [c0] at k; cases k
      · rw [c0] at k; cases k; exact ⟨c1, c2⟩) tN ⟨by simp only [tB]; rw [tf], by simp only [tL]; rw [tf], by simp only [tH]; rw [tf], by
      simp only [tR]; rw [tf]
      rcases hcase with ⟨c0, c1, -⟩ | ⟨c', c0, -, -, c3, -⟩
      · rw [c0]; exact c1
      · rw [c0]; exact c3⟩ hcf
  refine ⟨fr :: N, t', ?_, fun y hy => ?_, g1, g2, fun b v k1 k2 k3 => ?_, by rw [List.length_cons]; omega⟩
  · rw [uq, nI_1]; rfl
  · rcases List.mem_cons.mp hy with e | hy1
    · subst e; rw [uf, tf]
    · rw [tN y hy1]
      by_cases e : y = a
      · subst e
        rw [if_pos rfl, ua, ← inc_end C.1 ha hax (Nat.le_of_lt hal) hend ha, inc_self pa hax]
        unfold setch up1; simp only [ndo]
      · rw [if_neg e, uo y (fa y hy1) e (fun k => hqN (k ▸ hy1)), ← inc_end C.1 ha hax (Nat.le_of_lt hal) hend hy1]
        exact hT y hy1
  · by_cases e : b = fr
    · have := hF b v k1 k2 k3; rw [e, hfr] at this; cases this
    · rw [uo b e (fun k => k2 (k ▸ ha)) k3]; exact hF b v k1 k2 k3
theorem fin_D {f fc u : AH} {N : List Nat} {t : NT} {root a l q fr g c k : Nat} {x h : Int32} (C : CI N t root) (ha : a ∈ N) (hax : ag (tB t a) x (tL t a)) (hal : tL t a < l) (hx : px x l) (hh : ¬ h = -1) (hend : ∀ c, ch t a (bi x (tL t a)) = some c → ¬ (tL t c ≤ l ∧ ag (tB t c) x (tL t c)))
    (hq : fc q = some (trO root (nI N.length))) (hT : TN fc N (inc t x (tL t a))) (hF : FR f fc N q) (hfr : fc fr = none) (hg : fc g = none) (hgf : fr ≠ g)
    (hc : ch t a (bi x (tL t a)) = some c) (kl : k < l) (kc : k < tL t c) (kag : ag (tB t c) x k) (kd : ¬ bi (tB t c) k = bi x k)
    (uf : u fr = some (ndE x (nI l) h (nI 1) none none)) (ug : u g = some (ndE (fb x k) (nI k) (-1) (nI (tR t c + 1)) (if bi x k = true then some c else some fr) (if bi x k = true then some fr else some c)))
    (ua : u a = some (ndE (tB t a) (nI (tL t a)) (tH t a) (nI (tR t a + 1)) (if bi x (tL t a) = true then tZ t a else some g) (if bi x (tL t a) = true then some g else tO t a)))
    (uq : u q = some (trO root (nI N.length + 1 + 1))) (uo : ∀ b, b ≠ fr → b ≠ g → b ≠ a → b ≠ q → u b = fc b) : GP f q N t root (x, l, h) u := by
  have pa := C.1.2.2.1 a ha
  have hqN := q_notin hq hT
  have hfN := fr_notin hfr hT
  have hgN := fr_notin hg hT
  have fa : ∀ y ∈ N, y ≠ fr := fun y hy e => hfN (e ▸ hy)
  have ga : ∀ y ∈ N, y ≠ g := fun y hy e => hgN (e ▸ hy)
  obtain ⟨t', et⟩ : ∃ t' : NT, t' = fun y => if y = fr then (x, l, h, 1, none, none) else if y = g then (fb x k, k, (-1 : Int32), tR t c + 1, if bi x k = true then some c else some fr, if bi x k = true then some fr else some c) else if y = a then setch (inc t x l a) (bi x (tL t a)) (some g) else inc t x l y := ⟨_, rfl⟩
  have tf : t' fr = (x, l, h, 1, none, none) := by rw [et]; simp
  have tg : t' g = (fb x k, k, (-1 : Int32), tR t c + 1, if bi x k = true then some c else some fr, if bi x k = true then some fr else some c) := by rw [et]; simp [Ne.symm hgf]
  have tN : ∀ y ∈ N, t' y = if y = a then setch (inc t x l a) (bi x (tL t a)) (some g) else inc t x l y := fun y hy => by rw [et]; simp [fa y hy, ga y hy]
  obtain ⟨g1, g2⟩ := grow_D (t' := t') (q := fr) (g := g) C ha hax hal hx hfN hgN hgf hh hc kl kc kag kd tN tf ⟨by simp only [tB]; rw [tg], by simp only [tL]; rw [tg], by simp only [tH]; rw [tg], by simp only [tR]; rw [tg]⟩ (fun d => by
    unfold ch; simp only [tO, tZ]; rw [tg]; cases d <;> cases bi x k <;> simp)
  refine ⟨fr :: g :: N, t', ?_, fun y hy => ?_, g1, g2, fun b v k1 k2 k3 => ?_, by rw [List.length_cons, List.length_cons]; omega⟩
  · rw [uq, nI_1, nI_1]; rfl
  · rcases List.mem_cons.mp hy with e | hy1
    · subst e; rw [uf, tf]
    · rcases List.mem_cons.mp hy1 with e | hy2
      · subst e; rw [ug, tg]
      · rw [tN y hy2]
        by_cases e : y = a
        · subst e
          rw [if_pos rfl, ua, ← inc_end C.1 ha hax (Nat.le_of_lt hal) hend ha, inc_self pa hax]
          unfold setch up1; simp only [ndo]
        · rw [if_neg e, uo y (fa y hy2) (ga y hy2) e (fun k => hqN (k ▸ hy2)), ← inc_end C.1 ha hax (Nat.le_of_lt hal) hend hy2]
          exact hT y hy2
  · by_cases e : b = fr
    · have := hF b v k1 k2 k3; rw [e, hfr] at this; cases this
    · by_cases e2 : b = g
      · have := hF b v k1 k2 k3; rw [e2, hg] at this; cases this
      · rw [uo b e e2 (fun k => k2 (k ▸ ha)) k3]; exact hF b v k1 k2 k3
end
section
/-! grow, insert, init -/
set_option maxHeartbeats 4000000 in
set_option maxRecDepth 100000 in
theorem c_X1_grow (l : Launch) (D : va_G) (cy : ClassId) (base : Nat) (f : AH) (q : Nat) (N : List Nat) (t : NT) (root : Nat) (x : Int32) (k0 : Nat) (h : Int32) (hq : f q = some (trO root (nI N.length))) (hT : TN f N t) (hC : CI N t root) (hx0 : px x k0) (hh : ¬ h = -1) (hno : ∀ b ∈ N, tL t b = k0 → tB t b = x → isR t b = false) : Met l yX1_grow wsX1_grow ({ frames := 5, cells := 2, slots := 12, locals := 82 }) (va_Pc [.ref q, .int x, .int (nI k0), .int h] (hp_B D cy base f)) (va_Qv (fun (u : AH) => GP f q N t root (x, k0, h) u) (hp_B D cy base) (hp_A base)) 2 12 (hp_A base) := by
  refine Met.ofW (cc := cX1_grow) (maxL := 6) (ret := none) (by decide) rfl ?_
  intro p e s m args below meth c s₁ B hml hv
  obtain ⟨rfl, hf, C0⟩ := hv
  have hx := B.exec
  have hb := B.bytes
  have hr := B.returns
  have hts := atoms_spec (ws := wsX1_grow) B.pre
  have hown : s.vm.findClass RX1 = some m.cls := findClass_of_methodNamed B.named
  have hlocks := B.notSynchronized
  have hin0 : ∀ w ∈ wsX00, w ∈ wsX1_grow := by decide +kernel
  have hin1 : ∀ w ∈ wsX10, w ∈ wsX1_grow := by decide +kernel
  have hS : va_S (hp_A base) s.heap s.heap [] := va_S.rf
  have hl := lv_entry ([.ref q, .int x, .int (nI k0), .int h]) (n := 6) (Nat.le_of_ble_eq_true rfl)
  rw [lg_entry_eq]
  generalize (lg_sl ([.ref q, .int x, .int (nI k0), .int h]) ++ List.replicate (6 - (lg_sl ([.ref q, .int x, .int (nI k0), .int h])).length) Slot.unset).toArray = ls at hl ⊢
  have hl : lv_has ls 6 [(0, .ref q), (1, .int x), (2, .int (nI k0)), (3, .int h)] := hl
  have hst := hC.1
  have loop : ∀ (n a : Nat) (nxt : Option Nat) (fc : AH) (ls : Array Slot) (H : Heap) (locs : List Loc), a ∈ N → 34 ≤ tL t a + n → ag (tB t a) x (tL t a) → tL t a ≤ k0 → nxt = ch t a (bi x (tL t a)) → fc q = some (trO root (nI N.length)) → TN fc N (inc t x (tL t a)) → FR f fc N q → hp_ok D base fc H → va_S (hp_A base) s.heap H locs → lv_has ls 6 [(0, .ref q), (1, .int x), (2, .int (nI k0)), (3, .int h), (4, .ref a), (5, va_rf nxt)] → W p l e (headSpec wsX1_grow ({ frames := 5, cells := 2, slots := 12, locals := 82 } : Room)).room s m #[Value.ref q, Value.int x, Value.int (nI k0), Value.int h] below meth c H locs 0 0 (MQ below (va_Qv (fun (u : AH) => GP f q N t root (x, k0, h) u) (hp_B D cy base) (hp_A base)) #[Value.ref q, Value.int x, Value.int (nI k0), Value.int h] s 2 12 (hp_A base)) (F0 m 25 ls []) := by
    intro n
    induction n with
    | zero => intro a _ _ _ _ _ ha g; exact absurd g (by have := (hst.2.2.1 a ha).1; omega)
    | succ n ih =>
      intro a nxt fc ls H locs ha hm hax hal hnx hqc hTc hFc hf hS hl
      have pa := hst.2.2.1 a ha
      have k32 := hx0.1
      have hca : fc a = some (ndE (tB t a) (nI (tL t a)) (tH t a) (nI (tR t a + 1)) (tZ t a) (tO t a)) := by rw [hTc a ha, inc_self pa hax]; rfl
      have naq : a ≠ q := hp_dif hca hqc (by simp)
      refine hp_aloadq (r := nxt) hx hb dX1_grow_25 (lv_at hl 5 rfl) ?_
      refine hp_ifnullq (tgt := 74) (r := nxt) hx hb dX1_grow_27 (by decide) (fun h27 => ?_) (fun x27 h27 => ?_)
      · rw [h27] at hl
        have hl : lv_has ls 6 [(0, .ref q), (1, .int x), (2, .int (nI k0)), (3, .int h), (4, .ref a), (5, .null)] := hl
        have hend : ∀ c, ch t a (bi x (tL t a)) = some c → ¬ (tL t c ≤ k0 ∧ ag (tB t c) x (tL t c)) := fun c g => by rw [← hnx, h27] at g; cases g
        refine lv_aload hx hb dX1_grow_74 (lv_at hl 4 rfl) ?_
        refine hp_getN (ci := 0) (v := .int (nI (tL t a))) (own := RX1) (ref := RX0) (host := RX1) (index := 53) (C := RX0) (T := TX0) (N := 6) hx hb hts hin0 hown C0 hf hca rfl 1 (by decide) (by decide +kernel) (fun _ h9 => h9) rfl dX1_grow_76 ?_
        refine lv_iload_n hx hb dX1_grow_79 rfl (lv_at hl 2 rfl) ?_
        refine lv_icmp_ne (tgt := 92) hx hb dX1_grow_80 (by decide) (fun h80 => ?_) (fun h80 => ?_)
        · have halt : tL t a < k0 := Nat.lt_of_le_of_ne hal (fun e => h80 (by rw [e]))
          refine lv_aload hx hb dX1_grow_92 (lv_at hl 4 rfl) ?_
          refine lv_aload_n hx hb dX1_grow_94 rfl (lv_at hl 0 rfl) ?_
          refine lv_aloadN hx hb dX1_grow_95 (lv_at hl 5 rfl) ?_
          refine lv_aload_n hx hb dX1_grow_97 rfl (lv_at hl 0 rfl) ?_
          refine lv_iload_n hx hb dX1_grow_98 rfl (lv_at hl 1 rfl) ?_
          refine lv_iload_n hx hb dX1_grow_99 rfl (lv_at hl 2 rfl) ?_
          refine lv_iload_n hx hb dX1_grow_100 rfl (lv_at hl 3 rfl) ?_
          refine hp_kq (hp_rV (C := RX1) (As := [.int x, .int (nI k0), .int h]) (rest := [.null, .ref q, .ref a]) ⟨hx, hb, hml, hown, hts⟩ C0 hf hS (c_X1_newNode l D cy base fc q root (nI N.length) x (nI k0) h hqc) (cwV 3 hts gX1_grow_X1_newNode rfl rfl rfl (by decide +kernel) ⟨Nat.le_of_ble_eq_true rfl, Nat.le_of_ble_eq_true rfl⟩) hqc rfl rfl hl.1 rfl (Nat.le_of_ble_eq_true rfl) dX1_grow_101 ⟨Nat.le_of_ble_eq_true rfl, Nat.le_of_ble_eq_true rfl⟩) hS (fun r_1 u_1 H locs hq_1 hf hS => ?_)
          obtain ⟨fr, rfl, hfr0, hfrq, hu⟩ := hq_1
          have nfa : fr ≠ a := fun e => by rw [e, hca] at hfr0; cases hfr0
          have kq : u_1 q = some (trO root (nI N.length + 1)) := by rw [hu, va_up_ne _ _ (Ne.symm hfrq)]; exact va_up_self _ _ _
          have ka : u_1 a = some (ndE (tB t a) (nI (tL t a)) (tH t a) (nI (tR t a + 1)) (tZ t a) (tO t a)) := by rw [hu, va_up_ne _ _ (Ne.symm nfa), va_up_ne _ _ naq]; exact hca
          have kfr : u_1 fr = some (ndE x (nI k0) h (if h = -1 then 0 else 1) none none) := by rw [hu]; exact va_up_self _ _ _
          rw [if_neg hh] at kfr
          have ha32 : tL t a < 32 := by omega
          refine hp_kq (hp_rV (C := RX1) (As := [.null, .ref fr]) (rest := [.ref a]) ⟨hx, hb, hml, hown, hts⟩ C0 hf hS (c_X1_joined_none l D cy base u_1 q fr) (cwV 2 hts gX1_grow_X1_joined rfl rfl rfl (by decide +kernel) ⟨Nat.le_of_ble_eq_true rfl, Nat.le_of_ble_eq_true rfl⟩) kq rfl rfl hl.1 rfl (Nat.le_of_ble_eq_true rfl) dX1_grow_104 ⟨Nat.le_of_ble_eq_true rfl, Nat.le_of_ble_eq_true rfl⟩) hS (fun r_2 u_2 H locs hq_2 hf hS => ?_)
          obtain ⟨rfl, hu2⟩ := hq_2
          rw [hu2] at hf
          refine hp_kv (hp_rVN (C := RX0) (As := [.ref fr]) (rest := []) ⟨hx, hb, hml, hown, hts⟩ C0 hf hS (c_X0_hang l D cy base u_1 a (tB t a) (nI (tL t a)) (tH t a) (nI (tR t a + 1)) (tZ t a) (tO t a) fr x (nI k0) h 1 none none ka kfr) ⟨va_cnB (host := RX1) (index := 99) 1 hts gX1_grow_X0_hang_n99 rfl rfl rfl (C0.2.2 _ (by decide +kernel)) (hts (.initialized RX0) (by decide +kernel)) (by decide +kernel) ⟨Nat.le_of_ble_eq_true rfl, Nat.le_of_ble_eq_true rfl⟩, hts (.instanceMethod yX0_hang) (by decide +kernel), hts (.selects RX0 yX0_hang yX0_hang) (by decide +kernel)⟩ ka rfl rfl hl.1 rfl (Nat.le_of_ble_eq_true rfl) dX1_grow_107 ⟨Nat.le_of_ble_eq_true rfl, Nat.le_of_ble_eq_true rfl⟩) hS (fun u_3 H locs hq_3 hf hS => ?_)
          rcases hq_3 with ⟨dz, ez⟩ | ⟨dz, ez⟩
          · rw [g1_n ha32] at dz
            have kend := fin_BC (u := u_3) (fr := fr) (rr := 1) (zz := none) (oo := none) hC ha hax halt hx0 hh hend hqc hTc hFc hfr0 (by rw [ez, va_up_ne _ _ nfa]; exact kfr) (by rw [ez, va_up_self, if_pos dz, if_pos dz]) (by rw [ez, va_up_ne _ _ (Ne.symm naq)]; exact kq) (fun b n1 n2 n3 => by rw [ez, va_up_ne _ _ n2, hu, va_up_ne _ _ n1, va_up_ne _ _ n3]) (Or.inl ⟨by rw [← hnx]; exact h27, rfl, rfl, rfl⟩)
            exact hp_vret hx hb hr hlocks C0 hf hS (by first | exact Nat.le_refl _ | omega) (by first | exact Nat.le_refl _ | omega) dX1_grow_110 (kend)
          · rw [g1_n ha32] at dz
            have kend := fin_BC (u := u_3) (fr := fr) (rr := 1) (zz := none) (oo := none) hC ha hax halt hx0 hh hend hqc hTc hFc hfr0 (by rw [ez, va_up_ne _ _ nfa]; exact kfr) (by rw [ez, va_up_self, if_neg dz, if_neg dz]) (by rw [ez, va_up_ne _ _ (Ne.symm naq)]; exact kq) (fun b n1 n2 n3 => by rw [ez, va_up_ne _ _ n2, hu, va_up_ne _ _ n1, va_up_ne _ _ n3]) (Or.inl ⟨by rw [← hnx]; exact h27, rfl, rfl, rfl⟩)
            exact hp_vret hx hb hr hlocks C0 hf hS (by first | exact Nat.le_refl _ | omega) (by first | exact Nat.le_refl _ | omega) dX1_grow_110 (kend)
        · have hale : tL t a = k0 := (nI_eq (by omega) (by omega)).mp h80
          refine lv_aload hx hb dX1_grow_83 (lv_at hl 4 rfl) ?_
          refine lv_iload_n hx hb dX1_grow_85 rfl (lv_at hl 3 rfl) ?_
          refine hp_putN (ci := 0) (v := .int h) (own := RX1) (ref := RX0) (host := RX1) (index := 22) (C := RX0) (T := TX0) (N := 6) hx hb hts hin0 tyX0 tyX0_ok nmX0 hown C0 hf hS hca rfl 2 (by decide) (by decide +kernel) (fun _ h9 => h9) rfl rfl rfl (Nat.le_of_ble_eq_true rfl) dX1_grow_86 (fun f_4 H locs ef_4 hf hS => ?_)
          have hc_4 : f_4 a = some (.inr (0, [.int (tB t a), .int (nI (tL t a)), .int h, .int (nI (tR t a + 1)), va_rf (tZ t a), va_rf (tO t a)])) := by rw [ef_4]; exact va_up_self _ _ _
          have hc_4_q : f_4 q = some (.inr (1, [.ref root, .int (nI N.length)])) := by rw [ef_4, va_up_ne _ _ (hp_dif hqc hca (by simp))]; exact hqc
          refine lv_goto (tgt := 110) hx hb dX1_grow_89 (by decide) ?_
          exact hp_vret hx hb hr hlocks C0 hf hS (by first | exact Nat.le_refl _ | omega) (by first | exact Nat.le_refl _ | omega) dX1_grow_110 (fin_A hC ha hax hale hx0 hh hno hqc hTc hFc ef_4)
      · rw [h27] at hl
        have hl : lv_has ls 6 [(0, .ref q), (1, .int x), (2, .int (nI k0)), (3, .int h), (4, .ref a), (5, .ref x27)] := hl
        have hch : ch t a (bi x (tL t a)) = some x27 := by rw [← hnx]; exact h27
        obtain ⟨hcN, hcl, -, -⟩ := hst.2.2.2.2.1 a ha _ x27 hch
        have pc := hst.2.2.1 x27 hcN
        have hcc : fc x27 = some (ndo (t x27)) := by rw [hTc x27 hcN, inc_gt hcl]
        have nca : x27 ≠ a := fun e => by rw [e] at hcl; omega
        have hc32 := pc.1
        refine lv_aload hx hb dX1_grow_30 (lv_at hl 5 rfl) ?_
        refine hp_getN (ci := 0) (v := .int (nI (tL t x27))) (own := RX1) (ref := RX0) (host := RX1) (index := 53) (C := RX0) (T := TX0) (N := 6) hx hb hts hin0 hown C0 hf hcc rfl 1 (by decide) (by decide +kernel) (fun _ h9 => h9) rfl dX1_grow_32 ?_
        refine lv_iload_n hx hb dX1_grow_35 rfl (lv_at hl 2 rfl) ?_
        refine lv_icmp_gt (tgt := 74) hx hb dX1_grow_36 (by decide) (fun h36 => ?_) (fun h36 => ?_)
        · have hend : ∀ c, ch t a (bi x (tL t a)) = some c → ¬ (tL t c ≤ k0 ∧ ag (tB t c) x (tL t c)) := fun c g k => by rw [hch] at g; cases g; exact absurd ((nI_ltI (by omega) (by omega)).mp h36) (by omega)
          refine lv_aload hx hb dX1_grow_74 (lv_at hl 4 rfl) ?_
          refine hp_getN (ci := 0) (v := .int (nI (tL t a))) (own := RX1) (ref := RX0) (host := RX1) (index := 53) (C := RX0) (T := TX0) (N := 6) hx hb hts hin0 hown C0 hf hca rfl 1 (by decide) (by decide +kernel) (fun _ h9 => h9) rfl dX1_grow_76 ?_
          refine lv_iload_n hx hb dX1_grow_79 rfl (lv_at hl 2 rfl) ?_
          refine lv_icmp_ne (tgt := 92) hx hb dX1_grow_80 (by decide) (fun h80 => ?_) (fun h80 => ?_)
          · have halt : tL t a < k0 := Nat.lt_of_le_of_ne hal (fun e => h80 (by rw [e]))
            refine lv_aload hx hb dX1_grow_92 (lv_at hl 4 rfl) ?_
            refine lv_aload_n hx hb dX1_grow_94 rfl (lv_at hl 0 rfl) ?_
            refine lv_aload hx hb dX1_grow_95 (lv_at hl 5 rfl) ?_
            refine lv_aload_n hx hb dX1_grow_97 rfl (lv_at hl 0 rfl) ?_
            refine lv_iload_n hx hb dX1_grow_98 rfl (lv_at hl 1 rfl) ?_
            refine lv_iload_n hx hb dX1_grow_99 rfl (lv_at hl 2 rfl) ?_
            refine lv_iload_n hx hb dX1_grow_100 rfl (lv_at hl 3 rfl) ?_
            refine hp_kq (hp_rV (C := RX1) (As := [.int x, .int (nI k0), .int h]) (rest := [.ref x27, .ref q, .ref a]) ⟨hx, hb, hml, hown, hts⟩ C0 hf hS (c_X1_newNode l D cy base fc q root (nI N.length) x (nI k0) h hqc) (cwV 3 hts gX1_grow_X1_newNode rfl rfl rfl (by decide +kernel) ⟨Nat.le_of_ble_eq_true rfl, Nat.le_of_ble_eq_true rfl⟩) hqc rfl rfl hl.1 rfl (Nat.le_of_ble_eq_true rfl) dX1_grow_101 ⟨Nat.le_of_ble_eq_true rfl, Nat.le_of_ble_eq_true rfl⟩) hS (fun r_5 u_5 H locs hq_5 hf hS => ?_)
            obtain ⟨fr, rfl, hfr0, hfrq, hu⟩ := hq_5
            have nfa : fr ≠ a := fun e => by rw [e, hca] at hfr0; cases hfr0
            have kq : u_5 q = some (trO root (nI N.length + 1)) := by rw [hu, va_up_ne _ _ (Ne.symm hfrq)]; exact va_up_self _ _ _
            have ka : u_5 a = some (ndE (tB t a) (nI (tL t a)) (tH t a) (nI (tR t a + 1)) (tZ t a) (tO t a)) := by rw [hu, va_up_ne _ _ (Ne.symm nfa), va_up_ne _ _ naq]; exact hca
            have kfr : u_5 fr = some (ndE x (nI k0) h (if h = -1 then 0 else 1) none none) := by rw [hu]; exact va_up_self _ _ _
            rw [if_neg hh] at kfr
            have nfc : fr ≠ x27 := fun e => by rw [e, hcc] at hfr0; cases hfr0
            have ncq : x27 ≠ q := hp_dif hcc hqc (by simp)
            have kc : u_5 x27 = some (ndo (t x27)) := by rw [hu, va_up_ne _ _ (Ne.symm nfc), va_up_ne _ _ ncq]; exact hcc
            have ha32 : tL t a < 32 := by omega
            refine hp_kq (hp_rV (C := RX1) (As := [.ref x27, .ref fr]) (rest := [.ref a]) ⟨hx, hb, hml, hown, hts⟩ C0 hf hS (c_X1_joined_some l D cy base u_5 q root (nI N.length + 1) x27 (tB t x27) (tL t x27) (tH t x27) (tR t x27) (tZ t x27) (tO t x27) fr x k0 h 1 kq kc kfr (Ne.symm nfc) hc32 hx0 (hend x27 hch)) (cwV 2 hts gX1_grow_X1_joined rfl rfl rfl (by decide +kernel) ⟨Nat.le_of_ble_eq_true rfl, Nat.le_of_ble_eq_true rfl⟩) kq rfl rfl hl.1 rfl (Nat.le_of_ble_eq_true rfl) dX1_grow_104 ⟨Nat.le_of_ble_eq_true rfl, Nat.le_of_ble_eq_true rfl⟩) hS (fun r_6 u_6 H locs hq_6 hf hS => ?_)
            rcases hq_6 with ⟨⟨j1, j2⟩, rfl, eu⟩ | ⟨k, g, j1, j2, j3, j4, rfl, hg0, hgq, eu⟩
            · have ka2 : u_6 a = some (ndE (tB t a) (nI (tL t a)) (tH t a) (nI (tR t a + 1)) (tZ t a) (tO t a)) := by rw [eu, va_up_ne _ _ (Ne.symm nfa)]; exact ka
              have kf2 : u_6 fr = some (ndE x (nI k0) h (nI (tR t x27 + 1)) (if bi (tB t x27) k0 = true then none else some x27) (if bi (tB t x27) k0 = true then some x27 else none)) := by rw [eu]; exact va_up_self _ _ _
              refine hp_kv (hp_rVN (C := RX0) (As := [.ref fr]) (rest := []) ⟨hx, hb, hml, hown, hts⟩ C0 hf hS (c_X0_hang l D cy base u_6 a (tB t a) (nI (tL t a)) (tH t a) (nI (tR t a + 1)) (tZ t a) (tO t a) fr x (nI k0) h (nI (tR t x27 + 1)) (if bi (tB t x27) k0 = true then none else some x27) (if bi (tB t x27) k0 = true then some x27 else none) ka2 kf2) ⟨va_cnB (host := RX1) (index := 99) 1 hts gX1_grow_X0_hang_n99 rfl rfl rfl (C0.2.2 _ (by decide +kernel)) (hts (.initialized RX0) (by decide +kernel)) (by decide +kernel) ⟨Nat.le_of_ble_eq_true rfl, Nat.le_of_ble_eq_true rfl⟩, hts (.instanceMethod yX0_hang) (by decide +kernel), hts (.selects RX0 yX0_hang yX0_hang) (by decide +kernel)⟩ ka2 rfl rfl hl.1 rfl (Nat.le_of_ble_eq_true rfl) dX1_grow_107 ⟨Nat.le_of_ble_eq_true rfl, Nat.le_of_ble_eq_true rfl⟩) hS (fun u_7 H locs hq_7 hf hS => ?_)
              rcases hq_7 with ⟨dz, ez⟩ | ⟨dz, ez⟩
              · rw [g1_n ha32] at dz
                have kend := fin_BC (u := u_7) (fr := fr) (rr := tR t x27 + 1) (zz := if bi (tB t x27) k0 = true then none else some x27) (oo := if bi (tB t x27) k0 = true then some x27 else none) hC ha hax halt hx0 hh hend hqc hTc hFc hfr0 (by rw [ez, va_up_ne _ _ nfa]; exact kf2) (by rw [ez, va_up_self, if_pos dz, if_pos dz]) (by rw [ez, va_up_ne _ _ (Ne.symm naq), eu, va_up_ne _ _ (Ne.symm hfrq)]; exact kq) (fun b n1 n2 n3 => by rw [ez, va_up_ne _ _ n2, eu, va_up_ne _ _ n1, hu, va_up_ne _ _ n1, va_up_ne _ _ n3]) (Or.inr ⟨x27, hch, j1, j2, rfl, rfl, rfl⟩)
                exact hp_vret hx hb hr hlocks C0 hf hS (by first | exact Nat.le_refl _ | omega) (by first | exact Nat.le_refl _ | omega) dX1_grow_110 (kend)
              · rw [g1_n ha32] at dz
                have kend := fin_BC (u := u_7) (fr := fr) (rr := tR t x27 + 1) (zz := if bi (tB t x27) k0 = true then none else some x27) (oo := if bi (tB t x27) k0 = true then some x27 else none) hC ha hax halt hx0 hh hend hqc hTc hFc hfr0 (by rw [ez, va_up_ne _ _ nfa]; exact kf2) (by rw [ez, va_up_self, if_neg dz, if_neg dz]) (by rw [ez, va_up_ne _ _ (Ne.symm naq), eu, va_up_ne _ _ (Ne.symm hfrq)]; exact kq) (fun b n1 n2 n3 => by rw [ez, va_up_ne _ _ n2, eu, va_up_ne _ _ n1, hu, va_up_ne _ _ n1, va_up_ne _ _ n3]) (Or.inr ⟨x27, hch, j1, j2, rfl, rfl, rfl⟩)
                exact hp_vret hx hb hr hlocks C0 hf hS (by first | exact Nat.le_refl _ | omega) (by first | exact Nat.le_refl _ | omega) dX1_grow_110 (kend)
            · have nga : g ≠ a := fun e => by rw [e, ka] at hg0; cases hg0
              have ngf : fr ≠ g := fun e => by rw [← e, kfr] at hg0; cases hg0
              have hgc : fc g = none := by rw [hu, va_up_ne _ _ (Ne.symm ngf), va_up_ne _ _ hgq] at hg0; exact hg0
              have ka2 : u_6 a = some (ndE (tB t a) (nI (tL t a)) (tH t a) (nI (tR t a + 1)) (tZ t a) (tO t a)) := by rw [eu, va_up_ne _ _ (Ne.symm nga), va_up_ne _ _ naq]; exact ka
              have kg2 : u_6 g = some (ndE (fb x k) (nI k) (-1) (nI (tR t x27 + 1)) (if bi x k = true then some x27 else some fr) (if bi x k = true then some fr else some x27)) := by rw [eu]; exact va_up_self _ _ _
              have hak : tL t a < k := by
                obtain ⟨-, -, c3, c4⟩ := hst.2.2.2.2.1 a ha _ x27 hch
                rcases Nat.lt_trichotomy (tL t a) k with z | z | z
                · exact z
                · exact absurd (by rw [← z]; exact c4) j4
                · exact absurd ((c3 k z).symm.trans (hax k z)) j4
              have hbk : bi (fb x k) (tL t a) = bi x (tL t a) := fb_ag (by omega) _ hak
              refine hp_kv (hp_rVN (C := RX0) (As := [.ref g]) (rest := []) ⟨hx, hb, hml, hown, hts⟩ C0 hf hS (c_X0_hang l D cy base u_6 a (tB t a) (nI (tL t a)) (tH t a) (nI (tR t a + 1)) (tZ t a) (tO t a) g (fb x k) (nI k) (-1) (nI (tR t x27 + 1)) (if bi x k = true then some x27 else some fr) (if bi x k = true then some fr else some x27) ka2 kg2) ⟨va_cnB (host := RX1) (index := 99) 1 hts gX1_grow_X0_hang_n99 rfl rfl rfl (C0.2.2 _ (by decide +kernel)) (hts (.initialized RX0) (by decide +kernel)) (by decide +kernel) ⟨Nat.le_of_ble_eq_true rfl, Nat.le_of_ble_eq_true rfl⟩, hts (.instanceMethod yX0_hang) (by decide +kernel), hts (.selects RX0 yX0_hang yX0_hang) (by decide +kernel)⟩ ka2 rfl rfl hl.1 rfl (Nat.le_of_ble_eq_true rfl) dX1_grow_107 ⟨Nat.le_of_ble_eq_true rfl, Nat.le_of_ble_eq_true rfl⟩) hS (fun u_8 H locs hq_8 hf hS => ?_)
              rcases hq_8 with ⟨dz, ez⟩ | ⟨dz, ez⟩
              · rw [g1_n ha32, hbk] at dz
                have kend := fin_D (u := u_8) (fr := fr) (g := g) (c := x27) (k := k) hC ha hax halt hx0 hh hend hqc hTc hFc hfr0 hgc ngf hch j1 j2 j3 j4 (by rw [ez, va_up_ne _ _ nfa, eu, va_up_ne _ _ ngf, va_up_ne _ _ hfrq]; exact kfr) (by rw [ez, va_up_ne _ _ nga]; exact kg2) (by rw [ez, va_up_self, if_pos dz, if_pos dz]) (by rw [ez, va_up_ne _ _ (Ne.symm naq), eu, va_up_ne _ _ (Ne.symm hgq)]; exact va_up_self _ _ _) (fun b n1 n2 n3 n4 => by rw [ez, va_up_ne _ _ n3, eu, va_up_ne _ _ n2, va_up_ne _ _ n4, hu, va_up_ne _ _ n1, va_up_ne _ _ n4])
                exact hp_vret hx hb hr hlocks C0 hf hS (by first | exact Nat.le_refl _ | omega) (by first | exact Nat.le_refl _ | omega) dX1_grow_110 (kend)
              · rw [g1_n ha32, hbk] at dz
                have kend := fin_D (u := u_8) (fr := fr) (g := g) (c := x27) (k := k) hC ha hax halt hx0 hh hend hqc hTc hFc hfr0 hgc ngf hch j1 j2 j3 j4 (by rw [ez, va_up_ne _ _ nfa, eu, va_up_ne _ _ ngf, va_up_ne _ _ hfrq]; exact kfr) (by rw [ez, va_up_ne _ _ nga]; exact kg2) (by rw [ez, va_up_self, if_neg dz, if_neg dz]) (by rw [ez, va_up_ne _ _ (Ne.symm naq), eu, va_up_ne _ _ (Ne.symm hgq)]; exact va_up_self _ _ _) (fun b n1 n2 n3 n4 => by rw [ez, va_up_ne _ _ n3, eu, va_up_ne _ _ n2, va_up_ne _ _ n4, hu, va_up_ne _ _ n1, va_up_ne _ _ n4])
                exact hp_vret hx hb hr hlocks C0 hf hS (by first | exact Nat.le_refl _ | omega) (by first | exact Nat.le_refl _ | omega) dX1_grow_110 (kend)
          · have hale : tL t a = k0 := (nI_eq (by omega) (by omega)).mp h80
            refine lv_aload hx hb dX1_grow_83 (lv_at hl 4 rfl) ?_
            refine lv_iload_n hx hb dX1_grow_85 rfl (lv_at hl 3 rfl) ?_
            refine hp_putN (ci := 0) (v := .int h) (own := RX1) (ref := RX0) (host := RX1) (index := 22) (C := RX0) (T := TX0) (N := 6) hx hb hts hin0 tyX0 tyX0_ok nmX0 hown C0 hf hS hca rfl 2 (by decide) (by decide +kernel) (fun _ h9 => h9) rfl rfl rfl (Nat.le_of_ble_eq_true rfl) dX1_grow_86 (fun f_9 H locs ef_9 hf hS => ?_)
            have hc_9 : f_9 a = some (.inr (0, [.int (tB t a), .int (nI (tL t a)), .int h, .int (nI (tR t a + 1)), va_rf (tZ t a), va_rf (tO t a)])) := by rw [ef_9]; exact va_up_self _ _ _
            have hc_9_q : f_9 q = some (.inr (1, [.ref root, .int (nI N.length)])) := by rw [ef_9, va_up_ne _ _ (hp_dif hqc hca (by simp))]; exact hqc
            have hc_9_x27 : f_9 x27 = some (.inr (0, [.int (tB t x27), .int (nI (tL t x27)), .int (tH t x27), .int (nI (tR t x27)), va_rf (tZ t x27), va_rf (tO t x27)])) := by rw [ef_9, va_up_ne _ _ nca]; exact hcc
            refine lv_goto (tgt := 110) hx hb dX1_grow_89 (by decide) ?_
            exact hp_vret hx hb hr hlocks C0 hf hS (by first | exact Nat.le_refl _ | omega) (by first | exact Nat.le_refl _ | omega) dX1_grow_110 (fin_A hC ha hax hale hx0 hh hno hqc hTc hFc ef_9)
        · refine lv_aload hx hb dX1_grow_39 (lv_at hl 5 rfl) ?_
          refine lv_iload_n hx hb dX1_grow_41 rfl (lv_at hl 1 rfl) ?_
          refine hp_ki (hp_rVN (C := RX0) (As := [.int x]) (rest := []) ⟨hx, hb, hml, hown, hts⟩ C0 hf hS (c_X0_isBeginOf l D cy base fc x27 (tB t x27) (nI (tL t x27)) (tH t x27) (nI (tR t x27)) (tZ t x27) (tO t x27) x hcc) ⟨va_cnB (host := RX1) (index := 65) 1 hts gX1_grow_X0_isBeginOf_n65 rfl rfl rfl (C0.2.2 _ (by decide +kernel)) (hts (.initialized RX0) (by decide +kernel)) (by decide +kernel) ⟨Nat.le_of_ble_eq_true rfl, Nat.le_of_ble_eq_true rfl⟩, hts (.instanceMethod yX0_isBeginOf) (by decide +kernel), hts (.selects RX0 yX0_isBeginOf yX0_isBeginOf) (by decide +kernel)⟩ hcc rfl rfl hl.1 rfl (Nat.le_of_ble_eq_true rfl) dX1_grow_42 ⟨Nat.le_of_ble_eq_true rfl, Nat.le_of_ble_eq_true rfl⟩) hS (fun r_10 u_10 H locs hq_10 hf hS => ?_)
          obtain ⟨hr_10, hu⟩ := hq_10
          rw [hu] at hf
          have hbg : ¬ r_10 = 0 ↔ ag (tB t x27) x (tL t x27) := by rw [← bg_iff pc]; rw [hr_10]; split <;> simp_all
          refine lv_if_eq (tgt := 74) hx hb dX1_grow_45 (by decide) (fun h45 => ?_) (fun h45 => ?_)
          · have hend : ∀ c, ch t a (bi x (tL t a)) = some c → ¬ (tL t c ≤ k0 ∧ ag (tB t c) x (tL t c)) := fun c g k => by rw [hch] at g; cases g; exact ((not_congr hbg).mp (fun z => z h45)) k.2
            refine lv_aload hx hb dX1_grow_74 (lv_at hl 4 rfl) ?_
            refine hp_getN (ci := 0) (v := .int (nI (tL t a))) (own := RX1) (ref := RX0) (host := RX1) (index := 53) (C := RX0) (T := TX0) (N := 6) hx hb hts hin0 hown C0 hf hca rfl 1 (by decide) (by decide +kernel) (fun _ h9 => h9) rfl dX1_grow_76 ?_
            refine lv_iload_n hx hb dX1_grow_79 rfl (lv_at hl 2 rfl) ?_
            refine lv_icmp_ne (tgt := 92) hx hb dX1_grow_80 (by decide) (fun h80 => ?_) (fun h80 => ?_)
            · have halt : tL t a < k0 := Nat.lt_of_le_of_ne hal (fun e => h80 (by rw [e]))
              refine lv_aload hx hb dX1_grow_92 (lv_at hl 4 rfl) ?_
              refine lv_aload_n hx hb dX1_grow_94 rfl (lv_at hl 0 rfl) ?_
              refine lv_aload hx hb dX1_grow_95 (lv_at hl 5 rfl) ?_
              refine lv_aload_n hx hb dX1_grow_97 rfl (lv_at hl 0 rfl) ?_
              refine lv_iload_n hx hb dX1_grow_98 rfl (lv_at hl 1 rfl) ?_
              refine lv_iload_n hx hb dX1_grow_99 rfl (lv_at hl 2 rfl) ?_
              refine lv_iload_n hx hb dX1_grow_100 rfl (lv_at hl 3 rfl) ?_
              refine hp_kq (hp_rV (C := RX1) (As := [.int x, .int (nI k0), .int h]) (rest := [.ref x27, .ref q, .ref a]) ⟨hx, hb, hml, hown, hts⟩ C0 hf hS (c_X1_newNode l D cy base fc q root (nI N.length) x (nI k0) h hqc) (cwV 3 hts gX1_grow_X1_newNode rfl rfl rfl (by decide +kernel) ⟨Nat.le_of_ble_eq_true rfl, Nat.le_of_ble_eq_true rfl⟩) hqc rfl rfl hl.1 rfl (Nat.le_of_ble_eq_true rfl) dX1_grow_101 ⟨Nat.le_of_ble_eq_true rfl, Nat.le_of_ble_eq_true rfl⟩) hS (fun r_11 u_11 H locs hq_11 hf hS => ?_)
              obtain ⟨fr, rfl, hfr0, hfrq, hu⟩ := hq_11
              have nfa : fr ≠ a := fun e => by rw [e, hca] at hfr0; cases hfr0
              have kq : u_11 q = some (trO root (nI N.length + 1)) := by rw [hu, va_up_ne _ _ (Ne.symm hfrq)]; exact va_up_self _ _ _
              have ka : u_11 a = some (ndE (tB t a) (nI (tL t a)) (tH t a) (nI (tR t a + 1)) (tZ t a) (tO t a)) := by rw [hu, va_up_ne _ _ (Ne.symm nfa), va_up_ne _ _ naq]; exact hca
              have kfr : u_11 fr = some (ndE x (nI k0) h (if h = -1 then 0 else 1) none none) := by rw [hu]; exact va_up_self _ _ _
              rw [if_neg hh] at kfr
              have nfc : fr ≠ x27 := fun e => by rw [e, hcc] at hfr0; cases hfr0
              have ncq : x27 ≠ q := hp_dif hcc hqc (by simp)
              have kc : u_11 x27 = some (ndo (t x27)) := by rw [hu, va_up_ne _ _ (Ne.symm nfc), va_up_ne _ _ ncq]; exact hcc
              have ha32 : tL t a < 32 := by omega
              refine hp_kq (hp_rV (C := RX1) (As := [.ref x27, .ref fr]) (rest := [.ref a]) ⟨hx, hb, hml, hown, hts⟩ C0 hf hS (c_X1_joined_some l D cy base u_11 q root (nI N.length + 1) x27 (tB t x27) (tL t x27) (tH t x27) (tR t x27) (tZ t x27) (tO t x27) fr x k0 h 1 kq kc kfr (Ne.symm nfc) hc32 hx0 (hend x27 hch)) (cwV 2 hts gX1_grow_X1_joined rfl rfl rfl (by decide +kernel) ⟨Nat.le_of_ble_eq_true rfl, Nat.le_of_ble_eq_true rfl⟩) kq rfl rfl hl.1 rfl (Nat.le_of_ble_eq_true rfl) dX1_grow_104 ⟨Nat.le_of_ble_eq_true rfl, Nat.le_of_ble_eq_true rfl⟩) hS (fun r_12 u_12 H locs hq_12 hf hS => ?_)
              rcases hq_12 with ⟨⟨j1, j2⟩, rfl, eu⟩ | ⟨k, g, j1, j2, j3, j4, rfl, hg0, hgq, eu⟩
              · have ka2 : u_12 a = some (ndE (tB t a) (nI (tL t a)) (tH t a) (nI (tR t a + 1)) (tZ t a) (tO t a)) := by rw [eu, va_up_ne _ _ (Ne.symm nfa)]; exact ka
                have kf2 : u_12 fr = some (ndE x (nI k0) h (nI (tR t x27 + 1)) (if bi (tB t x27) k0 = true then none else some x27) (if bi (tB t x27) k0 = true then some x27 else none)) := by rw [eu]; exact va_up_self _ _ _
                refine hp_kv (hp_rVN (C := RX0) (As := [.ref fr]) (rest := []) ⟨hx, hb, hml, hown, hts⟩ C0 hf hS (c_X0_hang l D cy base u_12 a (tB t a) (nI (tL t a)) (tH t a) (nI (tR t a + 1)) (tZ t a) (tO t a) fr x (nI k0) h (nI (tR t x27 + 1)) (if bi (tB t x27) k0 = true then none else some x27) (if bi (tB t x27) k0 = true then some x27 else none) ka2 kf2) ⟨va_cnB (host := RX1) (index := 99) 1 hts gX1_grow_X0_hang_n99 rfl rfl rfl (C0.2.2 _ (by decide +kernel)) (hts (.initialized RX0) (by decide +kernel)) (by decide +kernel) ⟨Nat.le_of_ble_eq_true rfl, Nat.le_of_ble_eq_true rfl⟩, hts (.instanceMethod yX0_hang) (by decide +kernel), hts (.selects RX0 yX0_hang yX0_hang) (by decide +kernel)⟩ ka2 rfl rfl hl.1 rfl (Nat.le_of_ble_eq_true rfl) dX1_grow_107 ⟨Nat.le_of_ble_eq_true rfl, Nat.le_of_ble_eq_true rfl⟩) hS (fun u_13 H locs hq_13 hf hS => ?_)
                rcases hq_13 with ⟨dz, ez⟩ | ⟨dz, ez⟩
                · rw [g1_n ha32] at dz
                  have kend := fin_BC (u := u_13) (fr := fr) (rr := tR t x27 + 1) (zz := if bi (tB t x27) k0 = true then none else some x27) (oo := if bi (tB t x27) k0 = true then some x27 else none) hC ha hax halt hx0 hh hend hqc hTc hFc hfr0 (by rw [ez, va_up_ne _ _ nfa]; exact kf2) (by rw [ez, va_up_self, if_pos dz, if_pos dz]) (by rw [ez, va_up_ne _ _ (Ne.symm naq), eu, va_up_ne _ _ (Ne.symm hfrq)]; exact kq) (fun b n1 n2 n3 => by rw [ez, va_up_ne _ _ n2, eu, va_up_ne _ _ n1, hu, va_up_ne _ _ n1, va_up_ne _ _ n3]) (Or.inr ⟨x27, hch, j1, j2, rfl, rfl, rfl⟩)
                  exact hp_vret hx hb hr hlocks C0 hf hS (by first | exact Nat.le_refl _ | omega) (by first | exact Nat.le_refl _ | omega) dX1_grow_110 (kend)
                · rw [g1_n ha32] at dz
                  have kend := fin_BC (u := u_13) (fr := fr) (rr := tR t x27 + 1) (zz := if bi (tB t x27) k0 = true then none else some x27) (oo := if bi (tB t x27) k0 = true then some x27 else none) hC ha hax halt hx0 hh hend hqc hTc hFc hfr0 (by rw [ez, va_up_ne _ _ nfa]; exact kf2) (by rw [ez, va_up_self, if_neg dz, if_neg dz]) (by rw [ez, va_up_ne _ _ (Ne.symm naq), eu, va_up_ne _ _ (Ne.symm hfrq)]; exact kq) (fun b n1 n2 n3 => by rw [ez, va_up_ne _ _ n2, eu, va_up_ne _ _ n1, hu, va_up_ne _ _ n1, va_up_ne _ _ n3]) (Or.inr ⟨x27, hch, j1, j2, rfl, rfl, rfl⟩)
                  exact hp_vret hx hb hr hlocks C0 hf hS (by first | exact Nat.le_refl _ | omega) (by first | exact Nat.le_refl _ | omega) dX1_grow_110 (kend)
              · have nga : g ≠ a := fun e => by rw [e, ka] at hg0; cases hg0
                have ngf : fr ≠ g := fun e => by rw [← e, kfr] at hg0; cases hg0
                have hgc : fc g = none := by rw [hu, va_up_ne _ _ (Ne.symm ngf), va_up_ne _ _ hgq] at hg0; exact hg0
                have ka2 : u_12 a = some (ndE (tB t a) (nI (tL t a)) (tH t a) (nI (tR t a + 1)) (tZ t a) (tO t a)) := by rw [eu, va_up_ne _ _ (Ne.symm nga), va_up_ne _ _ naq]; exact ka
                have kg2 : u_12 g = some (ndE (fb x k) (nI k) (-1) (nI (tR t x27 + 1)) (if bi x k = true then some x27 else some fr) (if bi x k = true then some fr else some x27)) := by rw [eu]; exact va_up_self _ _ _
                have hak : tL t a < k := by
                  obtain ⟨-, -, c3, c4⟩ := hst.2.2.2.2.1 a ha _ x27 hch
                  rcases Nat.lt_trichotomy (tL t a) k with z | z | z
                  · exact z
                  · exact absurd (by rw [← z]; exact c4) j4
                  · exact absurd ((c3 k z).symm.trans (hax k z)) j4
                have hbk : bi (fb x k) (tL t a) = bi x (tL t a) := fb_ag (by omega) _ hak
                refine hp_kv (hp_rVN (C := RX0) (As := [.ref g]) (rest := []) ⟨hx, hb, hml, hown, hts⟩ C0 hf hS (c_X0_hang l D cy base u_12 a (tB t a) (nI (tL t a)) (tH t a) (nI (tR t a + 1)) (tZ t a) (tO t a) g (fb x k) (nI k) (-1) (nI (tR t x27 + 1)) (if bi x k = true then some x27 else some fr) (if bi x k = true then some fr else some x27) ka2 kg2) ⟨va_cnB (host := RX1) (index := 99) 1 hts gX1_grow_X0_hang_n99 rfl rfl rfl (C0.2.2 _ (by decide +kernel)) (hts (.initialized RX0) (by decide +kernel)) (by decide +kernel) ⟨Nat.le_of_ble_eq_true rfl, Nat.le_of_ble_eq_true rfl⟩, hts (.instanceMethod yX0_hang) (by decide +kernel), hts (.selects RX0 yX0_hang yX0_hang) (by decide +kernel)⟩ ka2 rfl rfl hl.1 rfl (Nat.le_of_ble_eq_true rfl) dX1_grow_107 ⟨Nat.le_of_ble_eq_true rfl, Nat.le_of_ble_eq_true rfl⟩) hS (fun u_14 H locs hq_14 hf hS => ?_)
                rcases hq_14 with ⟨dz, ez⟩ | ⟨dz, ez⟩
                · rw [g1_n ha32, hbk] at dz
                  have kend := fin_D (u := u_14) (fr := fr) (g := g) (c := x27) (k := k) hC ha hax halt hx0 hh hend hqc hTc hFc hfr0 hgc ngf hch j1 j2 j3 j4 (by rw [ez, va_up_ne _ _ nfa, eu, va_up_ne _ _ ngf, va_up_ne _ _ hfrq]; exact kfr) (by rw [ez, va_up_ne _ _ nga]; exact kg2) (by rw [ez, va_up_self, if_pos dz, if_pos dz]) (by rw [ez, va_up_ne _ _ (Ne.symm naq), eu, va_up_ne _ _ (Ne.symm hgq)]; exact va_up_self _ _ _) (fun b n1 n2 n3 n4 => by rw [ez, va_up_ne _ _ n3, eu, va_up_ne _ _ n2, va_up_ne _ _ n4, hu, va_up_ne _ _ n1, va_up_ne _ _ n4])
                  exact hp_vret hx hb hr hlocks C0 hf hS (by first | exact Nat.le_refl _ | omega) (by first | exact Nat.le_refl _ | omega) dX1_grow_110 (kend)
                · rw [g1_n ha32, hbk] at dz
                  have kend := fin_D (u := u_14) (fr := fr) (g := g) (c := x27) (k := k) hC ha hax halt hx0 hh hend hqc hTc hFc hfr0 hgc ngf hch j1 j2 j3 j4 (by rw [ez, va_up_ne _ _ nfa, eu, va_up_ne _ _ ngf, va_up_ne _ _ hfrq]; exact kfr) (by rw [ez, va_up_ne _ _ nga]; exact kg2) (by rw [ez, va_up_self, if_neg dz, if_neg dz]) (by rw [ez, va_up_ne _ _ (Ne.symm naq), eu, va_up_ne _ _ (Ne.symm hgq)]; exact va_up_self _ _ _) (fun b n1 n2 n3 n4 => by rw [ez, va_up_ne _ _ n3, eu, va_up_ne _ _ n2, va_up_ne _ _ n4, hu, va_up_ne _ _ n1, va_up_ne _ _ n4])
                  exact hp_vret hx hb hr hlocks C0 hf hS (by first | exact Nat.le_refl _ | omega) (by first | exact Nat.le_refl _ | omega) dX1_grow_110 (kend)
            · have hale : tL t a = k0 := (nI_eq (by omega) (by omega)).mp h80
              refine lv_aload hx hb dX1_grow_83 (lv_at hl 4 rfl) ?_
              refine lv_iload_n hx hb dX1_grow_85 rfl (lv_at hl 3 rfl) ?_
              refine hp_putN (ci := 0) (v := .int h) (own := RX1) (ref := RX0) (host := RX1) (index := 22) (C := RX0) (T := TX0) (N := 6) hx hb hts hin0 tyX0 tyX0_ok nmX0 hown C0 hf hS hca rfl 2 (by decide) (by decide +kernel) (fun _ h9 => h9) rfl rfl rfl (Nat.le_of_ble_eq_true rfl) dX1_grow_86 (fun f_15 H locs ef_15 hf hS => ?_)
              have hc_15 : f_15 a = some (.inr (0, [.int (tB t a), .int (nI (tL t a)), .int h, .int (nI (tR t a + 1)), va_rf (tZ t a), va_rf (tO t a)])) := by rw [ef_15]; exact va_up_self _ _ _
              have hc_15_q : f_15 q = some (.inr (1, [.ref root, .int (nI N.length)])) := by rw [ef_15, va_up_ne _ _ (hp_dif hqc hca (by simp))]; exact hqc
              have hc_15_x27 : f_15 x27 = some (.inr (0, [.int (tB t x27), .int (nI (tL t x27)), .int (tH t x27), .int (nI (tR t x27)), va_rf (tZ t x27), va_rf (tO t x27)])) := by rw [ef_15, va_up_ne _ _ nca]; exact hcc
              refine lv_goto (tgt := 110) hx hb dX1_grow_89 (by decide) ?_
              exact hp_vret hx hb hr hlocks C0 hf hS (by first | exact Nat.le_refl _ | omega) (by first | exact Nat.le_refl _ | omega) dX1_grow_110 (fin_A hC ha hax hale hx0 hh hno hqc hTc hFc ef_15)
          · refine lv_aload hx hb dX1_grow_48 (lv_at hl 5 rfl) ?_
            refine lv_astore (lv' := [(4, .ref x27), (0, .ref q), (1, .int x), (2, .int (nI k0)), (3, .int h), (5, .ref x27)]) hx hb dX1_grow_50 hl (by decide) rfl (fun ls hl => ?_)
            refine lv_aload hx hb dX1_grow_52 (lv_at hl 0 rfl) ?_
            refine lv_iload_n hx hb dX1_grow_54 rfl (lv_at hl 2 rfl) ?_
            refine hp_kq (hp_rVN (C := RX0) (As := [.int x]) (rest := []) ⟨hx, hb, hml, hown, hts⟩ C0 hf hS (c_X0_toward l D cy base fc x27 (tB t x27) (nI (tL t x27)) (tH t x27) (nI (tR t x27)) (tZ t x27) (tO t x27) x hcc) ⟨va_cnB (host := RX1) (index := 69) 1 hts gX1_grow_X0_toward_n69 rfl rfl rfl (C0.2.2 _ (by decide +kernel)) (hts (.initialized RX0) (by decide +kernel)) (by decide +kernel) ⟨Nat.le_of_ble_eq_true rfl, Nat.le_of_ble_eq_true rfl⟩, hts (.instanceMethod yX0_toward) (by decide +kernel), hts (.selects RX0 yX0_toward yX0_toward) (by decide +kernel)⟩ hcc rfl rfl hl.1 rfl (Nat.le_of_ble_eq_true rfl) dX1_grow_55 ⟨Nat.le_of_ble_eq_true rfl, Nat.le_of_ble_eq_true rfl⟩) hS (fun r_16 u_16 H locs hq_16 hf hS => ?_)
            obtain ⟨hr_16, hu⟩ := hq_16
            rw [hu] at hf
            have er_16 := tw_ch (hst.2.2.1 x27 hcN).1 hr_16
            refine hp_astoreq (lv' := [(5, va_rf r_16), (4, .ref x27), (0, .ref q), (1, .int x), (2, .int (nI k0)), (3, .int h)]) hx hb dX1_grow_58 hl (by decide) rfl (fun ls hl => ?_)
            refine lv_aload hx hb dX1_grow_60 (lv_at hl 1 rfl) ?_
            refine lv_dup hx hb dX1_grow_62 rfl ?_
            refine hp_getN (ci := 0) (v := .int (nI (tR t x27))) (own := RX1) (ref := RX0) (host := RX1) (index := 25) (C := RX0) (T := TX0) (N := 6) hx hb hts hin0 hown C0 hf hcc rfl 3 (by decide) (by decide +kernel) (fun _ h9 => h9) rfl dX1_grow_63 ?_
            refine lv_iconst (v := 1) hx hb dX1_grow_66 (by decide) ?_
            refine lv_iadd hx hb dX1_grow_67 ?_
            refine hp_putN (ci := 0) (v := .int ((nI (tR t x27)) + 1)) (own := RX1) (ref := RX0) (host := RX1) (index := 25) (C := RX0) (T := TX0) (N := 6) hx hb hts hin0 tyX0 tyX0_ok nmX0 hown C0 hf hS hcc rfl 3 (by decide) (by decide +kernel) (fun _ h9 => h9) rfl rfl rfl (Nat.le_of_ble_eq_true rfl) dX1_grow_68 (fun f_17 H locs ef_17 hf hS => ?_)
            have hc_17 : f_17 x27 = some (.inr (0, [.int (tB t x27), .int (nI (tL t x27)), .int (tH t x27), .int ((nI (tR t x27)) + 1), va_rf (tZ t x27), va_rf (tO t x27)])) := by rw [ef_17]; exact va_up_self _ _ _
            have hc_17_q : f_17 q = some (.inr (1, [.ref root, .int (nI N.length)])) := by rw [ef_17, va_up_ne _ _ (hp_dif hqc hcc (by simp))]; exact hqc
            have hc_17_a : f_17 a = some (.inr (0, [.int (tB t a), .int (nI (tL t a)), .int (tH t a), .int (nI (tR t a + 1)), va_rf (tZ t a), va_rf (tO t a)])) := by rw [ef_17, va_up_ne _ _ (Ne.symm nca)]; exact hca
            refine lv_goto (tgt := 25) hx hb dX1_grow_71 (by decide) ?_
            have hcx := hbg.mp h45
            have hcl2 : tL t x27 ≤ k0 := Nat.not_lt.mp (fun z => h36 ((nI_ltI (by omega) (by omega)).mpr z))
            have hT1 : TN f_17 N (inc t x (tL t x27)) := fun y hy => by
              by_cases e : y = x27
              · rw [e, hc_17, inc_self pc hcx, nI_1]; rfl
              · rw [ef_17, va_up_ne _ _ e, inc_step hst ha hax hch hcx hy e]; exact hTc y hy
            have hF1 : FR f f_17 N q := fun b v k1 k2 k3 => by
              have e : b ≠ x27 := fun e => k2 (e ▸ hcN)
              rw [ef_17, va_up_ne _ _ e]; exact hFc b v k1 k2 k3
            exact ih x27 r_16 f_17 ls _ _ hcN (by omega) hcx hcl2 er_16 hc_17_q hT1 hF1 hf hS (lv_sub hl [2, 3, 4, 5, 1, 0] rfl)
  refine lv_aload_n hx hb dX1_grow_0 rfl (lv_at hl 0 rfl) ?_
  refine hp_get (ci := 1) (v := .ref root) (C := RX1) (T := TX1) (N := 2) hx hb hts hin1 hown C0 hf hq rfl 0 (by decide) (hts (.fieldLink RX1 14 "RouteTrie" "root" "LRouteTrie$Node;") (by decide +kernel)) (fun _ h9 => h9) rfl dX1_grow_1 ?_
  refine lv_astore (lv' := [(4, .ref root), (0, .ref q), (1, .int x), (2, .int (nI k0)), (3, .int h)]) hx hb dX1_grow_4 hl (by decide) rfl (fun ls hl => ?_)
  refine lv_aload hx hb dX1_grow_6 (lv_at hl 0 rfl) ?_
  refine lv_iload_n hx hb dX1_grow_8 rfl (lv_at hl 2 rfl) ?_
  refine hp_kq (hp_rVN (C := RX0) (As := [.int x]) (rest := []) ⟨hx, hb, hml, hown, hts⟩ C0 hf hS (c_X0_toward l D cy base f root (tB t root) (nI (tL t root)) (tH t root) (nI (tR t root)) (tZ t root) (tO t root) x (hT root hst.1.1)) ⟨va_cnB (host := RX1) (index := 69) 1 hts gX1_grow_X0_toward_n69 rfl rfl rfl (C0.2.2 _ (by decide +kernel)) (hts (.initialized RX0) (by decide +kernel)) (by decide +kernel) ⟨Nat.le_of_ble_eq_true rfl, Nat.le_of_ble_eq_true rfl⟩, hts (.instanceMethod yX0_toward) (by decide +kernel), hts (.selects RX0 yX0_toward yX0_toward) (by decide +kernel)⟩ (hT root hst.1.1) rfl rfl hl.1 rfl (Nat.le_of_ble_eq_true rfl) dX1_grow_9 ⟨Nat.le_of_ble_eq_true rfl, Nat.le_of_ble_eq_true rfl⟩) hS (fun r_1 u_1 H locs hq_1 hf hS => ?_)
  obtain ⟨hr_1, hu⟩ := hq_1
  rw [hu] at hf
  have er_1 := tw_ch (hst.2.2.1 root hst.1.1).1 hr_1
  refine hp_astoreq (lv' := [(5, va_rf r_1), (4, .ref root), (0, .ref q), (1, .int x), (2, .int (nI k0)), (3, .int h)]) hx hb dX1_grow_12 hl (by decide) rfl (fun ls hl => ?_)
  refine lv_aload hx hb dX1_grow_14 (lv_at hl 1 rfl) ?_
  refine lv_dup hx hb dX1_grow_16 rfl ?_
  refine hp_getN (ci := 0) (v := .int (nI (tR t root))) (own := RX1) (ref := RX0) (host := RX1) (index := 25) (C := RX0) (T := TX0) (N := 6) hx hb hts hin0 hown C0 hf (hT root hst.1.1) rfl 3 (by decide) (by decide +kernel) (fun _ h9 => h9) rfl dX1_grow_17 ?_
  refine lv_iconst (v := 1) hx hb dX1_grow_20 (by decide) ?_
  refine lv_iadd hx hb dX1_grow_21 ?_
  refine hp_putN (ci := 0) (v := .int ((nI (tR t root)) + 1)) (own := RX1) (ref := RX0) (host := RX1) (index := 25) (C := RX0) (T := TX0) (N := 6) hx hb hts hin0 tyX0 tyX0_ok nmX0 hown C0 hf hS (hT root hst.1.1) rfl 3 (by decide) (by decide +kernel) (fun _ h9 => h9) rfl rfl rfl (Nat.le_of_ble_eq_true rfl) dX1_grow_22 (fun f_2 H locs ef_2 hf hS => ?_)
  have hc_2 : f_2 root = some (.inr (0, [.int (tB t root), .int (nI (tL t root)), .int (tH t root), .int ((nI (tR t root)) + 1), va_rf (tZ t root), va_rf (tO t root)])) := by rw [ef_2]; exact va_up_self _ _ _
  have hc_2_q : f_2 q = some (.inr (1, [.ref root, .int (nI N.length)])) := by rw [ef_2, va_up_ne _ _ (hp_dif hq (hT root hst.1.1) (by simp))]; exact hq
  have hag0 : ag (tB t root) x (tL t root) := by rw [hst.1.2]; exact ag_0
  have hT1 : TN f_2 N (inc t x (tL t root)) := fun y hy => by
    by_cases e : y = root
    · rw [e, hc_2, inc_self (hst.2.2.1 root hst.1.1) hag0, nI_1]; rfl
    · rw [ef_2, va_up_ne _ _ e, hT y hy]
      congr 2
      unfold inc
      rw [if_neg]
      rw [Bool.and_eq_true, decide_eq_true_eq]
      intro g
      exact e (hst.2.2.2.1 y hy root hst.1.1 (by rw [hst.1.2] at g ⊢; omega) (by rw [show tL t y = 0 by rw [hst.1.2] at g; omega]; exact ag_0))
  have hF1 : FR f f_2 N q := fun b v k1 k2 k3 => by
    have e : b ≠ root := fun e => k2 (e ▸ hst.1.1)
    rw [ef_2, va_up_ne _ _ e]; exact k1
  exact loop 34 root r_1 f_2 ls _ _ hst.1.1 (by omega) hag0 (by rw [hst.1.2]; omega) er_1 hc_2_q hT1 hF1 hf hS (lv_sub hl [2, 3, 4, 5, 1, 0] rfl)
end
section
/-! insert, init, the constructor -/
def INp (f : AH) (q : Nat) (N : List Nat) (t : NT) (root : Nat) (x n h r : Int32) (u : AH) : Prop := (((¬ okP x n) ∨ h < 0) ∧ r = -1 ∧ u = f) ∨ ((¬ h < 0) ∧ ∃ k : Nat, n = nI k ∧ px x k ∧ ((∃ a ∈ N, tL t a = k ∧ tB t a = x ∧ isR t a = true ∧ r = 0 ∧ u = va_up f a (some (ndo (sethop (t a) h)))) ∨ ((∀ a ∈ N, isR t a = true → tL t a = k → ¬ tB t a = x) ∧ ((500 ≤ tR t root ∧ r = -2 ∧ u = f) ∨ (tR t root < 500 ∧ r = 1 ∧ GP f q N t root (x, k, h) u)))))
set_option maxHeartbeats 4000000 in
set_option maxRecDepth 100000 in
theorem c_X1_insert (l : Launch) (D : va_G) (cy : ClassId) (base : Nat) (f : AH) (q : Nat) (N : List Nat) (t : NT) (root : Nat) (x n h : Int32) (hq : f q = some (trO root (nI N.length))) (hT : TN f N t) (hC : CI N t root) (hbd : N.length < 2 ^ 30) : Met l yX1_insert wsX1_insert ({ frames := 6, cells := 2, slots := 12, locals := 107 }) (va_Pc [.ref q, .int x, .int n, .int h] (hp_B D cy base f)) (va_Qi (fun (r : Int32) (u : AH) => INp f q N t root x n h r u) (hp_B D cy base) (hp_A base)) 2 12 (hp_A base) := by
  refine Met.ofW (cc := cX1_insert) (maxL := 5) (ret := (some .int)) (by decide) rfl ?_
  intro p e s m args below meth c s₁ B hml hv
  obtain ⟨rfl, hf, C0⟩ := hv
  have hx := B.exec
  have hb := B.bytes
  have hr := B.returns
  have hts := atoms_spec (ws := wsX1_insert) B.pre
  have hown : s.vm.findClass RX1 = some m.cls := findClass_of_methodNamed B.named
  have hlocks := B.notSynchronized
  have hin0 : ∀ w ∈ wsX00, w ∈ wsX1_insert := by decide +kernel
  have hin1 : ∀ w ∈ wsX10, w ∈ wsX1_insert := by decide +kernel
  have hS : va_S (hp_A base) s.heap s.heap [] := va_S.rf
  have hl := lv_entry ([.ref q, .int x, .int n, .int h]) (n := 5) (Nat.le_of_ble_eq_true rfl)
  rw [lg_entry_eq]
  generalize (lg_sl ([.ref q, .int x, .int n, .int h]) ++ List.replicate (5 - (lg_sl ([.ref q, .int x, .int n, .int h])).length) Slot.unset).toArray = ls at hl ⊢
  have hl : lv_has ls 5 [(0, .ref q), (1, .int x), (2, .int n), (3, .int h)] := hl
  have hst := hC.1
  refine lv_iload_n hx hb dX1_insert_0 rfl (lv_at hl 1 rfl) ?_
  refine lv_iload_n hx hb dX1_insert_1 rfl (lv_at hl 2 rfl) ?_
  refine hp_ki (hp_rS (As := [.int x, .int n]) (rest := []) ⟨hx, hb, hml, hown, hts⟩ C0 hf hS (c_X1_isPrefix l D cy base f x n) (va_cwS 2 hts gX1_insert_X1_isPrefix rfl rfl rfl (by decide +kernel) ⟨Nat.le_of_ble_eq_true rfl, Nat.le_of_ble_eq_true rfl⟩) rfl hl.1 rfl (Nat.le_of_ble_eq_true rfl) dX1_insert_2 ⟨Nat.le_of_ble_eq_true rfl, Nat.le_of_ble_eq_true rfl⟩) hS (fun r_1 u_1 H locs hq_1 hf hS => ?_)
  obtain ⟨hr_1, hu⟩ := hq_1
  rw [hu] at hf
  have hpf := ite1 hr_1
  refine lv_if_eq (tgt := 12) hx hb dX1_insert_5 (by decide) (fun h5 => ?_) (fun h5 => ?_)
  · refine lv_iconst (v := (-1)) hx hb dX1_insert_12 (by decide) ?_
    exact hp_iret (v := (-1)) hx hb hr hlocks C0 hf hS (by first | exact Nat.le_refl _ | omega) (by first | exact Nat.le_refl _ | omega) dX1_insert_13 (Or.inl ⟨Or.inl ((not_congr hpf).mp (fun z => z h5)), rfl, rfl⟩)
  · refine lv_iload_n hx hb dX1_insert_8 rfl (lv_at hl 3 rfl) ?_
    refine lv_if_ge (tgt := 14) hx hb dX1_insert_9 (by decide) (fun h9 => ?_) (fun h9 => ?_)
    · refine lv_aload_n hx hb dX1_insert_14 rfl (lv_at hl 0 rfl) ?_
      refine lv_iload_n hx hb dX1_insert_15 rfl (lv_at hl 1 rfl) ?_
      refine lv_iload_n hx hb dX1_insert_16 rfl (lv_at hl 2 rfl) ?_
      refine hp_kq (hp_rV (C := RX1) (As := [.int x, .int n]) (rest := []) ⟨hx, hb, hml, hown, hts⟩ C0 hf hS (c_X1_routeAt l D cy base f q N t root (nI N.length) x n hq hT hst) (cwV 2 hts gX1_insert_X1_routeAt rfl rfl rfl (by decide +kernel) ⟨Nat.le_of_ble_eq_true rfl, Nat.le_of_ble_eq_true rfl⟩) hq rfl rfl hl.1 rfl (Nat.le_of_ble_eq_true rfl) dX1_insert_17 ⟨Nat.le_of_ble_eq_true rfl, Nat.le_of_ble_eq_true rfl⟩) hS (fun r_2 u_2 H locs hq_2 hf hS => ?_)
      obtain ⟨hr_2, hu⟩ := hq_2
      rw [hu] at hf
      refine hp_astoreq (lv' := [(4, va_rf r_2), (0, .ref q), (1, .int x), (2, .int n), (3, .int h)]) hx hb dX1_insert_20 hl (by decide) rfl (fun ls hl => ?_)
      refine hp_aloadq (r := r_2) hx hb dX1_insert_22 (lv_at hl 0 rfl) ?_
      refine hp_ifnullq (tgt := 35) (r := r_2) hx hb dX1_insert_24 (by decide) (fun h24 => ?_) (fun x24 h24 => ?_)
      · rw [h24] at hl
        have hl : lv_has ls 5 [(4, .null), (0, .ref q), (1, .int x), (2, .int n), (3, .int h)] := hl
        obtain ⟨k, rfl, hk⟩ := hpf.mp h5
        have k32 := hk.1
        have hno : ∀ a ∈ N, isR t a = true → tL t a = k → ¬ tB t a = x := fun a ha g1 g2 => hr_2.2 h24 a ha (isR_iff.mp g1) (by rw [g2])
        have hrt : tR t root < 2 ^ 30 := by rw [hC.2.1 root hst.1.1]; exact Nat.lt_of_le_of_lt cnt_le hbd
        refine lv_aload_n hx hb dX1_insert_35 rfl (lv_at hl 1 rfl) ?_
        refine hp_get (ci := 1) (v := .ref root) (C := RX1) (T := TX1) (N := 2) hx hb hts hin1 hown C0 hf hq rfl 0 (by decide) (hts (.fieldLink RX1 14 "RouteTrie" "root" "LRouteTrie$Node;") (by decide +kernel)) (fun _ h9 => h9) rfl dX1_insert_36 ?_
        refine hp_getN (ci := 0) (v := .int (nI (tR t root))) (own := RX1) (ref := RX0) (host := RX1) (index := 25) (C := RX0) (T := TX0) (N := 6) hx hb hts hin0 hown C0 hf (hT root hst.1.1) rfl 3 (by decide) (by decide +kernel) (fun _ h9 => h9) rfl dX1_insert_39 ?_
        refine lv_sipush (v := 500) hx hb dX1_insert_42 (by decide) ?_
        refine lv_icmp_lt (tgt := 51) hx hb dX1_insert_45 (by decide) (fun h45 => ?_) (fun h45 => ?_)
        · refine lv_aload_n hx hb dX1_insert_51 rfl (lv_at hl 1 rfl) ?_
          refine lv_iload_n hx hb dX1_insert_52 rfl (lv_at hl 2 rfl) ?_
          refine lv_iload_n hx hb dX1_insert_53 rfl (lv_at hl 3 rfl) ?_
          refine lv_iload_n hx hb dX1_insert_54 rfl (lv_at hl 4 rfl) ?_
          have hnn : ¬ h = -1 := fun e => by rw [e] at h9; exact absurd h9 (by decide)
          have hlt : tR t root < 500 := (nI_ltI (b := 500) (by omega) (by omega)).mp h45
          refine hp_kv (hp_rV (C := RX1) (As := [.int x, .int (nI k), .int h]) (rest := []) ⟨hx, hb, hml, hown, hts⟩ C0 hf hS (c_X1_grow l D cy base f q N t root x k h hq hT hC hk hnn (fun b hb g1 g2 => by cases hh : isR t b with | false => rfl | true => exact absurd g2 (hno b hb hh g1))) (cwV 3 hts gX1_insert_X1_grow rfl rfl rfl (by decide +kernel) ⟨Nat.le_of_ble_eq_true rfl, Nat.le_of_ble_eq_true rfl⟩) hq rfl rfl hl.1 rfl (Nat.le_of_ble_eq_true rfl) dX1_insert_55 ⟨Nat.le_of_ble_eq_true rfl, Nat.le_of_ble_eq_true rfl⟩) hS (fun u_3 H locs hq_3 hf hS => ?_)
          have hg := hq_3
          refine lv_iconst (v := 1) hx hb dX1_insert_58 (by decide) ?_
          exact hp_iret (v := 1) hx hb hr hlocks C0 hf hS (by first | exact Nat.le_refl _ | omega) (by first | exact Nat.le_refl _ | omega) dX1_insert_59 (Or.inr ⟨(Int32.not_lt.mpr h9), k, rfl, hk, Or.inr ⟨hno, Or.inr ⟨hlt, rfl, hg⟩⟩⟩)
        · refine lv_bipush (v := (-2)) hx hb dX1_insert_48 (by decide) ?_
          exact hp_iret (v := (-2)) hx hb hr hlocks C0 hf hS (by first | exact Nat.le_refl _ | omega) (by first | exact Nat.le_refl _ | omega) dX1_insert_50 (Or.inr ⟨(Int32.not_lt.mpr h9), k, rfl, hk, Or.inr ⟨hno, Or.inl ⟨Nat.not_lt.mp (fun z => h45 ((nI_ltI (b := 500) (by omega) (by omega)).mpr z)), rfl, rfl⟩⟩⟩)
      · rw [h24] at hl
        have hl : lv_has ls 5 [(4, .ref x24), (0, .ref q), (1, .int x), (2, .int n), (3, .int h)] := hl
        obtain ⟨hxN, hxn, hxb, hxh⟩ := hr_2.1 x24 h24
        refine lv_aload hx hb dX1_insert_27 (lv_at hl 0 rfl) ?_
        refine lv_iload_n hx hb dX1_insert_29 rfl (lv_at hl 4 rfl) ?_
        refine hp_putN (ci := 0) (v := .int h) (own := RX1) (ref := RX0) (host := RX1) (index := 22) (C := RX0) (T := TX0) (N := 6) hx hb hts hin0 tyX0 tyX0_ok nmX0 hown C0 hf hS (hT x24 hxN) rfl 2 (by decide) (by decide +kernel) (fun _ h9 => h9) rfl rfl rfl (Nat.le_of_ble_eq_true rfl) dX1_insert_30 (fun f_4 H locs ef_4 hf hS => ?_)
        have hc_4 : f_4 x24 = some (.inr (0, [.int (tB t x24), .int (nI (tL t x24)), .int h, .int (nI (tR t x24)), va_rf (tZ t x24), va_rf (tO t x24)])) := by rw [ef_4]; exact va_up_self _ _ _
        have hc_4_q : f_4 q = some (.inr (1, [.ref root, .int (nI N.length)])) := by rw [ef_4, va_up_ne _ _ (hp_dif hq (hT x24 hxN) (by simp))]; exact hq
        refine lv_iconst (v := 0) hx hb dX1_insert_33 (by decide) ?_
        exact hp_iret (v := 0) hx hb hr hlocks C0 hf hS (by first | exact Nat.le_refl _ | omega) (by first | exact Nat.le_refl _ | omega) dX1_insert_34 (Or.inr ⟨(Int32.not_lt.mpr h9), by obtain ⟨k, e, hk⟩ := hpf.mp h5; exact ⟨k, e, hk, Or.inl ⟨x24, hxN, ((nI_eq (by have := hk.1; omega) (by have := (hst.2.2.1 x24 hxN).1; omega)).mp (e.symm.trans hxn)).symm, hxb, isR_iff.mpr hxh, rfl, ef_4⟩⟩⟩)
    · refine lv_iconst (v := (-1)) hx hb dX1_insert_12 (by decide) ?_
      exact hp_iret (v := (-1)) hx hb hr hlocks C0 hf hS (by first | exact Nat.le_refl _ | omega) (by first | exact Nat.le_refl _ | omega) dX1_insert_13 (Or.inl ⟨Or.inr (Int32.not_le.mp h9), rfl, rfl⟩)
set_option maxHeartbeats 4000000 in
set_option maxRecDepth 100000 in
theorem c_X1_init_ (l : Launch) (D : va_G) (cy : ClassId) (base : Nat) (f : AH) (q : Nat) (N : List Nat) (t : NT) (root : Nat) (cnt : Int32) (hq : f q = some (trO root cnt)) (hT : TN f N t) (hrN : root ∈ N) : Met l yX1_init_ wsX1_init_ ({ frames := 0, cells := 0, slots := 0, locals := 0 }) (va_Pc [.ref q] (hp_B D cy base f)) (va_Qv (fun (u : AH) => u q = some (trO root 1) ∧ u root = some (ndE (tB t root) (nI (tL t root)) (-1) 0 none none) ∧ FR f u N q) (hp_B D cy base) (hp_A base)) 0 0 (hp_A base) := by
  refine Met.ofW (cc := cX1_init_) (maxL := 1) (ret := none) (by decide) rfl ?_
  intro p e s m args below meth c s₁ B hml hv
  obtain ⟨rfl, hf, C0⟩ := hv
  have hx := B.exec
  have hb := B.bytes
  have hr := B.returns
  have hts := atoms_spec (ws := wsX1_init_) B.pre
  have hown : s.vm.findClass RX1 = some m.cls := findClass_of_methodNamed B.named
  have hlocks := B.notSynchronized
  have hin0 : ∀ w ∈ wsX00, w ∈ wsX1_init_ := by decide +kernel
  have hin1 : ∀ w ∈ wsX10, w ∈ wsX1_init_ := by decide +kernel
  have hS : va_S (hp_A base) s.heap s.heap [] := va_S.rf
  have hl := lv_entry ([.ref q]) (n := 1) (Nat.le_of_ble_eq_true rfl)
  rw [lg_entry_eq]
  generalize (lg_sl ([.ref q]) ++ List.replicate (1 - (lg_sl ([.ref q])).length) Slot.unset).toArray = ls at hl ⊢
  have hl : lv_has ls 1 [(0, .ref q)] := hl
  refine lv_aload_n hx hb dX1_init__0 rfl (lv_at hl 0 rfl) ?_
  refine hp_get (ci := 1) (v := .ref root) (C := RX1) (T := TX1) (N := 2) hx hb hts hin1 hown C0 hf hq rfl 0 (by decide) (hts (.fieldLink RX1 14 "RouteTrie" "root" "LRouteTrie$Node;") (by decide +kernel)) (fun _ h9 => h9) rfl dX1_init__1 ?_
  refine lv_iconst (v := (-1)) hx hb dX1_init__4 (by decide) ?_
  refine hp_putN (ci := 0) (v := .int (-1)) (own := RX1) (ref := RX0) (host := RX1) (index := 22) (C := RX0) (T := TX0) (N := 6) hx hb hts hin0 tyX0 tyX0_ok nmX0 hown C0 hf hS (hT root hrN) rfl 2 (by decide) (by decide +kernel) (fun _ h9 => h9) rfl rfl rfl (Nat.le_of_ble_eq_true rfl) dX1_init__5 (fun f_1 H locs ef_1 hf hS => ?_)
  have hc_1 : f_1 root = some (.inr (0, [.int (tB t root), .int (nI (tL t root)), .int (-1), .int (nI (tR t root)), va_rf (tZ t root), va_rf (tO t root)])) := by rw [ef_1]; exact va_up_self _ _ _
  have hc_1_q : f_1 q = some (.inr (1, [.ref root, .int cnt])) := by rw [ef_1, va_up_ne _ _ (hp_dif hq (hT root hrN) (by simp))]; exact hq
  refine lv_aload_n hx hb dX1_init__8 rfl (lv_at hl 0 rfl) ?_
  refine hp_get (ci := 1) (v := .ref root) (C := RX1) (T := TX1) (N := 2) hx hb hts hin1 hown C0 hf hc_1_q rfl 0 (by decide) (hts (.fieldLink RX1 14 "RouteTrie" "root" "LRouteTrie$Node;") (by decide +kernel)) (fun _ h9 => h9) rfl dX1_init__9 ?_
  refine lv_iconst (v := 0) hx hb dX1_init__12 (by decide) ?_
  refine hp_putN (ci := 0) (v := .int 0) (own := RX1) (ref := RX0) (host := RX1) (index := 25) (C := RX0) (T := TX0) (N := 6) hx hb hts hin0 tyX0 tyX0_ok nmX0 hown C0 hf hS hc_1 rfl 3 (by decide) (by decide +kernel) (fun _ h9 => h9) rfl rfl rfl (Nat.le_of_ble_eq_true rfl) dX1_init__13 (fun f_2 H locs ef_2 hf hS => ?_)
  have hc_2 : f_2 root = some (.inr (0, [.int (tB t root), .int (nI (tL t root)), .int (-1), .int 0, va_rf (tZ t root), va_rf (tO t root)])) := by rw [ef_2]; exact va_up_self _ _ _
  have hc_2_q : f_2 q = some (.inr (1, [.ref root, .int cnt])) := by rw [ef_2, va_up_ne _ _ (hp_dif hc_1_q hc_1 (by simp))]; exact hc_1_q
  refine lv_aload_n hx hb dX1_init__16 rfl (lv_at hl 0 rfl) ?_
  refine hp_get (ci := 1) (v := .ref root) (C := RX1) (T := TX1) (N := 2) hx hb hts hin1 hown C0 hf hc_2_q rfl 0 (by decide) (hts (.fieldLink RX1 14 "RouteTrie" "root" "LRouteTrie$Node;") (by decide +kernel)) (fun _ h9 => h9) rfl dX1_init__17 ?_
  refine lv_null hx hb dX1_init__20 ?_
  refine hp_putN (ci := 0) (v := .null) (own := RX1) (ref := RX0) (host := RX1) (index := 28) (C := RX0) (T := TX0) (N := 6) hx hb hts hin0 tyX0 tyX0_ok nmX0 hown C0 hf hS hc_2 rfl 4 (by decide) (by decide +kernel) (fun _ h9 => h9) rfl rfl rfl (Nat.le_of_ble_eq_true rfl) dX1_init__21 (fun f_3 H locs ef_3 hf hS => ?_)
  have hc_3 : f_3 root = some (.inr (0, [.int (tB t root), .int (nI (tL t root)), .int (-1), .int 0, .null, va_rf (tO t root)])) := by rw [ef_3]; exact va_up_self _ _ _
  have hc_3_q : f_3 q = some (.inr (1, [.ref root, .int cnt])) := by rw [ef_3, va_up_ne _ _ (hp_dif hc_2_q hc_2 (by simp))]; exact hc_2_q
  refine lv_aload_n hx hb dX1_init__24 rfl (lv_at hl 0 rfl) ?_
  refine hp_get (ci := 1) (v := .ref root) (C := RX1) (T := TX1) (N := 2) hx hb hts hin1 hown C0 hf hc_3_q rfl 0 (by decide) (hts (.fieldLink RX1 14 "RouteTrie" "root" "LRouteTrie$Node;") (by decide +kernel)) (fun _ h9 => h9) rfl dX1_init__25 ?_
  refine lv_null hx hb dX1_init__28 ?_
  refine hp_putN (ci := 0) (v := .null) (own := RX1) (ref := RX0) (host := RX1) (index := 31) (C := RX0) (T := TX0) (N := 6) hx hb hts hin0 tyX0 tyX0_ok nmX0 hown C0 hf hS hc_3 rfl 5 (by decide) (by decide +kernel) (fun _ h9 => h9) rfl rfl rfl (Nat.le_of_ble_eq_true rfl) dX1_init__29 (fun f_4 H locs ef_4 hf hS => ?_)
  have hc_4 : f_4 root = some (.inr (0, [.int (tB t root), .int (nI (tL t root)), .int (-1), .int 0, .null, .null])) := by rw [ef_4]; exact va_up_self _ _ _
  have hc_4_q : f_4 q = some (.inr (1, [.ref root, .int cnt])) := by rw [ef_4, va_up_ne _ _ (hp_dif hc_3_q hc_3 (by simp))]; exact hc_3_q
  refine lv_aload_n hx hb dX1_init__32 rfl (lv_at hl 0 rfl) ?_
  refine lv_iconst (v := 1) hx hb dX1_init__33 (by decide) ?_
  refine hp_put (ci := 1) (v := .int 1) (C := RX1) (T := TX1) (N := 2) hx hb hts hin1 tyX1 tyX1_ok nmX1 hown C0 hf hS hc_4_q rfl 1 (by decide) (hts (.fieldLink RX1 18 "RouteTrie" "nodeCount" "I") (by decide +kernel)) (fun _ h9 => h9) rfl rfl rfl (Nat.le_of_ble_eq_true rfl) dX1_init__34 (fun f_5 H locs ef_5 hf hS => ?_)
  have hc_5 : f_5 q = some (.inr (1, [.ref root, .int 1])) := by rw [ef_5]; exact va_up_self _ _ _
  have hc_5_root : f_5 root = some (.inr (0, [.int (tB t root), .int (nI (tL t root)), .int (-1), .int 0, .null, .null])) := by rw [ef_5, va_up_ne _ _ (hp_dif hc_4 hc_4_q (by simp))]; exact hc_4
  have nq : root ≠ q := hp_dif (hT root hrN) hq (by simp)
  exact hp_vret hx hb hr hlocks C0 hf hS (by first | exact Nat.le_refl _ | omega) (by first | exact Nat.le_refl _ | omega) dX1_init__37 (⟨hc_5, hc_5_root, fun b v k1 k2 k3 => by have nr : b ≠ root := fun e => k2 (e ▸ hrN); rw [ef_5, va_up_ne _ _ k3, ef_4, va_up_ne _ _ nr, ef_3, va_up_ne _ _ nr, ef_2, va_up_ne _ _ nr, ef_1, va_up_ne _ _ nr]; exact k1⟩)
set_option maxHeartbeats 4000000 in
set_option maxRecDepth 100000 in
theorem c_X1_init (l : Launch) (D : va_G) (cy : ClassId) (base : Nat) (f : AH) (q : Nat) (hq : f q = some (.inr (1, [.null, .int 0]))) : Met l yX1_init wsX1_init ({ frames := 2, cells := 1, slots := 6, locals := 35 }) (va_Pc [.ref q] (hp_B D cy base f)) (va_Qv (fun (u : AH) => ∃ root : Nat, f root = none ∧ root ≠ q ∧ u = va_up (va_up f root (some (ndE 0 0 (-1) 0 none none))) q (some (trO root 1))) (hp_B D cy base) (hp_A base)) 1 6 (hp_A base) := by
  refine Met.ofW (cc := cX1_init) (maxL := 1) (ret := none) (by decide) rfl ?_
  intro p e s m args below meth c s₁ B hml hv
  obtain ⟨rfl, hf, C0⟩ := hv
  have hx := B.exec
  have hb := B.bytes
  have hr := B.returns
  have hts := atoms_spec (ws := wsX1_init) B.pre
  have hown : s.vm.findClass RX1 = some m.cls := findClass_of_methodNamed B.named
  have hlocks := B.notSynchronized
  have hin : meth.name = "<init>" := (name_of_methodNamed B.named B.method).1
  have hin0 : ∀ w ∈ wsX00, w ∈ wsX1_init := by decide +kernel
  have hin1 : ∀ w ∈ wsX10, w ∈ wsX1_init := by decide +kernel
  have hS : va_S (hp_A base) s.heap s.heap [] := va_S.rf
  have hl := lv_entry ([.ref q]) (n := 1) (Nat.le_of_ble_eq_true rfl)
  rw [lg_entry_eq]
  generalize (lg_sl ([.ref q]) ++ List.replicate (1 - (lg_sl ([.ref q])).length) Slot.unset).toArray = ls at hl ⊢
  have hl : lv_has ls 1 [(0, .ref q)] := hl
  refine lv_aload_n hx hb dX1_init_0 rfl (lv_at hl 0 rfl) ?_
  refine W.objInit hx hb hown (hts (.methodLink RX1 1 objectInit) (by decide +kernel)) (hts (.instanceMethod objectInit) (by decide +kernel)) (hts (.code objectInit ⟨#[0xb1]⟩ 1 none) (by decide +kernel)) rfl (by rw [hml]; exact hl.1) rfl dX1_init_1 (Nat.le_of_ble_eq_true rfl) (Nat.le_of_ble_eq_true rfl) ?_
  refine W.eq (g2 := F0 m 4 ls []) rfl ?_
  refine lv_aload_n hx hb dX1_init_4 rfl (lv_at hl 0 rfl) ?_
  refine hp_new (ci := 0) (fs := [.int 0, .int 0, .int 0, .int 0, .null, .null]) (C := RX0) (T := TX0) (N := 6) hx hb hts hin0 tyX0 tyX0_ok hown (hts (.classLink RX1 7 RX0) (by decide +kernel)) (hts (.instantiable RX0 6) (by decide +kernel)) (hts (.initialized RX0) (by decide +kernel)) C0 hf hS C0.1 rfl (fun j hj => by rcases (show j = 0 ∨ j = 1 ∨ j = 2 ∨ j = 3 ∨ j = 4 ∨ j = 5 by omega) with rfl | rfl | rfl | rfl | rfl | rfl <;> rfl) (Nat.le_of_ble_eq_true rfl) (Nat.le_of_ble_eq_true rfl) dX1_init_5 (fun a f_1 H hfr ef_1 hf hS => ?_)
  have ha : f_1 a = some (.inr (0, [.int 0, .int 0, .int 0, .int 0, .null, .null])) := by rw [ef_1]; exact va_up_self _ _ _
  have hne : a ≠ q := fun e => by rw [e, hq] at hfr; cases hfr
  refine lv_dup hx hb dX1_init_8 rfl ?_
  refine lv_iconst (v := 0) hx hb dX1_init_9 (by decide) ?_
  refine lv_iconst (v := 0) hx hb dX1_init_10 (by decide) ?_
  refine lv_iconst (v := (-1)) hx hb dX1_init_11 (by decide) ?_
  refine hp_kv (hp_rIN (As := [.int 0, .int 0, .int (-1)]) (rest := [.ref a, .ref q]) ⟨hx, hb, hml, hown, hts⟩ C0 hf hS (c_X0_init l D cy base f_1 a 0 0 (-1) ha) ⟨va_cnB (host := RX1) (index := 11) 3 hts gX1_init_X0_init_n11 rfl rfl rfl (C0.2.2 _ (by decide +kernel)) (hts (.initialized RX0) (by decide +kernel)) (by decide +kernel) ⟨Nat.le_of_ble_eq_true rfl, Nat.le_of_ble_eq_true rfl⟩, rfl, hts (.instanceMethod yX0_init) (by decide +kernel)⟩ rfl hl.1 rfl (Nat.le_of_ble_eq_true rfl) dX1_init_12 ⟨Nat.le_of_ble_eq_true rfl, Nat.le_of_ble_eq_true rfl⟩) hS (fun u_2 H locs hq_2 hf hS => ?_)
  rw [ef_1, bx_uu] at hq_2
  rw [if_pos rfl] at hq_2
  have kq : u_2 q = some (.inr (1, [.null, .int 0])) := by rw [hq_2, va_up_ne _ _ (Ne.symm hne)]; exact hq
  refine hp_putF (ci := 1) (v := .ref a) (C := RX1) (T := TX1) (N := 2) hx hb hts hin1 tyX1 tyX1_ok nmX1 hown C0 hf hS kq rfl 0 (by decide) (hts (.fieldLink RX1 14 "RouteTrie" "root" "LRouteTrie$Node;") (by decide +kernel)) (fun _ h9 => h9) rfl hin rfl rfl rfl (Nat.le_of_ble_eq_true rfl) dX1_init_15 (fun f_3 H locs ef_3 hf hS => ?_)
  have hc_3 : f_3 q = some (.inr (1, [.ref a, .int 0])) := by rw [ef_3]; exact va_up_self _ _ _
  refine lv_aload_n hx hb dX1_init_18 rfl (lv_at hl 0 rfl) ?_
  refine lv_iconst (v := 1) hx hb dX1_init_19 (by decide) ?_
  refine hp_put (ci := 1) (v := .int 1) (C := RX1) (T := TX1) (N := 2) hx hb hts hin1 tyX1 tyX1_ok nmX1 hown C0 hf hS hc_3 rfl 1 (by decide) (hts (.fieldLink RX1 18 "RouteTrie" "nodeCount" "I") (by decide +kernel)) (fun _ h9 => h9) rfl rfl rfl (Nat.le_of_ble_eq_true rfl) dX1_init_20 (fun f_4 H locs ef_4 hf hS => ?_)
  have hc_4 : f_4 q = some (.inr (1, [.ref a, .int 1])) := by rw [ef_4]; exact va_up_self _ _ _
  exact hp_vret hx hb hr hlocks C0 hf hS (by first | exact Nat.le_refl _ | omega) (by first | exact Nat.le_refl _ | omega) dX1_init_23 (⟨a, hfr, hne, by rw [ef_4, ef_3, bx_uu, hq_2]; rfl⟩)
end
section
/-! a route goes, and a node that is idle then -/
def dn1 (r : NR) : NR := (r.1, r.2.1, r.2.2.1, r.2.2.2.1 - 1, r.2.2.2.2.1, r.2.2.2.2.2)
def dcr (t : NT) (x : Int32) (j : Nat) : NT := fun y => if (bgx t x y && decide (tL t y < j)) = true then dn1 (t y) else t y
theorem dcr_B (t : NT) (x : Int32) (j y : Nat) : tB (dcr t x j) y = tB t y := by unfold dcr; simp only [tB]; split <;> rfl
theorem dcr_L (t : NT) (x : Int32) (j y : Nat) : tL (dcr t x j) y = tL t y := by unfold dcr; simp only [tL]; split <;> rfl
theorem dcr_H (t : NT) (x : Int32) (j y : Nat) : tH (dcr t x j) y = tH t y := by unfold dcr; simp only [tH]; split <;> rfl
theorem dcr_Z (t : NT) (x : Int32) (j y : Nat) : tZ (dcr t x j) y = tZ t y := by unfold dcr; simp only [tZ]; split <;> rfl
theorem dcr_O (t : NT) (x : Int32) (j y : Nat) : tO (dcr t x j) y = tO t y := by unfold dcr; simp only [tO]; split <;> rfl
theorem dcr_R (t : NT) (x : Int32) (j y : Nat) : tR (dcr t x j) y = tR t y - (if (bgx t x y && decide (tL t y < j)) = true then 1 else 0) := by unfold dcr; simp only [tR]; split <;> rfl
theorem dcr_ge {t : NT} {x : Int32} {j c : Nat} (h : j ≤ tL t c) : dcr t x j c = t c := by
  unfold dcr
  rw [if_neg]
  rw [Bool.and_eq_true, decide_eq_true_eq]
  omega
theorem dcr_self {t : NT} {x : Int32} {a j : Nat} (hp : px (tB t a) (tL t a)) (h : ag (tB t a) x (tL t a)) (hj : tL t a < j) : dcr t x j a = dn1 (t a) := by
  unfold dcr
  rw [if_pos]
  rw [Bool.and_eq_true, bgx_iff hp, decide_eq_true_eq]
  exact ⟨h, hj⟩
theorem dcr_step {N : List Nat} {t : NT} {root a c y : Nat} {x : Int32} (h : ST N t root) (ha : a ∈ N) (hax : ag (tB t a) x (tL t a)) (hc : ch t a (bi x (tL t a)) = some c) (hy : y ∈ N) (hya : y ≠ a) : dcr t x (tL t c) y = dcr t x (tL t a) y := by
  obtain ⟨c1, c2, c3, c4⟩ := h.2.2.2.2.1 a ha _ c hc
  unfold dcr
  by_cases hb : bgx t x y = true
  · have hyx := (bgx_iff (h.2.2.1 y hy)).mp hb
    have key : tL t y < tL t c ↔ tL t y < tL t a := by
      refine ⟨fun g => ?_, fun g => by omega⟩
      rcases Nat.lt_trichotomy (tL t y) (tL t a) with q | q | q
      · exact q
      · exact absurd (h.2.2.2.1 y hy a ha q (ag_tr hyx (ag_sy (by rw [q]; exact hax)))) hya
      · obtain ⟨c', k1, k2, k3⟩ := st_step h ha hax hy hyx q
        rw [hc] at k1
        have e := Option.some.inj k1
        rw [← e] at k2
        omega
    rw [decide_eq_decide.mpr key]
  · simp [hb]
theorem rout_pos {N : List Nat} {t : NT} {b g : Nat} (hr : RC N t) (hb : b ∈ N) (hg : g ∈ N) (hR : isR t g = true) (hp : pb t b g = true) : 0 < tR t b := by
  rw [hr b hb]
  exact List.countP_pos_iff.mpr ⟨g, hg, by rw [hR, hp]; rfl⟩
def FKx (N : List Nat) (t : NT) (root g : Nat) : Prop := ∀ b ∈ N, b ≠ root → b ≠ g → isR t b = false → ∀ d, ch t b d ≠ none
/-- the route g is none any more; the counts above it fell -/
theorem cut_T1 {N : List Nat} {t : NT} {root g : Nat} (C : CI N t root) (hg : g ∈ N) (hR : isR t g = true) (t' : NT) (et : ∀ y ∈ N, t' y = if y = g then (tB t g, tL t g, (-1 : Int32), tR t g - 1, tZ t g, tO t g) else dcr t (tB t g) (tL t g) y) :
    ST N t' root ∧ RC N t' ∧ FKx N t' root g ∧ isR t' g = false ∧ (rts N t).Perm (rdt t g :: rts N t') := by
  obtain ⟨hs, hr, hf⟩ := C
  have eB : ∀ y ∈ N, tB t' y = tB t y := fun y hy => by
    show (t' y).1 = _
    rw [et y hy]; split
    · next e => subst e; rfl
    · exact dcr_B t _ _ y
  have eL : ∀ y ∈ N, tL t' y = tL t y := fun y hy => by
    show (t' y).2.1 = _
    rw [et y hy]; split
    · next e => subst e; rfl
    · exact dcr_L t _ _ y
  have eZ : ∀ y ∈ N, tZ t' y = tZ t y := fun y hy => by
    show (t' y).2.2.2.2.1 = _
    rw [et y hy]; split
    · next e => subst e; rfl
    · exact dcr_Z t _ _ y
  have eO : ∀ y ∈ N, tO t' y = tO t y := fun y hy => by
    show (t' y).2.2.2.2.2 = _
    rw [et y hy]; split
    · next e => subst e; rfl
    · exact dcr_O t _ _ y
  have eH : ∀ y ∈ N, tH t' y = if y = g then -1 else tH t y := fun y hy => by
    show (t' y).2.2.1 = _
    rw [et y hy]; split
    · rfl
    · exact dcr_H t _ _ y
  have pg := hs.2.2.1 g hg
  have eR : ∀ y ∈ N, tR t' y = tR t y - (if pb t y g = true then 1 else 0) := fun y hy => by
    show (t' y).2.2.2.1 = _
    rw [et y hy]; split
    · next e =>
      subst e
      rw [if_pos ((pb_iff pg).mpr ⟨Nat.le_refl _, ag_rf⟩)]
    · next e =>
      show tR (dcr t _ _) y = _
      rw [dcr_R]
      congr 2
      refine propext ?_
      rw [Bool.and_eq_true, bgx_iff (hs.2.2.1 y hy), decide_eq_true_eq, pb_iff (hs.2.2.1 y hy)]
      refine ⟨fun k => ⟨by omega, k.1⟩, fun k => ⟨k.2, ?_⟩⟩
      rcases Nat.lt_or_ge (tL t y) (tL t g) with q | q
      · exact q
      · exact absurd (hs.2.2.2.1 y hy g hg (by omega) k.2) e
  have hRg : isR t' g = false := by unfold isR; rw [eH g hg, if_pos rfl]; rfl
  have hRn : ∀ y ∈ N, y ≠ g → isR t' y = isR t y := fun y hy q => isR_eq (by rw [eH y hy, if_neg q])
  have hs' : ST N t' root := st_same hs (fun y hy => ⟨eB y hy, eL y hy, eZ y hy, eO y hy⟩)
  refine ⟨hs', fun b hb => ?_, fun b hb g1 g2 g3 d => ?_, hRg, ?_⟩
  · rw [eR b hb, hr b hb, cnt_split (p := fun y => isR t y && pb t b y) (q := fun y => isR t' y && pb t' b y) (r := fun y => (y == g) && pb t b g)]
    · cases hp : pb t b g with
      | false => simp
      | true => simp only [Bool.and_true, if_true]; rw [cnt_one hs.2.1 hg]; omega
    · intro y hy
      rw [pb_eq (eB b hb) (eL b hb) (eB y hy) (eL y hy)]
      by_cases e : y = g
      · subst e
        simp [hRg, hR]
      · rw [hRn y hy e]
        simp [e]
  · rw [hRn b hb g2] at g3
    have h2 := hf b hb g1 g3 d
    unfold ch at h2 ⊢
    rw [eZ b hb, eO b hb]
    exact h2
  · obtain ⟨M, m1, m2, m3, m4⟩ := rts_one (t := t) (t' := t') hg hs.2.1 (fun b hb e => by unfold rdt; rw [eB b hb, eL b hb, eH b hb, if_neg e])
    refine List.Perm.trans m2 (List.Perm.trans ?_ (List.Perm.cons _ m3.symm))
    rw [rts_cons, rts_cons, hRg, hR, m4]
    simp
theorem cnt_erase {N : List Nat} {p : Nat → Bool} {g : Nat} (hg : g ∈ N) (hp : p g = false) : (N.erase g).countP p = N.countP p := by
  rw [(List.perm_cons_erase hg).countP_eq p, List.countP_cons, hp]; simp
theorem drop_ci {N : List Nat} {t : NT} {root g p : Nat} {d : Bool} (h : ST N t root) (hr : RC N t) (hg : g ∈ N) (hgr : g ≠ root) (hp : p ∈ N) (hpg : ch t p d = some g) (hR : isR t g = false) (hone : tZ t g = none ∨ tO t g = none)
    (t' : NT) (et : ∀ y ∈ N, y ≠ g → t' y = if y = p then setch (t p) d ((tZ t g).or (tO t g)) else t y) : ST (N.erase g) t' root ∧ RC (N.erase g) t' ∧ (rts (N.erase g) t').Perm (rts N t) := by
  have hm : ∀ b, b ∈ N.erase g ↔ b ≠ g ∧ b ∈ N := fun b => h.2.1.mem_erase_iff
  have pne : p ≠ g := fun e => by have := (h.2.2.2.2.1 p hp d g hpg).2.1; rw [e] at this; omega
  have dat : ∀ b ∈ N, b ≠ g → tB t' b = tB t b ∧ tL t' b = tL t b ∧ tH t' b = tH t b ∧ tR t' b = tR t b := fun b hb e => by
    simp only [tB, tL, tH, tR]
    rw [et b hb e]; split
    · next e2 => subst e2; exact ⟨rfl, rfl, rfl, rfl⟩
    · exact ⟨rfl, rfl, rfl, rfl⟩
  have ec : ∀ b ∈ N, b ≠ g → ∀ d', ch t' b d' = if b = p ∧ d' = d then (tZ t g).or (tO t g) else ch t b d' := fun b hb e d' => by
    by_cases e2 : b = p
    · subst e2
      have e3 := et b hb e
      rw [if_pos rfl] at e3
      rw [ch_setch e3]
      by_cases z : d' = d
      · rw [if_pos z, if_pos ⟨rfl, z⟩]
      · rw [if_neg z, show (if b = b ∧ d' = d then (tZ t g).or (tO t g) else ch t b d') = ch t b d' from if_neg (fun k => z k.2)]; rfl
    · rw [if_neg (fun k => e2 k.1)]
      have e3 := et b hb e
      rw [if_neg e2] at e3
      unfold ch; simp only [tO, tZ, e3]
  have sT := st_del (one := (tZ t g).or (tO t g)) h hg hgr hp hpg (fun d' c k => by
      unfold ch at k
      rcases hone with z | z
      · cases d'
        · simp at k; rw [z] at k; cases k
        · simp at k; rw [z, k]; rfl
      · cases d'
        · simp at k; rw [k]; rfl
        · simp at k; rw [z] at k; cases k) (fun c k => by
      rcases hone with z | z
      · rw [z] at k; exact ⟨true, by unfold ch; rw [if_pos rfl]; simpa using k⟩
      · rw [z] at k; exact ⟨false, by unfold ch; rw [if_neg (by decide)]; simpa using k⟩) t' (fun b hb e => ⟨(dat b hb e).1, (dat b hb e).2.1⟩) (fun b hb e d' k => by rw [ec b hb e, if_neg k]) (by rw [ec p hp pne, if_pos ⟨rfl, rfl⟩])
  refine ⟨sT, fun b hb => ?_, ?_⟩
  · obtain ⟨n1, n2⟩ := (hm b).mp hb
    rw [(dat b n2 n1).2.2.2, hr b n2, ← cnt_erase (p := fun y => isR t y && pb t b y) hg (by rw [hR]; rfl)]
    refine cnt_congr fun y hy => ?_
    obtain ⟨m1, m2⟩ := (hm y).mp hy
    rw [isR_eq (dat y m2 m1).2.2.1, pb_eq (dat b n2 n1).1 (dat b n2 n1).2.1 (dat y m2 m1).1 (dat y m2 m1).2.1]
  · rw [rts_congr (t := t) (t' := t') (fun b hb => by
      obtain ⟨n1, n2⟩ := (hm b).mp hb
      unfold rdt; rw [(dat b n2 n1).1, (dat b n2 n1).2.1, (dat b n2 n1).2.2.1])]
    refine List.Perm.trans ?_ (rts_perm (List.perm_cons_erase hg)).symm
    rw [rts_cons, hR]
    simp
theorem drop_ch {N : List Nat} {t t' : NT} {g p : Nat} {d : Bool} {v : Option Nat} (et : ∀ y ∈ N, y ≠ g → t' y = if y = p then setch (t p) d v else t y) {b : Nat} (hb : b ∈ N) (e : b ≠ g) (d' : Bool) : ch t' b d' = if b = p ∧ d' = d then v else ch t b d' := by
  by_cases e2 : b = p
  · subst e2
    have e3 := et b hb e
    rw [if_pos rfl] at e3
    rw [ch_setch e3]
    by_cases z : d' = d
    · rw [if_pos z, if_pos ⟨rfl, z⟩]
    · rw [if_neg z, show (if b = b ∧ d' = d then v else ch t b d') = ch t b d' from if_neg (fun k => z k.2)]; rfl
  · rw [if_neg (fun k => e2 k.1)]
    have e3 := et b hb e
    rw [if_neg e2] at e3
    unfold ch; simp only [tO, tZ, e3]
theorem or_none {a b : Option Nat} : a.or b = none ↔ a = none ∧ b = none := by cases a <;> cases b <;> simp [Option.or]
end
section
/-! the heap behind cutting -/
def CP (f : AH) (q : Nat) (N : List Nat) (t : NT) (root g : Nat) (u : AH) : Prop := ∃ (N' : List Nat) (t' : NT), u q = some (trO root (nI N'.length)) ∧ TN u N' t' ∧ CI N' t' root ∧ (rts N t).Perm (rdt t g :: rts N' t') ∧ FR f u N q ∧ N'.length ≤ N.length
/-- what dropIfIdle does to the heap, p over g -/
def DRp (f : AH) (q root : Nat) (cnt : Int32) (p1 : Nat) (pb0 pn ph pr : Int32) (pz po : Option Nat) (g : Nat) (gh : Int32) (gz go : Option Nat) (u : AH) : Prop :=
  (((¬ gh = -1) ∨ ((¬ gz = none) ∧ ¬ go = none)) ∧ u = f) ∨ (gh = -1 ∧ (gz = none ∨ go = none) ∧ ((po = some g ∧ u = va_up (va_up f p1 (some (ndE pb0 pn ph pr pz (gz.or go)))) q (some (trO root (cnt - 1)))) ∨ ((¬ po = some g) ∧ u = va_up (va_up f p1 (some (ndE pb0 pn ph pr (gz.or go) po))) q (some (trO root (cnt - 1))))))
abbrev DRn (f : AH) (q root : Nat) (cnt : Int32) (t : NT) (p g : Nat) (u : AH) : Prop := DRp f q root cnt p (tB t p) (nI (tL t p)) (tH t p) (nI (tR t p)) (tZ t p) (tO t p) g (tH t g) (tZ t g) (tO t g) u
theorem drop_d {N : List Nat} {t : NT} {root g p : Nat} {d : Bool} (h : ST N t root) (hp : p ∈ N) (hpg : ch t p d = some g) : tO t p = some g ↔ d = true := by
  constructor
  · intro k
    have k1 : ch t p true = some g := k
    have e1 := (h.2.2.2.2.1 p hp _ g k1).2.2.2
    have e2 := (h.2.2.2.2.1 p hp _ g hpg).2.2.2
    rw [← e2, e1]
  · intro k; subst k; exact hpg
/-- dropIfIdle on nodes of the tree: either it had no cause, or the node is gone -/
theorem drop_heap {fc u : AH} {N : List Nat} {t : NT} {root q g p : Nat} {d : Bool} (h : ST N t root) (hr : RC N t) (hq : fc q = some (trO root (nI N.length))) (hT : TN fc N t) (hg : g ∈ N) (hgr : g ≠ root) (hp : p ∈ N) (hpg : ch t p d = some g) (hD : DRn fc q root (nI N.length) t p g u) :
    ((isR t g = true ∨ ((¬ tZ t g = none) ∧ ¬ tO t g = none)) ∧ u = fc) ∨ (isR t g = false ∧ ∃ t' : NT, (∀ y ∈ N, y ≠ g → t' y = if y = p then setch (t p) d ((tZ t g).or (tO t g)) else t y) ∧ ST (N.erase g) t' root ∧ RC (N.erase g) t' ∧ (rts (N.erase g) t').Perm (rts N t) ∧ TN u (N.erase g) t' ∧ u q = some (trO root (nI (N.erase g).length)) ∧ FR fc u N q) := by
  have hqN := q_notin hq hT
  have npq : p ≠ q := fun e => hqN (e ▸ hp)
  rcases hD with ⟨h1, h2⟩ | ⟨h1, h2, h3⟩
  · refine Or.inl ⟨?_, h2⟩
    rcases h1 with k | k
    · exact Or.inl (isR_iff.mpr k)
    · exact Or.inr k
  · have hR : isR t g = false := by unfold isR; rw [h1]; rfl
    refine Or.inr ⟨hR, fun y => if y = p then setch (t p) d ((tZ t g).or (tO t g)) else t y, fun y _ _ => rfl, ?_⟩
    obtain ⟨k1, k2, k3⟩ := drop_ci (t' := fun y => if y = p then setch (t p) d ((tZ t g).or (tO t g)) else t y) h hr hg hgr hp hpg hR h2 (fun y _ _ => rfl)
    have eu : u = va_up (va_up fc p (some (ndo (setch (t p) d ((tZ t g).or (tO t g)))))) q (some (trO root (nI N.length - 1))) := by
      rcases h3 with ⟨e1, e2⟩ | ⟨e1, e2⟩
      · rw [e2, (drop_d h hp hpg).mp e1]; rfl
      · have : d = false := by
          cases d with
          | false => rfl
          | true => exact absurd ((drop_d h hp hpg).mpr rfl) e1
        rw [e2, this]; rfl
    refine ⟨k1, k2, k3, fun y hy => ?_, ?_, fun b v g1 g2 g3 => ?_⟩
    · obtain ⟨n1, n2⟩ := h.2.1.mem_erase_iff.mp hy
      have nyq : y ≠ q := fun e => hqN (e ▸ n2)
      by_cases e : y = p
      · subst e; rw [eu, va_up_ne _ _ nyq, va_up_self]; simp only [if_true]
      · rw [eu, va_up_ne _ _ nyq, va_up_ne _ _ e]; simp only [e, if_false]; exact hT y n2
    · have hlen : 0 < N.length := List.length_pos_of_mem hg
      rw [eu, va_up_self, List.length_erase_of_mem hg, show (1 : Int32) = nI 1 from rfl, pk_sub (by omega)]
    · have e1 : b ≠ p := fun e => g2 (e ▸ hp)
      rw [eu, va_up_ne _ _ g3, va_up_ne _ _ e1]; exact g1
theorem FR.trans {f g u : AH} {N M : List Nat} {q : Nat} (h1 : FR f g N q) (h2 : FR g u M q) (hM : ∀ b ∈ M, b ∈ N) : FR f u N q := fun b v k1 k2 k3 => h2 b v (h1 b v k1 k2 k3) (fun z => k2 (hM b z)) k3
/-- the root itself -/
theorem cut_R {f f1 u : AH} {N : List Nat} {t t1 : NT} {root q g : Nat} (hq : f1 q = some (trO root (nI N.length))) (hT : TN f1 N t1) (h1 : ST N t1 root ∧ RC N t1 ∧ FKx N t1 root g ∧ isR t1 g = false ∧ (rts N t).Perm (rdt t g :: rts N t1)) (hF : FR f f1 N q) (hgr : g = root) (hu : u = f1) : CP f q N t root g u := by
  rw [hu]
  exact ⟨N, t1, hq, hT, ⟨h1.1, h1.2.1, fun b hb g1 g2 => h1.2.2.1 b hb g1 (by rw [hgr]; exact g1) g2⟩, h1.2.2.2.2, hF, Nat.le_refl _⟩
theorem cut_P {f f1 f2 u : AH} {N : List Nat} {t t1 : NT} {root q g p : Nat} {d : Bool} (hq : f1 q = some (trO root (nI N.length))) (hT : TN f1 N t1) (h1 : ST N t1 root ∧ RC N t1 ∧ FKx N t1 root g ∧ isR t1 g = false ∧ (rts N t).Perm (rdt t g :: rts N t1)) (hF : FR f f1 N q) (hg : g ∈ N) (hp : p ∈ N) (hpg : ch t1 p d = some g)
    (D1 : DRn f1 q root (nI N.length) t1 p g f2)
    (D2 : (p = root ∧ u = f2) ∨ ∃ (g2 : Nat) (d2 : Bool), g2 ∈ N ∧ ch t1 g2 d2 = some p ∧ ∀ (M : List Nat) (tm : NT), f2 q = some (trO root (nI M.length)) → TN f2 M tm → g2 ∈ M → p ∈ M → DRn f2 q root (nI M.length) tm g2 p u) : CP f q N t root g u := by
  obtain ⟨hs, hr, hk, hR, hpm⟩ := h1
  have root0 : ∀ x y d', x ∈ N → ch t1 x d' = some y → y ≠ root := fun x y d' hx e k => by
    have := (hs.2.2.2.2.1 x hx d' y e).2.1
    rw [k, hs.1.2] at this; omega
  have hgr : g ≠ root := root0 p g d hp hpg
  have pne : p ≠ g := fun e => by have := (hs.2.2.2.2.1 p hp d g hpg).2.1; rw [e] at this; omega
  rcases drop_heap hs hr hq hT hg hgr hp hpg D1 with ⟨k1, k2⟩ | ⟨-, t2, e2, s2, r2, p2, T2, q2, F2⟩
  · -- g stays: it parts two
    have hFK : FK N t1 root := fun b hb g1 g2 d' => by
      by_cases e : b = g
      · subst e
        rcases k1 with k | k
        · rw [hR] at k; cases k
        · unfold ch; split
          · exact k.2
          · exact k.1
      · exact hk b hb g1 e g2 d'
    have done : u = f2 → CP f q N t root g u := fun e => by rw [e, k2]; exact ⟨N, t1, hq, hT, ⟨hs, hr, hFK⟩, hpm, hF, Nat.le_refl _⟩
    rcases D2 with ⟨-, e⟩ | ⟨g2, d2, hg2, hc2, D2⟩
    · exact done e
    · have hpr := root0 g2 p d2 hg2 hc2
      rw [k2] at D2 done
      rcases drop_heap hs hr hq hT hp hpr hg2 hc2 (D2 N t1 hq hT hg2 hp) with ⟨-, m2⟩ | ⟨m1, -⟩
      · exact done m2
      · -- it would have to be idle
        have z1 := hFK p hp hpr m1 false
        have z2 := hFK p hp hpr m1 true
        rcases D2 N t1 hq hT hg2 hp with ⟨-, m⟩ | ⟨-, m, -⟩
        · exact done m
        · rcases m with m | m
          · exact absurd m z1
          · exact absurd m z2
  · have hm : ∀ b, b ∈ N.erase g ↔ b ≠ g ∧ b ∈ N := fun b => hs.2.1.mem_erase_iff
    have hp2 : p ∈ N.erase g := (hm p).mpr ⟨pne, hp⟩
    have hFk2 : FKx (N.erase g) t2 root p := fun b hb g1 g2 g3 d' => by
      obtain ⟨n1, n2⟩ := (hm b).mp hb
      rw [drop_ch e2 n2 n1, if_neg (fun k => g2 k.1)]
      refine hk b n2 g1 n1 ?_ d'
      have e3 := e2 b n2 n1
      rw [if_neg g2] at e3
      unfold isR at g3 ⊢; simp only [tH, e3] at g3; exact g3
    have perm2 : (rts N t).Perm (rdt t g :: rts (N.erase g) t2) := hpm.trans (List.Perm.cons _ p2.symm)
    have F12 : FR f f2 N q := hF.trans F2 (fun b h => h)
    rcases D2 with ⟨e1, e⟩ | ⟨g2, d2, hg2, hc2, D2⟩
    · rw [e]
      exact ⟨N.erase g, t2, q2, T2, ⟨s2, r2, fun b hb g1 g2 => hFk2 b hb g1 (by rw [e1]; exact g1) g2⟩, perm2, F12, List.length_erase_le⟩
    · have hpr := root0 g2 p d2 hg2 hc2
      have l1 := (hs.2.2.2.2.1 g2 hg2 d2 p hc2).2.1
      have l2 := (hs.2.2.2.2.1 p hp d g hpg).2.1
      have g2g : g2 ≠ g := fun e => by rw [e] at l1; omega
      have g2p : g2 ≠ p := fun e => by rw [e] at l1; omega
      have hg22 : g2 ∈ N.erase g := (hm g2).mpr ⟨g2g, hg2⟩
      have hc22 : ch t2 g2 d2 = some p := by rw [drop_ch e2 hg2 g2g, if_neg (fun k => g2p k.1)]; exact hc2
      rcases drop_heap s2 r2 q2 T2 hp2 hpr hg22 hc22 (D2 _ _ q2 T2 hg22 hp2) with ⟨m1, m2⟩ | ⟨m1, t3, e3, s3, r3, p3, T3, q3, F3⟩
      · rw [m2]
        refine ⟨N.erase g, t2, q2, T2, ⟨s2, r2, fun b hb g1 g3 d' => ?_⟩, perm2, F12, List.length_erase_le⟩
        by_cases e : b = p
        · subst e
          rcases m1 with k | k
          · rw [k] at g3; cases g3
          · unfold ch; split
            · exact k.2
            · exact k.1
        · exact hFk2 b hb g1 e g3 d'
      · refine ⟨(N.erase g).erase p, t3, q3, T3, ⟨s3, r3, fun b hb g1 g3 d' => ?_⟩, perm2.trans (List.Perm.cons _ p3.symm), F12.trans F3 (fun b h => ((hm b).mp h).2), Nat.le_trans List.length_erase_le List.length_erase_le⟩
        obtain ⟨n1, n2⟩ := s2.2.1.mem_erase_iff.mp hb
        rw [drop_ch e3 n2 n1]
        by_cases z : b = g2 ∧ d' = d2
        · rw [if_pos z]
          intro k
          obtain ⟨k1, k2⟩ := or_none.mp k
          -- p had two children before
          have hRp : isR t1 p = false := by
            have e4 := e2 p hp pne
            rw [if_pos rfl] at e4
            unfold isR at m1 ⊢; simp only [tH, e4] at m1; exact m1
          have c0 : ∀ d', ch t2 p d' = none := fun d' => by unfold ch; split; exact k2; exact k1
          have := c0 (!d)
          rw [drop_ch e2 hp pne, if_neg (fun k => by have := k.2; cases d <;> cases this)] at this
          exact hk p hp hpr pne hRp (!d) this
        · rw [if_neg z]
          refine hFk2 b n2 g1 n1 ?_ d'
          have e4 := e3 b n2 n1
          unfold isR at g3 ⊢
          simp only [tH, e4] at g3
          split at g3
          · next e5 => subst e5; exact g3
          · exact g3
end
section
/-! dropIfIdle, cut, remove -/
set_option maxHeartbeats 4000000 in
set_option maxRecDepth 100000 in
theorem c_X1_drop_0n (l : Launch) (D : va_G) (cy : ClassId) (base : Nat) (f : AH) (q : Nat)  : Met l yX1_dropIfIdle wsX1_dropIfIdle ({ frames := 1, cells := 0, slots := 0, locals := 22 }) (va_Pc [.ref q, .null, .null] (hp_B D cy base f)) (va_Qv (fun (u : AH) => u = f) (hp_B D cy base) (hp_A base)) 0 0 (hp_A base) := by
  refine Met.ofW (cc := cX1_dropIfIdle) (maxL := 3) (ret := none) (by decide) rfl ?_
  intro p e s m args below meth c s₁ B hml hv
  obtain ⟨rfl, hf, C0⟩ := hv
  have hx := B.exec
  have hb := B.bytes
  have hr := B.returns
  have hts := atoms_spec (ws := wsX1_dropIfIdle) B.pre
  have hown : s.vm.findClass RX1 = some m.cls := findClass_of_methodNamed B.named
  have hlocks := B.notSynchronized
  have hS : va_S (hp_A base) s.heap s.heap [] := va_S.rf
  have hl := lv_entry ([.ref q, .null, .null]) (n := 3) (Nat.le_of_ble_eq_true rfl)
  rw [lg_entry_eq]
  generalize (lg_sl ([.ref q, .null, .null]) ++ List.replicate (3 - (lg_sl ([.ref q, .null, .null])).length) Slot.unset).toArray = ls at hl ⊢
  have hl : lv_has ls 3 [(0, .ref q), (1, .null), (2, .null)] := hl
  refine lv_aload_nN hx hb dX1_dropIfIdle_0 rfl (lv_at hl 1 rfl) ?_
  refine lv_ifnullN (tgt := 15) hx hb dX1_dropIfIdle_1 (by decide) ?_
  exact hp_vret hx hb hr hlocks C0 hf hS (by first | exact Nat.le_refl _ | omega) (by first | exact Nat.le_refl _ | omega) dX1_dropIfIdle_15 (rfl)
set_option maxHeartbeats 4000000 in
set_option maxRecDepth 100000 in
theorem c_X1_drop_0s (l : Launch) (D : va_G) (cy : ClassId) (base : Nat) (f : AH) (q g : Nat)  : Met l yX1_dropIfIdle wsX1_dropIfIdle ({ frames := 1, cells := 0, slots := 0, locals := 22 }) (va_Pc [.ref q, .null, .ref g] (hp_B D cy base f)) (va_Qv (fun (u : AH) => u = f) (hp_B D cy base) (hp_A base)) 0 0 (hp_A base) := by
  refine Met.ofW (cc := cX1_dropIfIdle) (maxL := 3) (ret := none) (by decide) rfl ?_
  intro p e s m args below meth c s₁ B hml hv
  obtain ⟨rfl, hf, C0⟩ := hv
  have hx := B.exec
  have hb := B.bytes
  have hr := B.returns
  have hts := atoms_spec (ws := wsX1_dropIfIdle) B.pre
  have hown : s.vm.findClass RX1 = some m.cls := findClass_of_methodNamed B.named
  have hlocks := B.notSynchronized
  have hS : va_S (hp_A base) s.heap s.heap [] := va_S.rf
  have hl := lv_entry ([.ref q, .null, .ref g]) (n := 3) (Nat.le_of_ble_eq_true rfl)
  rw [lg_entry_eq]
  generalize (lg_sl ([.ref q, .null, .ref g]) ++ List.replicate (3 - (lg_sl ([.ref q, .null, .ref g])).length) Slot.unset).toArray = ls at hl ⊢
  have hl : lv_has ls 3 [(0, .ref q), (1, .null), (2, .ref g)] := hl
  refine lv_aload_nN hx hb dX1_dropIfIdle_0 rfl (lv_at hl 1 rfl) ?_
  refine lv_ifnullN (tgt := 15) hx hb dX1_dropIfIdle_1 (by decide) ?_
  exact hp_vret hx hb hr hlocks C0 hf hS (by first | exact Nat.le_refl _ | omega) (by first | exact Nat.le_refl _ | omega) dX1_dropIfIdle_15 (rfl)
set_option maxHeartbeats 4000000 in
set_option maxRecDepth 100000 in
theorem c_X1_drop (l : Launch) (D : va_G) (cy : ClassId) (base : Nat) (f : AH) (q root : Nat) (cnt : Int32) (p1 : Nat) (pb0 pn ph pr : Int32) (pz po : Option Nat) (g : Nat) (gb gn gh gr : Int32) (gz go : Option Nat) (hq : f q = some (trO root cnt)) (hp1 : f p1 = some (ndE pb0 pn ph pr pz po)) (hg : f g = some (ndE gb gn gh gr gz go)) (hne : p1 ≠ g) : Met l yX1_dropIfIdle wsX1_dropIfIdle ({ frames := 1, cells := 0, slots := 0, locals := 22 }) (va_Pc [.ref q, .ref p1, .ref g] (hp_B D cy base f)) (va_Qv (fun (u : AH) => DRp f q root cnt p1 pb0 pn ph pr pz po g gh gz go u) (hp_B D cy base) (hp_A base)) 0 0 (hp_A base) := by
  refine Met.ofW (cc := cX1_dropIfIdle) (maxL := 3) (ret := none) (by decide) rfl ?_
  intro p e s m args below meth c s₁ B hml hv
  obtain ⟨rfl, hf, C0⟩ := hv
  have hx := B.exec
  have hb := B.bytes
  have hr := B.returns
  have hts := atoms_spec (ws := wsX1_dropIfIdle) B.pre
  have hown : s.vm.findClass RX1 = some m.cls := findClass_of_methodNamed B.named
  have hlocks := B.notSynchronized
  have hin0 : ∀ w ∈ wsX00, w ∈ wsX1_dropIfIdle := by decide +kernel
  have hin1 : ∀ w ∈ wsX10, w ∈ wsX1_dropIfIdle := by decide +kernel
  have hS : va_S (hp_A base) s.heap s.heap [] := va_S.rf
  have hl := lv_entry ([.ref q, .ref p1, .ref g]) (n := 3) (Nat.le_of_ble_eq_true rfl)
  rw [lg_entry_eq]
  generalize (lg_sl ([.ref q, .ref p1, .ref g]) ++ List.replicate (3 - (lg_sl ([.ref q, .ref p1, .ref g])).length) Slot.unset).toArray = ls at hl ⊢
  have hl : lv_has ls 3 [(0, .ref q), (1, .ref p1), (2, .ref g)] := hl
  refine lv_aload_n hx hb dX1_dropIfIdle_0 rfl (lv_at hl 1 rfl) ?_
  refine lv_ifnull hx hb dX1_dropIfIdle_1 ?_
  refine lv_aload_n hx hb dX1_dropIfIdle_4 rfl (lv_at hl 2 rfl) ?_
  refine lv_ifnull hx hb dX1_dropIfIdle_5 ?_
  refine lv_aload_n hx hb dX1_dropIfIdle_8 rfl (lv_at hl 2 rfl) ?_
  refine hp_ki (hp_rVN (C := RX0) (As := []) (rest := []) ⟨hx, hb, hml, hown, hts⟩ C0 hf hS (c_X0_isRoute l D cy base f g gb gn gh gr gz go hg) ⟨va_cnB (host := RX1) (index := 87) 0 hts gX1_dropIfIdle_X0_isRoute_n87 rfl rfl rfl (C0.2.2 _ (by decide +kernel)) (hts (.initialized RX0) (by decide +kernel)) (by decide +kernel) ⟨Nat.le_of_ble_eq_true rfl, Nat.le_of_ble_eq_true rfl⟩, hts (.instanceMethod yX0_isRoute) (by decide +kernel), hts (.selects RX0 yX0_isRoute yX0_isRoute) (by decide +kernel)⟩ hg rfl rfl hl.1 rfl (Nat.le_of_ble_eq_true rfl) dX1_dropIfIdle_9 ⟨Nat.le_of_ble_eq_true rfl, Nat.le_of_ble_eq_true rfl⟩) hS (fun r_1 u_1 H locs hq_1 hf hS => ?_)
  obtain ⟨hr_1, hu⟩ := hq_1
  rw [hu] at hf
  have hir : r_1 = 0 ↔ gh = -1 := by rw [hr_1]; split <;> simp_all
  refine lv_if_eq (tgt := 16) hx hb dX1_dropIfIdle_12 (by decide) (fun h12 => ?_) (fun h12 => ?_)
  · refine lv_aload_n hx hb dX1_dropIfIdle_16 rfl (lv_at hl 2 rfl) ?_
    refine hp_getN (ci := 0) (v := va_rf gz) (own := RX1) (ref := RX0) (host := RX1) (index := 28) (C := RX0) (T := TX0) (N := 6) hx hb hts hin0 hown C0 hf hg rfl 4 (by decide) (by decide +kernel) (fun _ h9 => h9) rfl dX1_dropIfIdle_17 ?_
    refine hp_ifnullq (tgt := 31) (r := gz) hx hb dX1_dropIfIdle_20 (by decide) (fun h20 => ?_) (fun x20 h20 => ?_)
    · subst h20
      refine lv_aload_n hx hb dX1_dropIfIdle_31 rfl (lv_at hl 1 rfl) ?_
      refine lv_aload_n hx hb dX1_dropIfIdle_32 rfl (lv_at hl 2 rfl) ?_
      refine lv_aload_n hx hb dX1_dropIfIdle_33 rfl (lv_at hl 2 rfl) ?_
      refine hp_getN (ci := 0) (v := .null) (own := RX1) (ref := RX0) (host := RX1) (index := 28) (C := RX0) (T := TX0) (N := 6) hx hb hts hin0 hown C0 hf hg rfl 4 (by decide) (by decide +kernel) (fun _ h9 => h9) rfl dX1_dropIfIdle_34 ?_
      refine lv_ifnullN (tgt := 47) hx hb dX1_dropIfIdle_37 (by decide) ?_
      refine lv_aload_n hx hb dX1_dropIfIdle_47 rfl (lv_at hl 2 rfl) ?_
      refine hp_getN (ci := 0) (v := va_rf go) (own := RX1) (ref := RX0) (host := RX1) (index := 31) (C := RX0) (T := TX0) (N := 6) hx hb hts hin0 hown C0 hf hg rfl 5 (by decide) (by decide +kernel) (fun _ h9 => h9) rfl dX1_dropIfIdle_48 ?_
      rcases go with _ | o1
      · refine hp_kv (hp_rVN (C := RX0) (As := [.ref g, .null]) (rest := []) ⟨hx, hb, hml, hown, hts⟩ C0 hf hS (c_X0_replace_none l D cy base f p1 pb0 pn ph pr pz po g hp1) ⟨va_cnB (host := RX1) (index := 110) 2 hts gX1_dropIfIdle_X0_replace_n110 rfl rfl rfl (C0.2.2 _ (by decide +kernel)) (hts (.initialized RX0) (by decide +kernel)) (by decide +kernel) ⟨Nat.le_of_ble_eq_true rfl, Nat.le_of_ble_eq_true rfl⟩, hts (.instanceMethod yX0_replace) (by decide +kernel), hts (.selects RX0 yX0_replace yX0_replace) (by decide +kernel)⟩ hp1 rfl rfl hl.1 rfl (Nat.le_of_ble_eq_true rfl) dX1_dropIfIdle_51 ⟨Nat.le_of_ble_eq_true rfl, Nat.le_of_ble_eq_true rfl⟩) hS (fun u_2 H locs hq_2 hf hS => ?_)
        rcases hq_2 with ⟨dr, er⟩ | ⟨dr, er⟩
        · have npq : p1 ≠ q := hp_dif hp1 hq (by simp)
          have kq : u_2 q = some (trO root cnt) := by rw [er, va_up_ne _ _ (Ne.symm npq)]; exact hq
          refine lv_aload_n hx hb dX1_dropIfIdle_54 rfl (lv_at hl 0 rfl) ?_
          refine lv_dup hx hb dX1_dropIfIdle_55 rfl ?_
          refine hp_get (ci := 1) (v := .int cnt) (C := RX1) (T := TX1) (N := 2) hx hb hts hin1 hown C0 hf kq rfl 1 (by decide) (hts (.fieldLink RX1 18 "RouteTrie" "nodeCount" "I") (by decide +kernel)) (fun _ h9 => h9) rfl dX1_dropIfIdle_56 ?_
          refine lv_iconst (v := 1) hx hb dX1_dropIfIdle_59 (by decide) ?_
          refine lv_isub hx hb dX1_dropIfIdle_60 ?_
          refine hp_put (ci := 1) (v := .int (cnt - 1)) (C := RX1) (T := TX1) (N := 2) hx hb hts hin1 tyX1 tyX1_ok nmX1 hown C0 hf hS kq rfl 1 (by decide) (hts (.fieldLink RX1 18 "RouteTrie" "nodeCount" "I") (by decide +kernel)) (fun _ h9 => h9) rfl rfl rfl (Nat.le_of_ble_eq_true rfl) dX1_dropIfIdle_61 (fun f_3 H locs ef_3 hf hS => ?_)
          have hc_3 : f_3 q = some (.inr (1, [.ref root, .int (cnt - 1)])) := by rw [ef_3]; exact va_up_self _ _ _
          exact hp_vret hx hb hr hlocks C0 hf hS (by first | exact Nat.le_refl _ | omega) (by first | exact Nat.le_refl _ | omega) dX1_dropIfIdle_64 (Or.inr ⟨hir.mp h12, Or.inl rfl, Or.inl ⟨dr, by rw [ef_3, er]; rfl⟩⟩)
        · have npq : p1 ≠ q := hp_dif hp1 hq (by simp)
          have kq : u_2 q = some (trO root cnt) := by rw [er, va_up_ne _ _ (Ne.symm npq)]; exact hq
          refine lv_aload_n hx hb dX1_dropIfIdle_54 rfl (lv_at hl 0 rfl) ?_
          refine lv_dup hx hb dX1_dropIfIdle_55 rfl ?_
          refine hp_get (ci := 1) (v := .int cnt) (C := RX1) (T := TX1) (N := 2) hx hb hts hin1 hown C0 hf kq rfl 1 (by decide) (hts (.fieldLink RX1 18 "RouteTrie" "nodeCount" "I") (by decide +kernel)) (fun _ h9 => h9) rfl dX1_dropIfIdle_56 ?_
          refine lv_iconst (v := 1) hx hb dX1_dropIfIdle_59 (by decide) ?_
          refine lv_isub hx hb dX1_dropIfIdle_60 ?_
          refine hp_put (ci := 1) (v := .int (cnt - 1)) (C := RX1) (T := TX1) (N := 2) hx hb hts hin1 tyX1 tyX1_ok nmX1 hown C0 hf hS kq rfl 1 (by decide) (hts (.fieldLink RX1 18 "RouteTrie" "nodeCount" "I") (by decide +kernel)) (fun _ h9 => h9) rfl rfl rfl (Nat.le_of_ble_eq_true rfl) dX1_dropIfIdle_61 (fun f_4 H locs ef_4 hf hS => ?_)
          have hc_4 : f_4 q = some (.inr (1, [.ref root, .int (cnt - 1)])) := by rw [ef_4]; exact va_up_self _ _ _
          exact hp_vret hx hb hr hlocks C0 hf hS (by first | exact Nat.le_refl _ | omega) (by first | exact Nat.le_refl _ | omega) dX1_dropIfIdle_64 (Or.inr ⟨hir.mp h12, Or.inl rfl, Or.inr ⟨dr, by rw [ef_4, er]; rfl⟩⟩)
      · refine hp_kv (hp_rVN (C := RX0) (As := [.ref g, .ref o1]) (rest := []) ⟨hx, hb, hml, hown, hts⟩ C0 hf hS (c_X0_replace_some l D cy base f p1 pb0 pn ph pr pz po g o1 hp1) ⟨va_cnB (host := RX1) (index := 110) 2 hts gX1_dropIfIdle_X0_replace_n110 rfl rfl rfl (C0.2.2 _ (by decide +kernel)) (hts (.initialized RX0) (by decide +kernel)) (by decide +kernel) ⟨Nat.le_of_ble_eq_true rfl, Nat.le_of_ble_eq_true rfl⟩, hts (.instanceMethod yX0_replace) (by decide +kernel), hts (.selects RX0 yX0_replace yX0_replace) (by decide +kernel)⟩ hp1 rfl rfl hl.1 rfl (Nat.le_of_ble_eq_true rfl) dX1_dropIfIdle_51 ⟨Nat.le_of_ble_eq_true rfl, Nat.le_of_ble_eq_true rfl⟩) hS (fun u_5 H locs hq_5 hf hS => ?_)
        rcases hq_5 with ⟨dr, er⟩ | ⟨dr, er⟩
        · have npq : p1 ≠ q := hp_dif hp1 hq (by simp)
          have kq : u_5 q = some (trO root cnt) := by rw [er, va_up_ne _ _ (Ne.symm npq)]; exact hq
          refine lv_aload_n hx hb dX1_dropIfIdle_54 rfl (lv_at hl 0 rfl) ?_
          refine lv_dup hx hb dX1_dropIfIdle_55 rfl ?_
          refine hp_get (ci := 1) (v := .int cnt) (C := RX1) (T := TX1) (N := 2) hx hb hts hin1 hown C0 hf kq rfl 1 (by decide) (hts (.fieldLink RX1 18 "RouteTrie" "nodeCount" "I") (by decide +kernel)) (fun _ h9 => h9) rfl dX1_dropIfIdle_56 ?_
          refine lv_iconst (v := 1) hx hb dX1_dropIfIdle_59 (by decide) ?_
          refine lv_isub hx hb dX1_dropIfIdle_60 ?_
          refine hp_put (ci := 1) (v := .int (cnt - 1)) (C := RX1) (T := TX1) (N := 2) hx hb hts hin1 tyX1 tyX1_ok nmX1 hown C0 hf hS kq rfl 1 (by decide) (hts (.fieldLink RX1 18 "RouteTrie" "nodeCount" "I") (by decide +kernel)) (fun _ h9 => h9) rfl rfl rfl (Nat.le_of_ble_eq_true rfl) dX1_dropIfIdle_61 (fun f_6 H locs ef_6 hf hS => ?_)
          have hc_6 : f_6 q = some (.inr (1, [.ref root, .int (cnt - 1)])) := by rw [ef_6]; exact va_up_self _ _ _
          exact hp_vret hx hb hr hlocks C0 hf hS (by first | exact Nat.le_refl _ | omega) (by first | exact Nat.le_refl _ | omega) dX1_dropIfIdle_64 (Or.inr ⟨hir.mp h12, Or.inl rfl, Or.inl ⟨dr, by rw [ef_6, er]; rfl⟩⟩)
        · have npq : p1 ≠ q := hp_dif hp1 hq (by simp)
          have kq : u_5 q = some (trO root cnt) := by rw [er, va_up_ne _ _ (Ne.symm npq)]; exact hq
          refine lv_aload_n hx hb dX1_dropIfIdle_54 rfl (lv_at hl 0 rfl) ?_
          refine lv_dup hx hb dX1_dropIfIdle_55 rfl ?_
          refine hp_get (ci := 1) (v := .int cnt) (C := RX1) (T := TX1) (N := 2) hx hb hts hin1 hown C0 hf kq rfl 1 (by decide) (hts (.fieldLink RX1 18 "RouteTrie" "nodeCount" "I") (by decide +kernel)) (fun _ h9 => h9) rfl dX1_dropIfIdle_56 ?_
          refine lv_iconst (v := 1) hx hb dX1_dropIfIdle_59 (by decide) ?_
          refine lv_isub hx hb dX1_dropIfIdle_60 ?_
          refine hp_put (ci := 1) (v := .int (cnt - 1)) (C := RX1) (T := TX1) (N := 2) hx hb hts hin1 tyX1 tyX1_ok nmX1 hown C0 hf hS kq rfl 1 (by decide) (hts (.fieldLink RX1 18 "RouteTrie" "nodeCount" "I") (by decide +kernel)) (fun _ h9 => h9) rfl rfl rfl (Nat.le_of_ble_eq_true rfl) dX1_dropIfIdle_61 (fun f_7 H locs ef_7 hf hS => ?_)
          have hc_7 : f_7 q = some (.inr (1, [.ref root, .int (cnt - 1)])) := by rw [ef_7]; exact va_up_self _ _ _
          exact hp_vret hx hb hr hlocks C0 hf hS (by first | exact Nat.le_refl _ | omega) (by first | exact Nat.le_refl _ | omega) dX1_dropIfIdle_64 (Or.inr ⟨hir.mp h12, Or.inl rfl, Or.inr ⟨dr, by rw [ef_7, er]; rfl⟩⟩)
    · subst h20
      refine lv_aload_n hx hb dX1_dropIfIdle_23 rfl (lv_at hl 2 rfl) ?_
      refine hp_getN (ci := 0) (v := va_rf go) (own := RX1) (ref := RX0) (host := RX1) (index := 31) (C := RX0) (T := TX0) (N := 6) hx hb hts hin0 hown C0 hf hg rfl 5 (by decide) (by decide +kernel) (fun _ h9 => h9) rfl dX1_dropIfIdle_24 ?_
      refine hp_ifnullq (tgt := 31) (r := go) hx hb dX1_dropIfIdle_27 (by decide) (fun h27 => ?_) (fun x27 h27 => ?_)
      · subst h27
        refine lv_aload_n hx hb dX1_dropIfIdle_31 rfl (lv_at hl 1 rfl) ?_
        refine lv_aload_n hx hb dX1_dropIfIdle_32 rfl (lv_at hl 2 rfl) ?_
        refine lv_aload_n hx hb dX1_dropIfIdle_33 rfl (lv_at hl 2 rfl) ?_
        refine hp_getN (ci := 0) (v := .ref x20) (own := RX1) (ref := RX0) (host := RX1) (index := 28) (C := RX0) (T := TX0) (N := 6) hx hb hts hin0 hown C0 hf hg rfl 4 (by decide) (by decide +kernel) (fun _ h9 => h9) rfl dX1_dropIfIdle_34 ?_
        refine lv_ifnull hx hb dX1_dropIfIdle_37 ?_
        refine lv_aload_n hx hb dX1_dropIfIdle_40 rfl (lv_at hl 2 rfl) ?_
        refine hp_getN (ci := 0) (v := .ref x20) (own := RX1) (ref := RX0) (host := RX1) (index := 28) (C := RX0) (T := TX0) (N := 6) hx hb hts hin0 hown C0 hf hg rfl 4 (by decide) (by decide +kernel) (fun _ h9 => h9) rfl dX1_dropIfIdle_41 ?_
        refine lv_goto (tgt := 51) hx hb dX1_dropIfIdle_44 (by decide) ?_
        refine hp_kv (hp_rVN (C := RX0) (As := [.ref g, .ref x20]) (rest := []) ⟨hx, hb, hml, hown, hts⟩ C0 hf hS (c_X0_replace_some l D cy base f p1 pb0 pn ph pr pz po g x20 hp1) ⟨va_cnB (host := RX1) (index := 110) 2 hts gX1_dropIfIdle_X0_replace_n110 rfl rfl rfl (C0.2.2 _ (by decide +kernel)) (hts (.initialized RX0) (by decide +kernel)) (by decide +kernel) ⟨Nat.le_of_ble_eq_true rfl, Nat.le_of_ble_eq_true rfl⟩, hts (.instanceMethod yX0_replace) (by decide +kernel), hts (.selects RX0 yX0_replace yX0_replace) (by decide +kernel)⟩ hp1 rfl rfl hl.1 rfl (Nat.le_of_ble_eq_true rfl) dX1_dropIfIdle_51 ⟨Nat.le_of_ble_eq_true rfl, Nat.le_of_ble_eq_true rfl⟩) hS (fun u_8 H locs hq_8 hf hS => ?_)
        rcases hq_8 with ⟨dr, er⟩ | ⟨dr, er⟩
        · have npq : p1 ≠ q := hp_dif hp1 hq (by simp)
          have kq : u_8 q = some (trO root cnt) := by rw [er, va_up_ne _ _ (Ne.symm npq)]; exact hq
          refine lv_aload_n hx hb dX1_dropIfIdle_54 rfl (lv_at hl 0 rfl) ?_
          refine lv_dup hx hb dX1_dropIfIdle_55 rfl ?_
          refine hp_get (ci := 1) (v := .int cnt) (C := RX1) (T := TX1) (N := 2) hx hb hts hin1 hown C0 hf kq rfl 1 (by decide) (hts (.fieldLink RX1 18 "RouteTrie" "nodeCount" "I") (by decide +kernel)) (fun _ h9 => h9) rfl dX1_dropIfIdle_56 ?_
          refine lv_iconst (v := 1) hx hb dX1_dropIfIdle_59 (by decide) ?_
          refine lv_isub hx hb dX1_dropIfIdle_60 ?_
          refine hp_put (ci := 1) (v := .int (cnt - 1)) (C := RX1) (T := TX1) (N := 2) hx hb hts hin1 tyX1 tyX1_ok nmX1 hown C0 hf hS kq rfl 1 (by decide) (hts (.fieldLink RX1 18 "RouteTrie" "nodeCount" "I") (by decide +kernel)) (fun _ h9 => h9) rfl rfl rfl (Nat.le_of_ble_eq_true rfl) dX1_dropIfIdle_61 (fun f_9 H locs ef_9 hf hS => ?_)
          have hc_9 : f_9 q = some (.inr (1, [.ref root, .int (cnt - 1)])) := by rw [ef_9]; exact va_up_self _ _ _
          exact hp_vret hx hb hr hlocks C0 hf hS (by first | exact Nat.le_refl _ | omega) (by first | exact Nat.le_refl _ | omega) dX1_dropIfIdle_64 (Or.inr ⟨hir.mp h12, Or.inr rfl, Or.inl ⟨dr, by rw [ef_9, er]; rfl⟩⟩)
        · have npq : p1 ≠ q := hp_dif hp1 hq (by simp)
          have kq : u_8 q = some (trO root cnt) := by rw [er, va_up_ne _ _ (Ne.symm npq)]; exact hq
          refine lv_aload_n hx hb dX1_dropIfIdle_54 rfl (lv_at hl 0 rfl) ?_
          refine lv_dup hx hb dX1_dropIfIdle_55 rfl ?_
          refine hp_get (ci := 1) (v := .int cnt) (C := RX1) (T := TX1) (N := 2) hx hb hts hin1 hown C0 hf kq rfl 1 (by decide) (hts (.fieldLink RX1 18 "RouteTrie" "nodeCount" "I") (by decide +kernel)) (fun _ h9 => h9) rfl dX1_dropIfIdle_56 ?_
          refine lv_iconst (v := 1) hx hb dX1_dropIfIdle_59 (by decide) ?_
          refine lv_isub hx hb dX1_dropIfIdle_60 ?_
          refine hp_put (ci := 1) (v := .int (cnt - 1)) (C := RX1) (T := TX1) (N := 2) hx hb hts hin1 tyX1 tyX1_ok nmX1 hown C0 hf hS kq rfl 1 (by decide) (hts (.fieldLink RX1 18 "RouteTrie" "nodeCount" "I") (by decide +kernel)) (fun _ h9 => h9) rfl rfl rfl (Nat.le_of_ble_eq_true rfl) dX1_dropIfIdle_61 (fun f_10 H locs ef_10 hf hS => ?_)
          have hc_10 : f_10 q = some (.inr (1, [.ref root, .int (cnt - 1)])) := by rw [ef_10]; exact va_up_self _ _ _
          exact hp_vret hx hb hr hlocks C0 hf hS (by first | exact Nat.le_refl _ | omega) (by first | exact Nat.le_refl _ | omega) dX1_dropIfIdle_64 (Or.inr ⟨hir.mp h12, Or.inr rfl, Or.inr ⟨dr, by rw [ef_10, er]; rfl⟩⟩)
      · subst h27
        exact hp_vret hx hb hr hlocks C0 hf hS (by first | exact Nat.le_refl _ | omega) (by first | exact Nat.le_refl _ | omega) dX1_dropIfIdle_30 (Or.inl ⟨Or.inr ⟨by simp, by simp⟩, rfl⟩)
  · exact hp_vret hx hb hr hlocks C0 hf hS (by first | exact Nat.le_refl _ | omega) (by first | exact Nat.le_refl _ | omega) dX1_dropIfIdle_15 (Or.inl ⟨Or.inl ((not_congr hir).mp h12), rfl⟩)
set_option maxHeartbeats 4000000 in
set_option maxRecDepth 100000 in
theorem c_X1_cut (l : Launch) (D : va_G) (cy : ClassId) (base : Nat) (f : AH) (q : Nat) (N : List Nat) (t : NT) (root g : Nat) (hq : f q = some (trO root (nI N.length))) (hT : TN f N t) (hC : CI N t root) (hgN : g ∈ N) (hgR : isR t g = true) : Met l yX1_cut wsX1_cut ({ frames := 2, cells := 0, slots := 0, locals := 44 }) (va_Pc [.ref q, .ref g] (hp_B D cy base f)) (va_Qv (fun (u : AH) => CP f q N t root g u) (hp_B D cy base) (hp_A base)) 0 0 (hp_A base) := by
  refine Met.ofW (cc := cX1_cut) (maxL := 5) (ret := none) (by decide) rfl ?_
  intro p e s m args below meth c s₁ B hml hv
  obtain ⟨rfl, hf, C0⟩ := hv
  have hx := B.exec
  have hb := B.bytes
  have hr := B.returns
  have hts := atoms_spec (ws := wsX1_cut) B.pre
  have hown : s.vm.findClass RX1 = some m.cls := findClass_of_methodNamed B.named
  have hlocks := B.notSynchronized
  have hin0 : ∀ w ∈ wsX00, w ∈ wsX1_cut := by decide +kernel
  have hin1 : ∀ w ∈ wsX10, w ∈ wsX1_cut := by decide +kernel
  have hS : va_S (hp_A base) s.heap s.heap [] := va_S.rf
  have hl := lv_entry ([.ref q, .ref g]) (n := 5) (Nat.le_of_ble_eq_true rfl)
  rw [lg_entry_eq]
  generalize (lg_sl ([.ref q, .ref g]) ++ List.replicate (5 - (lg_sl ([.ref q, .ref g])).length) Slot.unset).toArray = ls at hl ⊢
  have hl : lv_has ls 5 [(0, .ref q), (1, .ref g)] := hl
  have hst := hC.1
  have loop : ∀ (n a : Nat) (pp gp : Option Nat) (fc : AH) (ls : Array Slot) (H : Heap) (locs : List Loc), a ∈ N → 34 ≤ tL t a + n → tL t a ≤ tL t g → ag (tB t a) (tB t g) (tL t a) → ((a = root ∧ pp = none ∧ gp = none) ∨ ∃ (p0 : Nat) (d : Bool), p0 ∈ N ∧ pp = some p0 ∧ ch t p0 d = some a ∧ ((p0 = root ∧ gp = none) ∨ ∃ (g2 : Nat) (d2 : Bool), g2 ∈ N ∧ gp = some g2 ∧ ch t g2 d2 = some p0)) → fc q = some (trO root (nI N.length)) → TN fc N (dcr t (tB t g) (tL t a)) → FR f fc N q → hp_ok D base fc H → va_S (hp_A base) s.heap H locs → lv_has ls 5 [(0, .ref q), (1, .ref g), (2, va_rf gp), (3, va_rf pp), (4, .ref a)] → W p l e (headSpec wsX1_cut ({ frames := 2, cells := 0, slots := 0, locals := 44 } : Room)).room s m #[Value.ref q, Value.ref g] below meth c H locs 0 0 (MQ below (va_Qv (fun (u : AH) => CP f q N t root g u) (hp_B D cy base) (hp_A base)) #[Value.ref q, Value.ref g] s 0 0 (hp_A base)) (F0 m 10 ls []) := by
    intro n
    induction n with
    | zero => intro a _ _ _ _ _ _ ha z; exact absurd z (by have := (hst.2.2.1 a ha).1; omega)
    | succ n ih =>
      intro a pp gp fc ls H locs ha hm hle hag hPR hqc hTc hFc hf hS hl
      have pa := hst.2.2.1 a ha
      have pg := hst.2.2.1 g hgN
      have hqN := q_notin hqc hTc
      have hca : fc a = some (ndo (t a)) := by rw [hTc a ha, dcr_ge (Nat.le_refl _)]
      have hcg : fc g = some (ndo (t g)) := by rw [hTc g hgN, dcr_ge hle]
      have hra : 0 < tR t a := rout_pos hC.2.1 ha hgN hgR ((pb_iff pa).mpr ⟨hle, hag⟩)
      have hrg : 0 < tR t g := rout_pos hC.2.1 hgN hgN hgR ((pb_iff pg).mpr ⟨Nat.le_refl _, ag_rf⟩)
      refine lv_aload hx hb dX1_cut_10 (lv_at hl 4 rfl) ?_
      refine lv_ifnull hx hb dX1_cut_12 ?_
      refine lv_aload hx hb dX1_cut_15 (lv_at hl 4 rfl) ?_
      refine lv_aload_n hx hb dX1_cut_17 rfl (lv_at hl 1 rfl) ?_
      refine lv_acmp_eq (rx := some a) (ry := some g) (tgt := 51) hx hb dX1_cut_18 (by decide) (fun h18 => ?_) (fun h18 => ?_)
      · have eag : a = g := Option.some.inj h18
        subst eag
        refine lv_aload_n hx hb dX1_cut_51 rfl (lv_at hl 1 rfl) ?_
        refine lv_dup hx hb dX1_cut_52 rfl ?_
        refine hp_getN (ci := 0) (v := .int (nI (tR t a))) (own := RX1) (ref := RX0) (host := RX1) (index := 25) (C := RX0) (T := TX0) (N := 6) hx hb hts hin0 hown C0 hf hca rfl 3 (by decide) (by decide +kernel) (fun _ h9 => h9) rfl dX1_cut_53 ?_
        refine lv_iconst (v := 1) hx hb dX1_cut_56 (by decide) ?_
        refine lv_isub hx hb dX1_cut_57 ?_
        refine hp_putN (ci := 0) (v := .int ((nI (tR t a)) - 1)) (own := RX1) (ref := RX0) (host := RX1) (index := 25) (C := RX0) (T := TX0) (N := 6) hx hb hts hin0 tyX0 tyX0_ok nmX0 hown C0 hf hS hca rfl 3 (by decide) (by decide +kernel) (fun _ h9 => h9) rfl rfl rfl (Nat.le_of_ble_eq_true rfl) dX1_cut_58 (fun f_1 H locs ef_1 hf hS => ?_)
        have hc_1 : f_1 a = some (.inr (0, [.int (tB t a), .int (nI (tL t a)), .int (tH t a), .int ((nI (tR t a)) - 1), va_rf (tZ t a), va_rf (tO t a)])) := by rw [ef_1]; exact va_up_self _ _ _
        have hc_1_q : f_1 q = some (.inr (1, [.ref root, .int (nI N.length)])) := by rw [ef_1, va_up_ne _ _ (hp_dif hqc hca (by simp))]; exact hqc
        refine lv_aload_n hx hb dX1_cut_61 rfl (lv_at hl 1 rfl) ?_
        refine lv_iconst (v := (-1)) hx hb dX1_cut_62 (by decide) ?_
        refine hp_putN (ci := 0) (v := .int (-1)) (own := RX1) (ref := RX0) (host := RX1) (index := 22) (C := RX0) (T := TX0) (N := 6) hx hb hts hin0 tyX0 tyX0_ok nmX0 hown C0 hf hS hc_1 rfl 2 (by decide) (by decide +kernel) (fun _ h9 => h9) rfl rfl rfl (Nat.le_of_ble_eq_true rfl) dX1_cut_63 (fun f_2 H locs ef_2 hf hS => ?_)
        have hc_2 : f_2 a = some (.inr (0, [.int (tB t a), .int (nI (tL t a)), .int (-1), .int ((nI (tR t a)) - 1), va_rf (tZ t a), va_rf (tO t a)])) := by rw [ef_2]; exact va_up_self _ _ _
        have hc_2_q : f_2 q = some (.inr (1, [.ref root, .int (nI N.length)])) := by rw [ef_2, va_up_ne _ _ (hp_dif hc_1_q hc_1 (by simp))]; exact hc_1_q
        obtain ⟨t1, et⟩ : ∃ t1 : NT, t1 = fun y => if y = a then (tB t a, tL t a, (-1 : Int32), tR t a - 1, tZ t a, tO t a) else dcr t (tB t a) (tL t a) y := ⟨_, rfl⟩
        have h1 := cut_T1 (t' := t1) hC ha hgR (fun y _ => by rw [et])
        have t1a : t1 a = (tB t a, tL t a, (-1 : Int32), tR t a - 1, tZ t a, tO t a) := by rw [et]; simp
        have hT1 : TN f_2 N t1 := fun y hy => by
          by_cases e : y = a
          · rw [e, hc_2, t1a, show (1 : Int32) = nI 1 from rfl, pk_sub (by omega)]
          · rw [ef_2, va_up_ne _ _ e, ef_1, va_up_ne _ _ e, et]; simp only [e, if_false]; exact hTc y hy
        have hF1 : FR f f_2 N q := fun b v g1 g2 g3 => by
          have e : b ≠ a := fun e => g2 (e ▸ ha)
          rw [ef_2, va_up_ne _ _ e, ef_1, va_up_ne _ _ e]; exact hFc b v g1 g2 g3
        have hq1 := hc_2_q
        have ech : ∀ y ∈ N, ∀ d, ch t1 y d = ch t y d := fun y hy d => by
          unfold ch; rw [et]; simp only [tO, tZ]
          by_cases e : y = a
          · subst e; simp
          · simp only [e, if_false]; rw [show (dcr t (tB t a) (tL t a) y).2.2.2.2.2 = tO t y from dcr_O t _ _ y, show (dcr t (tB t a) (tL t a) y).2.2.2.2.1 = tZ t y from dcr_Z t _ _ y]
        rcases hPR with ⟨m1, rfl, rfl⟩ | ⟨p0, d, m1, rfl, m3, ⟨m4, rfl⟩ | ⟨g2, d2, m4, rfl, m5⟩⟩
        · have hl : lv_has ls 5 [(0, .ref q), (1, .ref a), (2, .null), (3, .null), (4, .ref a)] := hl
          refine lv_aload_n hx hb dX1_cut_66 rfl (lv_at hl 0 rfl) ?_
          refine lv_aload_nN hx hb dX1_cut_67 rfl (lv_at hl 3 rfl) ?_
          refine lv_aload_n hx hb dX1_cut_68 rfl (lv_at hl 1 rfl) ?_
          refine hp_kv (hp_rV (C := RX1) (As := [.null, .ref a]) (rest := []) ⟨hx, hb, hml, hown, hts⟩ C0 hf hS (c_X1_drop_0s l D cy base f_2 q a) (cwV 2 hts gX1_cut_X1_dropIfIdle rfl rfl rfl (by decide +kernel) ⟨Nat.le_of_ble_eq_true rfl, Nat.le_of_ble_eq_true rfl⟩) hq1 rfl rfl hl.1 rfl (Nat.le_of_ble_eq_true rfl) dX1_cut_69 ⟨Nat.le_of_ble_eq_true rfl, Nat.le_of_ble_eq_true rfl⟩) hS (fun u_3 H locs hq_3 hf hS => ?_)
          rw [hq_3] at hf
          refine lv_aload_n hx hb dX1_cut_72 rfl (lv_at hl 0 rfl) ?_
          refine lv_aload_nN hx hb dX1_cut_73 rfl (lv_at hl 2 rfl) ?_
          refine lv_aload_nN hx hb dX1_cut_74 rfl (lv_at hl 3 rfl) ?_
          refine hp_kv (hp_rV (C := RX1) (As := [.null, .null]) (rest := []) ⟨hx, hb, hml, hown, hts⟩ C0 hf hS (c_X1_drop_0n l D cy base f_2 q) (cwV 2 hts gX1_cut_X1_dropIfIdle rfl rfl rfl (by decide +kernel) ⟨Nat.le_of_ble_eq_true rfl, Nat.le_of_ble_eq_true rfl⟩) hq1 rfl rfl hl.1 rfl (Nat.le_of_ble_eq_true rfl) dX1_cut_75 ⟨Nat.le_of_ble_eq_true rfl, Nat.le_of_ble_eq_true rfl⟩) hS (fun u_4 H locs hq_4 hf hS => ?_)
          have kend := cut_R (u := u_4) hq1 hT1 h1 hF1 m1 hq_4
          exact hp_vret hx hb hr hlocks C0 hf hS (by first | exact Nat.le_refl _ | omega) (by first | exact Nat.le_refl _ | omega) dX1_cut_78 (kend)
        · have hl : lv_has ls 5 [(0, .ref q), (1, .ref a), (2, .null), (3, .ref p0), (4, .ref a)] := hl
          have c1 : ch t1 p0 d = some a := by rw [ech p0 m1]; exact m3
          have npa : p0 ≠ a := fun e => by have := (hst.2.2.2.2.1 p0 m1 d a m3).2.1; rw [e] at this; omega
          refine lv_aload_n hx hb dX1_cut_66 rfl (lv_at hl 0 rfl) ?_
          refine lv_aload_n hx hb dX1_cut_67 rfl (lv_at hl 3 rfl) ?_
          refine lv_aload_n hx hb dX1_cut_68 rfl (lv_at hl 1 rfl) ?_
          refine hp_kv (hp_rV (C := RX1) (As := [.ref p0, .ref a]) (rest := []) ⟨hx, hb, hml, hown, hts⟩ C0 hf hS (c_X1_drop l D cy base f_2 q root (nI N.length) p0 (tB t1 p0) (nI (tL t1 p0)) (tH t1 p0) (nI (tR t1 p0)) (tZ t1 p0) (tO t1 p0) a (tB t1 a) (nI (tL t1 a)) (tH t1 a) (nI (tR t1 a)) (tZ t1 a) (tO t1 a) hq1 (hT1 p0 m1) (hT1 a ha) npa) (cwV 2 hts gX1_cut_X1_dropIfIdle rfl rfl rfl (by decide +kernel) ⟨Nat.le_of_ble_eq_true rfl, Nat.le_of_ble_eq_true rfl⟩) hq1 rfl rfl hl.1 rfl (Nat.le_of_ble_eq_true rfl) dX1_cut_69 ⟨Nat.le_of_ble_eq_true rfl, Nat.le_of_ble_eq_true rfl⟩) hS (fun u_5 H locs hq_5 hf hS => ?_)
          have hqx : ∃ cq : Int32, u_5 q = some (trO root cq) := by
            rcases drop_heap h1.1 h1.2.1 hq1 hT1 ha (fun e => by have := (hst.2.2.2.2.1 p0 m1 d a m3).2.1; rw [e, hst.1.2] at this; omega) m1 c1 hq_5 with ⟨-, z⟩ | ⟨-, t2, -, -, -, -, -, z, -⟩
            · rw [z]; exact ⟨_, hq1⟩
            · exact ⟨_, z⟩
          obtain ⟨cq, hqx⟩ := hqx
          refine lv_aload_n hx hb dX1_cut_72 rfl (lv_at hl 0 rfl) ?_
          refine lv_aload_nN hx hb dX1_cut_73 rfl (lv_at hl 2 rfl) ?_
          refine lv_aload_n hx hb dX1_cut_74 rfl (lv_at hl 3 rfl) ?_
          refine hp_kv (hp_rV (C := RX1) (As := [.null, .ref p0]) (rest := []) ⟨hx, hb, hml, hown, hts⟩ C0 hf hS (c_X1_drop_0s l D cy base u_5 q p0) (cwV 2 hts gX1_cut_X1_dropIfIdle rfl rfl rfl (by decide +kernel) ⟨Nat.le_of_ble_eq_true rfl, Nat.le_of_ble_eq_true rfl⟩) hqx rfl rfl hl.1 rfl (Nat.le_of_ble_eq_true rfl) dX1_cut_75 ⟨Nat.le_of_ble_eq_true rfl, Nat.le_of_ble_eq_true rfl⟩) hS (fun u_6 H locs hq_6 hf hS => ?_)
          have kend := cut_P (u := u_6) hq1 hT1 h1 hF1 ha m1 c1 hq_5 (Or.inl ⟨m4, hq_6⟩)
          exact hp_vret hx hb hr hlocks C0 hf hS (by first | exact Nat.le_refl _ | omega) (by first | exact Nat.le_refl _ | omega) dX1_cut_78 (kend)
        · have hl : lv_has ls 5 [(0, .ref q), (1, .ref a), (2, .ref g2), (3, .ref p0), (4, .ref a)] := hl
          have c1 : ch t1 p0 d = some a := by rw [ech p0 m1]; exact m3
          have c2 : ch t1 g2 d2 = some p0 := by rw [ech g2 m4]; exact m5
          have npa : p0 ≠ a := fun e => by have := (hst.2.2.2.2.1 p0 m1 d a m3).2.1; rw [e] at this; omega
          have ngp : g2 ≠ p0 := fun e => by have := (hst.2.2.2.2.1 g2 m4 d2 p0 m5).2.1; rw [e] at this; omega
          refine lv_aload_n hx hb dX1_cut_66 rfl (lv_at hl 0 rfl) ?_
          refine lv_aload_n hx hb dX1_cut_67 rfl (lv_at hl 3 rfl) ?_
          refine lv_aload_n hx hb dX1_cut_68 rfl (lv_at hl 1 rfl) ?_
          refine hp_kv (hp_rV (C := RX1) (As := [.ref p0, .ref a]) (rest := []) ⟨hx, hb, hml, hown, hts⟩ C0 hf hS (c_X1_drop l D cy base f_2 q root (nI N.length) p0 (tB t1 p0) (nI (tL t1 p0)) (tH t1 p0) (nI (tR t1 p0)) (tZ t1 p0) (tO t1 p0) a (tB t1 a) (nI (tL t1 a)) (tH t1 a) (nI (tR t1 a)) (tZ t1 a) (tO t1 a) hq1 (hT1 p0 m1) (hT1 a ha) npa) (cwV 2 hts gX1_cut_X1_dropIfIdle rfl rfl rfl (by decide +kernel) ⟨Nat.le_of_ble_eq_true rfl, Nat.le_of_ble_eq_true rfl⟩) hq1 rfl rfl hl.1 rfl (Nat.le_of_ble_eq_true rfl) dX1_cut_69 ⟨Nat.le_of_ble_eq_true rfl, Nat.le_of_ble_eq_true rfl⟩) hS (fun u_7 H locs hq_7 hf hS => ?_)
          have hqx : ∃ cq : Int32, u_7 q = some (trO root cq) := by
            rcases drop_heap h1.1 h1.2.1 hq1 hT1 ha (fun e => by have := (hst.2.2.2.2.1 p0 m1 d a m3).2.1; rw [e, hst.1.2] at this; omega) m1 c1 hq_7 with ⟨-, z⟩ | ⟨-, t2, -, -, -, -, -, z, -⟩
            · rw [z]; exact ⟨_, hq1⟩
            · exact ⟨_, z⟩
          obtain ⟨cq, hqx⟩ := hqx
          refine lv_aload_n hx hb dX1_cut_72 rfl (lv_at hl 0 rfl) ?_
          refine lv_aload_n hx hb dX1_cut_73 rfl (lv_at hl 2 rfl) ?_
          refine lv_aload_n hx hb dX1_cut_74 rfl (lv_at hl 3 rfl) ?_
          obtain ⟨M, tm, hqM, hTM, hgM, hpM⟩ : ∃ (M : List Nat) (tm : NT), u_7 q = some (trO root (nI M.length)) ∧ TN u_7 M tm ∧ g2 ∈ M ∧ p0 ∈ M := by
            rcases drop_heap h1.1 h1.2.1 hq1 hT1 ha (fun e => by have := (hst.2.2.2.2.1 p0 m1 d a m3).2.1; rw [e, hst.1.2] at this; omega) m1 c1 hq_7 with ⟨-, z⟩ | ⟨-, t2, -, -, -, -, z2, z, -⟩
            · rw [z]; exact ⟨N, t1, hq1, hT1, m4, m1⟩
            · have nga : g2 ≠ a := fun e => by have k1 := (hst.2.2.2.2.1 p0 m1 d a m3).2.1; have k2 := (hst.2.2.2.2.1 g2 m4 d2 p0 m5).2.1; rw [e] at k2; omega
              exact ⟨N.erase a, t2, z, z2, hst.2.1.mem_erase_iff.mpr ⟨nga, m4⟩, hst.2.1.mem_erase_iff.mpr ⟨npa, m1⟩⟩
          refine hp_kv (hp_rV (C := RX1) (As := [.ref g2, .ref p0]) (rest := []) ⟨hx, hb, hml, hown, hts⟩ C0 hf hS (c_X1_drop l D cy base u_7 q root (nI M.length) g2 (tB tm g2) (nI (tL tm g2)) (tH tm g2) (nI (tR tm g2)) (tZ tm g2) (tO tm g2) p0 (tB tm p0) (nI (tL tm p0)) (tH tm p0) (nI (tR tm p0)) (tZ tm p0) (tO tm p0) hqM (hTM g2 hgM) (hTM p0 hpM) ngp) (cwV 2 hts gX1_cut_X1_dropIfIdle rfl rfl rfl (by decide +kernel) ⟨Nat.le_of_ble_eq_true rfl, Nat.le_of_ble_eq_true rfl⟩) hqM rfl rfl hl.1 rfl (Nat.le_of_ble_eq_true rfl) dX1_cut_75 ⟨Nat.le_of_ble_eq_true rfl, Nat.le_of_ble_eq_true rfl⟩) hS (fun u_8 H locs hq_8 hf hS => ?_)
          have kend := cut_P (u := u_8) hq1 hT1 h1 hF1 ha m1 c1 hq_7 (Or.inr ⟨g2, d2, m4, c2, fun M2 t2 z1 z2 z3 z4 => by
            have e1 : nI M2.length = nI M.length := by have := z1.symm.trans hqM; simp [trO] at this; exact this
            have e3 : ∀ y, y ∈ M → y ∈ M2 → ndo (t2 y) = ndo (tm y) := fun y k1 k2 => Option.some.inj ((z2 y k2).symm.trans (hTM y k1))
            have k1 := e3 g2 hgM z3
            have k2 := e3 p0 hpM z4
            simp only [ndo, ndE, Sum.inr.injEq, Prod.mk.injEq, List.cons.injEq, Value.int.injEq, and_true, true_and] at k1 k2
            have rfi : ∀ {x y : Option Nat}, va_rf x = va_rf y → x = y := fun {x y} k => by cases x <;> cases y <;> simp [va_rf] at k ⊢; exact k
            have D := hq_8
            show DRp _ _ _ _ _ _ _ _ _ _ _ _ _ _ _ _
            simp only [tB, tL, tH, tR, tZ, tO]
            rw [e1, k1.1, k1.2.1, k1.2.2.1, k1.2.2.2.1, rfi k1.2.2.2.2.1, rfi k1.2.2.2.2.2, k2.2.2.1, rfi k2.2.2.2.2.1, rfi k2.2.2.2.2.2]
            simpa only [tB, tL, tH, tR, tZ, tO] using D⟩)
          exact hp_vret hx hb hr hlocks C0 hf hS (by first | exact Nat.le_refl _ | omega) (by first | exact Nat.le_refl _ | omega) dX1_cut_78 (kend)
      · have nag : a ≠ g := fun e => h18 (by rw [e])
        have hlt : tL t a < tL t g := by
          rcases Nat.lt_or_ge (tL t a) (tL t g) with z | z
          · exact z
          · exact absurd (hst.2.2.2.1 a ha g hgN (by omega) hag) nag
        refine lv_aload hx hb dX1_cut_21 (lv_at hl 4 rfl) ?_
        refine lv_dup hx hb dX1_cut_23 rfl ?_
        refine hp_getN (ci := 0) (v := .int (nI (tR t a))) (own := RX1) (ref := RX0) (host := RX1) (index := 25) (C := RX0) (T := TX0) (N := 6) hx hb hts hin0 hown C0 hf hca rfl 3 (by decide) (by decide +kernel) (fun _ h9 => h9) rfl dX1_cut_24 ?_
        refine lv_iconst (v := 1) hx hb dX1_cut_27 (by decide) ?_
        refine lv_isub hx hb dX1_cut_28 ?_
        refine hp_putN (ci := 0) (v := .int ((nI (tR t a)) - 1)) (own := RX1) (ref := RX0) (host := RX1) (index := 25) (C := RX0) (T := TX0) (N := 6) hx hb hts hin0 tyX0 tyX0_ok nmX0 hown C0 hf hS hca rfl 3 (by decide) (by decide +kernel) (fun _ h9 => h9) rfl rfl rfl (Nat.le_of_ble_eq_true rfl) dX1_cut_29 (fun f_9 H locs ef_9 hf hS => ?_)
        have hc_9 : f_9 a = some (.inr (0, [.int (tB t a), .int (nI (tL t a)), .int (tH t a), .int ((nI (tR t a)) - 1), va_rf (tZ t a), va_rf (tO t a)])) := by rw [ef_9]; exact va_up_self _ _ _
        have hc_9_q : f_9 q = some (.inr (1, [.ref root, .int (nI N.length)])) := by rw [ef_9, va_up_ne _ _ (hp_dif hqc hca (by simp))]; exact hqc
        have hc_9_g : f_9 g = some (.inr (0, [.int (tB t g), .int (nI (tL t g)), .int (tH t g), .int (nI (tR t g)), va_rf (tZ t g), va_rf (tO t g)])) := by rw [ef_9, va_up_ne _ _ (Ne.symm nag)]; exact hcg
        refine hp_aload_nq (r := pp) hx hb dX1_cut_32 rfl (lv_at hl 3 rfl) ?_
        refine hp_astore_nq (lv' := [(2, va_rf pp), (0, .ref q), (1, .ref g), (3, va_rf pp), (4, .ref a)]) hx hb dX1_cut_33 rfl hl (by decide) rfl (fun ls hl => ?_)
        refine lv_aload hx hb dX1_cut_34 (lv_at hl 4 rfl) ?_
        refine lv_astore_n (i := 3) (lv' := [(3, .ref a), (2, va_rf pp), (0, .ref q), (1, .ref g), (4, .ref a)]) hx hb dX1_cut_36 rfl hl (by decide) (by simp [List.filter, va_rf_cat]) (fun ls hl => ?_)
        refine lv_aload hx hb dX1_cut_37 (lv_at hl 4 rfl) ?_
        refine lv_aload_n hx hb dX1_cut_39 rfl (lv_at hl 3 rfl) ?_
        refine hp_getN (ci := 0) (v := .int (tB t g)) (own := RX1) (ref := RX0) (host := RX1) (index := 62) (C := RX0) (T := TX0) (N := 6) hx hb hts hin0 hown C0 hf hc_9_g rfl 0 (by decide) (by decide +kernel) (fun _ h9 => h9) rfl dX1_cut_40 ?_
        refine hp_kq (hp_rVN (C := RX0) (As := [.int (tB t g)]) (rest := []) ⟨hx, hb, hml, hown, hts⟩ C0 hf hS (c_X0_toward l D cy base f_9 a (tB t a) (nI (tL t a)) (tH t a) ((nI (tR t a)) - 1) (tZ t a) (tO t a) (tB t g) hc_9) ⟨va_cnB (host := RX1) (index := 69) 1 hts gX1_cut_X0_toward_n69 rfl rfl rfl (C0.2.2 _ (by decide +kernel)) (hts (.initialized RX0) (by decide +kernel)) (by decide +kernel) ⟨Nat.le_of_ble_eq_true rfl, Nat.le_of_ble_eq_true rfl⟩, hts (.instanceMethod yX0_toward) (by decide +kernel), hts (.selects RX0 yX0_toward yX0_toward) (by decide +kernel)⟩ hc_9 rfl rfl hl.1 rfl (Nat.le_of_ble_eq_true rfl) dX1_cut_43 ⟨Nat.le_of_ble_eq_true rfl, Nat.le_of_ble_eq_true rfl⟩) hS (fun r_10 u_10 H locs hq_10 hf hS => ?_)
        obtain ⟨hr_10, hu⟩ := hq_10
        rw [hu] at hf
        have er_10 := tw_ch pa.1 hr_10
        refine hp_astoreq (lv' := [(4, va_rf r_10), (3, .ref a), (2, va_rf pp), (0, .ref q), (1, .ref g)]) hx hb dX1_cut_46 hl (by decide) rfl (fun ls hl => ?_)
        refine lv_goto (tgt := 10) hx hb dX1_cut_48 (by decide) ?_
        obtain ⟨c2, k1, k2, k3⟩ := hst.2.2.2.2.2 a ha g hgN hlt hag
        obtain ⟨c2N, c2l, -, -⟩ := hst.2.2.2.2.1 a ha _ c2 k1
        rw [k1] at er_10
        rw [er_10] at hl
        have hT1 : TN f_9 N (dcr t (tB t g) (tL t c2)) := fun y hy => by
          by_cases e : y = a
          · rw [e, hc_9, dcr_self pa hag c2l, show (1 : Int32) = nI 1 from rfl, pk_sub (by omega)]; rfl
          · rw [ef_9, va_up_ne _ _ e, dcr_step hst ha hag k1 hy e]; exact hTc y hy
        have hF1 : FR f f_9 N q := fun b v g1 g2 g3 => by
          have e : b ≠ a := fun e => g2 (e ▸ ha)
          rw [ef_9, va_up_ne _ _ e]; exact hFc b v g1 g2 g3
        exact ih c2 (some a) pp f_9 ls _ _ c2N (by omega) k2 k3 (Or.inr ⟨a, _, ha, rfl, k1, by
          rcases hPR with ⟨e1, e2, -⟩ | ⟨p0, d, m1, m2, m3, -⟩
          · exact Or.inl ⟨e1, e2⟩
          · exact Or.inr ⟨p0, d, m1, m2, m3⟩⟩) hc_9_q hT1 hF1 hf hS (lv_sub hl [3, 4, 2, 1, 0] rfl)
  refine lv_null hx hb dX1_cut_0 ?_
  refine lv_astore_nN (lv' := [(2, .null), (0, .ref q), (1, .ref g)]) hx hb dX1_cut_1 rfl hl (by decide) rfl (fun ls hl => ?_)
  refine lv_null hx hb dX1_cut_2 ?_
  refine lv_astore_nN (lv' := [(3, .null), (2, .null), (0, .ref q), (1, .ref g)]) hx hb dX1_cut_3 rfl hl (by decide) rfl (fun ls hl => ?_)
  refine lv_aload_n hx hb dX1_cut_4 rfl (lv_at hl 2 rfl) ?_
  refine hp_get (ci := 1) (v := .ref root) (C := RX1) (T := TX1) (N := 2) hx hb hts hin1 hown C0 hf hq rfl 0 (by decide) (hts (.fieldLink RX1 14 "RouteTrie" "root" "LRouteTrie$Node;") (by decide +kernel)) (fun _ h9 => h9) rfl dX1_cut_5 ?_
  refine lv_astore (lv' := [(4, .ref root), (3, .null), (2, .null), (0, .ref q), (1, .ref g)]) hx hb dX1_cut_8 hl (by decide) rfl (fun ls hl => ?_)
  exact loop 34 root none none f ls _ _ hst.1.1 (by omega) (by rw [hst.1.2]; omega) (by rw [hst.1.2]; exact ag_0) (Or.inl ⟨rfl, rfl, rfl⟩) hq (fun y hy => by rw [dcr_ge (by rw [hst.1.2]; omega)]; exact hT y hy) (fun b v k1 _ _ => k1) hf hS (lv_sub hl [3, 4, 2, 1, 0] rfl)
set_option maxHeartbeats 4000000 in
set_option maxRecDepth 100000 in
theorem c_X1_remove (l : Launch) (D : va_G) (cy : ClassId) (base : Nat) (f : AH) (q : Nat) (N : List Nat) (t : NT) (root : Nat) (x n : Int32) (hq : f q = some (trO root (nI N.length))) (hT : TN f N t) (hC : CI N t root) : Met l yX1_remove wsX1_remove ({ frames := 4, cells := 0, slots := 0, locals := 88 }) (va_Pc [.ref q, .int x, .int n] (hp_B D cy base f)) (va_Qi (fun (r : Int32) (u : AH) => (∃ a ∈ N, n = nI (tL t a) ∧ tB t a = x ∧ isR t a = true ∧ r = 1 ∧ CP f q N t root a u) ∨ ((∀ a ∈ N, isR t a = true → n = nI (tL t a) → ¬ tB t a = x) ∧ r = 0 ∧ u = f)) (hp_B D cy base) (hp_A base)) 0 0 (hp_A base) := by
  refine Met.ofW (cc := cX1_remove) (maxL := 4) (ret := (some .boolean)) (by decide) rfl ?_
  intro p e s m args below meth c s₁ B hml hv
  obtain ⟨rfl, hf, C0⟩ := hv
  have hx := B.exec
  have hb := B.bytes
  have hr := B.returns
  have hts := atoms_spec (ws := wsX1_remove) B.pre
  have hown : s.vm.findClass RX1 = some m.cls := findClass_of_methodNamed B.named
  have hlocks := B.notSynchronized
  have hin0 : ∀ w ∈ wsX00, w ∈ wsX1_remove := by decide +kernel
  have hin1 : ∀ w ∈ wsX10, w ∈ wsX1_remove := by decide +kernel
  have hS : va_S (hp_A base) s.heap s.heap [] := va_S.rf
  have hl := lv_entry ([.ref q, .int x, .int n]) (n := 4) (Nat.le_of_ble_eq_true rfl)
  rw [lg_entry_eq]
  generalize (lg_sl ([.ref q, .int x, .int n]) ++ List.replicate (4 - (lg_sl ([.ref q, .int x, .int n])).length) Slot.unset).toArray = ls at hl ⊢
  have hl : lv_has ls 4 [(0, .ref q), (1, .int x), (2, .int n)] := hl
  have hst := hC.1
  refine lv_aload_n hx hb dX1_remove_0 rfl (lv_at hl 0 rfl) ?_
  refine lv_iload_n hx hb dX1_remove_1 rfl (lv_at hl 1 rfl) ?_
  refine lv_iload_n hx hb dX1_remove_2 rfl (lv_at hl 2 rfl) ?_
  refine hp_kq (hp_rV (C := RX1) (As := [.int x, .int n]) (rest := []) ⟨hx, hb, hml, hown, hts⟩ C0 hf hS (c_X1_routeAt l D cy base f q N t root (nI N.length) x n hq hT hst) (cwV 2 hts gX1_remove_X1_routeAt rfl rfl rfl (by decide +kernel) ⟨Nat.le_of_ble_eq_true rfl, Nat.le_of_ble_eq_true rfl⟩) hq rfl rfl hl.1 rfl (Nat.le_of_ble_eq_true rfl) dX1_remove_3 ⟨Nat.le_of_ble_eq_true rfl, Nat.le_of_ble_eq_true rfl⟩) hS (fun r_1 u_1 H locs hq_1 hf hS => ?_)
  obtain ⟨hr_1, hu⟩ := hq_1
  rw [hu] at hf
  refine hp_astore_nq (lv' := [(3, va_rf r_1), (0, .ref q), (1, .int x), (2, .int n)]) hx hb dX1_remove_6 rfl hl (by decide) rfl (fun ls hl => ?_)
  refine hp_aload_nq (r := r_1) hx hb dX1_remove_7 rfl (lv_at hl 0 rfl) ?_
  refine hp_ifnonnullq (tgt := 13) (r := r_1) hx hb dX1_remove_8 (by decide) (fun x8 h8 => ?_) (fun h8 => ?_)
  · rw [h8] at hl
    have hl : lv_has ls 4 [(3, .ref x8), (0, .ref q), (1, .int x), (2, .int n)] := hl
    obtain ⟨hxN, hxn, hxb, hxh⟩ := hr_1.1 x8 h8
    refine lv_aload_n hx hb dX1_remove_13 rfl (lv_at hl 1 rfl) ?_
    refine lv_aload_n hx hb dX1_remove_14 rfl (lv_at hl 0 rfl) ?_
    refine hp_kv (hp_rV (C := RX1) (As := [.ref x8]) (rest := []) ⟨hx, hb, hml, hown, hts⟩ C0 hf hS (c_X1_cut l D cy base f q N t root x8 hq hT hC hxN (isR_iff.mpr hxh)) (cwV 1 hts gX1_remove_X1_cut rfl rfl rfl (by decide +kernel) ⟨Nat.le_of_ble_eq_true rfl, Nat.le_of_ble_eq_true rfl⟩) hq rfl rfl hl.1 rfl (Nat.le_of_ble_eq_true rfl) dX1_remove_15 ⟨Nat.le_of_ble_eq_true rfl, Nat.le_of_ble_eq_true rfl⟩) hS (fun u_2 H locs hq_2 hf hS => ?_)
    have hg := hq_2
    refine lv_iconst (v := 1) hx hb dX1_remove_18 (by decide) ?_
    exact hp_zret (v := 1) hx hb hr hlocks C0 hf hS (by first | exact Nat.le_refl _ | omega) (by first | exact Nat.le_refl _ | omega) dX1_remove_19 (by decide) (Or.inl ⟨x8, hxN, hxn, hxb, isR_iff.mpr hxh, rfl, hg⟩)
  · rw [h8] at hl
    have hl : lv_has ls 4 [(3, .null), (0, .ref q), (1, .int x), (2, .int n)] := hl
    refine lv_iconst (v := 0) hx hb dX1_remove_11 (by decide) ?_
    exact hp_zret (v := 0) hx hb hr hlocks C0 hf hS (by first | exact Nat.le_refl _ | omega) (by first | exact Nat.le_refl _ | omega) dX1_remove_12 (by decide) (Or.inr ⟨fun a ha g1 g2 => hr_1.2 h8 a ha (isR_iff.mp g1) g2, rfl, rfl⟩)
end
section
/-! the reference: its state, and its reading methods -/
def mskI (n : Int32) : Int32 := if n = 0 then 0 else (-1) <<< ((32 - n) &&& 31)
theorem msk_mk (k : Nat) : mskI (nI k) = mkI k := rfl
abbrev mdO (cd : Int32) (ab al ah : Nat) (n : Int32) (nb nl : Nat) (nc : Int32) : va_E := .inr (2, [.int cd, .ref ab, .ref al, .ref ah, .int n, .ref nb, .ref nl, .int nc])
abbrev arO (cy : ClassId) (k : Nat) (g : Nat → Int32) : va_E := .inl (cy, k, .inl g)
theorem bt_m1 : ∀ i, i < 32 → bt (-1) i = true := by decide +kernel
theorem bt_0 (i : Nat) : bt 0 i = false := BitVec.getLsbD_zero
theorem and_not {x m : Int32} : x &&& (m ^^^ (-1)) = 0 ↔ x &&& m = x := by
  constructor
  · intro h
    refine b_ext fun i hi => ?_
    have h1 : bt (x &&& (m ^^^ (-1))) i = bt 0 i := by rw [h]
    rw [b_and, b_xor, bt_m1 i hi, bt_0] at h1
    rw [b_and]
    cases hx : bt x i <;> cases hm : bt m i <;> simp_all
  · intro h
    refine b_ext fun i hi => ?_
    have h1 : bt (x &&& m) i = bt x i := by rw [h]
    rw [b_and] at h1
    rw [b_and, b_xor, bt_m1 i hi, bt_0]
    cases hx : bt x i <;> cases hm : bt m i <;> simp_all
theorem xor_inj {x y m : Int32} (h : x ^^^ m = y ^^^ m) : x = y := by
  refine b_ext fun i _ => ?_
  have h1 : bt (x ^^^ m) i = bt (y ^^^ m) i := by rw [h]
  rw [b_xor, b_xor] at h1
  cases hx : bt x i <;> cases hy : bt y i <;> cases hm : bt m i <;> simp_all
def bfr (x l : Int32) (b n : Int32) : Prop := ul x b ∨ (x = b ∧ l < n)
set_option maxHeartbeats 4000000 in
set_option maxRecDepth 100000 in
theorem c_X2_mask (l : Launch) (D : va_G) (cy : ClassId) (base : Nat) (f : AH) (n : Int32)  : Met l yX2_mask wsX2_mask ({ frames := 0, cells := 0, slots := 0, locals := 0 }) (va_Pc [.int n] (hp_B D cy base f)) (va_Qi (fun (r : Int32) (u : AH) => r = mskI n ∧ u = f) (hp_B D cy base) (hp_A base)) 0 0 (hp_A base) := by
  refine Met.ofW (cc := cX2_mask) (maxL := 1) (ret := (some .int)) (by decide) rfl ?_
  intro p e s m args below meth c s₁ Bd hml hv
  obtain ⟨rfl, hf, C0⟩ := hv
  have hx := Bd.exec
  have hb := Bd.bytes
  have hr := Bd.returns
  have hts := atoms_spec (ws := wsX2_mask) Bd.pre
  have hown : s.vm.findClass RX2 = some m.cls := findClass_of_methodNamed Bd.named
  have hlocks := Bd.notSynchronized
  have hS : va_S (hp_A base) s.heap s.heap [] := va_S.rf
  have hl := lv_entry ([.int n]) (n := 1) (Nat.le_of_ble_eq_true rfl)
  rw [lg_entry_eq]
  generalize (lg_sl ([.int n]) ++ List.replicate (1 - (lg_sl ([.int n])).length) Slot.unset).toArray = ls at hl ⊢
  have hl : lv_has ls 1 [(0, .int n)] := hl
  refine lv_iload_n hx hb dX2_mask_0 rfl (lv_at hl 0 rfl) ?_
  refine lv_if_ne (tgt := 8) hx hb dX2_mask_1 (by decide) (fun h1 => ?_) (fun h1 => ?_)
  · refine lv_iconst (v := (-1)) hx hb dX2_mask_8 (by decide) ?_
    refine lv_bipush (v := 32) hx hb dX2_mask_9 (by decide) ?_
    refine lv_iload_n hx hb dX2_mask_11 rfl (lv_at hl 0 rfl) ?_
    refine lv_isub hx hb dX2_mask_12 ?_
    refine lv_ishl hx hb dX2_mask_13 ?_
    exact hp_iret (v := ((-1) <<< ((32 - n) &&& 31))) hx hb hr hlocks C0 hf hS (by first | exact Nat.le_refl _ | omega) (by first | exact Nat.le_refl _ | omega) dX2_mask_14 (⟨by rw [mskI, if_neg h1], rfl⟩)
  · refine lv_iconst (v := 0) hx hb dX2_mask_4 (by decide) ?_
    refine lv_goto (tgt := 14) hx hb dX2_mask_5 (by decide) ?_
    exact hp_iret (v := 0) hx hb hr hlocks C0 hf hS (by first | exact Nat.le_refl _ | omega) (by first | exact Nat.le_refl _ | omega) dX2_mask_14 (⟨by rw [mskI, if_pos h1], rfl⟩)
set_option maxHeartbeats 4000000 in
set_option maxRecDepth 100000 in
theorem c_X2_isPrefix (l : Launch) (D : va_G) (cy : ClassId) (base : Nat) (f : AH) (x n : Int32)  : Met l yX2_isPrefix wsX2_isPrefix ({ frames := 1, cells := 0, slots := 0, locals := 20 }) (va_Pc [.int x, .int n] (hp_B D cy base f)) (va_Qi (fun (r : Int32) (u : AH) => ((r = 1 ∧ okP x n) ∨ (r = 0 ∧ ¬ okP x n)) ∧ u = f) (hp_B D cy base) (hp_A base)) 0 0 (hp_A base) := by
  refine Met.ofW (cc := cX2_isPrefix) (maxL := 2) (ret := (some .boolean)) (by decide) rfl ?_
  intro p e s m args below meth c s₁ Bd hml hv
  obtain ⟨rfl, hf, C0⟩ := hv
  have hx := Bd.exec
  have hb := Bd.bytes
  have hr := Bd.returns
  have hts := atoms_spec (ws := wsX2_isPrefix) Bd.pre
  have hown : s.vm.findClass RX2 = some m.cls := findClass_of_methodNamed Bd.named
  have hlocks := Bd.notSynchronized
  have hS : va_S (hp_A base) s.heap s.heap [] := va_S.rf
  have hl := lv_entry ([.int x, .int n]) (n := 2) (Nat.le_of_ble_eq_true rfl)
  rw [lg_entry_eq]
  generalize (lg_sl ([.int x, .int n]) ++ List.replicate (2 - (lg_sl ([.int x, .int n])).length) Slot.unset).toArray = ls at hl ⊢
  have hl : lv_has ls 2 [(0, .int x), (1, .int n)] := hl
  refine lv_iload_n hx hb dX2_isPrefix_0 rfl (lv_at hl 1 rfl) ?_
  refine lv_if_lt (tgt := 39) hx hb dX2_isPrefix_1 (by decide) (fun h1 => ?_) (fun h1 => ?_)
  · refine lv_iconst (v := 0) hx hb dX2_isPrefix_39 (by decide) ?_
    exact hp_zret (v := 0) hx hb hr hlocks C0 hf hS (by first | exact Nat.le_refl _ | omega) (by first | exact Nat.le_refl _ | omega) dX2_isPrefix_40 (by decide) (⟨Or.inr ⟨rfl, fun ⟨k, e, hk⟩ => nI_pos (by have := hk.1; omega) (e ▸ h1)⟩, rfl⟩)
  · refine lv_iload_n hx hb dX2_isPrefix_4 rfl (lv_at hl 1 rfl) ?_
    refine lv_bipush (v := 32) hx hb dX2_isPrefix_5 (by decide) ?_
    refine lv_icmp_gt (tgt := 39) hx hb dX2_isPrefix_7 (by decide) (fun h7 => ?_) (fun h7 => ?_)
    · refine lv_iconst (v := 0) hx hb dX2_isPrefix_39 (by decide) ?_
      exact hp_zret (v := 0) hx hb hr hlocks C0 hf hS (by first | exact Nat.le_refl _ | omega) (by first | exact Nat.le_refl _ | omega) dX2_isPrefix_40 (by decide) (⟨Or.inr ⟨rfl, fun ⟨k, e, hk⟩ => absurd h7 (by rw [e]; exact nI_nlt (a := 32) hk.1 (by omega))⟩, rfl⟩)
    · refine lv_iload_n hx hb dX2_isPrefix_10 rfl (lv_at hl 0 rfl) ?_
      refine lv_iload_n hx hb dX2_isPrefix_11 rfl (lv_at hl 1 rfl) ?_
      refine lv_if_lt (tgt := 21) hx hb dX2_isPrefix_12 (by decide) (fun h12 => ?_) (fun h12 => ?_)
      · exact absurd h12 h1
      · refine lv_iload_n hx hb dX2_isPrefix_15 rfl (lv_at hl 1 rfl) ?_
        refine lv_bipush (v := 32) hx hb dX2_isPrefix_16 (by decide) ?_
        refine lv_icmp_le (tgt := 25) hx hb dX2_isPrefix_18 (by decide) (fun h18 => ?_) (fun h18 => ?_)
        · refine lv_iload_n hx hb dX2_isPrefix_25 rfl (lv_at hl 1 rfl) ?_
          refine hp_ki (hp_rS (As := [.int n]) (rest := [.int x]) ⟨hx, hb, hml, hown, hts⟩ C0 hf hS (c_X2_mask l D cy base f n) (va_cwS 1 hts gX2_isPrefix_X2_mask rfl rfl rfl (by decide +kernel) ⟨Nat.le_of_ble_eq_true rfl, Nat.le_of_ble_eq_true rfl⟩) rfl hl.1 rfl (Nat.le_of_ble_eq_true rfl) dX2_isPrefix_26 ⟨Nat.le_of_ble_eq_true rfl, Nat.le_of_ble_eq_true rfl⟩) hS (fun r_1 u_1 H locs hq_1 hf hS => ?_)
          obtain ⟨rfl, hu⟩ := hq_1
          rw [hu] at hf
          refine lv_iconst (v := (-1)) hx hb dX2_isPrefix_29 (by decide) ?_
          refine lv_ixor hx hb dX2_isPrefix_30 ?_
          refine lv_iand hx hb dX2_isPrefix_31 ?_
          refine lv_if_ne (tgt := 39) hx hb dX2_isPrefix_32 (by decide) (fun h32 => ?_) (fun h32 => ?_)
          · refine lv_iconst (v := 0) hx hb dX2_isPrefix_39 (by decide) ?_
            exact hp_zret (v := 0) hx hb hr hlocks C0 hf hS (by first | exact Nat.le_refl _ | omega) (by first | exact Nat.le_refl _ | omega) dX2_isPrefix_40 (by decide) (⟨Or.inr ⟨rfl, fun ⟨k, e, hk⟩ => h32 (by rw [and_not, e, msk_mk]; exact hk.2)⟩, rfl⟩)
          · refine lv_iconst (v := 1) hx hb dX2_isPrefix_35 (by decide) ?_
            refine lv_goto (tgt := 40) hx hb dX2_isPrefix_36 (by decide) ?_
            exact hp_zret (v := 1) hx hb hr hlocks C0 hf hS (by first | exact Nat.le_refl _ | omega) (by first | exact Nat.le_refl _ | omega) dX2_isPrefix_40 (by decide) (⟨Or.inl ⟨rfl, by obtain ⟨j, hj, e⟩ := nI_of2 (M := 32) (n := 32) rfl h1 (Int32.not_lt.mp h7); exact ⟨j, e, hj, by rw [and_not, e, msk_mk] at h32; exact h32⟩⟩, rfl⟩)
        · exact absurd (Int32.not_lt.mp h7) h18
set_option maxHeartbeats 4000000 in
set_option maxRecDepth 100000 in
theorem c_X2_begins (l : Launch) (D : va_G) (cy : ClassId) (base : Nat) (f : AH) (a x n : Int32)  : Met l yX2_begins wsX2_begins ({ frames := 1, cells := 0, slots := 0, locals := 20 }) (va_Pc [.int a, .int x, .int n] (hp_B D cy base f)) (va_Qi (fun (r : Int32) (u : AH) => (r = if a &&& mskI n = x then 1 else 0) ∧ u = f) (hp_B D cy base) (hp_A base)) 0 0 (hp_A base) := by
  refine Met.ofW (cc := cX2_begins) (maxL := 3) (ret := (some .boolean)) (by decide) rfl ?_
  intro p e s m args below meth c s₁ Bd hml hv
  obtain ⟨rfl, hf, C0⟩ := hv
  have hx := Bd.exec
  have hb := Bd.bytes
  have hr := Bd.returns
  have hts := atoms_spec (ws := wsX2_begins) Bd.pre
  have hown : s.vm.findClass RX2 = some m.cls := findClass_of_methodNamed Bd.named
  have hlocks := Bd.notSynchronized
  have hS : va_S (hp_A base) s.heap s.heap [] := va_S.rf
  have hl := lv_entry ([.int a, .int x, .int n]) (n := 3) (Nat.le_of_ble_eq_true rfl)
  rw [lg_entry_eq]
  generalize (lg_sl ([.int a, .int x, .int n]) ++ List.replicate (3 - (lg_sl ([.int a, .int x, .int n])).length) Slot.unset).toArray = ls at hl ⊢
  have hl : lv_has ls 3 [(0, .int a), (1, .int x), (2, .int n)] := hl
  refine lv_iload_n hx hb dX2_begins_0 rfl (lv_at hl 0 rfl) ?_
  refine lv_iload_n hx hb dX2_begins_1 rfl (lv_at hl 2 rfl) ?_
  refine hp_ki (hp_rS (As := [.int n]) (rest := [.int a]) ⟨hx, hb, hml, hown, hts⟩ C0 hf hS (c_X2_mask l D cy base f n) (va_cwS 1 hts gX2_begins_X2_mask rfl rfl rfl (by decide +kernel) ⟨Nat.le_of_ble_eq_true rfl, Nat.le_of_ble_eq_true rfl⟩) rfl hl.1 rfl (Nat.le_of_ble_eq_true rfl) dX2_begins_2 ⟨Nat.le_of_ble_eq_true rfl, Nat.le_of_ble_eq_true rfl⟩) hS (fun r_1 u_1 H locs hq_1 hf hS => ?_)
  obtain ⟨rfl, hu⟩ := hq_1
  rw [hu] at hf
  refine lv_iand hx hb dX2_begins_5 ?_
  refine lv_iload_n hx hb dX2_begins_6 rfl (lv_at hl 1 rfl) ?_
  refine lv_icmp_ne (tgt := 14) hx hb dX2_begins_7 (by decide) (fun h7 => ?_) (fun h7 => ?_)
  · refine lv_iconst (v := 0) hx hb dX2_begins_14 (by decide) ?_
    exact hp_zret (v := 0) hx hb hr hlocks C0 hf hS (by first | exact Nat.le_refl _ | omega) (by first | exact Nat.le_refl _ | omega) dX2_begins_15 (by decide) (⟨by rw [if_neg h7], rfl⟩)
  · refine lv_iconst (v := 1) hx hb dX2_begins_10 (by decide) ?_
    refine lv_goto (tgt := 15) hx hb dX2_begins_11 (by decide) ?_
    exact hp_zret (v := 1) hx hb hr hlocks C0 hf hS (by first | exact Nat.le_refl _ | omega) (by first | exact Nat.le_refl _ | omega) dX2_begins_15 (by decide) (⟨by rw [if_pos h7], rfl⟩)
set_option maxHeartbeats 4000000 in
set_option maxRecDepth 100000 in
theorem c_X2_isBefore (l : Launch) (D : va_G) (cy : ClassId) (base : Nat) (f : AH) (qm ab al ah nb nl : Nat) (cd nc : Int32) (n : Nat) (B L Hh NB NL : Nat → Int32) (x l0 : Int32) (i : Nat) (hm : f qm = some (mdO cd ab al ah (nI n) nb nl nc)) (hB : f ab = some (arO cy 500 B)) (hL : f al = some (arO cy 500 L)) (hH : f ah = some (arO cy 500 Hh)) (hn : n ≤ 500) (hi : i < 500) : Met l yX2_isBefore wsX2_isBefore ({ frames := 0, cells := 0, slots := 0, locals := 0 }) (va_Pc [.ref qm, .int x, .int l0, .int (nI i)] (hp_B D cy base f)) (va_Qi (fun (r : Int32) (u : AH) => ((r = 1 ∧ bfr x l0 (B i) (L i)) ∨ (r = 0 ∧ ¬ bfr x l0 (B i) (L i))) ∧ u = f) (hp_B D cy base) (hp_A base)) 0 0 (hp_A base) := by
  refine Met.ofW (cc := cX2_isBefore) (maxL := 6) (ret := (some .boolean)) (by decide) rfl ?_
  intro p e s m args below meth c s₁ Bd hml hv
  obtain ⟨rfl, hf, C0⟩ := hv
  have hx := Bd.exec
  have hb := Bd.bytes
  have hr := Bd.returns
  have hts := atoms_spec (ws := wsX2_isBefore) Bd.pre
  have hown : s.vm.findClass RX2 = some m.cls := findClass_of_methodNamed Bd.named
  have hlocks := Bd.notSynchronized
  have hin2 : ∀ w ∈ wsX20, w ∈ wsX2_isBefore := by decide +kernel
  have hS : va_S (hp_A base) s.heap s.heap [] := va_S.rf
  have hl := lv_entry ([.ref qm, .int x, .int l0, .int (nI i)]) (n := 6) (Nat.le_of_ble_eq_true rfl)
  rw [lg_entry_eq]
  generalize (lg_sl ([.ref qm, .int x, .int l0, .int (nI i)]) ++ List.replicate (6 - (lg_sl ([.ref qm, .int x, .int l0, .int (nI i)])).length) Slot.unset).toArray = ls at hl ⊢
  have hl : lv_has ls 6 [(0, .ref qm), (1, .int x), (2, .int l0), (3, .int (nI i))] := hl
  refine lv_iload_n hx hb dX2_isBefore_0 rfl (lv_at hl 1 rfl) ?_
  refine lv_ldc (own := RX2) (index := 36) (v := -2147483648) hx hb hown (hts (.constant RX2 36 (-2147483648)) (by decide +kernel)) dX2_isBefore_1 ?_
  refine lv_ixor hx hb dX2_isBefore_3 ?_
  refine lv_istore (lv' := [(4, .int (x ^^^ (-2147483648))), (0, .ref qm), (1, .int x), (2, .int l0), (3, .int (nI i))]) hx hb dX2_isBefore_4 hl (by decide) rfl (fun ls hl => ?_)
  refine lv_aload_n hx hb dX2_isBefore_6 rfl (lv_at hl 1 rfl) ?_
  refine hp_get (ci := 2) (v := .ref ab) (C := RX2) (T := TX2) (N := 8) hx hb hts hin2 hown C0 hf hm rfl 1 (by decide) (hts (.fieldLink RX2 7 "RouteTrieModel" "bits" "[I") (by decide +kernel)) (fun _ h9 => h9) rfl dX2_isBefore_7 ?_
  refine lv_iload_n hx hb dX2_isBefore_10 rfl (lv_at hl 4 rfl) ?_
  refine hp_iald (n := 500) (g := B) hx hb C0 hf hB (vp_in_nI (n := i) (N := 500) (by omega) (by omega)) dX2_isBefore_11 ?_
  rw [nI_clamp (n := i) (by omega)]
  refine lv_ldc (own := RX2) (index := 36) (v := -2147483648) hx hb hown (hts (.constant RX2 36 (-2147483648)) (by decide +kernel)) dX2_isBefore_12 ?_
  refine lv_ixor hx hb dX2_isBefore_14 ?_
  refine lv_istore (lv' := [(5, .int ((B i) ^^^ (-2147483648))), (4, .int (x ^^^ (-2147483648))), (0, .ref qm), (1, .int x), (2, .int l0), (3, .int (nI i))]) hx hb dX2_isBefore_15 hl (by decide) rfl (fun ls hl => ?_)
  refine lv_iload hx hb dX2_isBefore_17 (lv_at hl 1 rfl) ?_
  refine lv_iload hx hb dX2_isBefore_19 (lv_at hl 0 rfl) ?_
  refine lv_icmp_eq (tgt := 39) hx hb dX2_isBefore_21 (by decide) (fun h21 => ?_) (fun h21 => ?_)
  · refine lv_iload_n hx hb dX2_isBefore_39 rfl (lv_at hl 4 rfl) ?_
    refine lv_aload_n hx hb dX2_isBefore_40 rfl (lv_at hl 2 rfl) ?_
    refine hp_get (ci := 2) (v := .ref al) (C := RX2) (T := TX2) (N := 8) hx hb hts hin2 hown C0 hf hm rfl 2 (by decide) (hts (.fieldLink RX2 13 "RouteTrieModel" "lengths" "[I") (by decide +kernel)) (fun _ h9 => h9) rfl dX2_isBefore_41 ?_
    refine lv_iload_n hx hb dX2_isBefore_44 rfl (lv_at hl 5 rfl) ?_
    refine hp_iald (n := 500) (g := L) hx hb C0 hf hL (vp_in_nI (n := i) (N := 500) (by omega) (by omega)) dX2_isBefore_45 ?_
    rw [nI_clamp (n := i) (by omega)]
    refine lv_icmp_ge (tgt := 53) hx hb dX2_isBefore_46 (by decide) (fun h46 => ?_) (fun h46 => ?_)
    · refine lv_iconst (v := 0) hx hb dX2_isBefore_53 (by decide) ?_
      have hxe : x = B i := xor_inj h21
      exact hp_zret (v := 0) hx hb hr hlocks C0 hf hS (by first | exact Nat.le_refl _ | omega) (by first | exact Nat.le_refl _ | omega) dX2_isBefore_54 (by decide) (⟨Or.inr ⟨rfl, fun h => h.elim (fun k => by rw [hxe] at k; have := ul_nat k; omega) (fun k => absurd k.2 (Int32.not_lt.mpr h46))⟩, rfl⟩)
    · refine lv_iconst (v := 1) hx hb dX2_isBefore_49 (by decide) ?_
      refine lv_goto (tgt := 54) hx hb dX2_isBefore_50 (by decide) ?_
      have hxe : x = B i := xor_inj h21
      exact hp_zret (v := 1) hx hb hr hlocks C0 hf hS (by first | exact Nat.le_refl _ | omega) (by first | exact Nat.le_refl _ | omega) dX2_isBefore_54 (by decide) (⟨Or.inl ⟨rfl, Or.inr ⟨hxe, Int32.not_le.mp h46⟩⟩, rfl⟩)
  · refine lv_iload hx hb dX2_isBefore_24 (lv_at hl 1 rfl) ?_
    refine lv_iload hx hb dX2_isBefore_26 (lv_at hl 0 rfl) ?_
    refine lv_icmp_ge (tgt := 35) hx hb dX2_isBefore_28 (by decide) (fun h28 => ?_) (fun h28 => ?_)
    · refine lv_iconst (v := 0) hx hb dX2_isBefore_35 (by decide) ?_
      refine lv_goto (tgt := 54) hx hb dX2_isBefore_36 (by decide) ?_
      exact hp_zret (v := 0) hx hb hr hlocks C0 hf hS (by first | exact Nat.le_refl _ | omega) (by first | exact Nat.le_refl _ | omega) dX2_isBefore_54 (by decide) (⟨Or.inr ⟨rfl, fun h => h.elim (fun k => absurd ((ul_sgn x (B i)).mpr k) (Int32.not_lt.mpr h28)) (fun k => (fun e : x = B i => h21 (by rw [e])) k.1)⟩, rfl⟩)
    · refine lv_iconst (v := 1) hx hb dX2_isBefore_31 (by decide) ?_
      refine lv_goto (tgt := 54) hx hb dX2_isBefore_32 (by decide) ?_
      exact hp_zret (v := 1) hx hb hr hlocks C0 hf hS (by first | exact Nat.le_refl _ | omega) (by first | exact Nat.le_refl _ | omega) dX2_isBefore_54 (by decide) (⟨Or.inl ⟨rfl, Or.inl ((ul_sgn x (B i)).mp (Int32.not_le.mp h28))⟩, rfl⟩)
set_option maxHeartbeats 4000000 in
set_option maxRecDepth 100000 in
theorem c_X2_find (l : Launch) (D : va_G) (cy : ClassId) (base : Nat) (f : AH) (qm ab al ah nb nl : Nat) (cd nc : Int32) (n : Nat) (B L Hh NB NL : Nat → Int32) (x l0 : Int32) (hm : f qm = some (mdO cd ab al ah (nI n) nb nl nc)) (hB : f ab = some (arO cy 500 B)) (hL : f al = some (arO cy 500 L)) (hH : f ah = some (arO cy 500 Hh)) (hn : n ≤ 500) : Met l yX2_find wsX2_find ({ frames := 0, cells := 0, slots := 0, locals := 0 }) (va_Pc [.ref qm, .int x, .int l0] (hp_B D cy base f)) (va_Qi (fun (r : Int32) (u : AH) => ((∃ i : Nat, i < n ∧ r = nI i ∧ B i = x ∧ L i = l0) ∨ (r = -1 ∧ ∀ j, j < n → ¬ (B j = x ∧ L j = l0))) ∧ u = f) (hp_B D cy base) (hp_A base)) 0 0 (hp_A base) := by
  refine Met.ofW (cc := cX2_find) (maxL := 4) (ret := (some .int)) (by decide) rfl ?_
  intro p e s m args below meth c s₁ Bd hml hv
  obtain ⟨rfl, hf, C0⟩ := hv
  have hx := Bd.exec
  have hb := Bd.bytes
  have hr := Bd.returns
  have hts := atoms_spec (ws := wsX2_find) Bd.pre
  have hown : s.vm.findClass RX2 = some m.cls := findClass_of_methodNamed Bd.named
  have hlocks := Bd.notSynchronized
  have hin2 : ∀ w ∈ wsX20, w ∈ wsX2_find := by decide +kernel
  have hS : va_S (hp_A base) s.heap s.heap [] := va_S.rf
  have hl := lv_entry ([.ref qm, .int x, .int l0]) (n := 4) (Nat.le_of_ble_eq_true rfl)
  rw [lg_entry_eq]
  generalize (lg_sl ([.ref qm, .int x, .int l0]) ++ List.replicate (4 - (lg_sl ([.ref qm, .int x, .int l0])).length) Slot.unset).toArray = ls at hl ⊢
  have hl : lv_has ls 4 [(0, .ref qm), (1, .int x), (2, .int l0)] := hl
  have loop : ∀ (k j : Nat) (ls : Array Slot) (H : Heap) (locs : List Loc), j ≤ n → n + 1 ≤ j + k → (∀ i, i < j → ¬ (B i = x ∧ L i = l0)) → hp_ok D base f H → va_S (hp_A base) s.heap H locs → lv_has ls 4 [(0, .ref qm), (1, .int x), (2, .int l0), (3, .int (nI j))] → W p l e (headSpec wsX2_find ({ frames := 0, cells := 0, slots := 0, locals := 0 } : Room)).room s m #[Value.ref qm, Value.int x, Value.int l0] below meth c H locs 0 0 (MQ below (va_Qi (fun (r : Int32) (u : AH) => ((∃ i : Nat, i < n ∧ r = nI i ∧ B i = x ∧ L i = l0) ∨ (r = -1 ∧ ∀ j, j < n → ¬ (B j = x ∧ L j = l0))) ∧ u = f) (hp_B D cy base) (hp_A base)) #[Value.ref qm, Value.int x, Value.int l0] s 0 0 (hp_A base)) (F0 m 2 ls []) := by
    intro k
    induction k with
    | zero => intro j _ _ _ h1 h2; exact absurd h2 (by omega)
    | succ k ih =>
      intro j ls H locs hj hk hI hf hS hl
      refine lv_iload_n hx hb dX2_find_2 rfl (lv_at hl 3 rfl) ?_
      refine lv_aload_n hx hb dX2_find_3 rfl (lv_at hl 0 rfl) ?_
      refine hp_get (ci := 2) (v := .int (nI n)) (C := RX2) (T := TX2) (N := 8) hx hb hts hin2 hown C0 hf hm rfl 4 (by decide) (hts (.fieldLink RX2 29 "RouteTrieModel" "size" "I") (by decide +kernel)) (fun _ h9 => h9) rfl dX2_find_4 ?_
      refine lv_icmp_ge (tgt := 38) hx hb dX2_find_7 (by decide) (fun h7 => ?_) (fun h7 => ?_)
      · have hjn : n ≤ j := (nI_leI (by omega) (by omega)).mp h7
        refine lv_iconst (v := (-1)) hx hb dX2_find_38 (by decide) ?_
        exact hp_iret (v := (-1)) hx hb hr hlocks C0 hf hS (by first | exact Nat.le_refl _ | omega) (by first | exact Nat.le_refl _ | omega) dX2_find_39 (⟨Or.inr ⟨rfl, fun i hi => hI i (by omega)⟩, rfl⟩)
      · have hjn : j < n := Nat.not_le.mp (fun q => h7 ((nI_leI (by omega) (by omega)).mpr q))
        refine lv_aload_n hx hb dX2_find_10 rfl (lv_at hl 0 rfl) ?_
        refine hp_get (ci := 2) (v := .ref ab) (C := RX2) (T := TX2) (N := 8) hx hb hts hin2 hown C0 hf hm rfl 1 (by decide) (hts (.fieldLink RX2 7 "RouteTrieModel" "bits" "[I") (by decide +kernel)) (fun _ h9 => h9) rfl dX2_find_11 ?_
        refine lv_iload_n hx hb dX2_find_14 rfl (lv_at hl 3 rfl) ?_
        refine hp_iald (n := 500) (g := B) hx hb C0 hf hB (vp_in_nI (n := j) (N := 500) (by omega) (by omega)) dX2_find_15 ?_
        rw [nI_clamp (n := j) (by omega)]
        refine lv_iload_n hx hb dX2_find_16 rfl (lv_at hl 1 rfl) ?_
        refine lv_icmp_ne (tgt := 32) hx hb dX2_find_17 (by decide) (fun h17 => ?_) (fun h17 => ?_)
        · refine lv_iinc (v := ((nI j) + 1)) (lv' := [(3, .int ((nI j) + 1)), (0, .ref qm), (1, .int x), (2, .int l0)]) hx hb dX2_find_32 hl (k := 3) rfl rfl (by decide) rfl (fun ls hl => ?_)
          refine lv_goto (tgt := 2) hx hb dX2_find_35 (by decide) ?_
          rw [nI_1] at hl
          exact ih (j + 1) ls _ _ (by omega) (by omega) (fun i hi => by
            rcases Nat.lt_or_ge i j with q | q
            · exact hI i q
            · have e : i = j := by omega
              subst e
              exact fun g => h17 g.1) hf hS (lv_sub hl [1, 2, 3, 0] rfl)
        · refine lv_aload_n hx hb dX2_find_20 rfl (lv_at hl 0 rfl) ?_
          refine hp_get (ci := 2) (v := .ref al) (C := RX2) (T := TX2) (N := 8) hx hb hts hin2 hown C0 hf hm rfl 2 (by decide) (hts (.fieldLink RX2 13 "RouteTrieModel" "lengths" "[I") (by decide +kernel)) (fun _ h9 => h9) rfl dX2_find_21 ?_
          refine lv_iload_n hx hb dX2_find_24 rfl (lv_at hl 3 rfl) ?_
          refine hp_iald (n := 500) (g := L) hx hb C0 hf hL (vp_in_nI (n := j) (N := 500) (by omega) (by omega)) dX2_find_25 ?_
          rw [nI_clamp (n := j) (by omega)]
          refine lv_iload_n hx hb dX2_find_26 rfl (lv_at hl 2 rfl) ?_
          refine lv_icmp_ne (tgt := 32) hx hb dX2_find_27 (by decide) (fun h27 => ?_) (fun h27 => ?_)
          · refine lv_iinc (v := ((nI j) + 1)) (lv' := [(3, .int ((nI j) + 1)), (0, .ref qm), (1, .int x), (2, .int l0)]) hx hb dX2_find_32 hl (k := 3) rfl rfl (by decide) rfl (fun ls hl => ?_)
            refine lv_goto (tgt := 2) hx hb dX2_find_35 (by decide) ?_
            rw [nI_1] at hl
            exact ih (j + 1) ls _ _ (by omega) (by omega) (fun i hi => by
              rcases Nat.lt_or_ge i j with q | q
              · exact hI i q
              · have e : i = j := by omega
                subst e
                exact fun g => h27 g.2) hf hS (lv_sub hl [1, 2, 3, 0] rfl)
          · refine lv_iload_n hx hb dX2_find_30 rfl (lv_at hl 3 rfl) ?_
            exact hp_iret (v := nI j) hx hb hr hlocks C0 hf hS (by first | exact Nat.le_refl _ | omega) (by first | exact Nat.le_refl _ | omega) dX2_find_31 (⟨Or.inl ⟨j, hjn, rfl, h17, h27⟩, rfl⟩)
  refine lv_iconst (v := 0) hx hb dX2_find_0 (by decide) ?_
  refine lv_istore_n (lv' := [(3, .int 0), (0, .ref qm), (1, .int x), (2, .int l0)]) hx hb dX2_find_1 rfl hl (by decide) rfl (fun ls hl => ?_)
  exact loop (n + 1) 0 ls _ _ (by omega) (by omega) (fun i hi => absurd hi (by omega)) hf hS (lv_sub hl [1, 2, 3, 0] rfl)
theorem nI_m1 {i : Nat} (h : i < 2 ^ 31) : ¬ nI i = -1 := fun e => by have := nI_pos h; rw [e] at this; exact this (by decide)
set_option maxHeartbeats 4000000 in
set_option maxRecDepth 100000 in
theorem c_X2_longest (l : Launch) (D : va_G) (cy : ClassId) (base : Nat) (f : AH) (qm ab al ah nb nl : Nat) (cd nc : Int32) (n : Nat) (B L Hh NB NL : Nat → Int32) (x : Int32) (hm : f qm = some (mdO cd ab al ah (nI n) nb nl nc)) (hB : f ab = some (arO cy 500 B)) (hL : f al = some (arO cy 500 L)) (hH : f ah = some (arO cy 500 Hh)) (hn : n ≤ 500) : Met l yX2_longest wsX2_longest ({ frames := 2, cells := 0, slots := 0, locals := 42 }) (va_Pc [.ref qm, .int x] (hp_B D cy base f)) (va_Qi (fun (r : Int32) (u : AH) => ((∃ i : Nat, i < n ∧ r = nI i ∧ x &&& mskI (L i) = B i ∧ ∀ j, j < n → x &&& mskI (L j) = B j → L j ≤ L i) ∨ (r = -1 ∧ ∀ j, j < n → ¬ x &&& mskI (L j) = B j)) ∧ u = f) (hp_B D cy base) (hp_A base)) 0 0 (hp_A base) := by
  refine Met.ofW (cc := cX2_longest) (maxL := 4) (ret := (some .int)) (by decide) rfl ?_
  intro p e s m args below meth c s₁ Bd hml hv
  obtain ⟨rfl, hf, C0⟩ := hv
  have hx := Bd.exec
  have hb := Bd.bytes
  have hr := Bd.returns
  have hts := atoms_spec (ws := wsX2_longest) Bd.pre
  have hown : s.vm.findClass RX2 = some m.cls := findClass_of_methodNamed Bd.named
  have hlocks := Bd.notSynchronized
  have hin2 : ∀ w ∈ wsX20, w ∈ wsX2_longest := by decide +kernel
  have hS : va_S (hp_A base) s.heap s.heap [] := va_S.rf
  have hl := lv_entry ([.ref qm, .int x]) (n := 4) (Nat.le_of_ble_eq_true rfl)
  rw [lg_entry_eq]
  generalize (lg_sl ([.ref qm, .int x]) ++ List.replicate (4 - (lg_sl ([.ref qm, .int x])).length) Slot.unset).toArray = ls at hl ⊢
  have hl : lv_has ls 4 [(0, .ref qm), (1, .int x)] := hl
  have loop : ∀ (k j : Nat) (bs : Int32) (ls : Array Slot) (H : Heap) (locs : List Loc), j ≤ n → n + 1 ≤ j + k → ((∃ i : Nat, i < j ∧ bs = nI i ∧ x &&& mskI (L i) = B i ∧ ∀ j2, j2 < j → x &&& mskI (L j2) = B j2 → L j2 ≤ L i) ∨ (bs = -1 ∧ ∀ j2, j2 < j → ¬ x &&& mskI (L j2) = B j2)) → hp_ok D base f H → va_S (hp_A base) s.heap H locs → lv_has ls 4 [(0, .ref qm), (1, .int x), (2, .int bs), (3, .int (nI j))] → W p l e (headSpec wsX2_longest ({ frames := 2, cells := 0, slots := 0, locals := 42 } : Room)).room s m #[Value.ref qm, Value.int x] below meth c H locs 0 0 (MQ below (va_Qi (fun (r : Int32) (u : AH) => ((∃ i : Nat, i < n ∧ r = nI i ∧ x &&& mskI (L i) = B i ∧ ∀ j, j < n → x &&& mskI (L j) = B j → L j ≤ L i) ∨ (r = -1 ∧ ∀ j, j < n → ¬ x &&& mskI (L j) = B j)) ∧ u = f) (hp_B D cy base) (hp_A base)) #[Value.ref qm, Value.int x] s 0 0 (hp_A base)) (F0 m 4 ls []) := by
    intro k
    induction k with
    | zero => intro j _ _ _ _ h1 h2; exact absurd h2 (by omega)
    | succ k ih =>
      intro j bs ls H locs hj hk hI hf hS hl
      refine lv_iload_n hx hb dX2_longest_4 rfl (lv_at hl 3 rfl) ?_
      refine lv_aload_n hx hb dX2_longest_5 rfl (lv_at hl 0 rfl) ?_
      refine hp_get (ci := 2) (v := .int (nI n)) (C := RX2) (T := TX2) (N := 8) hx hb hts hin2 hown C0 hf hm rfl 4 (by decide) (hts (.fieldLink RX2 29 "RouteTrieModel" "size" "I") (by decide +kernel)) (fun _ h9 => h9) rfl dX2_longest_6 ?_
      refine lv_icmp_ge (tgt := 59) hx hb dX2_longest_9 (by decide) (fun h9 => ?_) (fun h9 => ?_)
      · have hjn : j = n := by have := (nI_leI (by omega) (by omega)).mp h9; omega
        subst hjn
        refine lv_iload_n hx hb dX2_longest_59 rfl (lv_at hl 2 rfl) ?_
        exact hp_iret (v := bs) hx hb hr hlocks C0 hf hS (by first | exact Nat.le_refl _ | omega) (by first | exact Nat.le_refl _ | omega) dX2_longest_60 (⟨hI, rfl⟩)
      · have hjn : j < n := Nat.not_le.mp (fun q => h9 ((nI_leI (by omega) (by omega)).mpr q))
        refine lv_iload_n hx hb dX2_longest_12 rfl (lv_at hl 1 rfl) ?_
        refine lv_aload_n hx hb dX2_longest_13 rfl (lv_at hl 0 rfl) ?_
        refine hp_get (ci := 2) (v := .ref ab) (C := RX2) (T := TX2) (N := 8) hx hb hts hin2 hown C0 hf hm rfl 1 (by decide) (hts (.fieldLink RX2 7 "RouteTrieModel" "bits" "[I") (by decide +kernel)) (fun _ h9 => h9) rfl dX2_longest_14 ?_
        refine lv_iload_n hx hb dX2_longest_17 rfl (lv_at hl 3 rfl) ?_
        refine hp_iald (n := 500) (g := B) hx hb C0 hf hB (vp_in_nI (n := j) (N := 500) (by omega) (by omega)) dX2_longest_18 ?_
        rw [nI_clamp (n := j) (by omega)]
        refine lv_aload_n hx hb dX2_longest_19 rfl (lv_at hl 0 rfl) ?_
        refine hp_get (ci := 2) (v := .ref al) (C := RX2) (T := TX2) (N := 8) hx hb hts hin2 hown C0 hf hm rfl 2 (by decide) (hts (.fieldLink RX2 13 "RouteTrieModel" "lengths" "[I") (by decide +kernel)) (fun _ h9 => h9) rfl dX2_longest_20 ?_
        refine lv_iload_n hx hb dX2_longest_23 rfl (lv_at hl 3 rfl) ?_
        refine hp_iald (n := 500) (g := L) hx hb C0 hf hL (vp_in_nI (n := j) (N := 500) (by omega) (by omega)) dX2_longest_24 ?_
        rw [nI_clamp (n := j) (by omega)]
        refine hp_ki (hp_rS (As := [.int x, .int (B j), .int (L j)]) (rest := []) ⟨hx, hb, hml, hown, hts⟩ C0 hf hS (c_X2_begins l D cy base f x (B j) (L j)) (va_cwS 3 hts gX2_longest_X2_begins rfl rfl rfl (by decide +kernel) ⟨Nat.le_of_ble_eq_true rfl, Nat.le_of_ble_eq_true rfl⟩) rfl hl.1 rfl (Nat.le_of_ble_eq_true rfl) dX2_longest_25 ⟨Nat.le_of_ble_eq_true rfl, Nat.le_of_ble_eq_true rfl⟩) hS (fun r_1 u_1 H locs hq_1 hf hS => ?_)
        obtain ⟨hr_1, hu⟩ := hq_1
        rw [hu] at hf
        have hbg : r_1 = 0 ↔ ¬ x &&& mskI (L j) = B j := by rw [hr_1]; split <;> simp_all
        refine lv_if_eq (tgt := 53) hx hb dX2_longest_28 (by decide) (fun h28 => ?_) (fun h28 => ?_)
        · refine lv_iinc (v := ((nI j) + 1)) (lv' := [(3, .int ((nI j) + 1)), (0, .ref qm), (1, .int x), (2, .int bs)]) hx hb dX2_longest_53 hl (k := 3) rfl rfl (by decide) rfl (fun ls hl => ?_)
          refine lv_goto (tgt := 4) hx hb dX2_longest_56 (by decide) ?_
          rw [nI_1] at hl
          exact ih (j + 1) bs ls _ _ (by omega) (by omega) (hI.elim (fun ⟨i, a1, a2, a3, a4⟩ => Or.inl ⟨i, by omega, a2, a3, fun j2 g1 g2 => by
            rcases Nat.lt_or_ge j2 j with q | q
            · exact a4 j2 q g2
            · have e : j2 = j := by omega
              subst e; exact absurd g2 (hbg.mp h28)⟩) (fun ⟨a1, a2⟩ => Or.inr ⟨a1, fun j2 g1 => by
            rcases Nat.lt_or_ge j2 j with q | q
            · exact a2 j2 q
            · have e : j2 = j := by omega
              subst e; exact hbg.mp h28⟩)) hf hS (lv_sub hl [1, 2, 3, 0] rfl)
        · refine lv_iload_n hx hb dX2_longest_31 rfl (lv_at hl 2 rfl) ?_
          refine lv_iconst (v := (-1)) hx hb dX2_longest_32 (by decide) ?_
          refine lv_icmp_eq (tgt := 51) hx hb dX2_longest_33 (by decide) (fun h33 => ?_) (fun h33 => ?_)
          · refine lv_iload_n hx hb dX2_longest_51 rfl (lv_at hl 3 rfl) ?_
            refine lv_istore_n (lv' := [(2, .int (nI j)), (0, .ref qm), (1, .int x), (3, .int (nI j))]) hx hb dX2_longest_52 rfl hl (by decide) rfl (fun ls hl => ?_)
            refine lv_iinc (v := ((nI j) + 1)) (lv' := [(3, .int ((nI j) + 1)), (2, .int (nI j)), (0, .ref qm), (1, .int x)]) hx hb dX2_longest_53 hl (k := 3) rfl rfl (by decide) rfl (fun ls hl => ?_)
            refine lv_goto (tgt := 4) hx hb dX2_longest_56 (by decide) ?_
            rw [nI_1] at hl
            exact ih (j + 1) (nI j) ls _ _ (by omega) (by omega) (Or.inl ⟨j, by omega, rfl, Classical.not_not.mp ((not_congr hbg).mp h28), fun j2 g1 g2 => by
              rcases Nat.lt_or_ge j2 j with q | q
              · exact absurd g2 ((hI.elim (fun ⟨i, a1, a2, _, _⟩ => absurd (a2.symm.trans h33) (nI_m1 (by omega))) (fun g => g.2 j2 q)))
              · have e : j2 = j := by omega
                subst e; exact Int32.le_refl _⟩) hf hS (lv_sub hl [2, 3, 1, 0] rfl)
          · obtain ⟨i, hi1, rfl, hi2, hi3⟩ : ∃ i : Nat, i < j ∧ bs = nI i ∧ x &&& mskI (L i) = B i ∧ ∀ j2, j2 < j → x &&& mskI (L j2) = B j2 → L j2 ≤ L i := hI.elim id (fun g => absurd g.1 h33)
            refine lv_aload_n hx hb dX2_longest_36 rfl (lv_at hl 0 rfl) ?_
            refine hp_get (ci := 2) (v := .ref al) (C := RX2) (T := TX2) (N := 8) hx hb hts hin2 hown C0 hf hm rfl 2 (by decide) (hts (.fieldLink RX2 13 "RouteTrieModel" "lengths" "[I") (by decide +kernel)) (fun _ h9 => h9) rfl dX2_longest_37 ?_
            refine lv_iload_n hx hb dX2_longest_40 rfl (lv_at hl 3 rfl) ?_
            refine hp_iald (n := 500) (g := L) hx hb C0 hf hL (vp_in_nI (n := j) (N := 500) (by omega) (by omega)) dX2_longest_41 ?_
            rw [nI_clamp (n := j) (by omega)]
            refine lv_aload_n hx hb dX2_longest_42 rfl (lv_at hl 0 rfl) ?_
            refine hp_get (ci := 2) (v := .ref al) (C := RX2) (T := TX2) (N := 8) hx hb hts hin2 hown C0 hf hm rfl 2 (by decide) (hts (.fieldLink RX2 13 "RouteTrieModel" "lengths" "[I") (by decide +kernel)) (fun _ h9 => h9) rfl dX2_longest_43 ?_
            refine lv_iload_n hx hb dX2_longest_46 rfl (lv_at hl 2 rfl) ?_
            refine hp_iald (n := 500) (g := L) hx hb C0 hf hL (vp_in_nI (n := i) (N := 500) (by omega) (by omega)) dX2_longest_47 ?_
            rw [nI_clamp (n := i) (by omega)]
            refine lv_icmp_le (tgt := 53) hx hb dX2_longest_48 (by decide) (fun h48 => ?_) (fun h48 => ?_)
            · refine lv_iinc (v := ((nI j) + 1)) (lv' := [(3, .int ((nI j) + 1)), (0, .ref qm), (1, .int x), (2, .int (nI i))]) hx hb dX2_longest_53 hl (k := 3) rfl rfl (by decide) rfl (fun ls hl => ?_)
              refine lv_goto (tgt := 4) hx hb dX2_longest_56 (by decide) ?_
              rw [nI_1] at hl
              exact ih (j + 1) (nI i) ls _ _ (by omega) (by omega) (Or.inl ⟨i, by omega, rfl, hi2, fun j2 g1 g2 => by
                rcases Nat.lt_or_ge j2 j with q | q
                · exact hi3 j2 q g2
                · have e : j2 = j := by omega
                  subst e; exact h48⟩) hf hS (lv_sub hl [1, 2, 3, 0] rfl)
            · refine lv_iload_n hx hb dX2_longest_51 rfl (lv_at hl 3 rfl) ?_
              refine lv_istore_n (lv' := [(2, .int (nI j)), (0, .ref qm), (1, .int x), (3, .int (nI j))]) hx hb dX2_longest_52 rfl hl (by decide) rfl (fun ls hl => ?_)
              refine lv_iinc (v := ((nI j) + 1)) (lv' := [(3, .int ((nI j) + 1)), (2, .int (nI j)), (0, .ref qm), (1, .int x)]) hx hb dX2_longest_53 hl (k := 3) rfl rfl (by decide) rfl (fun ls hl => ?_)
              refine lv_goto (tgt := 4) hx hb dX2_longest_56 (by decide) ?_
              rw [nI_1] at hl
              exact ih (j + 1) (nI j) ls _ _ (by omega) (by omega) (Or.inl ⟨j, by omega, rfl, Classical.not_not.mp ((not_congr hbg).mp h28), fun j2 g1 g2 => by
                rcases Nat.lt_or_ge j2 j with q | q
                · exact Int32.le_trans (hi3 j2 q g2) (Int32.le_of_lt (Int32.not_le.mp h48))
                · have e : j2 = j := by omega
                  subst e; exact Int32.le_refl _⟩) hf hS (lv_sub hl [2, 3, 1, 0] rfl)
  refine lv_iconst (v := (-1)) hx hb dX2_longest_0 (by decide) ?_
  refine lv_istore_n (lv' := [(2, .int (-1)), (0, .ref qm), (1, .int x)]) hx hb dX2_longest_1 rfl hl (by decide) rfl (fun ls hl => ?_)
  refine lv_iconst (v := 0) hx hb dX2_longest_2 (by decide) ?_
  refine lv_istore_n (lv' := [(3, .int 0), (2, .int (-1)), (0, .ref qm), (1, .int x)]) hx hb dX2_longest_3 rfl hl (by decide) rfl (fun ls hl => ?_)
  exact loop (n + 1) 0 (-1) ls _ _ (by omega) (by omega) (Or.inr ⟨rfl, fun i hi => absurd hi (by omega)⟩) hf hS (lv_sub hl [2, 3, 1, 0] rfl)
set_option maxHeartbeats 4000000 in
set_option maxRecDepth 100000 in
theorem c_X2_lookup (l : Launch) (D : va_G) (cy : ClassId) (base : Nat) (f : AH) (qm ab al ah nb nl : Nat) (cd nc : Int32) (n : Nat) (B L Hh NB NL : Nat → Int32) (x : Int32) (hm : f qm = some (mdO cd ab al ah (nI n) nb nl nc)) (hB : f ab = some (arO cy 500 B)) (hL : f al = some (arO cy 500 L)) (hH : f ah = some (arO cy 500 Hh)) (hn : n ≤ 500) : Met l yX2_lookup wsX2_lookup ({ frames := 3, cells := 0, slots := 0, locals := 65 }) (va_Pc [.ref qm, .int x] (hp_B D cy base f)) (va_Qi (fun (r : Int32) (u : AH) => ((∃ i : Nat, i < n ∧ r = Hh i ∧ x &&& mskI (L i) = B i ∧ ∀ j, j < n → x &&& mskI (L j) = B j → L j ≤ L i) ∨ (r = -1 ∧ ∀ j, j < n → ¬ x &&& mskI (L j) = B j)) ∧ u = va_up f qm (some (mdO 0 ab al ah (nI n) nb nl nc))) (hp_B D cy base) (hp_A base)) 0 0 (hp_A base) := by
  refine Met.ofW (cc := cX2_lookup) (maxL := 3) (ret := (some .int)) (by decide) rfl ?_
  intro p e s m args below meth c s₁ Bd hml hv
  obtain ⟨rfl, hf, C0⟩ := hv
  have hx := Bd.exec
  have hb := Bd.bytes
  have hr := Bd.returns
  have hts := atoms_spec (ws := wsX2_lookup) Bd.pre
  have hown : s.vm.findClass RX2 = some m.cls := findClass_of_methodNamed Bd.named
  have hlocks := Bd.notSynchronized
  have hin2 : ∀ w ∈ wsX20, w ∈ wsX2_lookup := by decide +kernel
  have hS : va_S (hp_A base) s.heap s.heap [] := va_S.rf
  have hl := lv_entry ([.ref qm, .int x]) (n := 3) (Nat.le_of_ble_eq_true rfl)
  rw [lg_entry_eq]
  generalize (lg_sl ([.ref qm, .int x]) ++ List.replicate (3 - (lg_sl ([.ref qm, .int x])).length) Slot.unset).toArray = ls at hl ⊢
  have hl : lv_has ls 3 [(0, .ref qm), (1, .int x)] := hl
  refine lv_aload_n hx hb dX2_lookup_0 rfl (lv_at hl 0 rfl) ?_
  refine lv_iconst (v := 0) hx hb dX2_lookup_1 (by decide) ?_
  refine hp_put (ci := 2) (v := .int 0) (C := RX2) (T := TX2) (N := 8) hx hb hts hin2 tyX2 tyX2_ok nmX2 hown C0 hf hS hm rfl 0 (by decide) (hts (.fieldLink RX2 25 "RouteTrieModel" "code" "I") (by decide +kernel)) (fun _ h9 => h9) rfl rfl rfl (Nat.le_of_ble_eq_true rfl) dX2_lookup_2 (fun f_1 H locs ef_1 hf hS => ?_)
  have hc_1 : f_1 qm = some (.inr (2, [.int 0, .ref ab, .ref al, .ref ah, .int (nI n), .ref nb, .ref nl, .int nc])) := by rw [ef_1]; exact va_up_self _ _ _
  have hc_1_ab : f_1 ab = some (.inl (cy, 500, .inl B)) := by rw [ef_1, va_up_ne _ _ (hp_dif hB hm (by simp))]; exact hB
  have hc_1_al : f_1 al = some (.inl (cy, 500, .inl L)) := by rw [ef_1, va_up_ne _ _ (hp_dif hL hm (by simp))]; exact hL
  have hc_1_ah : f_1 ah = some (.inl (cy, 500, .inl Hh)) := by rw [ef_1, va_up_ne _ _ (hp_dif hH hm (by simp))]; exact hH
  refine lv_aload_n hx hb dX2_lookup_5 rfl (lv_at hl 0 rfl) ?_
  refine lv_iload_n hx hb dX2_lookup_6 rfl (lv_at hl 1 rfl) ?_
  refine hp_ki (hp_rV (C := RX2) (As := [.int x]) (rest := []) ⟨hx, hb, hml, hown, hts⟩ C0 hf hS (c_X2_longest l D cy base f_1 qm ab al ah nb nl 0 nc n B L Hh NB NL x hc_1 hc_1_ab hc_1_al hc_1_ah hn) (cwV 1 hts gX2_lookup_X2_longest rfl rfl rfl (by decide +kernel) ⟨Nat.le_of_ble_eq_true rfl, Nat.le_of_ble_eq_true rfl⟩) hc_1 rfl rfl hl.1 rfl (Nat.le_of_ble_eq_true rfl) dX2_lookup_7 ⟨Nat.le_of_ble_eq_true rfl, Nat.le_of_ble_eq_true rfl⟩) hS (fun r_2 u_2 H locs hq_2 hf hS => ?_)
  obtain ⟨hr_2, hu⟩ := hq_2
  rw [hu] at hf
  refine lv_istore_n (lv' := [(2, .int r_2), (0, .ref qm), (1, .int x)]) hx hb dX2_lookup_10 rfl hl (by decide) rfl (fun ls hl => ?_)
  refine lv_iload_n hx hb dX2_lookup_11 rfl (lv_at hl 0 rfl) ?_
  refine lv_iconst (v := (-1)) hx hb dX2_lookup_12 (by decide) ?_
  refine lv_icmp_ne (tgt := 20) hx hb dX2_lookup_13 (by decide) (fun h13 => ?_) (fun h13 => ?_)
  · obtain ⟨i, hi1, rfl, hi2, hi3⟩ := hr_2.elim id (fun g => absurd g.1 h13)
    refine lv_aload_n hx hb dX2_lookup_20 rfl (lv_at hl 1 rfl) ?_
    refine hp_get (ci := 2) (v := .ref ah) (C := RX2) (T := TX2) (N := 8) hx hb hts hin2 hown C0 hf hc_1 rfl 3 (by decide) (hts (.fieldLink RX2 16 "RouteTrieModel" "hops" "[I") (by decide +kernel)) (fun _ h9 => h9) rfl dX2_lookup_21 ?_
    refine lv_iload_n hx hb dX2_lookup_24 rfl (lv_at hl 0 rfl) ?_
    refine hp_iald (n := 500) (g := Hh) hx hb C0 hf hc_1_ah (vp_in_nI (n := i) (N := 500) (by omega) (by omega)) dX2_lookup_25 ?_
    rw [nI_clamp (n := i) (by omega)]
    exact hp_iret (v := (Hh i)) hx hb hr hlocks C0 hf hS (by first | exact Nat.le_refl _ | omega) (by first | exact Nat.le_refl _ | omega) dX2_lookup_26 (⟨Or.inl ⟨i, hi1, rfl, hi2, hi3⟩, ef_1⟩)
  · refine lv_iconst (v := (-1)) hx hb dX2_lookup_16 (by decide) ?_
    refine lv_goto (tgt := 26) hx hb dX2_lookup_17 (by decide) ?_
    exact hp_iret (v := (-1)) hx hb hr hlocks C0 hf hS (by first | exact Nat.le_refl _ | omega) (by first | exact Nat.le_refl _ | omega) dX2_lookup_26 (⟨hr_2.elim (fun ⟨i, a1, a2, _, _⟩ => absurd (a2.symm.trans h13) (nI_m1 (by omega))) (fun g => Or.inr ⟨rfl, g.2⟩), ef_1⟩)
set_option maxHeartbeats 4000000 in
set_option maxRecDepth 100000 in
theorem c_X2_lookupLen (l : Launch) (D : va_G) (cy : ClassId) (base : Nat) (f : AH) (qm ab al ah nb nl : Nat) (cd nc : Int32) (n : Nat) (B L Hh NB NL : Nat → Int32) (x : Int32) (hm : f qm = some (mdO cd ab al ah (nI n) nb nl nc)) (hB : f ab = some (arO cy 500 B)) (hL : f al = some (arO cy 500 L)) (hH : f ah = some (arO cy 500 Hh)) (hn : n ≤ 500) : Met l yX2_lookupLen wsX2_lookupLen ({ frames := 3, cells := 0, slots := 0, locals := 65 }) (va_Pc [.ref qm, .int x] (hp_B D cy base f)) (va_Qi (fun (r : Int32) (u : AH) => ((∃ i : Nat, i < n ∧ r = L i ∧ x &&& mskI (L i) = B i ∧ ∀ j, j < n → x &&& mskI (L j) = B j → L j ≤ L i) ∨ (r = -1 ∧ ∀ j, j < n → ¬ x &&& mskI (L j) = B j)) ∧ u = va_up f qm (some (mdO 0 ab al ah (nI n) nb nl nc))) (hp_B D cy base) (hp_A base)) 0 0 (hp_A base) := by
  refine Met.ofW (cc := cX2_lookupLen) (maxL := 3) (ret := (some .int)) (by decide) rfl ?_
  intro p e s m args below meth c s₁ Bd hml hv
  obtain ⟨rfl, hf, C0⟩ := hv
  have hx := Bd.exec
  have hb := Bd.bytes
  have hr := Bd.returns
  have hts := atoms_spec (ws := wsX2_lookupLen) Bd.pre
  have hown : s.vm.findClass RX2 = some m.cls := findClass_of_methodNamed Bd.named
  have hlocks := Bd.notSynchronized
  have hin2 : ∀ w ∈ wsX20, w ∈ wsX2_lookupLen := by decide +kernel
  have hS : va_S (hp_A base) s.heap s.heap [] := va_S.rf
  have hl := lv_entry ([.ref qm, .int x]) (n := 3) (Nat.le_of_ble_eq_true rfl)
  rw [lg_entry_eq]
  generalize (lg_sl ([.ref qm, .int x]) ++ List.replicate (3 - (lg_sl ([.ref qm, .int x])).length) Slot.unset).toArray = ls at hl ⊢
  have hl : lv_has ls 3 [(0, .ref qm), (1, .int x)] := hl
  refine lv_aload_n hx hb dX2_lookupLen_0 rfl (lv_at hl 0 rfl) ?_
  refine lv_iconst (v := 0) hx hb dX2_lookupLen_1 (by decide) ?_
  refine hp_put (ci := 2) (v := .int 0) (C := RX2) (T := TX2) (N := 8) hx hb hts hin2 tyX2 tyX2_ok nmX2 hown C0 hf hS hm rfl 0 (by decide) (hts (.fieldLink RX2 25 "RouteTrieModel" "code" "I") (by decide +kernel)) (fun _ h9 => h9) rfl rfl rfl (Nat.le_of_ble_eq_true rfl) dX2_lookupLen_2 (fun f_1 H locs ef_1 hf hS => ?_)
  have hc_1 : f_1 qm = some (.inr (2, [.int 0, .ref ab, .ref al, .ref ah, .int (nI n), .ref nb, .ref nl, .int nc])) := by rw [ef_1]; exact va_up_self _ _ _
  have hc_1_ab : f_1 ab = some (.inl (cy, 500, .inl B)) := by rw [ef_1, va_up_ne _ _ (hp_dif hB hm (by simp))]; exact hB
  have hc_1_al : f_1 al = some (.inl (cy, 500, .inl L)) := by rw [ef_1, va_up_ne _ _ (hp_dif hL hm (by simp))]; exact hL
  have hc_1_ah : f_1 ah = some (.inl (cy, 500, .inl Hh)) := by rw [ef_1, va_up_ne _ _ (hp_dif hH hm (by simp))]; exact hH
  refine lv_aload_n hx hb dX2_lookupLen_5 rfl (lv_at hl 0 rfl) ?_
  refine lv_iload_n hx hb dX2_lookupLen_6 rfl (lv_at hl 1 rfl) ?_
  refine hp_ki (hp_rV (C := RX2) (As := [.int x]) (rest := []) ⟨hx, hb, hml, hown, hts⟩ C0 hf hS (c_X2_longest l D cy base f_1 qm ab al ah nb nl 0 nc n B L Hh NB NL x hc_1 hc_1_ab hc_1_al hc_1_ah hn) (cwV 1 hts gX2_lookupLen_X2_longest rfl rfl rfl (by decide +kernel) ⟨Nat.le_of_ble_eq_true rfl, Nat.le_of_ble_eq_true rfl⟩) hc_1 rfl rfl hl.1 rfl (Nat.le_of_ble_eq_true rfl) dX2_lookupLen_7 ⟨Nat.le_of_ble_eq_true rfl, Nat.le_of_ble_eq_true rfl⟩) hS (fun r_2 u_2 H locs hq_2 hf hS => ?_)
  obtain ⟨hr_2, hu⟩ := hq_2
  rw [hu] at hf
  refine lv_istore_n (lv' := [(2, .int r_2), (0, .ref qm), (1, .int x)]) hx hb dX2_lookupLen_10 rfl hl (by decide) rfl (fun ls hl => ?_)
  refine lv_iload_n hx hb dX2_lookupLen_11 rfl (lv_at hl 0 rfl) ?_
  refine lv_iconst (v := (-1)) hx hb dX2_lookupLen_12 (by decide) ?_
  refine lv_icmp_ne (tgt := 20) hx hb dX2_lookupLen_13 (by decide) (fun h13 => ?_) (fun h13 => ?_)
  · obtain ⟨i, hi1, rfl, hi2, hi3⟩ := hr_2.elim id (fun g => absurd g.1 h13)
    refine lv_aload_n hx hb dX2_lookupLen_20 rfl (lv_at hl 1 rfl) ?_
    refine hp_get (ci := 2) (v := .ref al) (C := RX2) (T := TX2) (N := 8) hx hb hts hin2 hown C0 hf hc_1 rfl 2 (by decide) (hts (.fieldLink RX2 13 "RouteTrieModel" "lengths" "[I") (by decide +kernel)) (fun _ h9 => h9) rfl dX2_lookupLen_21 ?_
    refine lv_iload_n hx hb dX2_lookupLen_24 rfl (lv_at hl 0 rfl) ?_
    refine hp_iald (n := 500) (g := L) hx hb C0 hf hc_1_al (vp_in_nI (n := i) (N := 500) (by omega) (by omega)) dX2_lookupLen_25 ?_
    rw [nI_clamp (n := i) (by omega)]
    exact hp_iret (v := (L i)) hx hb hr hlocks C0 hf hS (by first | exact Nat.le_refl _ | omega) (by first | exact Nat.le_refl _ | omega) dX2_lookupLen_26 (⟨Or.inl ⟨i, hi1, rfl, hi2, hi3⟩, ef_1⟩)
  · refine lv_iconst (v := (-1)) hx hb dX2_lookupLen_16 (by decide) ?_
    refine lv_goto (tgt := 26) hx hb dX2_lookupLen_17 (by decide) ?_
    exact hp_iret (v := (-1)) hx hb hr hlocks C0 hf hS (by first | exact Nat.le_refl _ | omega) (by first | exact Nat.le_refl _ | omega) dX2_lookupLen_26 (⟨hr_2.elim (fun ⟨i, a1, a2, _, _⟩ => absurd (a2.symm.trans h13) (nI_m1 (by omega))) (fun g => Or.inr ⟨rfl, g.2⟩), ef_1⟩)
set_option maxHeartbeats 4000000 in
set_option maxRecDepth 100000 in
theorem c_X2_exact (l : Launch) (D : va_G) (cy : ClassId) (base : Nat) (f : AH) (qm ab al ah nb nl : Nat) (cd nc : Int32) (n : Nat) (B L Hh NB NL : Nat → Int32) (x l0 : Int32) (hm : f qm = some (mdO cd ab al ah (nI n) nb nl nc)) (hB : f ab = some (arO cy 500 B)) (hL : f al = some (arO cy 500 L)) (hH : f ah = some (arO cy 500 Hh)) (hn : n ≤ 500) : Met l yX2_exact wsX2_exact ({ frames := 1, cells := 0, slots := 0, locals := 23 }) (va_Pc [.ref qm, .int x, .int l0] (hp_B D cy base f)) (va_Qi (fun (r : Int32) (u : AH) => ((∃ i : Nat, i < n ∧ r = Hh i ∧ B i = x ∧ L i = l0) ∨ (r = -1 ∧ ∀ j, j < n → ¬ (B j = x ∧ L j = l0))) ∧ u = va_up f qm (some (mdO 0 ab al ah (nI n) nb nl nc))) (hp_B D cy base) (hp_A base)) 0 0 (hp_A base) := by
  refine Met.ofW (cc := cX2_exact) (maxL := 4) (ret := (some .int)) (by decide) rfl ?_
  intro p e s m args below meth c s₁ Bd hml hv
  obtain ⟨rfl, hf, C0⟩ := hv
  have hx := Bd.exec
  have hb := Bd.bytes
  have hr := Bd.returns
  have hts := atoms_spec (ws := wsX2_exact) Bd.pre
  have hown : s.vm.findClass RX2 = some m.cls := findClass_of_methodNamed Bd.named
  have hlocks := Bd.notSynchronized
  have hin2 : ∀ w ∈ wsX20, w ∈ wsX2_exact := by decide +kernel
  have hS : va_S (hp_A base) s.heap s.heap [] := va_S.rf
  have hl := lv_entry ([.ref qm, .int x, .int l0]) (n := 4) (Nat.le_of_ble_eq_true rfl)
  rw [lg_entry_eq]
  generalize (lg_sl ([.ref qm, .int x, .int l0]) ++ List.replicate (4 - (lg_sl ([.ref qm, .int x, .int l0])).length) Slot.unset).toArray = ls at hl ⊢
  have hl : lv_has ls 4 [(0, .ref qm), (1, .int x), (2, .int l0)] := hl
  refine lv_aload_n hx hb dX2_exact_0 rfl (lv_at hl 0 rfl) ?_
  refine lv_iconst (v := 0) hx hb dX2_exact_1 (by decide) ?_
  refine hp_put (ci := 2) (v := .int 0) (C := RX2) (T := TX2) (N := 8) hx hb hts hin2 tyX2 tyX2_ok nmX2 hown C0 hf hS hm rfl 0 (by decide) (hts (.fieldLink RX2 25 "RouteTrieModel" "code" "I") (by decide +kernel)) (fun _ h9 => h9) rfl rfl rfl (Nat.le_of_ble_eq_true rfl) dX2_exact_2 (fun f_1 H locs ef_1 hf hS => ?_)
  have hc_1 : f_1 qm = some (.inr (2, [.int 0, .ref ab, .ref al, .ref ah, .int (nI n), .ref nb, .ref nl, .int nc])) := by rw [ef_1]; exact va_up_self _ _ _
  have hc_1_ab : f_1 ab = some (.inl (cy, 500, .inl B)) := by rw [ef_1, va_up_ne _ _ (hp_dif hB hm (by simp))]; exact hB
  have hc_1_al : f_1 al = some (.inl (cy, 500, .inl L)) := by rw [ef_1, va_up_ne _ _ (hp_dif hL hm (by simp))]; exact hL
  have hc_1_ah : f_1 ah = some (.inl (cy, 500, .inl Hh)) := by rw [ef_1, va_up_ne _ _ (hp_dif hH hm (by simp))]; exact hH
  refine lv_aload_n hx hb dX2_exact_5 rfl (lv_at hl 0 rfl) ?_
  refine lv_iload_n hx hb dX2_exact_6 rfl (lv_at hl 1 rfl) ?_
  refine lv_iload_n hx hb dX2_exact_7 rfl (lv_at hl 2 rfl) ?_
  refine hp_ki (hp_rV (C := RX2) (As := [.int x, .int l0]) (rest := []) ⟨hx, hb, hml, hown, hts⟩ C0 hf hS (c_X2_find l D cy base f_1 qm ab al ah nb nl 0 nc n B L Hh NB NL x l0 hc_1 hc_1_ab hc_1_al hc_1_ah hn) (cwV 2 hts gX2_exact_X2_find rfl rfl rfl (by decide +kernel) ⟨Nat.le_of_ble_eq_true rfl, Nat.le_of_ble_eq_true rfl⟩) hc_1 rfl rfl hl.1 rfl (Nat.le_of_ble_eq_true rfl) dX2_exact_8 ⟨Nat.le_of_ble_eq_true rfl, Nat.le_of_ble_eq_true rfl⟩) hS (fun r_2 u_2 H locs hq_2 hf hS => ?_)
  obtain ⟨hr_2, hu⟩ := hq_2
  rw [hu] at hf
  refine lv_istore_n (lv' := [(3, .int r_2), (0, .ref qm), (1, .int x), (2, .int l0)]) hx hb dX2_exact_11 rfl hl (by decide) rfl (fun ls hl => ?_)
  refine lv_iload_n hx hb dX2_exact_12 rfl (lv_at hl 0 rfl) ?_
  refine lv_iconst (v := (-1)) hx hb dX2_exact_13 (by decide) ?_
  refine lv_icmp_ne (tgt := 21) hx hb dX2_exact_14 (by decide) (fun h14 => ?_) (fun h14 => ?_)
  · obtain ⟨i, hi1, rfl, hi2, hi3⟩ := hr_2.elim id (fun g => absurd g.1 h14)
    refine lv_aload_n hx hb dX2_exact_21 rfl (lv_at hl 1 rfl) ?_
    refine hp_get (ci := 2) (v := .ref ah) (C := RX2) (T := TX2) (N := 8) hx hb hts hin2 hown C0 hf hc_1 rfl 3 (by decide) (hts (.fieldLink RX2 16 "RouteTrieModel" "hops" "[I") (by decide +kernel)) (fun _ h9 => h9) rfl dX2_exact_22 ?_
    refine lv_iload_n hx hb dX2_exact_25 rfl (lv_at hl 0 rfl) ?_
    refine hp_iald (n := 500) (g := Hh) hx hb C0 hf hc_1_ah (vp_in_nI (n := i) (N := 500) (by omega) (by omega)) dX2_exact_26 ?_
    rw [nI_clamp (n := i) (by omega)]
    exact hp_iret (v := (Hh i)) hx hb hr hlocks C0 hf hS (by first | exact Nat.le_refl _ | omega) (by first | exact Nat.le_refl _ | omega) dX2_exact_27 (⟨Or.inl ⟨i, hi1, rfl, hi2, hi3⟩, ef_1⟩)
  · refine lv_iconst (v := (-1)) hx hb dX2_exact_17 (by decide) ?_
    refine lv_goto (tgt := 27) hx hb dX2_exact_18 (by decide) ?_
    exact hp_iret (v := (-1)) hx hb hr hlocks C0 hf hS (by first | exact Nat.le_refl _ | omega) (by first | exact Nat.le_refl _ | omega) dX2_exact_27 (⟨hr_2.elim (fun ⟨i, a1, a2, _, _⟩ => absurd (a2.symm.trans h14) (nI_m1 (by omega))) (fun g => Or.inr ⟨rfl, g.2⟩), ef_1⟩)
set_option maxHeartbeats 4000000 in
set_option maxRecDepth 100000 in
theorem c_X2_count (l : Launch) (D : va_G) (cy : ClassId) (base : Nat) (f : AH) (qm ab al ah nb nl : Nat) (cd nc : Int32) (n : Nat) (B L Hh NB NL : Nat → Int32) (hm : f qm = some (mdO cd ab al ah (nI n) nb nl nc)) (hB : f ab = some (arO cy 500 B)) (hL : f al = some (arO cy 500 L)) (hH : f ah = some (arO cy 500 Hh)) (hn : n ≤ 500) : Met l yX2_count wsX2_count ({ frames := 0, cells := 0, slots := 0, locals := 0 }) (va_Pc [.ref qm] (hp_B D cy base f)) (va_Qi (fun (r : Int32) (u : AH) => r = nI n ∧ u = va_up f qm (some (mdO 0 ab al ah (nI n) nb nl nc))) (hp_B D cy base) (hp_A base)) 0 0 (hp_A base) := by
  refine Met.ofW (cc := cX2_count) (maxL := 1) (ret := (some .int)) (by decide) rfl ?_
  intro p e s m args below meth c s₁ Bd hml hv
  obtain ⟨rfl, hf, C0⟩ := hv
  have hx := Bd.exec
  have hb := Bd.bytes
  have hr := Bd.returns
  have hts := atoms_spec (ws := wsX2_count) Bd.pre
  have hown : s.vm.findClass RX2 = some m.cls := findClass_of_methodNamed Bd.named
  have hlocks := Bd.notSynchronized
  have hin2 : ∀ w ∈ wsX20, w ∈ wsX2_count := by decide +kernel
  have hS : va_S (hp_A base) s.heap s.heap [] := va_S.rf
  have hl := lv_entry ([.ref qm]) (n := 1) (Nat.le_of_ble_eq_true rfl)
  rw [lg_entry_eq]
  generalize (lg_sl ([.ref qm]) ++ List.replicate (1 - (lg_sl ([.ref qm])).length) Slot.unset).toArray = ls at hl ⊢
  have hl : lv_has ls 1 [(0, .ref qm)] := hl
  refine lv_aload_n hx hb dX2_count_0 rfl (lv_at hl 0 rfl) ?_
  refine lv_iconst (v := 0) hx hb dX2_count_1 (by decide) ?_
  refine hp_put (ci := 2) (v := .int 0) (C := RX2) (T := TX2) (N := 8) hx hb hts hin2 tyX2 tyX2_ok nmX2 hown C0 hf hS hm rfl 0 (by decide) (hts (.fieldLink RX2 25 "RouteTrieModel" "code" "I") (by decide +kernel)) (fun _ h9 => h9) rfl rfl rfl (Nat.le_of_ble_eq_true rfl) dX2_count_2 (fun f_1 H locs ef_1 hf hS => ?_)
  have hc_1 : f_1 qm = some (.inr (2, [.int 0, .ref ab, .ref al, .ref ah, .int (nI n), .ref nb, .ref nl, .int nc])) := by rw [ef_1]; exact va_up_self _ _ _
  have hc_1_ab : f_1 ab = some (.inl (cy, 500, .inl B)) := by rw [ef_1, va_up_ne _ _ (hp_dif hB hm (by simp))]; exact hB
  have hc_1_al : f_1 al = some (.inl (cy, 500, .inl L)) := by rw [ef_1, va_up_ne _ _ (hp_dif hL hm (by simp))]; exact hL
  have hc_1_ah : f_1 ah = some (.inl (cy, 500, .inl Hh)) := by rw [ef_1, va_up_ne _ _ (hp_dif hH hm (by simp))]; exact hH
  refine lv_aload_n hx hb dX2_count_5 rfl (lv_at hl 0 rfl) ?_
  refine hp_get (ci := 2) (v := .int (nI n)) (C := RX2) (T := TX2) (N := 8) hx hb hts hin2 hown C0 hf hc_1 rfl 4 (by decide) (hts (.fieldLink RX2 29 "RouteTrieModel" "size" "I") (by decide +kernel)) (fun _ h9 => h9) rfl dX2_count_6 ?_
  exact hp_iret (v := nI n) hx hb hr hlocks C0 hf hS (by first | exact Nat.le_refl _ | omega) (by first | exact Nat.le_refl _ | omega) dX2_count_9 (⟨rfl, ef_1⟩)
set_option maxHeartbeats 4000000 in
set_option maxRecDepth 100000 in
theorem c_X2_init_ (l : Launch) (D : va_G) (cy : ClassId) (base : Nat) (f : AH) (qm ab al ah nb nl : Nat) (cd nc : Int32) (n : Nat) (B L Hh NB NL : Nat → Int32) (hm : f qm = some (mdO cd ab al ah (nI n) nb nl nc)) (hB : f ab = some (arO cy 500 B)) (hL : f al = some (arO cy 500 L)) (hH : f ah = some (arO cy 500 Hh)) (hn : n ≤ 500) : Met l yX2_init_ wsX2_init_ ({ frames := 0, cells := 0, slots := 0, locals := 0 }) (va_Pc [.ref qm] (hp_B D cy base f)) (va_Qv (fun (u : AH) => u = va_up f qm (some (mdO 0 ab al ah 0 nb nl nc))) (hp_B D cy base) (hp_A base)) 0 0 (hp_A base) := by
  refine Met.ofW (cc := cX2_init_) (maxL := 1) (ret := none) (by decide) rfl ?_
  intro p e s m args below meth c s₁ Bd hml hv
  obtain ⟨rfl, hf, C0⟩ := hv
  have hx := Bd.exec
  have hb := Bd.bytes
  have hr := Bd.returns
  have hts := atoms_spec (ws := wsX2_init_) Bd.pre
  have hown : s.vm.findClass RX2 = some m.cls := findClass_of_methodNamed Bd.named
  have hlocks := Bd.notSynchronized
  have hin2 : ∀ w ∈ wsX20, w ∈ wsX2_init_ := by decide +kernel
  have hS : va_S (hp_A base) s.heap s.heap [] := va_S.rf
  have hl := lv_entry ([.ref qm]) (n := 1) (Nat.le_of_ble_eq_true rfl)
  rw [lg_entry_eq]
  generalize (lg_sl ([.ref qm]) ++ List.replicate (1 - (lg_sl ([.ref qm])).length) Slot.unset).toArray = ls at hl ⊢
  have hl : lv_has ls 1 [(0, .ref qm)] := hl
  refine lv_aload_n hx hb dX2_init__0 rfl (lv_at hl 0 rfl) ?_
  refine lv_iconst (v := 0) hx hb dX2_init__1 (by decide) ?_
  refine hp_put (ci := 2) (v := .int 0) (C := RX2) (T := TX2) (N := 8) hx hb hts hin2 tyX2 tyX2_ok nmX2 hown C0 hf hS hm rfl 0 (by decide) (hts (.fieldLink RX2 25 "RouteTrieModel" "code" "I") (by decide +kernel)) (fun _ h9 => h9) rfl rfl rfl (Nat.le_of_ble_eq_true rfl) dX2_init__2 (fun f_1 H locs ef_1 hf hS => ?_)
  have hc_1 : f_1 qm = some (.inr (2, [.int 0, .ref ab, .ref al, .ref ah, .int (nI n), .ref nb, .ref nl, .int nc])) := by rw [ef_1]; exact va_up_self _ _ _
  have hc_1_ab : f_1 ab = some (.inl (cy, 500, .inl B)) := by rw [ef_1, va_up_ne _ _ (hp_dif hB hm (by simp))]; exact hB
  have hc_1_al : f_1 al = some (.inl (cy, 500, .inl L)) := by rw [ef_1, va_up_ne _ _ (hp_dif hL hm (by simp))]; exact hL
  have hc_1_ah : f_1 ah = some (.inl (cy, 500, .inl Hh)) := by rw [ef_1, va_up_ne _ _ (hp_dif hH hm (by simp))]; exact hH
  refine lv_aload_n hx hb dX2_init__5 rfl (lv_at hl 0 rfl) ?_
  refine lv_iconst (v := 0) hx hb dX2_init__6 (by decide) ?_
  refine hp_put (ci := 2) (v := .int 0) (C := RX2) (T := TX2) (N := 8) hx hb hts hin2 tyX2 tyX2_ok nmX2 hown C0 hf hS hc_1 rfl 4 (by decide) (hts (.fieldLink RX2 29 "RouteTrieModel" "size" "I") (by decide +kernel)) (fun _ h9 => h9) rfl rfl rfl (Nat.le_of_ble_eq_true rfl) dX2_init__7 (fun f_2 H locs ef_2 hf hS => ?_)
  have hc_2 : f_2 qm = some (.inr (2, [.int 0, .ref ab, .ref al, .ref ah, .int 0, .ref nb, .ref nl, .int nc])) := by rw [ef_2]; exact va_up_self _ _ _
  have hc_2_ab : f_2 ab = some (.inl (cy, 500, .inl B)) := by rw [ef_2, va_up_ne _ _ (hp_dif hc_1_ab hc_1 (by simp))]; exact hc_1_ab
  have hc_2_al : f_2 al = some (.inl (cy, 500, .inl L)) := by rw [ef_2, va_up_ne _ _ (hp_dif hc_1_al hc_1 (by simp))]; exact hc_1_al
  have hc_2_ah : f_2 ah = some (.inl (cy, 500, .inl Hh)) := by rw [ef_2, va_up_ne _ _ (hp_dif hc_1_ah hc_1 (by simp))]; exact hc_1_ah
  exact hp_vret hx hb hr hlocks C0 hf hS (by first | exact Nat.le_refl _ | omega) (by first | exact Nat.le_refl _ | omega) dX2_init__10 (by rw [ef_2, ef_1, bx_uu]; rfl)
set_option maxHeartbeats 4000000 in
set_option maxRecDepth 100000 in
theorem c_X2_route (l : Launch) (D : va_G) (cy : ClassId) (base : Nat) (f : AH) (qm ab al ah nb nl : Nat) (cd nc : Int32) (n : Nat) (B L Hh NB NL : Nat → Int32) (k w : Int32) (hm : f qm = some (mdO cd ab al ah (nI n) nb nl nc)) (hB : f ab = some (arO cy 500 B)) (hL : f al = some (arO cy 500 L)) (hH : f ah = some (arO cy 500 Hh)) (hn : n ≤ 500) : Met l yX2_route wsX2_route ({ frames := 0, cells := 0, slots := 0, locals := 0 }) (va_Pc [.ref qm, .int k, .int w] (hp_B D cy base f)) (va_Qi (fun (r : Int32) (u : AH) => (((k < 0 ∨ nI n ≤ k) ∧ r = 0) ∨ ∃ i : Nat, i < n ∧ k = nI i ∧ r = if w = 0 then B i else if w = 1 then L i else if w = 2 then Hh i else 0) ∧ u = va_up f qm (some (mdO 0 ab al ah (nI n) nb nl nc))) (hp_B D cy base) (hp_A base)) 0 0 (hp_A base) := by
  refine Met.ofW (cc := cX2_route) (maxL := 3) (ret := (some .int)) (by decide) rfl ?_
  intro p e s m args below meth c s₁ Bd hml hv
  obtain ⟨rfl, hf, C0⟩ := hv
  have hx := Bd.exec
  have hb := Bd.bytes
  have hr := Bd.returns
  have hts := atoms_spec (ws := wsX2_route) Bd.pre
  have hown : s.vm.findClass RX2 = some m.cls := findClass_of_methodNamed Bd.named
  have hlocks := Bd.notSynchronized
  have hin2 : ∀ w ∈ wsX20, w ∈ wsX2_route := by decide +kernel
  have hS : va_S (hp_A base) s.heap s.heap [] := va_S.rf
  have hl := lv_entry ([.ref qm, .int k, .int w]) (n := 3) (Nat.le_of_ble_eq_true rfl)
  rw [lg_entry_eq]
  generalize (lg_sl ([.ref qm, .int k, .int w]) ++ List.replicate (3 - (lg_sl ([.ref qm, .int k, .int w])).length) Slot.unset).toArray = ls at hl ⊢
  have hl : lv_has ls 3 [(0, .ref qm), (1, .int k), (2, .int w)] := hl
  refine lv_aload_n hx hb dX2_route_0 rfl (lv_at hl 0 rfl) ?_
  refine lv_iconst (v := 0) hx hb dX2_route_1 (by decide) ?_
  refine hp_put (ci := 2) (v := .int 0) (C := RX2) (T := TX2) (N := 8) hx hb hts hin2 tyX2 tyX2_ok nmX2 hown C0 hf hS hm rfl 0 (by decide) (hts (.fieldLink RX2 25 "RouteTrieModel" "code" "I") (by decide +kernel)) (fun _ h9 => h9) rfl rfl rfl (Nat.le_of_ble_eq_true rfl) dX2_route_2 (fun f_1 H locs ef_1 hf hS => ?_)
  have hc_1 : f_1 qm = some (.inr (2, [.int 0, .ref ab, .ref al, .ref ah, .int (nI n), .ref nb, .ref nl, .int nc])) := by rw [ef_1]; exact va_up_self _ _ _
  have hc_1_ab : f_1 ab = some (.inl (cy, 500, .inl B)) := by rw [ef_1, va_up_ne _ _ (hp_dif hB hm (by simp))]; exact hB
  have hc_1_al : f_1 al = some (.inl (cy, 500, .inl L)) := by rw [ef_1, va_up_ne _ _ (hp_dif hL hm (by simp))]; exact hL
  have hc_1_ah : f_1 ah = some (.inl (cy, 500, .inl Hh)) := by rw [ef_1, va_up_ne _ _ (hp_dif hH hm (by simp))]; exact hH
  refine lv_iload_n hx hb dX2_route_5 rfl (lv_at hl 1 rfl) ?_
  refine lv_if_lt (tgt := 17) hx hb dX2_route_6 (by decide) (fun h6 => ?_) (fun h6 => ?_)
  · refine lv_iconst (v := 0) hx hb dX2_route_17 (by decide) ?_
    exact hp_iret (v := 0) hx hb hr hlocks C0 hf hS (by first | exact Nat.le_refl _ | omega) (by first | exact Nat.le_refl _ | omega) dX2_route_18 (⟨Or.inl ⟨Or.inl h6, rfl⟩, ef_1⟩)
  · refine lv_iload_n hx hb dX2_route_9 rfl (lv_at hl 1 rfl) ?_
    refine lv_aload_n hx hb dX2_route_10 rfl (lv_at hl 0 rfl) ?_
    refine hp_get (ci := 2) (v := .int (nI n)) (C := RX2) (T := TX2) (N := 8) hx hb hts hin2 hown C0 hf hc_1 rfl 4 (by decide) (hts (.fieldLink RX2 29 "RouteTrieModel" "size" "I") (by decide +kernel)) (fun _ h9 => h9) rfl dX2_route_11 ?_
    refine lv_icmp_lt (tgt := 19) hx hb dX2_route_14 (by decide) (fun h14 => ?_) (fun h14 => ?_)
    · obtain ⟨i, hi, rfl⟩ := nI_of h6
      have hin : i < n := (nI_ltI (by omega) (by omega)).mp h14
      refine lv_iload_n hx hb dX2_route_19 rfl (lv_at hl 2 rfl) ?_
      refine lv_if_ne (tgt := 32) hx hb dX2_route_20 (by decide) (fun h20 => ?_) (fun h20 => ?_)
      · refine lv_iload_n hx hb dX2_route_32 rfl (lv_at hl 2 rfl) ?_
        refine lv_iconst (v := 1) hx hb dX2_route_33 (by decide) ?_
        refine lv_icmp_ne (tgt := 46) hx hb dX2_route_34 (by decide) (fun h34 => ?_) (fun h34 => ?_)
        · refine lv_iload_n hx hb dX2_route_46 rfl (lv_at hl 2 rfl) ?_
          refine lv_iconst (v := 2) hx hb dX2_route_47 (by decide) ?_
          refine lv_icmp_ne (tgt := 60) hx hb dX2_route_48 (by decide) (fun h48 => ?_) (fun h48 => ?_)
          · refine lv_iconst (v := 0) hx hb dX2_route_60 (by decide) ?_
            exact hp_iret (v := 0) hx hb hr hlocks C0 hf hS (by first | exact Nat.le_refl _ | omega) (by first | exact Nat.le_refl _ | omega) dX2_route_61 (⟨Or.inr ⟨i, hin, rfl, by rw [if_neg h20, if_neg h34, if_neg h48]⟩, ef_1⟩)
          · refine lv_aload_n hx hb dX2_route_51 rfl (lv_at hl 0 rfl) ?_
            refine hp_get (ci := 2) (v := .ref ah) (C := RX2) (T := TX2) (N := 8) hx hb hts hin2 hown C0 hf hc_1 rfl 3 (by decide) (hts (.fieldLink RX2 16 "RouteTrieModel" "hops" "[I") (by decide +kernel)) (fun _ h9 => h9) rfl dX2_route_52 ?_
            refine lv_iload_n hx hb dX2_route_55 rfl (lv_at hl 1 rfl) ?_
            refine hp_iald (n := 500) (g := Hh) hx hb C0 hf hc_1_ah (vp_in_nI (n := i) (N := 500) (by omega) (by omega)) dX2_route_56 ?_
            rw [nI_clamp (n := i) (by omega)]
            refine lv_goto (tgt := 61) hx hb dX2_route_57 (by decide) ?_
            exact hp_iret (v := (Hh i)) hx hb hr hlocks C0 hf hS (by first | exact Nat.le_refl _ | omega) (by first | exact Nat.le_refl _ | omega) dX2_route_61 (⟨Or.inr ⟨i, hin, rfl, by rw [if_neg h20, if_neg h34, if_pos h48]⟩, ef_1⟩)
        · refine lv_aload_n hx hb dX2_route_37 rfl (lv_at hl 0 rfl) ?_
          refine hp_get (ci := 2) (v := .ref al) (C := RX2) (T := TX2) (N := 8) hx hb hts hin2 hown C0 hf hc_1 rfl 2 (by decide) (hts (.fieldLink RX2 13 "RouteTrieModel" "lengths" "[I") (by decide +kernel)) (fun _ h9 => h9) rfl dX2_route_38 ?_
          refine lv_iload_n hx hb dX2_route_41 rfl (lv_at hl 1 rfl) ?_
          refine hp_iald (n := 500) (g := L) hx hb C0 hf hc_1_al (vp_in_nI (n := i) (N := 500) (by omega) (by omega)) dX2_route_42 ?_
          rw [nI_clamp (n := i) (by omega)]
          refine lv_goto (tgt := 61) hx hb dX2_route_43 (by decide) ?_
          exact hp_iret (v := (L i)) hx hb hr hlocks C0 hf hS (by first | exact Nat.le_refl _ | omega) (by first | exact Nat.le_refl _ | omega) dX2_route_61 (⟨Or.inr ⟨i, hin, rfl, by rw [if_neg h20, if_pos h34]⟩, ef_1⟩)
      · refine lv_aload_n hx hb dX2_route_23 rfl (lv_at hl 0 rfl) ?_
        refine hp_get (ci := 2) (v := .ref ab) (C := RX2) (T := TX2) (N := 8) hx hb hts hin2 hown C0 hf hc_1 rfl 1 (by decide) (hts (.fieldLink RX2 7 "RouteTrieModel" "bits" "[I") (by decide +kernel)) (fun _ h9 => h9) rfl dX2_route_24 ?_
        refine lv_iload_n hx hb dX2_route_27 rfl (lv_at hl 1 rfl) ?_
        refine hp_iald (n := 500) (g := B) hx hb C0 hf hc_1_ab (vp_in_nI (n := i) (N := 500) (by omega) (by omega)) dX2_route_28 ?_
        rw [nI_clamp (n := i) (by omega)]
        refine lv_goto (tgt := 61) hx hb dX2_route_29 (by decide) ?_
        exact hp_iret (v := (B i)) hx hb hr hlocks C0 hf hS (by first | exact Nat.le_refl _ | omega) (by first | exact Nat.le_refl _ | omega) dX2_route_61 (⟨Or.inr ⟨i, hin, rfl, by rw [if_pos h20]⟩, ef_1⟩)
    · refine lv_iconst (v := 0) hx hb dX2_route_17 (by decide) ?_
      exact hp_iret (v := 0) hx hb hr hlocks C0 hf hS (by first | exact Nat.le_refl _ | omega) (by first | exact Nat.le_refl _ | omega) dX2_route_18 (⟨Or.inl ⟨Or.inr (Int32.not_lt.mp h14), rfl⟩, ef_1⟩)
set_option maxHeartbeats 4000000 in
set_option maxRecDepth 100000 in
theorem c_X2_under (l : Launch) (D : va_G) (cy : ClassId) (base : Nat) (f : AH) (qm ab al ah nb nl : Nat) (cd nc : Int32) (n : Nat) (B L Hh NB NL : Nat → Int32) (x l0 : Int32) (hm : f qm = some (mdO cd ab al ah (nI n) nb nl nc)) (hB : f ab = some (arO cy 500 B)) (hL : f al = some (arO cy 500 L)) (hH : f ah = some (arO cy 500 Hh)) (hn : n ≤ 500) : Met l yX2_under wsX2_under ({ frames := 2, cells := 0, slots := 0, locals := 42 }) (va_Pc [.ref qm, .int x, .int l0] (hp_B D cy base f)) (va_Qi (fun (r : Int32) (u : AH) => (((¬ okP x l0) ∧ r = -1) ∨ (okP x l0 ∧ r = nI ((List.range n).countP (fun j => decide (l0 ≤ L j) && (B j &&& mskI l0 == x))))) ∧ u = va_up f qm (some (mdO 0 ab al ah (nI n) nb nl nc))) (hp_B D cy base) (hp_A base)) 0 0 (hp_A base) := by
  refine Met.ofW (cc := cX2_under) (maxL := 5) (ret := (some .int)) (by decide) rfl ?_
  intro p e s m args below meth c s₁ Bd hml hv
  obtain ⟨rfl, hf, C0⟩ := hv
  have hx := Bd.exec
  have hb := Bd.bytes
  have hr := Bd.returns
  have hts := atoms_spec (ws := wsX2_under) Bd.pre
  have hown : s.vm.findClass RX2 = some m.cls := findClass_of_methodNamed Bd.named
  have hlocks := Bd.notSynchronized
  have hin2 : ∀ w ∈ wsX20, w ∈ wsX2_under := by decide +kernel
  have hS : va_S (hp_A base) s.heap s.heap [] := va_S.rf
  have hl := lv_entry ([.ref qm, .int x, .int l0]) (n := 5) (Nat.le_of_ble_eq_true rfl)
  rw [lg_entry_eq]
  generalize (lg_sl ([.ref qm, .int x, .int l0]) ++ List.replicate (5 - (lg_sl ([.ref qm, .int x, .int l0])).length) Slot.unset).toArray = ls at hl ⊢
  have hl : lv_has ls 5 [(0, .ref qm), (1, .int x), (2, .int l0)] := hl
  have loop : ∀ (k j : Nat) (fc : AH) (ls : Array Slot) (H : Heap) (locs : List Loc), okP x l0 → fc = va_up f qm (some (mdO 0 ab al ah (nI n) nb nl nc)) → fc qm = some (mdO 0 ab al ah (nI n) nb nl nc) → fc ab = some (arO cy 500 B) → fc al = some (arO cy 500 L) → fc ah = some (arO cy 500 Hh) → j ≤ n → n + 1 ≤ j + k → hp_ok D base fc H → va_S (hp_A base) s.heap H locs → lv_has ls 5 [(0, .ref qm), (1, .int x), (2, .int l0), (3, .int (nI ((List.range j).countP (fun j => decide (l0 ≤ L j) && (B j &&& mskI l0 == x))))), (4, .int (nI j))] → W p l e (headSpec wsX2_under ({ frames := 2, cells := 0, slots := 0, locals := 42 } : Room)).room s m #[Value.ref qm, Value.int x, Value.int l0] below meth c H locs 0 0 (MQ below (va_Qi (fun (r : Int32) (u : AH) => (((¬ okP x l0) ∧ r = -1) ∨ (okP x l0 ∧ r = nI ((List.range n).countP (fun j => decide (l0 ≤ L j) && (B j &&& mskI l0 == x))))) ∧ u = va_up f qm (some (mdO 0 ab al ah (nI n) nb nl nc))) (hp_B D cy base) (hp_A base)) #[Value.ref qm, Value.int x, Value.int l0] s 0 0 (hp_A base)) (F0 m 20 ls []) := by
    intro k
    induction k with
    | zero => intro j _ _ _ _ _ _ _ _ _ _ h1 h2; exact absurd h2 (by omega)
    | succ k ih =>
      intro j fc ls H locs hok efc hm hB hL hH hj hk hf hS hl
      refine lv_iload hx hb dX2_under_20 (lv_at hl 4 rfl) ?_
      refine lv_aload_n hx hb dX2_under_22 rfl (lv_at hl 0 rfl) ?_
      refine hp_get (ci := 2) (v := .int (nI n)) (C := RX2) (T := TX2) (N := 8) hx hb hts hin2 hown C0 hf hm rfl 4 (by decide) (hts (.fieldLink RX2 29 "RouteTrieModel" "size" "I") (by decide +kernel)) (fun _ h9 => h9) rfl dX2_under_23 ?_
      refine lv_icmp_ge (tgt := 69) hx hb dX2_under_26 (by decide) (fun h26 => ?_) (fun h26 => ?_)
      · have hjn : j = n := by have := (nI_leI (by omega) (by omega)).mp h26; omega
        subst hjn
        refine lv_iload_n hx hb dX2_under_69 rfl (lv_at hl 3 rfl) ?_
        exact hp_iret (v := nI ((List.range j).countP (fun j => decide (l0 ≤ L j) && (B j &&& mskI l0 == x)))) hx hb hr hlocks C0 hf hS (by first | exact Nat.le_refl _ | omega) (by first | exact Nat.le_refl _ | omega) dX2_under_70 (⟨Or.inr ⟨hok, rfl⟩, efc⟩)
      · have hjn : j < n := Nat.not_le.mp (fun q => h26 ((nI_leI (by omega) (by omega)).mpr q))
        refine lv_iload_n hx hb dX2_under_29 rfl (lv_at hl 3 rfl) ?_
        refine lv_aload_n hx hb dX2_under_30 rfl (lv_at hl 0 rfl) ?_
        refine hp_get (ci := 2) (v := .ref al) (C := RX2) (T := TX2) (N := 8) hx hb hts hin2 hown C0 hf hm rfl 2 (by decide) (hts (.fieldLink RX2 13 "RouteTrieModel" "lengths" "[I") (by decide +kernel)) (fun _ h9 => h9) rfl dX2_under_31 ?_
        refine lv_iload hx hb dX2_under_34 (lv_at hl 4 rfl) ?_
        refine hp_iald (n := 500) (g := L) hx hb C0 hf hL (vp_in_nI (n := j) (N := 500) (by omega) (by omega)) dX2_under_36 ?_
        rw [nI_clamp (n := j) (by omega)]
        refine lv_iload_n hx hb dX2_under_37 rfl (lv_at hl 2 rfl) ?_
        refine lv_icmp_lt (tgt := 60) hx hb dX2_under_38 (by decide) (fun h38 => ?_) (fun h38 => ?_)
        · refine lv_iconst (v := 0) hx hb dX2_under_60 (by decide) ?_
          refine lv_iadd hx hb dX2_under_61 ?_
          refine lv_istore_n (lv' := [(3, .int ((nI ((List.range j).countP (fun j => decide (l0 ≤ L j) && (B j &&& mskI l0 == x)))) + 0)), (0, .ref qm), (1, .int x), (2, .int l0), (4, .int (nI j))]) hx hb dX2_under_62 rfl hl (by decide) rfl (fun ls hl => ?_)
          refine lv_iinc (v := ((nI j) + 1)) (lv' := [(4, .int ((nI j) + 1)), (3, .int ((nI ((List.range j).countP (fun j => decide (l0 ≤ L j) && (B j &&& mskI l0 == x)))) + 0)), (0, .ref qm), (1, .int x), (2, .int l0)]) hx hb dX2_under_63 hl (k := 4) rfl rfl (by decide) rfl (fun ls hl => ?_)
          refine lv_goto (tgt := 20) hx hb dX2_under_66 (by decide) ?_
          have hct : (List.range (j + 1)).countP (fun j => decide (l0 ≤ L j) && (B j &&& mskI l0 == x)) = (List.range j).countP (fun j => decide (l0 ≤ L j) && (B j &&& mskI l0 == x)) + 0 := by
            rw [List.range_succ, List.countP_append, List.countP_singleton, show (decide (l0 ≤ L j) && (B j &&& mskI l0 == x)) = false from by simp [Int32.not_le.mpr h38]]
            rfl
          rw [nI_1, show nI ((List.range j).countP (fun j => decide (l0 ≤ L j) && (B j &&& mskI l0 == x))) + 0 = nI ((List.range (j + 1)).countP (fun j => decide (l0 ≤ L j) && (B j &&& mskI l0 == x))) by rw [hct]; exact nI_add _ 0] at hl
          exact ih (j + 1) fc ls _ _ hok efc hm hB hL hH (by omega) (by omega) hf hS (lv_sub hl [2, 3, 4, 1, 0] rfl)
        · refine lv_aload_n hx hb dX2_under_41 rfl (lv_at hl 0 rfl) ?_
          refine hp_get (ci := 2) (v := .ref ab) (C := RX2) (T := TX2) (N := 8) hx hb hts hin2 hown C0 hf hm rfl 1 (by decide) (hts (.fieldLink RX2 7 "RouteTrieModel" "bits" "[I") (by decide +kernel)) (fun _ h9 => h9) rfl dX2_under_42 ?_
          refine lv_iload hx hb dX2_under_45 (lv_at hl 4 rfl) ?_
          refine hp_iald (n := 500) (g := B) hx hb C0 hf hB (vp_in_nI (n := j) (N := 500) (by omega) (by omega)) dX2_under_47 ?_
          rw [nI_clamp (n := j) (by omega)]
          refine lv_iload_n hx hb dX2_under_48 rfl (lv_at hl 1 rfl) ?_
          refine lv_iload_n hx hb dX2_under_49 rfl (lv_at hl 2 rfl) ?_
          refine hp_ki (hp_rS (As := [.int (B j), .int x, .int l0]) (rest := [.int (nI ((List.range j).countP (fun j => decide (l0 ≤ L j) && (B j &&& mskI l0 == x))))]) ⟨hx, hb, hml, hown, hts⟩ C0 hf hS (c_X2_begins l D cy base fc (B j) x l0) (va_cwS 3 hts gX2_under_X2_begins rfl rfl rfl (by decide +kernel) ⟨Nat.le_of_ble_eq_true rfl, Nat.le_of_ble_eq_true rfl⟩) rfl hl.1 rfl (Nat.le_of_ble_eq_true rfl) dX2_under_50 ⟨Nat.le_of_ble_eq_true rfl, Nat.le_of_ble_eq_true rfl⟩) hS (fun r_1 u_1 H locs hq_1 hf hS => ?_)
          obtain ⟨hr_1, hu⟩ := hq_1
          rw [hu] at hf
          have hbg : r_1 = 0 ↔ ¬ B j &&& mskI l0 = x := by rw [hr_1]; split <;> simp_all
          refine lv_if_eq (tgt := 60) hx hb dX2_under_53 (by decide) (fun h53 => ?_) (fun h53 => ?_)
          · refine lv_iconst (v := 0) hx hb dX2_under_60 (by decide) ?_
            refine lv_iadd hx hb dX2_under_61 ?_
            refine lv_istore_n (lv' := [(3, .int ((nI ((List.range j).countP (fun j => decide (l0 ≤ L j) && (B j &&& mskI l0 == x)))) + 0)), (0, .ref qm), (1, .int x), (2, .int l0), (4, .int (nI j))]) hx hb dX2_under_62 rfl hl (by decide) rfl (fun ls hl => ?_)
            refine lv_iinc (v := ((nI j) + 1)) (lv' := [(4, .int ((nI j) + 1)), (3, .int ((nI ((List.range j).countP (fun j => decide (l0 ≤ L j) && (B j &&& mskI l0 == x)))) + 0)), (0, .ref qm), (1, .int x), (2, .int l0)]) hx hb dX2_under_63 hl (k := 4) rfl rfl (by decide) rfl (fun ls hl => ?_)
            refine lv_goto (tgt := 20) hx hb dX2_under_66 (by decide) ?_
            have hct : (List.range (j + 1)).countP (fun j => decide (l0 ≤ L j) && (B j &&& mskI l0 == x)) = (List.range j).countP (fun j => decide (l0 ≤ L j) && (B j &&& mskI l0 == x)) + 0 := by
              rw [List.range_succ, List.countP_append, List.countP_singleton, show (decide (l0 ≤ L j) && (B j &&& mskI l0 == x)) = false from by simp [hbg.mp h53]]
              rfl
            rw [nI_1, show nI ((List.range j).countP (fun j => decide (l0 ≤ L j) && (B j &&& mskI l0 == x))) + 0 = nI ((List.range (j + 1)).countP (fun j => decide (l0 ≤ L j) && (B j &&& mskI l0 == x))) by rw [hct]; exact nI_add _ 0] at hl
            exact ih (j + 1) fc ls _ _ hok efc hm hB hL hH (by omega) (by omega) hf hS (lv_sub hl [2, 3, 4, 1, 0] rfl)
          · refine lv_iconst (v := 1) hx hb dX2_under_56 (by decide) ?_
            refine lv_goto (tgt := 61) hx hb dX2_under_57 (by decide) ?_
            refine lv_iadd hx hb dX2_under_61 ?_
            refine lv_istore_n (lv' := [(3, .int ((nI ((List.range j).countP (fun j => decide (l0 ≤ L j) && (B j &&& mskI l0 == x)))) + 1)), (0, .ref qm), (1, .int x), (2, .int l0), (4, .int (nI j))]) hx hb dX2_under_62 rfl hl (by decide) rfl (fun ls hl => ?_)
            refine lv_iinc (v := ((nI j) + 1)) (lv' := [(4, .int ((nI j) + 1)), (3, .int ((nI ((List.range j).countP (fun j => decide (l0 ≤ L j) && (B j &&& mskI l0 == x)))) + 1)), (0, .ref qm), (1, .int x), (2, .int l0)]) hx hb dX2_under_63 hl (k := 4) rfl rfl (by decide) rfl (fun ls hl => ?_)
            refine lv_goto (tgt := 20) hx hb dX2_under_66 (by decide) ?_
            have hct : (List.range (j + 1)).countP (fun j => decide (l0 ≤ L j) && (B j &&& mskI l0 == x)) = (List.range j).countP (fun j => decide (l0 ≤ L j) && (B j &&& mskI l0 == x)) + 1 := by
              rw [List.range_succ, List.countP_append, List.countP_singleton, show (decide (l0 ≤ L j) && (B j &&& mskI l0 == x)) = true from by simp [Int32.not_lt.mp h38, Classical.not_not.mp ((not_congr hbg).mp h53)]]
              rfl
            rw [nI_1, show nI ((List.range j).countP (fun j => decide (l0 ≤ L j) && (B j &&& mskI l0 == x))) + 1 = nI ((List.range (j + 1)).countP (fun j => decide (l0 ≤ L j) && (B j &&& mskI l0 == x))) by rw [hct]; exact nI_add _ 1] at hl
            exact ih (j + 1) fc ls _ _ hok efc hm hB hL hH (by omega) (by omega) hf hS (lv_sub hl [2, 3, 4, 1, 0] rfl)
  refine lv_aload_n hx hb dX2_under_0 rfl (lv_at hl 0 rfl) ?_
  refine lv_iconst (v := 0) hx hb dX2_under_1 (by decide) ?_
  refine hp_put (ci := 2) (v := .int 0) (C := RX2) (T := TX2) (N := 8) hx hb hts hin2 tyX2 tyX2_ok nmX2 hown C0 hf hS hm rfl 0 (by decide) (hts (.fieldLink RX2 25 "RouteTrieModel" "code" "I") (by decide +kernel)) (fun _ h9 => h9) rfl rfl rfl (Nat.le_of_ble_eq_true rfl) dX2_under_2 (fun f_1 H locs ef_1 hf hS => ?_)
  have hc_1 : f_1 qm = some (.inr (2, [.int 0, .ref ab, .ref al, .ref ah, .int (nI n), .ref nb, .ref nl, .int nc])) := by rw [ef_1]; exact va_up_self _ _ _
  have hc_1_ab : f_1 ab = some (.inl (cy, 500, .inl B)) := by rw [ef_1, va_up_ne _ _ (hp_dif hB hm (by simp))]; exact hB
  have hc_1_al : f_1 al = some (.inl (cy, 500, .inl L)) := by rw [ef_1, va_up_ne _ _ (hp_dif hL hm (by simp))]; exact hL
  have hc_1_ah : f_1 ah = some (.inl (cy, 500, .inl Hh)) := by rw [ef_1, va_up_ne _ _ (hp_dif hH hm (by simp))]; exact hH
  refine lv_iload_n hx hb dX2_under_5 rfl (lv_at hl 1 rfl) ?_
  refine lv_iload_n hx hb dX2_under_6 rfl (lv_at hl 2 rfl) ?_
  refine hp_ki (hp_rS (As := [.int x, .int l0]) (rest := []) ⟨hx, hb, hml, hown, hts⟩ C0 hf hS (c_X2_isPrefix l D cy base f_1 x l0) (va_cwS 2 hts gX2_under_X2_isPrefix rfl rfl rfl (by decide +kernel) ⟨Nat.le_of_ble_eq_true rfl, Nat.le_of_ble_eq_true rfl⟩) rfl hl.1 rfl (Nat.le_of_ble_eq_true rfl) dX2_under_7 ⟨Nat.le_of_ble_eq_true rfl, Nat.le_of_ble_eq_true rfl⟩) hS (fun r_2 u_2 H locs hq_2 hf hS => ?_)
  obtain ⟨hr_2, hu⟩ := hq_2
  rw [hu] at hf
  have hpf := ite1 hr_2
  refine lv_if_ne (tgt := 15) hx hb dX2_under_10 (by decide) (fun h10 => ?_) (fun h10 => ?_)
  · refine lv_iconst (v := 0) hx hb dX2_under_15 (by decide) ?_
    refine lv_istore_n (lv' := [(3, .int 0), (0, .ref qm), (1, .int x), (2, .int l0)]) hx hb dX2_under_16 rfl hl (by decide) rfl (fun ls hl => ?_)
    refine lv_iconst (v := 0) hx hb dX2_under_17 (by decide) ?_
    refine lv_istore (lv' := [(4, .int 0), (3, .int 0), (0, .ref qm), (1, .int x), (2, .int l0)]) hx hb dX2_under_18 hl (by decide) rfl (fun ls hl => ?_)
    exact loop (n + 1) 0 f_1 ls _ _ (hpf.mp h10) ef_1 hc_1 hc_1_ab hc_1_al hc_1_ah (by omega) (by omega) hf hS (lv_sub hl [2, 3, 4, 1, 0] rfl)
  · refine lv_iconst (v := (-1)) hx hb dX2_under_13 (by decide) ?_
    exact hp_iret (v := (-1)) hx hb hr hlocks C0 hf hS (by first | exact Nat.le_refl _ | omega) (by first | exact Nat.le_refl _ | omega) dX2_under_14 (⟨Or.inl ⟨(not_congr hpf).mp (fun z => z h10), rfl⟩, ef_1⟩)
end
section
/-! the reference's writing methods -/
def insF (g : Nat → Int32) (k n : Nat) (x : Int32) : Nat → Int32 := fun j => if j < k then g j else if j = k then x else if j ≤ n then g (j - 1) else g j
def shG (g : Nat → Int32) (k n : Nat) : Nat → Int32 := fun j => if j ≤ k then g j else if j ≤ n then g (j - 1) else g j
theorem shG_n (g : Nat → Int32) (n : Nat) : shG g n n = g := by
  funext j; unfold shG
  by_cases h : j ≤ n
  · rw [if_pos h]
  · rw [if_neg h, if_neg h]
theorem shG_step {g : Nat → Int32} {k n : Nat} (h0 : 0 < k) (hk : k ≤ n) : upd (shG g k n) k (shG g k n (k - 1)) = shG g (k - 1) n := by
  funext j; unfold upd shG
  by_cases e : j = k
  · subst e; rw [if_pos rfl, if_pos (by omega), if_neg (by omega), if_pos hk]
  · rw [if_neg e]
    by_cases h1 : j ≤ k
    · rw [if_pos h1, if_pos (by omega)]
    · rw [if_neg h1, if_neg (show ¬ j ≤ k - 1 by omega)]
theorem shG_end {g : Nat → Int32} {k n : Nat} {x : Int32} : upd (shG g k n) k x = insF g k n x := by
  funext j; unfold upd shG insF
  by_cases e : j = k
  · subst e; rw [if_pos rfl, if_neg (by omega), if_pos rfl]
  · rw [if_neg e]
    by_cases h1 : j ≤ k
    · rw [if_pos h1, if_pos (by omega)]
    · rw [if_neg h1, if_neg (show ¬ j < k by omega), if_neg e]
theorem shG_at {g : Nat → Int32} {k n : Nat} (h : 0 < k) : shG g k n (k - 1) = g (k - 1) := by unfold shG; rw [if_pos (by omega)]
def dlG (g : Nat → Int32) (i k : Nat) : Nat → Int32 := fun j => if j < i then g j else if j < k then g (j + 1) else g j
theorem dlG_0 (g : Nat → Int32) (i : Nat) : dlG g i i = g := by
  funext j; unfold dlG
  by_cases h : j < i
  · rw [if_pos h]
  · rw [if_neg h, if_neg h]
theorem dlG_step {g : Nat → Int32} {i k : Nat} (hk : i ≤ k) : upd (dlG g i k) k (dlG g i k (k + 1)) = dlG g i (k + 1) := by
  funext j; unfold upd dlG
  by_cases e : j = k
  · subst e; rw [if_pos rfl, if_neg (by omega), if_neg (by omega), if_neg (by omega), if_pos (by omega)]
  · rw [if_neg e]
    by_cases h1 : j < i
    · rw [if_pos h1, if_pos h1]
    · rw [if_neg h1, if_neg h1]
      by_cases h2 : j < k
      · rw [if_pos h2, if_pos (by omega)]
      · rw [if_neg h2, if_neg (by omega)]
def FM4 (f u : AH) (a b c d : Nat) : Prop := ∀ x, x ≠ a → x ≠ b → x ≠ c → x ≠ d → u x = f x
def MIp (cy : ClassId) (f : AH) (qm ab al ah nb nl : Nat) (nc : Int32) (n : Nat) (B L Hh : Nat → Int32) (x l0 h r : Int32) (u : AH) : Prop :=
  (((¬ okP x l0) ∨ h < 0) ∧ r = -1 ∧ u = va_up f qm (some (mdO 0 ab al ah (nI n) nb nl nc))) ∨ (okP x l0 ∧ (¬ h < 0) ∧ ((∃ i : Nat, i < n ∧ B i = x ∧ L i = l0 ∧ r = 0 ∧ u = va_up (va_up f qm (some (mdO 0 ab al ah (nI n) nb nl nc))) ah (some (arO cy 500 (upd Hh i h)))) ∨
    ((∀ j, j < n → ¬ (B j = x ∧ L j = l0)) ∧ ((n = 500 ∧ r = -2 ∧ u = va_up f qm (some (mdO 0 ab al ah (nI n) nb nl nc))) ∨ (n < 500 ∧ r = 1 ∧ ∃ k : Nat, k ≤ n ∧ (∀ j, k ≤ j → j < n → bfr x l0 (B j) (L j)) ∧ (0 < k → ¬ bfr x l0 (B (k - 1)) (L (k - 1))) ∧ u qm = some (mdO 0 ab al ah (nI (n + 1)) nb nl nc) ∧ u ab = some (arO cy 500 (insF B k n x)) ∧ u al = some (arO cy 500 (insF L k n l0)) ∧ u ah = some (arO cy 500 (insF Hh k n h)) ∧ FM4 f u qm ab al ah)))))
def MRp (cy : ClassId) (f : AH) (qm ab al ah nb nl : Nat) (nc : Int32) (n : Nat) (B L Hh : Nat → Int32) (x l0 r : Int32) (u : AH) : Prop :=
  ((∀ j, j < n → ¬ (B j = x ∧ L j = l0)) ∧ r = 0 ∧ u = va_up f qm (some (mdO 0 ab al ah (nI n) nb nl nc))) ∨ ∃ i : Nat, i < n ∧ B i = x ∧ L i = l0 ∧ r = 1 ∧ u qm = some (mdO 0 ab al ah (nI (n - 1)) nb nl nc) ∧ u ab = some (arO cy 500 (dlG B i (n - 1))) ∧ u al = some (arO cy 500 (dlG L i (n - 1))) ∧ u ah = some (arO cy 500 (dlG Hh i (n - 1))) ∧ FM4 f u qm ab al ah
set_option maxHeartbeats 4000000 in
set_option maxRecDepth 100000 in
theorem c_X2_insert (l : Launch) (D : va_G) (cy : ClassId) (base : Nat) (f : AH) (qm ab al ah nb nl : Nat) (cd nc : Int32) (n : Nat) (B L Hh NB NL : Nat → Int32) (x l0 h : Int32) (hm : f qm = some (mdO cd ab al ah (nI n) nb nl nc)) (hB : f ab = some (arO cy 500 B)) (hL : f al = some (arO cy 500 L)) (hH : f ah = some (arO cy 500 Hh)) (hn : n ≤ 500) (d1 : ab ≠ al) (d2 : ab ≠ ah) (d3 : al ≠ ah) : Met l yX2_insert wsX2_insert ({ frames := 2, cells := 0, slots := 0, locals := 41 }) (va_Pc [.ref qm, .int x, .int l0, .int h] (hp_B D cy base f)) (va_Qi (fun (r : Int32) (u : AH) => MIp cy f qm ab al ah nb nl nc n B L Hh x l0 h r u) (hp_B D cy base) (hp_A base)) 0 0 (hp_A base) := by
  refine Met.ofW (cc := cX2_insert) (maxL := 6) (ret := (some .int)) (by decide) rfl ?_
  intro p e s m args below meth c s₁ Bd hml hv
  obtain ⟨rfl, hf, C0⟩ := hv
  have hx := Bd.exec
  have hb := Bd.bytes
  have hr := Bd.returns
  have hts := atoms_spec (ws := wsX2_insert) Bd.pre
  have hown : s.vm.findClass RX2 = some m.cls := findClass_of_methodNamed Bd.named
  have hlocks := Bd.notSynchronized
  have hin2 : ∀ w ∈ wsX20, w ∈ wsX2_insert := by decide +kernel
  have hS : va_S (hp_A base) s.heap s.heap [] := va_S.rf
  have hl := lv_entry ([.ref qm, .int x, .int l0, .int h]) (n := 6) (Nat.le_of_ble_eq_true rfl)
  rw [lg_entry_eq]
  generalize (lg_sl ([.ref qm, .int x, .int l0, .int h]) ++ List.replicate (6 - (lg_sl ([.ref qm, .int x, .int l0, .int h])).length) Slot.unset).toArray = ls at hl ⊢
  have hl : lv_has ls 6 [(0, .ref qm), (1, .int x), (2, .int l0), (3, .int h)] := hl
  have loop : ∀ (c0 k : Nat) (fc : AH) (ls : Array Slot) (H : Heap) (locs : List Loc), k ≤ c0 → k ≤ n → n < 500 → okP x l0 → (¬ h < 0) → (∀ j, j < n → ¬ (B j = x ∧ L j = l0)) → (∀ j, k ≤ j → j < n → bfr x l0 (B j) (L j)) → fc qm = some (mdO 0 ab al ah (nI n) nb nl nc) → fc ab = some (arO cy 500 (shG B k n)) → fc al = some (arO cy 500 (shG L k n)) → fc ah = some (arO cy 500 (shG Hh k n)) → FM4 f fc qm ab al ah → hp_ok D base fc H → va_S (hp_A base) s.heap H locs → lv_has ls 6 [(0, .ref qm), (1, .int x), (2, .int l0), (3, .int h), (4, .int (-1)), (5, .int (nI k))] → W p l e (headSpec wsX2_insert ({ frames := 2, cells := 0, slots := 0, locals := 41 } : Room)).room s m #[Value.ref qm, Value.int x, Value.int l0, Value.int h] below meth c H locs 0 0 (MQ below (va_Qi (fun (r : Int32) (u : AH) => MIp cy f qm ab al ah nb nl nc n B L Hh x l0 h r u) (hp_B D cy base) (hp_A base)) #[Value.ref qm, Value.int x, Value.int l0, Value.int h] s 0 0 (hp_A base)) (F0 m 62 ls []) := by
    intro c0
    induction c0 with
    | zero =>
      intro k fc ls H locs hkc hk hn5 hok hh hno hI hm hB hL hH hF hf hS hl
      refine lv_iload hx hb dX2_insert_62 (lv_at hl 5 rfl) ?_
      refine lv_if_le (tgt := 134) hx hb dX2_insert_64 (by decide) (fun h64 => ?_) (fun h64 => ?_)
      · have hk0 : k = 0 := Nat.le_zero.mp ((nI_leI (b := 0) (by omega) (by omega)).mp h64)
        have hbk : 0 < k → ¬ bfr x l0 (B (k - 1)) (L (k - 1)) := fun g => absurd g (by omega)
        refine lv_aload_n hx hb dX2_insert_134 rfl (lv_at hl 0 rfl) ?_
        refine hp_get (ci := 2) (v := .ref ab) (C := RX2) (T := TX2) (N := 8) hx hb hts hin2 hown C0 hf hm rfl 1 (by decide) (hts (.fieldLink RX2 7 "RouteTrieModel" "bits" "[I") (by decide +kernel)) (fun _ h9 => h9) rfl dX2_insert_135 ?_
        refine lv_iload hx hb dX2_insert_138 (lv_at hl 5 rfl) ?_
        refine lv_iload_n hx hb dX2_insert_140 rfl (lv_at hl 1 rfl) ?_
        refine hp_iast (n := 500) (g := (shG B k n)) hx hb C0 hf hS hB (vp_in_nI (n := k) (N := 500) (by omega) (by omega)) dX2_insert_141 (fun f_1 H locs ef_1 hf hS => ?_)
        rw [nI_clamp (n := k) (by omega)] at ef_1
        have hc_1 : f_1 ab = some (.inl (cy, 500, .inl (upd (shG B k n) k x))) := by rw [ef_1]; exact va_up_self _ _ _
        have hc_1_qm : f_1 qm = some (.inr (2, [.int 0, .ref ab, .ref al, .ref ah, .int (nI n), .ref nb, .ref nl, .int nc])) := by rw [ef_1, va_up_ne _ _ (hp_dif hm hB (by simp))]; exact hm
        have hc_1_al : f_1 al = some (.inl (cy, 500, .inl (shG L k n))) := by rw [ef_1, va_up_ne _ _ (Ne.symm d1)]; exact hL
        have hc_1_ah : f_1 ah = some (.inl (cy, 500, .inl (shG Hh k n))) := by rw [ef_1, va_up_ne _ _ (Ne.symm d2)]; exact hH
        refine lv_aload_n hx hb dX2_insert_142 rfl (lv_at hl 0 rfl) ?_
        refine hp_get (ci := 2) (v := .ref al) (C := RX2) (T := TX2) (N := 8) hx hb hts hin2 hown C0 hf hc_1_qm rfl 2 (by decide) (hts (.fieldLink RX2 13 "RouteTrieModel" "lengths" "[I") (by decide +kernel)) (fun _ h9 => h9) rfl dX2_insert_143 ?_
        refine lv_iload hx hb dX2_insert_146 (lv_at hl 5 rfl) ?_
        refine lv_iload_n hx hb dX2_insert_148 rfl (lv_at hl 2 rfl) ?_
        refine hp_iast (n := 500) (g := (shG L k n)) hx hb C0 hf hS hc_1_al (vp_in_nI (n := k) (N := 500) (by omega) (by omega)) dX2_insert_149 (fun f_2 H locs ef_2 hf hS => ?_)
        rw [nI_clamp (n := k) (by omega)] at ef_2
        have hc_2 : f_2 al = some (.inl (cy, 500, .inl (upd (shG L k n) k l0))) := by rw [ef_2]; exact va_up_self _ _ _
        have hc_2_qm : f_2 qm = some (.inr (2, [.int 0, .ref ab, .ref al, .ref ah, .int (nI n), .ref nb, .ref nl, .int nc])) := by rw [ef_2, va_up_ne _ _ (hp_dif hc_1_qm hc_1_al (by simp))]; exact hc_1_qm
        have hc_2_ah : f_2 ah = some (.inl (cy, 500, .inl (shG Hh k n))) := by rw [ef_2, va_up_ne _ _ (Ne.symm d3)]; exact hc_1_ah
        have hc_2_ab : f_2 ab = some (.inl (cy, 500, .inl (upd (shG B k n) k x))) := by rw [ef_2, va_up_ne _ _ d1]; exact hc_1
        refine lv_aload_n hx hb dX2_insert_150 rfl (lv_at hl 0 rfl) ?_
        refine hp_get (ci := 2) (v := .ref ah) (C := RX2) (T := TX2) (N := 8) hx hb hts hin2 hown C0 hf hc_2_qm rfl 3 (by decide) (hts (.fieldLink RX2 16 "RouteTrieModel" "hops" "[I") (by decide +kernel)) (fun _ h9 => h9) rfl dX2_insert_151 ?_
        refine lv_iload hx hb dX2_insert_154 (lv_at hl 5 rfl) ?_
        refine lv_iload_n hx hb dX2_insert_156 rfl (lv_at hl 3 rfl) ?_
        refine hp_iast (n := 500) (g := (shG Hh k n)) hx hb C0 hf hS hc_2_ah (vp_in_nI (n := k) (N := 500) (by omega) (by omega)) dX2_insert_157 (fun f_3 H locs ef_3 hf hS => ?_)
        rw [nI_clamp (n := k) (by omega)] at ef_3
        have hc_3 : f_3 ah = some (.inl (cy, 500, .inl (upd (shG Hh k n) k h))) := by rw [ef_3]; exact va_up_self _ _ _
        have hc_3_qm : f_3 qm = some (.inr (2, [.int 0, .ref ab, .ref al, .ref ah, .int (nI n), .ref nb, .ref nl, .int nc])) := by rw [ef_3, va_up_ne _ _ (hp_dif hc_2_qm hc_2_ah (by simp))]; exact hc_2_qm
        have hc_3_ab : f_3 ab = some (.inl (cy, 500, .inl (upd (shG B k n) k x))) := by rw [ef_3, va_up_ne _ _ d2]; exact hc_2_ab
        have hc_3_al : f_3 al = some (.inl (cy, 500, .inl (upd (shG L k n) k l0))) := by rw [ef_3, va_up_ne _ _ d3]; exact hc_2
        refine lv_aload_n hx hb dX2_insert_158 rfl (lv_at hl 0 rfl) ?_
        refine lv_dup hx hb dX2_insert_159 rfl ?_
        refine hp_get (ci := 2) (v := .int (nI n)) (C := RX2) (T := TX2) (N := 8) hx hb hts hin2 hown C0 hf hc_3_qm rfl 4 (by decide) (hts (.fieldLink RX2 29 "RouteTrieModel" "size" "I") (by decide +kernel)) (fun _ h9 => h9) rfl dX2_insert_160 ?_
        refine lv_iconst (v := 1) hx hb dX2_insert_163 (by decide) ?_
        refine lv_iadd hx hb dX2_insert_164 ?_
        refine hp_put (ci := 2) (v := .int ((nI n) + 1)) (C := RX2) (T := TX2) (N := 8) hx hb hts hin2 tyX2 tyX2_ok nmX2 hown C0 hf hS hc_3_qm rfl 4 (by decide) (hts (.fieldLink RX2 29 "RouteTrieModel" "size" "I") (by decide +kernel)) (fun _ h9 => h9) rfl rfl rfl (Nat.le_of_ble_eq_true rfl) dX2_insert_165 (fun f_4 H locs ef_4 hf hS => ?_)
        have hc_4 : f_4 qm = some (.inr (2, [.int 0, .ref ab, .ref al, .ref ah, .int ((nI n) + 1), .ref nb, .ref nl, .int nc])) := by rw [ef_4]; exact va_up_self _ _ _
        have hc_4_ab : f_4 ab = some (.inl (cy, 500, .inl (upd (shG B k n) k x))) := by rw [ef_4, va_up_ne _ _ (hp_dif hc_3_ab hc_3_qm (by simp))]; exact hc_3_ab
        have hc_4_al : f_4 al = some (.inl (cy, 500, .inl (upd (shG L k n) k l0))) := by rw [ef_4, va_up_ne _ _ (hp_dif hc_3_al hc_3_qm (by simp))]; exact hc_3_al
        have hc_4_ah : f_4 ah = some (.inl (cy, 500, .inl (upd (shG Hh k n) k h))) := by rw [ef_4, va_up_ne _ _ (hp_dif hc_3 hc_3_qm (by simp))]; exact hc_3
        refine lv_iconst (v := 1) hx hb dX2_insert_168 (by decide) ?_
        exact hp_iret (v := 1) hx hb hr hlocks C0 hf hS (by first | exact Nat.le_refl _ | omega) (by first | exact Nat.le_refl _ | omega) dX2_insert_169 (Or.inr ⟨hok, hh, Or.inr ⟨hno, Or.inr ⟨hn5, rfl, k, hk, hI, hbk, by rw [hc_4, nI_1], by rw [← shG_end]; exact hc_4_ab, by rw [← shG_end]; exact hc_4_al, by rw [← shG_end]; exact hc_4_ah, fun y g1 g2 g3 g4 => by rw [ef_4, va_up_ne _ _ g1, ef_3, va_up_ne _ _ g4, ef_2, va_up_ne _ _ g3, ef_1, va_up_ne _ _ g2]; exact hF y g1 g2 g3 g4⟩⟩⟩)
      · have hk0 : 0 < k := Nat.pos_of_ne_zero (fun e => h64 (by rw [e]; exact Int32.le_refl _))
        exact absurd hk0 (by omega)
    | succ c0 ih =>
      intro k fc ls H locs hkc hk hn5 hok hh hno hI hm hB hL hH hF hf hS hl
      refine lv_iload hx hb dX2_insert_62 (lv_at hl 5 rfl) ?_
      refine lv_if_le (tgt := 134) hx hb dX2_insert_64 (by decide) (fun h64 => ?_) (fun h64 => ?_)
      · have hk0 : k = 0 := Nat.le_zero.mp ((nI_leI (b := 0) (by omega) (by omega)).mp h64)
        have hbk : 0 < k → ¬ bfr x l0 (B (k - 1)) (L (k - 1)) := fun g => absurd g (by omega)
        refine lv_aload_n hx hb dX2_insert_134 rfl (lv_at hl 0 rfl) ?_
        refine hp_get (ci := 2) (v := .ref ab) (C := RX2) (T := TX2) (N := 8) hx hb hts hin2 hown C0 hf hm rfl 1 (by decide) (hts (.fieldLink RX2 7 "RouteTrieModel" "bits" "[I") (by decide +kernel)) (fun _ h9 => h9) rfl dX2_insert_135 ?_
        refine lv_iload hx hb dX2_insert_138 (lv_at hl 5 rfl) ?_
        refine lv_iload_n hx hb dX2_insert_140 rfl (lv_at hl 1 rfl) ?_
        refine hp_iast (n := 500) (g := (shG B k n)) hx hb C0 hf hS hB (vp_in_nI (n := k) (N := 500) (by omega) (by omega)) dX2_insert_141 (fun f_1 H locs ef_1 hf hS => ?_)
        rw [nI_clamp (n := k) (by omega)] at ef_1
        have hc_1 : f_1 ab = some (.inl (cy, 500, .inl (upd (shG B k n) k x))) := by rw [ef_1]; exact va_up_self _ _ _
        have hc_1_qm : f_1 qm = some (.inr (2, [.int 0, .ref ab, .ref al, .ref ah, .int (nI n), .ref nb, .ref nl, .int nc])) := by rw [ef_1, va_up_ne _ _ (hp_dif hm hB (by simp))]; exact hm
        have hc_1_al : f_1 al = some (.inl (cy, 500, .inl (shG L k n))) := by rw [ef_1, va_up_ne _ _ (Ne.symm d1)]; exact hL
        have hc_1_ah : f_1 ah = some (.inl (cy, 500, .inl (shG Hh k n))) := by rw [ef_1, va_up_ne _ _ (Ne.symm d2)]; exact hH
        refine lv_aload_n hx hb dX2_insert_142 rfl (lv_at hl 0 rfl) ?_
        refine hp_get (ci := 2) (v := .ref al) (C := RX2) (T := TX2) (N := 8) hx hb hts hin2 hown C0 hf hc_1_qm rfl 2 (by decide) (hts (.fieldLink RX2 13 "RouteTrieModel" "lengths" "[I") (by decide +kernel)) (fun _ h9 => h9) rfl dX2_insert_143 ?_
        refine lv_iload hx hb dX2_insert_146 (lv_at hl 5 rfl) ?_
        refine lv_iload_n hx hb dX2_insert_148 rfl (lv_at hl 2 rfl) ?_
        refine hp_iast (n := 500) (g := (shG L k n)) hx hb C0 hf hS hc_1_al (vp_in_nI (n := k) (N := 500) (by omega) (by omega)) dX2_insert_149 (fun f_2 H locs ef_2 hf hS => ?_)
        rw [nI_clamp (n := k) (by omega)] at ef_2
        have hc_2 : f_2 al = some (.inl (cy, 500, .inl (upd (shG L k n) k l0))) := by rw [ef_2]; exact va_up_self _ _ _
        have hc_2_qm : f_2 qm = some (.inr (2, [.int 0, .ref ab, .ref al, .ref ah, .int (nI n), .ref nb, .ref nl, .int nc])) := by rw [ef_2, va_up_ne _ _ (hp_dif hc_1_qm hc_1_al (by simp))]; exact hc_1_qm
        have hc_2_ah : f_2 ah = some (.inl (cy, 500, .inl (shG Hh k n))) := by rw [ef_2, va_up_ne _ _ (Ne.symm d3)]; exact hc_1_ah
        have hc_2_ab : f_2 ab = some (.inl (cy, 500, .inl (upd (shG B k n) k x))) := by rw [ef_2, va_up_ne _ _ d1]; exact hc_1
        refine lv_aload_n hx hb dX2_insert_150 rfl (lv_at hl 0 rfl) ?_
        refine hp_get (ci := 2) (v := .ref ah) (C := RX2) (T := TX2) (N := 8) hx hb hts hin2 hown C0 hf hc_2_qm rfl 3 (by decide) (hts (.fieldLink RX2 16 "RouteTrieModel" "hops" "[I") (by decide +kernel)) (fun _ h9 => h9) rfl dX2_insert_151 ?_
        refine lv_iload hx hb dX2_insert_154 (lv_at hl 5 rfl) ?_
        refine lv_iload_n hx hb dX2_insert_156 rfl (lv_at hl 3 rfl) ?_
        refine hp_iast (n := 500) (g := (shG Hh k n)) hx hb C0 hf hS hc_2_ah (vp_in_nI (n := k) (N := 500) (by omega) (by omega)) dX2_insert_157 (fun f_3 H locs ef_3 hf hS => ?_)
        rw [nI_clamp (n := k) (by omega)] at ef_3
        have hc_3 : f_3 ah = some (.inl (cy, 500, .inl (upd (shG Hh k n) k h))) := by rw [ef_3]; exact va_up_self _ _ _
        have hc_3_qm : f_3 qm = some (.inr (2, [.int 0, .ref ab, .ref al, .ref ah, .int (nI n), .ref nb, .ref nl, .int nc])) := by rw [ef_3, va_up_ne _ _ (hp_dif hc_2_qm hc_2_ah (by simp))]; exact hc_2_qm
        have hc_3_ab : f_3 ab = some (.inl (cy, 500, .inl (upd (shG B k n) k x))) := by rw [ef_3, va_up_ne _ _ d2]; exact hc_2_ab
        have hc_3_al : f_3 al = some (.inl (cy, 500, .inl (upd (shG L k n) k l0))) := by rw [ef_3, va_up_ne _ _ d3]; exact hc_2
        refine lv_aload_n hx hb dX2_insert_158 rfl (lv_at hl 0 rfl) ?_
        refine lv_dup hx hb dX2_insert_159 rfl ?_
        refine hp_get (ci := 2) (v := .int (nI n)) (C := RX2) (T := TX2) (N := 8) hx hb hts hin2 hown C0 hf hc_3_qm rfl 4 (by decide) (hts (.fieldLink RX2 29 "RouteTrieModel" "size" "I") (by decide +kernel)) (fun _ h9 => h9) rfl dX2_insert_160 ?_
        refine lv_iconst (v := 1) hx hb dX2_insert_163 (by decide) ?_
        refine lv_iadd hx hb dX2_insert_164 ?_
        refine hp_put (ci := 2) (v := .int ((nI n) + 1)) (C := RX2) (T := TX2) (N := 8) hx hb hts hin2 tyX2 tyX2_ok nmX2 hown C0 hf hS hc_3_qm rfl 4 (by decide) (hts (.fieldLink RX2 29 "RouteTrieModel" "size" "I") (by decide +kernel)) (fun _ h9 => h9) rfl rfl rfl (Nat.le_of_ble_eq_true rfl) dX2_insert_165 (fun f_4 H locs ef_4 hf hS => ?_)
        have hc_4 : f_4 qm = some (.inr (2, [.int 0, .ref ab, .ref al, .ref ah, .int ((nI n) + 1), .ref nb, .ref nl, .int nc])) := by rw [ef_4]; exact va_up_self _ _ _
        have hc_4_ab : f_4 ab = some (.inl (cy, 500, .inl (upd (shG B k n) k x))) := by rw [ef_4, va_up_ne _ _ (hp_dif hc_3_ab hc_3_qm (by simp))]; exact hc_3_ab
        have hc_4_al : f_4 al = some (.inl (cy, 500, .inl (upd (shG L k n) k l0))) := by rw [ef_4, va_up_ne _ _ (hp_dif hc_3_al hc_3_qm (by simp))]; exact hc_3_al
        have hc_4_ah : f_4 ah = some (.inl (cy, 500, .inl (upd (shG Hh k n) k h))) := by rw [ef_4, va_up_ne _ _ (hp_dif hc_3 hc_3_qm (by simp))]; exact hc_3
        refine lv_iconst (v := 1) hx hb dX2_insert_168 (by decide) ?_
        exact hp_iret (v := 1) hx hb hr hlocks C0 hf hS (by first | exact Nat.le_refl _ | omega) (by first | exact Nat.le_refl _ | omega) dX2_insert_169 (Or.inr ⟨hok, hh, Or.inr ⟨hno, Or.inr ⟨hn5, rfl, k, hk, hI, hbk, by rw [hc_4, nI_1], by rw [← shG_end]; exact hc_4_ab, by rw [← shG_end]; exact hc_4_al, by rw [← shG_end]; exact hc_4_ah, fun y g1 g2 g3 g4 => by rw [ef_4, va_up_ne _ _ g1, ef_3, va_up_ne _ _ g4, ef_2, va_up_ne _ _ g3, ef_1, va_up_ne _ _ g2]; exact hF y g1 g2 g3 g4⟩⟩⟩)
      · have hk0 : 0 < k := Nat.pos_of_ne_zero (fun e => h64 (by rw [e]; exact Int32.le_refl _))
        refine lv_aload_n hx hb dX2_insert_67 rfl (lv_at hl 0 rfl) ?_
        refine lv_iload_n hx hb dX2_insert_68 rfl (lv_at hl 1 rfl) ?_
        refine lv_iload_n hx hb dX2_insert_69 rfl (lv_at hl 2 rfl) ?_
        refine lv_iload hx hb dX2_insert_70 (lv_at hl 5 rfl) ?_
        refine lv_iconst (v := 1) hx hb dX2_insert_72 (by decide) ?_
        refine lv_isub hx hb dX2_insert_73 ?_
        rw [show (((nI k) - 1) : Int32) = nI (k - 1) from (pk_sub (a := k) (b := 1) (by omega))]
        refine hp_ki (hp_rV (C := RX2) (As := [.int x, .int l0, .int (nI (k - 1))]) (rest := []) ⟨hx, hb, hml, hown, hts⟩ C0 hf hS (c_X2_isBefore l D cy base fc qm ab al ah nb nl 0 nc n (shG B k n) (shG L k n) (shG Hh k n) NB NL x l0 (k - 1) hm hB hL hH (by omega) (by omega)) (cwV 3 hts gX2_insert_X2_isBefore rfl rfl rfl (by decide +kernel) ⟨Nat.le_of_ble_eq_true rfl, Nat.le_of_ble_eq_true rfl⟩) hm rfl rfl hl.1 rfl (Nat.le_of_ble_eq_true rfl) dX2_insert_74 ⟨Nat.le_of_ble_eq_true rfl, Nat.le_of_ble_eq_true rfl⟩) hS (fun r_5 u_5 H locs hq_5 hf hS => ?_)
        obtain ⟨hr_5, hu⟩ := hq_5
        rw [hu] at hf
        have hbf := ite1 hr_5
        rw [shG_at hk0, shG_at hk0] at hbf
        refine lv_if_eq (tgt := 134) hx hb dX2_insert_77 (by decide) (fun h77 => ?_) (fun h77 => ?_)
        · have hbk : 0 < k → ¬ bfr x l0 (B (k - 1)) (L (k - 1)) := fun _ => (not_congr hbf).mp (fun z => z h77)
          refine lv_aload_n hx hb dX2_insert_134 rfl (lv_at hl 0 rfl) ?_
          refine hp_get (ci := 2) (v := .ref ab) (C := RX2) (T := TX2) (N := 8) hx hb hts hin2 hown C0 hf hm rfl 1 (by decide) (hts (.fieldLink RX2 7 "RouteTrieModel" "bits" "[I") (by decide +kernel)) (fun _ h9 => h9) rfl dX2_insert_135 ?_
          refine lv_iload hx hb dX2_insert_138 (lv_at hl 5 rfl) ?_
          refine lv_iload_n hx hb dX2_insert_140 rfl (lv_at hl 1 rfl) ?_
          refine hp_iast (n := 500) (g := (shG B k n)) hx hb C0 hf hS hB (vp_in_nI (n := k) (N := 500) (by omega) (by omega)) dX2_insert_141 (fun f_6 H locs ef_6 hf hS => ?_)
          rw [nI_clamp (n := k) (by omega)] at ef_6
          have hc_6 : f_6 ab = some (.inl (cy, 500, .inl (upd (shG B k n) k x))) := by rw [ef_6]; exact va_up_self _ _ _
          have hc_6_qm : f_6 qm = some (.inr (2, [.int 0, .ref ab, .ref al, .ref ah, .int (nI n), .ref nb, .ref nl, .int nc])) := by rw [ef_6, va_up_ne _ _ (hp_dif hm hB (by simp))]; exact hm
          have hc_6_al : f_6 al = some (.inl (cy, 500, .inl (shG L k n))) := by rw [ef_6, va_up_ne _ _ (Ne.symm d1)]; exact hL
          have hc_6_ah : f_6 ah = some (.inl (cy, 500, .inl (shG Hh k n))) := by rw [ef_6, va_up_ne _ _ (Ne.symm d2)]; exact hH
          refine lv_aload_n hx hb dX2_insert_142 rfl (lv_at hl 0 rfl) ?_
          refine hp_get (ci := 2) (v := .ref al) (C := RX2) (T := TX2) (N := 8) hx hb hts hin2 hown C0 hf hc_6_qm rfl 2 (by decide) (hts (.fieldLink RX2 13 "RouteTrieModel" "lengths" "[I") (by decide +kernel)) (fun _ h9 => h9) rfl dX2_insert_143 ?_
          refine lv_iload hx hb dX2_insert_146 (lv_at hl 5 rfl) ?_
          refine lv_iload_n hx hb dX2_insert_148 rfl (lv_at hl 2 rfl) ?_
          refine hp_iast (n := 500) (g := (shG L k n)) hx hb C0 hf hS hc_6_al (vp_in_nI (n := k) (N := 500) (by omega) (by omega)) dX2_insert_149 (fun f_7 H locs ef_7 hf hS => ?_)
          rw [nI_clamp (n := k) (by omega)] at ef_7
          have hc_7 : f_7 al = some (.inl (cy, 500, .inl (upd (shG L k n) k l0))) := by rw [ef_7]; exact va_up_self _ _ _
          have hc_7_qm : f_7 qm = some (.inr (2, [.int 0, .ref ab, .ref al, .ref ah, .int (nI n), .ref nb, .ref nl, .int nc])) := by rw [ef_7, va_up_ne _ _ (hp_dif hc_6_qm hc_6_al (by simp))]; exact hc_6_qm
          have hc_7_ah : f_7 ah = some (.inl (cy, 500, .inl (shG Hh k n))) := by rw [ef_7, va_up_ne _ _ (Ne.symm d3)]; exact hc_6_ah
          have hc_7_ab : f_7 ab = some (.inl (cy, 500, .inl (upd (shG B k n) k x))) := by rw [ef_7, va_up_ne _ _ d1]; exact hc_6
          refine lv_aload_n hx hb dX2_insert_150 rfl (lv_at hl 0 rfl) ?_
          refine hp_get (ci := 2) (v := .ref ah) (C := RX2) (T := TX2) (N := 8) hx hb hts hin2 hown C0 hf hc_7_qm rfl 3 (by decide) (hts (.fieldLink RX2 16 "RouteTrieModel" "hops" "[I") (by decide +kernel)) (fun _ h9 => h9) rfl dX2_insert_151 ?_
          refine lv_iload hx hb dX2_insert_154 (lv_at hl 5 rfl) ?_
          refine lv_iload_n hx hb dX2_insert_156 rfl (lv_at hl 3 rfl) ?_
          refine hp_iast (n := 500) (g := (shG Hh k n)) hx hb C0 hf hS hc_7_ah (vp_in_nI (n := k) (N := 500) (by omega) (by omega)) dX2_insert_157 (fun f_8 H locs ef_8 hf hS => ?_)
          rw [nI_clamp (n := k) (by omega)] at ef_8
          have hc_8 : f_8 ah = some (.inl (cy, 500, .inl (upd (shG Hh k n) k h))) := by rw [ef_8]; exact va_up_self _ _ _
          have hc_8_qm : f_8 qm = some (.inr (2, [.int 0, .ref ab, .ref al, .ref ah, .int (nI n), .ref nb, .ref nl, .int nc])) := by rw [ef_8, va_up_ne _ _ (hp_dif hc_7_qm hc_7_ah (by simp))]; exact hc_7_qm
          have hc_8_ab : f_8 ab = some (.inl (cy, 500, .inl (upd (shG B k n) k x))) := by rw [ef_8, va_up_ne _ _ d2]; exact hc_7_ab
          have hc_8_al : f_8 al = some (.inl (cy, 500, .inl (upd (shG L k n) k l0))) := by rw [ef_8, va_up_ne _ _ d3]; exact hc_7
          refine lv_aload_n hx hb dX2_insert_158 rfl (lv_at hl 0 rfl) ?_
          refine lv_dup hx hb dX2_insert_159 rfl ?_
          refine hp_get (ci := 2) (v := .int (nI n)) (C := RX2) (T := TX2) (N := 8) hx hb hts hin2 hown C0 hf hc_8_qm rfl 4 (by decide) (hts (.fieldLink RX2 29 "RouteTrieModel" "size" "I") (by decide +kernel)) (fun _ h9 => h9) rfl dX2_insert_160 ?_
          refine lv_iconst (v := 1) hx hb dX2_insert_163 (by decide) ?_
          refine lv_iadd hx hb dX2_insert_164 ?_
          refine hp_put (ci := 2) (v := .int ((nI n) + 1)) (C := RX2) (T := TX2) (N := 8) hx hb hts hin2 tyX2 tyX2_ok nmX2 hown C0 hf hS hc_8_qm rfl 4 (by decide) (hts (.fieldLink RX2 29 "RouteTrieModel" "size" "I") (by decide +kernel)) (fun _ h9 => h9) rfl rfl rfl (Nat.le_of_ble_eq_true rfl) dX2_insert_165 (fun f_9 H locs ef_9 hf hS => ?_)
          have hc_9 : f_9 qm = some (.inr (2, [.int 0, .ref ab, .ref al, .ref ah, .int ((nI n) + 1), .ref nb, .ref nl, .int nc])) := by rw [ef_9]; exact va_up_self _ _ _
          have hc_9_ab : f_9 ab = some (.inl (cy, 500, .inl (upd (shG B k n) k x))) := by rw [ef_9, va_up_ne _ _ (hp_dif hc_8_ab hc_8_qm (by simp))]; exact hc_8_ab
          have hc_9_al : f_9 al = some (.inl (cy, 500, .inl (upd (shG L k n) k l0))) := by rw [ef_9, va_up_ne _ _ (hp_dif hc_8_al hc_8_qm (by simp))]; exact hc_8_al
          have hc_9_ah : f_9 ah = some (.inl (cy, 500, .inl (upd (shG Hh k n) k h))) := by rw [ef_9, va_up_ne _ _ (hp_dif hc_8 hc_8_qm (by simp))]; exact hc_8
          refine lv_iconst (v := 1) hx hb dX2_insert_168 (by decide) ?_
          exact hp_iret (v := 1) hx hb hr hlocks C0 hf hS (by first | exact Nat.le_refl _ | omega) (by first | exact Nat.le_refl _ | omega) dX2_insert_169 (Or.inr ⟨hok, hh, Or.inr ⟨hno, Or.inr ⟨hn5, rfl, k, hk, hI, hbk, by rw [hc_9, nI_1], by rw [← shG_end]; exact hc_9_ab, by rw [← shG_end]; exact hc_9_al, by rw [← shG_end]; exact hc_9_ah, fun y g1 g2 g3 g4 => by rw [ef_9, va_up_ne _ _ g1, ef_8, va_up_ne _ _ g4, ef_7, va_up_ne _ _ g3, ef_6, va_up_ne _ _ g2]; exact hF y g1 g2 g3 g4⟩⟩⟩)
        · refine lv_aload_n hx hb dX2_insert_80 rfl (lv_at hl 0 rfl) ?_
          refine hp_get (ci := 2) (v := .ref ab) (C := RX2) (T := TX2) (N := 8) hx hb hts hin2 hown C0 hf hm rfl 1 (by decide) (hts (.fieldLink RX2 7 "RouteTrieModel" "bits" "[I") (by decide +kernel)) (fun _ h9 => h9) rfl dX2_insert_81 ?_
          refine lv_iload hx hb dX2_insert_84 (lv_at hl 5 rfl) ?_
          refine lv_aload_n hx hb dX2_insert_86 rfl (lv_at hl 0 rfl) ?_
          refine hp_get (ci := 2) (v := .ref ab) (C := RX2) (T := TX2) (N := 8) hx hb hts hin2 hown C0 hf hm rfl 1 (by decide) (hts (.fieldLink RX2 7 "RouteTrieModel" "bits" "[I") (by decide +kernel)) (fun _ h9 => h9) rfl dX2_insert_87 ?_
          refine lv_iload hx hb dX2_insert_90 (lv_at hl 5 rfl) ?_
          refine lv_iconst (v := 1) hx hb dX2_insert_92 (by decide) ?_
          refine lv_isub hx hb dX2_insert_93 ?_
          rw [show (((nI k) - 1) : Int32) = nI (k - 1) from (pk_sub (a := k) (b := 1) (by omega))]
          refine hp_iald (n := 500) (g := (shG B k n)) hx hb C0 hf hB (vp_in_nI (n := (k - 1)) (N := 500) (by omega) (by omega)) dX2_insert_94 ?_
          rw [nI_clamp (n := (k - 1)) (by omega)]
          refine hp_iast (n := 500) (g := (shG B k n)) hx hb C0 hf hS hB (vp_in_nI (n := k) (N := 500) (by omega) (by omega)) dX2_insert_95 (fun f_10 H locs ef_10 hf hS => ?_)
          rw [nI_clamp (n := k) (by omega)] at ef_10
          have hc_10 : f_10 ab = some (.inl (cy, 500, .inl (upd (shG B k n) k ((shG B k n) (k - 1))))) := by rw [ef_10]; exact va_up_self _ _ _
          have hc_10_qm : f_10 qm = some (.inr (2, [.int 0, .ref ab, .ref al, .ref ah, .int (nI n), .ref nb, .ref nl, .int nc])) := by rw [ef_10, va_up_ne _ _ (hp_dif hm hB (by simp))]; exact hm
          have hc_10_al : f_10 al = some (.inl (cy, 500, .inl (shG L k n))) := by rw [ef_10, va_up_ne _ _ (Ne.symm d1)]; exact hL
          have hc_10_ah : f_10 ah = some (.inl (cy, 500, .inl (shG Hh k n))) := by rw [ef_10, va_up_ne _ _ (Ne.symm d2)]; exact hH
          refine lv_aload_n hx hb dX2_insert_96 rfl (lv_at hl 0 rfl) ?_
          refine hp_get (ci := 2) (v := .ref al) (C := RX2) (T := TX2) (N := 8) hx hb hts hin2 hown C0 hf hc_10_qm rfl 2 (by decide) (hts (.fieldLink RX2 13 "RouteTrieModel" "lengths" "[I") (by decide +kernel)) (fun _ h9 => h9) rfl dX2_insert_97 ?_
          refine lv_iload hx hb dX2_insert_100 (lv_at hl 5 rfl) ?_
          refine lv_aload_n hx hb dX2_insert_102 rfl (lv_at hl 0 rfl) ?_
          refine hp_get (ci := 2) (v := .ref al) (C := RX2) (T := TX2) (N := 8) hx hb hts hin2 hown C0 hf hc_10_qm rfl 2 (by decide) (hts (.fieldLink RX2 13 "RouteTrieModel" "lengths" "[I") (by decide +kernel)) (fun _ h9 => h9) rfl dX2_insert_103 ?_
          refine lv_iload hx hb dX2_insert_106 (lv_at hl 5 rfl) ?_
          refine lv_iconst (v := 1) hx hb dX2_insert_108 (by decide) ?_
          refine lv_isub hx hb dX2_insert_109 ?_
          rw [show (((nI k) - 1) : Int32) = nI (k - 1) from (pk_sub (a := k) (b := 1) (by omega))]
          refine hp_iald (n := 500) (g := (shG L k n)) hx hb C0 hf hc_10_al (vp_in_nI (n := (k - 1)) (N := 500) (by omega) (by omega)) dX2_insert_110 ?_
          rw [nI_clamp (n := (k - 1)) (by omega)]
          refine hp_iast (n := 500) (g := (shG L k n)) hx hb C0 hf hS hc_10_al (vp_in_nI (n := k) (N := 500) (by omega) (by omega)) dX2_insert_111 (fun f_11 H locs ef_11 hf hS => ?_)
          rw [nI_clamp (n := k) (by omega)] at ef_11
          have hc_11 : f_11 al = some (.inl (cy, 500, .inl (upd (shG L k n) k ((shG L k n) (k - 1))))) := by rw [ef_11]; exact va_up_self _ _ _
          have hc_11_qm : f_11 qm = some (.inr (2, [.int 0, .ref ab, .ref al, .ref ah, .int (nI n), .ref nb, .ref nl, .int nc])) := by rw [ef_11, va_up_ne _ _ (hp_dif hc_10_qm hc_10_al (by simp))]; exact hc_10_qm
          have hc_11_ah : f_11 ah = some (.inl (cy, 500, .inl (shG Hh k n))) := by rw [ef_11, va_up_ne _ _ (Ne.symm d3)]; exact hc_10_ah
          have hc_11_ab : f_11 ab = some (.inl (cy, 500, .inl (upd (shG B k n) k ((shG B k n) (k - 1))))) := by rw [ef_11, va_up_ne _ _ d1]; exact hc_10
          refine lv_aload_n hx hb dX2_insert_112 rfl (lv_at hl 0 rfl) ?_
          refine hp_get (ci := 2) (v := .ref ah) (C := RX2) (T := TX2) (N := 8) hx hb hts hin2 hown C0 hf hc_11_qm rfl 3 (by decide) (hts (.fieldLink RX2 16 "RouteTrieModel" "hops" "[I") (by decide +kernel)) (fun _ h9 => h9) rfl dX2_insert_113 ?_
          refine lv_iload hx hb dX2_insert_116 (lv_at hl 5 rfl) ?_
          refine lv_aload_n hx hb dX2_insert_118 rfl (lv_at hl 0 rfl) ?_
          refine hp_get (ci := 2) (v := .ref ah) (C := RX2) (T := TX2) (N := 8) hx hb hts hin2 hown C0 hf hc_11_qm rfl 3 (by decide) (hts (.fieldLink RX2 16 "RouteTrieModel" "hops" "[I") (by decide +kernel)) (fun _ h9 => h9) rfl dX2_insert_119 ?_
          refine lv_iload hx hb dX2_insert_122 (lv_at hl 5 rfl) ?_
          refine lv_iconst (v := 1) hx hb dX2_insert_124 (by decide) ?_
          refine lv_isub hx hb dX2_insert_125 ?_
          rw [show (((nI k) - 1) : Int32) = nI (k - 1) from (pk_sub (a := k) (b := 1) (by omega))]
          refine hp_iald (n := 500) (g := (shG Hh k n)) hx hb C0 hf hc_11_ah (vp_in_nI (n := (k - 1)) (N := 500) (by omega) (by omega)) dX2_insert_126 ?_
          rw [nI_clamp (n := (k - 1)) (by omega)]
          refine hp_iast (n := 500) (g := (shG Hh k n)) hx hb C0 hf hS hc_11_ah (vp_in_nI (n := k) (N := 500) (by omega) (by omega)) dX2_insert_127 (fun f_12 H locs ef_12 hf hS => ?_)
          rw [nI_clamp (n := k) (by omega)] at ef_12
          have hc_12 : f_12 ah = some (.inl (cy, 500, .inl (upd (shG Hh k n) k ((shG Hh k n) (k - 1))))) := by rw [ef_12]; exact va_up_self _ _ _
          have hc_12_qm : f_12 qm = some (.inr (2, [.int 0, .ref ab, .ref al, .ref ah, .int (nI n), .ref nb, .ref nl, .int nc])) := by rw [ef_12, va_up_ne _ _ (hp_dif hc_11_qm hc_11_ah (by simp))]; exact hc_11_qm
          have hc_12_ab : f_12 ab = some (.inl (cy, 500, .inl (upd (shG B k n) k ((shG B k n) (k - 1))))) := by rw [ef_12, va_up_ne _ _ d2]; exact hc_11_ab
          have hc_12_al : f_12 al = some (.inl (cy, 500, .inl (upd (shG L k n) k ((shG L k n) (k - 1))))) := by rw [ef_12, va_up_ne _ _ d3]; exact hc_11
          refine lv_iinc (v := ((nI k) + (-1))) (lv' := [(5, .int ((nI k) + (-1))), (0, .ref qm), (1, .int x), (2, .int l0), (3, .int h), (4, .int (-1))]) hx hb dX2_insert_128 hl (k := 5) rfl rfl (by decide) rfl (fun ls hl => ?_)
          refine lv_goto (tgt := 62) hx hb dX2_insert_131 (by decide) ?_
          rw [sb_m1 hk0] at hl
          exact ih (k - 1) f_12 ls _ _ (by omega) (by omega) hn5 hok hh hno (fun j g1 g2 => by
            rcases Nat.lt_or_ge j k with q | q
            · rw [show j = k - 1 by omega]; exact hbf.mp h77
            · exact hI j q g2) hc_12_qm (by rw [← shG_step hk0 hk]; exact hc_12_ab) (by rw [← shG_step hk0 hk]; exact hc_12_al) (by rw [← shG_step hk0 hk]; exact hc_12) (fun y g1 g2 g3 g4 => by rw [ef_12, va_up_ne _ _ g4, ef_11, va_up_ne _ _ g3, ef_10, va_up_ne _ _ g2]; exact hF y g1 g2 g3 g4) hf hS (lv_sub hl [1, 2, 3, 4, 5, 0] rfl)
  refine lv_aload_n hx hb dX2_insert_0 rfl (lv_at hl 0 rfl) ?_
  refine lv_iconst (v := 0) hx hb dX2_insert_1 (by decide) ?_
  refine hp_put (ci := 2) (v := .int 0) (C := RX2) (T := TX2) (N := 8) hx hb hts hin2 tyX2 tyX2_ok nmX2 hown C0 hf hS hm rfl 0 (by decide) (hts (.fieldLink RX2 25 "RouteTrieModel" "code" "I") (by decide +kernel)) (fun _ h9 => h9) rfl rfl rfl (Nat.le_of_ble_eq_true rfl) dX2_insert_2 (fun f_1 H locs ef_1 hf hS => ?_)
  have hc_1 : f_1 qm = some (.inr (2, [.int 0, .ref ab, .ref al, .ref ah, .int (nI n), .ref nb, .ref nl, .int nc])) := by rw [ef_1]; exact va_up_self _ _ _
  have hc_1_ab : f_1 ab = some (.inl (cy, 500, .inl B)) := by rw [ef_1, va_up_ne _ _ (hp_dif hB hm (by simp))]; exact hB
  have hc_1_al : f_1 al = some (.inl (cy, 500, .inl L)) := by rw [ef_1, va_up_ne _ _ (hp_dif hL hm (by simp))]; exact hL
  have hc_1_ah : f_1 ah = some (.inl (cy, 500, .inl Hh)) := by rw [ef_1, va_up_ne _ _ (hp_dif hH hm (by simp))]; exact hH
  refine lv_iload_n hx hb dX2_insert_5 rfl (lv_at hl 1 rfl) ?_
  refine lv_iload_n hx hb dX2_insert_6 rfl (lv_at hl 2 rfl) ?_
  refine hp_ki (hp_rS (As := [.int x, .int l0]) (rest := []) ⟨hx, hb, hml, hown, hts⟩ C0 hf hS (c_X2_isPrefix l D cy base f_1 x l0) (va_cwS 2 hts gX2_insert_X2_isPrefix rfl rfl rfl (by decide +kernel) ⟨Nat.le_of_ble_eq_true rfl, Nat.le_of_ble_eq_true rfl⟩) rfl hl.1 rfl (Nat.le_of_ble_eq_true rfl) dX2_insert_7 ⟨Nat.le_of_ble_eq_true rfl, Nat.le_of_ble_eq_true rfl⟩) hS (fun r_2 u_2 H locs hq_2 hf hS => ?_)
  obtain ⟨hr_2, hu⟩ := hq_2
  rw [hu] at hf
  have hpf := ite1 hr_2
  refine lv_if_eq (tgt := 17) hx hb dX2_insert_10 (by decide) (fun h10 => ?_) (fun h10 => ?_)
  · refine lv_iconst (v := (-1)) hx hb dX2_insert_17 (by decide) ?_
    exact hp_iret (v := (-1)) hx hb hr hlocks C0 hf hS (by first | exact Nat.le_refl _ | omega) (by first | exact Nat.le_refl _ | omega) dX2_insert_18 (Or.inl ⟨Or.inl ((not_congr hpf).mp (fun z => z h10)), rfl, ef_1⟩)
  · refine lv_iload_n hx hb dX2_insert_13 rfl (lv_at hl 3 rfl) ?_
    refine lv_if_ge (tgt := 19) hx hb dX2_insert_14 (by decide) (fun h14 => ?_) (fun h14 => ?_)
    · refine lv_aload_n hx hb dX2_insert_19 rfl (lv_at hl 0 rfl) ?_
      refine lv_iload_n hx hb dX2_insert_20 rfl (lv_at hl 1 rfl) ?_
      refine lv_iload_n hx hb dX2_insert_21 rfl (lv_at hl 2 rfl) ?_
      refine hp_ki (hp_rV (C := RX2) (As := [.int x, .int l0]) (rest := []) ⟨hx, hb, hml, hown, hts⟩ C0 hf hS (c_X2_find l D cy base f_1 qm ab al ah nb nl 0 nc n B L Hh NB NL x l0 hc_1 hc_1_ab hc_1_al hc_1_ah hn) (cwV 2 hts gX2_insert_X2_find rfl rfl rfl (by decide +kernel) ⟨Nat.le_of_ble_eq_true rfl, Nat.le_of_ble_eq_true rfl⟩) hc_1 rfl rfl hl.1 rfl (Nat.le_of_ble_eq_true rfl) dX2_insert_22 ⟨Nat.le_of_ble_eq_true rfl, Nat.le_of_ble_eq_true rfl⟩) hS (fun r_3 u_3 H locs hq_3 hf hS => ?_)
      obtain ⟨hr_3, hu⟩ := hq_3
      rw [hu] at hf
      refine lv_istore (lv' := [(4, .int r_3), (0, .ref qm), (1, .int x), (2, .int l0), (3, .int h)]) hx hb dX2_insert_25 hl (by decide) rfl (fun ls hl => ?_)
      refine lv_iload hx hb dX2_insert_27 (lv_at hl 0 rfl) ?_
      refine lv_iconst (v := (-1)) hx hb dX2_insert_29 (by decide) ?_
      refine lv_icmp_eq (tgt := 43) hx hb dX2_insert_30 (by decide) (fun h30 => ?_) (fun h30 => ?_)
      · have hno : ∀ j, j < n → ¬ (B j = x ∧ L j = l0) := hr_3.elim (fun ⟨i, a1, a2, _, _⟩ => absurd (a2.symm.trans h30) (nI_m1 (by omega))) (fun g => g.2)
        rw [h30] at hl
        have hl : lv_has ls 6 [(4, .int (-1)), (0, .ref qm), (1, .int x), (2, .int l0), (3, .int h)] := hl
        refine lv_aload_n hx hb dX2_insert_43 rfl (lv_at hl 1 rfl) ?_
        refine hp_get (ci := 2) (v := .int (nI n)) (C := RX2) (T := TX2) (N := 8) hx hb hts hin2 hown C0 hf hc_1 rfl 4 (by decide) (hts (.fieldLink RX2 29 "RouteTrieModel" "size" "I") (by decide +kernel)) (fun _ h9 => h9) rfl dX2_insert_44 ?_
        refine lv_sipush (v := 500) hx hb dX2_insert_47 (by decide) ?_
        refine lv_icmp_ne (tgt := 56) hx hb dX2_insert_50 (by decide) (fun h50 => ?_) (fun h50 => ?_)
        · refine lv_aload_n hx hb dX2_insert_56 rfl (lv_at hl 1 rfl) ?_
          refine hp_get (ci := 2) (v := .int (nI n)) (C := RX2) (T := TX2) (N := 8) hx hb hts hin2 hown C0 hf hc_1 rfl 4 (by decide) (hts (.fieldLink RX2 29 "RouteTrieModel" "size" "I") (by decide +kernel)) (fun _ h9 => h9) rfl dX2_insert_57 ?_
          refine lv_istore (lv' := [(5, .int (nI n)), (4, .int (-1)), (0, .ref qm), (1, .int x), (2, .int l0), (3, .int h)]) hx hb dX2_insert_60 hl (by decide) rfl (fun ls hl => ?_)
          have hn5 : n < 500 := Nat.lt_of_le_of_ne hn (fun e => h50 (by rw [e]; rfl))
          exact loop n n f_1 ls _ _ (Nat.le_refl _) (Nat.le_refl _) hn5 (hpf.mp h10) (Int32.not_lt.mpr h14) hno (fun j g1 g2 => absurd g2 (by omega)) hc_1 (by rw [shG_n]; exact hc_1_ab) (by rw [shG_n]; exact hc_1_al) (by rw [shG_n]; exact hc_1_ah) (fun y g1 _ _ _ => by rw [ef_1, va_up_ne _ _ g1]) hf hS (lv_sub hl [2, 3, 4, 5, 1, 0] rfl)
        · refine lv_bipush (v := (-2)) hx hb dX2_insert_53 (by decide) ?_
          exact hp_iret (v := (-2)) hx hb hr hlocks C0 hf hS (by first | exact Nat.le_refl _ | omega) (by first | exact Nat.le_refl _ | omega) dX2_insert_55 (Or.inr ⟨hpf.mp h10, Int32.not_lt.mpr h14, Or.inr ⟨hno, Or.inl ⟨(nI_eq (b := 500) (by omega) (by omega)).mp h50, rfl, ef_1⟩⟩⟩)
      · obtain ⟨i, hi1, rfl, hi2, hi3⟩ := hr_3.elim id (fun g => absurd g.1 h30)
        refine lv_aload_n hx hb dX2_insert_33 rfl (lv_at hl 1 rfl) ?_
        refine hp_get (ci := 2) (v := .ref ah) (C := RX2) (T := TX2) (N := 8) hx hb hts hin2 hown C0 hf hc_1 rfl 3 (by decide) (hts (.fieldLink RX2 16 "RouteTrieModel" "hops" "[I") (by decide +kernel)) (fun _ h9 => h9) rfl dX2_insert_34 ?_
        refine lv_iload hx hb dX2_insert_37 (lv_at hl 0 rfl) ?_
        refine lv_iload_n hx hb dX2_insert_39 rfl (lv_at hl 4 rfl) ?_
        refine hp_iast (n := 500) (g := Hh) hx hb C0 hf hS hc_1_ah (vp_in_nI (n := i) (N := 500) (by omega) (by omega)) dX2_insert_40 (fun f_4 H locs ef_4 hf hS => ?_)
        rw [nI_clamp (n := i) (by omega)] at ef_4
        have hc_4 : f_4 ah = some (.inl (cy, 500, .inl (upd Hh i h))) := by rw [ef_4]; exact va_up_self _ _ _
        have hc_4_ab : f_4 ab = some (.inl (cy, 500, .inl B)) := by rw [ef_4, va_up_ne _ _ d2]; exact hc_1_ab
        have hc_4_al : f_4 al = some (.inl (cy, 500, .inl L)) := by rw [ef_4, va_up_ne _ _ d3]; exact hc_1_al
        have hc_4_qm : f_4 qm = some (.inr (2, [.int 0, .ref ab, .ref al, .ref ah, .int (nI n), .ref nb, .ref nl, .int nc])) := by rw [ef_4, va_up_ne _ _ (hp_dif hc_1 hc_1_ah (by simp))]; exact hc_1
        refine lv_iconst (v := 0) hx hb dX2_insert_41 (by decide) ?_
        exact hp_iret (v := 0) hx hb hr hlocks C0 hf hS (by first | exact Nat.le_refl _ | omega) (by first | exact Nat.le_refl _ | omega) dX2_insert_42 (Or.inr ⟨hpf.mp h10, Int32.not_lt.mpr h14, Or.inl ⟨i, hi1, hi2, hi3, rfl, by rw [ef_4, ef_1]; rfl⟩⟩)
    · refine lv_iconst (v := (-1)) hx hb dX2_insert_17 (by decide) ?_
      exact hp_iret (v := (-1)) hx hb hr hlocks C0 hf hS (by first | exact Nat.le_refl _ | omega) (by first | exact Nat.le_refl _ | omega) dX2_insert_18 (Or.inl ⟨Or.inr (Int32.not_le.mp h14), rfl, ef_1⟩)
set_option maxHeartbeats 4000000 in
set_option maxRecDepth 100000 in
theorem c_X2_remove (l : Launch) (D : va_G) (cy : ClassId) (base : Nat) (f : AH) (qm ab al ah nb nl : Nat) (cd nc : Int32) (n : Nat) (B L Hh NB NL : Nat → Int32) (x l0 : Int32) (hm : f qm = some (mdO cd ab al ah (nI n) nb nl nc)) (hB : f ab = some (arO cy 500 B)) (hL : f al = some (arO cy 500 L)) (hH : f ah = some (arO cy 500 Hh)) (hn : n ≤ 500) (d1 : ab ≠ al) (d2 : ab ≠ ah) (d3 : al ≠ ah) : Met l yX2_remove wsX2_remove ({ frames := 1, cells := 0, slots := 0, locals := 23 }) (va_Pc [.ref qm, .int x, .int l0] (hp_B D cy base f)) (va_Qi (fun (r : Int32) (u : AH) => MRp cy f qm ab al ah nb nl nc n B L Hh x l0 r u) (hp_B D cy base) (hp_A base)) 0 0 (hp_A base) := by
  refine Met.ofW (cc := cX2_remove) (maxL := 5) (ret := (some .boolean)) (by decide) rfl ?_
  intro p e s m args below meth c s₁ Bd hml hv
  obtain ⟨rfl, hf, C0⟩ := hv
  have hx := Bd.exec
  have hb := Bd.bytes
  have hr := Bd.returns
  have hts := atoms_spec (ws := wsX2_remove) Bd.pre
  have hown : s.vm.findClass RX2 = some m.cls := findClass_of_methodNamed Bd.named
  have hlocks := Bd.notSynchronized
  have hin2 : ∀ w ∈ wsX20, w ∈ wsX2_remove := by decide +kernel
  have hS : va_S (hp_A base) s.heap s.heap [] := va_S.rf
  have hl := lv_entry ([.ref qm, .int x, .int l0]) (n := 5) (Nat.le_of_ble_eq_true rfl)
  rw [lg_entry_eq]
  generalize (lg_sl ([.ref qm, .int x, .int l0]) ++ List.replicate (5 - (lg_sl ([.ref qm, .int x, .int l0])).length) Slot.unset).toArray = ls at hl ⊢
  have hl : lv_has ls 5 [(0, .ref qm), (1, .int x), (2, .int l0)] := hl
  have loop : ∀ (c0 i k : Nat) (fc : AH) (ls : Array Slot) (H : Heap) (locs : List Loc), n ≤ c0 + k → i ≤ k → k < n → B i = x → L i = l0 → fc qm = some (mdO 0 ab al ah (nI n) nb nl nc) → fc ab = some (arO cy 500 (dlG B i k)) → fc al = some (arO cy 500 (dlG L i k)) → fc ah = some (arO cy 500 (dlG Hh i k)) → FM4 f fc qm ab al ah → hp_ok D base fc H → va_S (hp_A base) s.heap H locs → lv_has ls 5 [(0, .ref qm), (1, .int x), (2, .int l0), (3, .int (nI i)), (4, .int (nI k))] → W p l e (headSpec wsX2_remove ({ frames := 1, cells := 0, slots := 0, locals := 23 } : Room)).room s m #[Value.ref qm, Value.int x, Value.int l0] below meth c H locs 0 0 (MQ below (va_Qi (fun (r : Int32) (u : AH) => MRp cy f qm ab al ah nb nl nc n B L Hh x l0 r u) (hp_B D cy base) (hp_A base)) #[Value.ref qm, Value.int x, Value.int l0] s 0 0 (hp_A base)) (F0 m 22 ls []) := by
    intro c0
    induction c0 with
    | zero => intro i k _ _ _ _ h1 h2 h3; exact absurd h3 (by omega)
    | succ c0 ih =>
      intro i k fc ls H locs hkc hik hk hBi hLi hm hB hL hH hF hf hS hl
      refine lv_iload hx hb dX2_remove_22 (lv_at hl 4 rfl) ?_
      refine lv_iconst (v := 1) hx hb dX2_remove_24 (by decide) ?_
      refine lv_iadd hx hb dX2_remove_25 ?_
      rw [show (((nI k) + 1) : Int32) = nI (k + 1) from (nI_1 k)]
      refine lv_aload_n hx hb dX2_remove_26 rfl (lv_at hl 0 rfl) ?_
      refine hp_get (ci := 2) (v := .int (nI n)) (C := RX2) (T := TX2) (N := 8) hx hb hts hin2 hown C0 hf hm rfl 4 (by decide) (hts (.fieldLink RX2 29 "RouteTrieModel" "size" "I") (by decide +kernel)) (fun _ h9 => h9) rfl dX2_remove_27 ?_
      refine lv_icmp_ge (tgt := 87) hx hb dX2_remove_30 (by decide) (fun h30 => ?_) (fun h30 => ?_)
      · have hke : k = n - 1 := by have := (nI_leI (a := n) (b := k + 1) (by omega) (by omega)).mp h30; omega
        refine lv_aload_n hx hb dX2_remove_87 rfl (lv_at hl 0 rfl) ?_
        refine lv_dup hx hb dX2_remove_88 rfl ?_
        refine hp_get (ci := 2) (v := .int (nI n)) (C := RX2) (T := TX2) (N := 8) hx hb hts hin2 hown C0 hf hm rfl 4 (by decide) (hts (.fieldLink RX2 29 "RouteTrieModel" "size" "I") (by decide +kernel)) (fun _ h9 => h9) rfl dX2_remove_89 ?_
        refine lv_iconst (v := 1) hx hb dX2_remove_92 (by decide) ?_
        refine lv_isub hx hb dX2_remove_93 ?_
        refine hp_put (ci := 2) (v := .int ((nI n) - 1)) (C := RX2) (T := TX2) (N := 8) hx hb hts hin2 tyX2 tyX2_ok nmX2 hown C0 hf hS hm rfl 4 (by decide) (hts (.fieldLink RX2 29 "RouteTrieModel" "size" "I") (by decide +kernel)) (fun _ h9 => h9) rfl rfl rfl (Nat.le_of_ble_eq_true rfl) dX2_remove_94 (fun f_1 H locs ef_1 hf hS => ?_)
        have hc_1 : f_1 qm = some (.inr (2, [.int 0, .ref ab, .ref al, .ref ah, .int ((nI n) - 1), .ref nb, .ref nl, .int nc])) := by rw [ef_1]; exact va_up_self _ _ _
        have hc_1_ab : f_1 ab = some (.inl (cy, 500, .inl (dlG B i k))) := by rw [ef_1, va_up_ne _ _ (hp_dif hB hm (by simp))]; exact hB
        have hc_1_al : f_1 al = some (.inl (cy, 500, .inl (dlG L i k))) := by rw [ef_1, va_up_ne _ _ (hp_dif hL hm (by simp))]; exact hL
        have hc_1_ah : f_1 ah = some (.inl (cy, 500, .inl (dlG Hh i k))) := by rw [ef_1, va_up_ne _ _ (hp_dif hH hm (by simp))]; exact hH
        refine lv_iconst (v := 1) hx hb dX2_remove_97 (by decide) ?_
        exact hp_zret (v := 1) hx hb hr hlocks C0 hf hS (by first | exact Nat.le_refl _ | omega) (by first | exact Nat.le_refl _ | omega) dX2_remove_98 (by decide) (Or.inr ⟨i, by omega, hBi, hLi, rfl, by rw [hc_1, show (1 : Int32) = nI 1 from rfl, pk_sub (by omega)], by rw [← hke]; exact hc_1_ab, by rw [← hke]; exact hc_1_al, by rw [← hke]; exact hc_1_ah, fun y g1 g2 g3 g4 => by rw [ef_1, va_up_ne _ _ g1]; exact hF y g1 g2 g3 g4⟩)
      · have hk1 : k + 1 < n := Nat.not_le.mp (fun q => h30 ((nI_leI (by omega) (by omega)).mpr q))
        refine lv_aload_n hx hb dX2_remove_33 rfl (lv_at hl 0 rfl) ?_
        refine hp_get (ci := 2) (v := .ref ab) (C := RX2) (T := TX2) (N := 8) hx hb hts hin2 hown C0 hf hm rfl 1 (by decide) (hts (.fieldLink RX2 7 "RouteTrieModel" "bits" "[I") (by decide +kernel)) (fun _ h9 => h9) rfl dX2_remove_34 ?_
        refine lv_iload hx hb dX2_remove_37 (lv_at hl 4 rfl) ?_
        refine lv_aload_n hx hb dX2_remove_39 rfl (lv_at hl 0 rfl) ?_
        refine hp_get (ci := 2) (v := .ref ab) (C := RX2) (T := TX2) (N := 8) hx hb hts hin2 hown C0 hf hm rfl 1 (by decide) (hts (.fieldLink RX2 7 "RouteTrieModel" "bits" "[I") (by decide +kernel)) (fun _ h9 => h9) rfl dX2_remove_40 ?_
        refine lv_iload hx hb dX2_remove_43 (lv_at hl 4 rfl) ?_
        refine lv_iconst (v := 1) hx hb dX2_remove_45 (by decide) ?_
        refine lv_iadd hx hb dX2_remove_46 ?_
        rw [show (((nI k) + 1) : Int32) = nI (k + 1) from (nI_1 k)]
        refine hp_iald (n := 500) (g := (dlG B i k)) hx hb C0 hf hB (vp_in_nI (n := (k + 1)) (N := 500) (by omega) (by omega)) dX2_remove_47 ?_
        rw [nI_clamp (n := (k + 1)) (by omega)]
        refine hp_iast (n := 500) (g := (dlG B i k)) hx hb C0 hf hS hB (vp_in_nI (n := k) (N := 500) (by omega) (by omega)) dX2_remove_48 (fun f_2 H locs ef_2 hf hS => ?_)
        rw [nI_clamp (n := k) (by omega)] at ef_2
        have hc_2 : f_2 ab = some (.inl (cy, 500, .inl (upd (dlG B i k) k ((dlG B i k) (k + 1))))) := by rw [ef_2]; exact va_up_self _ _ _
        have hc_2_qm : f_2 qm = some (.inr (2, [.int 0, .ref ab, .ref al, .ref ah, .int (nI n), .ref nb, .ref nl, .int nc])) := by rw [ef_2, va_up_ne _ _ (hp_dif hm hB (by simp))]; exact hm
        have hc_2_al : f_2 al = some (.inl (cy, 500, .inl (dlG L i k))) := by rw [ef_2, va_up_ne _ _ (Ne.symm d1)]; exact hL
        have hc_2_ah : f_2 ah = some (.inl (cy, 500, .inl (dlG Hh i k))) := by rw [ef_2, va_up_ne _ _ (Ne.symm d2)]; exact hH
        refine lv_aload_n hx hb dX2_remove_49 rfl (lv_at hl 0 rfl) ?_
        refine hp_get (ci := 2) (v := .ref al) (C := RX2) (T := TX2) (N := 8) hx hb hts hin2 hown C0 hf hc_2_qm rfl 2 (by decide) (hts (.fieldLink RX2 13 "RouteTrieModel" "lengths" "[I") (by decide +kernel)) (fun _ h9 => h9) rfl dX2_remove_50 ?_
        refine lv_iload hx hb dX2_remove_53 (lv_at hl 4 rfl) ?_
        refine lv_aload_n hx hb dX2_remove_55 rfl (lv_at hl 0 rfl) ?_
        refine hp_get (ci := 2) (v := .ref al) (C := RX2) (T := TX2) (N := 8) hx hb hts hin2 hown C0 hf hc_2_qm rfl 2 (by decide) (hts (.fieldLink RX2 13 "RouteTrieModel" "lengths" "[I") (by decide +kernel)) (fun _ h9 => h9) rfl dX2_remove_56 ?_
        refine lv_iload hx hb dX2_remove_59 (lv_at hl 4 rfl) ?_
        refine lv_iconst (v := 1) hx hb dX2_remove_61 (by decide) ?_
        refine lv_iadd hx hb dX2_remove_62 ?_
        rw [show (((nI k) + 1) : Int32) = nI (k + 1) from (nI_1 k)]
        refine hp_iald (n := 500) (g := (dlG L i k)) hx hb C0 hf hc_2_al (vp_in_nI (n := (k + 1)) (N := 500) (by omega) (by omega)) dX2_remove_63 ?_
        rw [nI_clamp (n := (k + 1)) (by omega)]
        refine hp_iast (n := 500) (g := (dlG L i k)) hx hb C0 hf hS hc_2_al (vp_in_nI (n := k) (N := 500) (by omega) (by omega)) dX2_remove_64 (fun f_3 H locs ef_3 hf hS => ?_)
        rw [nI_clamp (n := k) (by omega)] at ef_3
        have hc_3 : f_3 al = some (.inl (cy, 500, .inl (upd (dlG L i k) k ((dlG L i k) (k + 1))))) := by rw [ef_3]; exact va_up_self _ _ _
        have hc_3_qm : f_3 qm = some (.inr (2, [.int 0, .ref ab, .ref al, .ref ah, .int (nI n), .ref nb, .ref nl, .int nc])) := by rw [ef_3, va_up_ne _ _ (hp_dif hc_2_qm hc_2_al (by simp))]; exact hc_2_qm
        have hc_3_ah : f_3 ah = some (.inl (cy, 500, .inl (dlG Hh i k))) := by rw [ef_3, va_up_ne _ _ (Ne.symm d3)]; exact hc_2_ah
        have hc_3_ab : f_3 ab = some (.inl (cy, 500, .inl (upd (dlG B i k) k ((dlG B i k) (k + 1))))) := by rw [ef_3, va_up_ne _ _ d1]; exact hc_2
        refine lv_aload_n hx hb dX2_remove_65 rfl (lv_at hl 0 rfl) ?_
        refine hp_get (ci := 2) (v := .ref ah) (C := RX2) (T := TX2) (N := 8) hx hb hts hin2 hown C0 hf hc_3_qm rfl 3 (by decide) (hts (.fieldLink RX2 16 "RouteTrieModel" "hops" "[I") (by decide +kernel)) (fun _ h9 => h9) rfl dX2_remove_66 ?_
        refine lv_iload hx hb dX2_remove_69 (lv_at hl 4 rfl) ?_
        refine lv_aload_n hx hb dX2_remove_71 rfl (lv_at hl 0 rfl) ?_
        refine hp_get (ci := 2) (v := .ref ah) (C := RX2) (T := TX2) (N := 8) hx hb hts hin2 hown C0 hf hc_3_qm rfl 3 (by decide) (hts (.fieldLink RX2 16 "RouteTrieModel" "hops" "[I") (by decide +kernel)) (fun _ h9 => h9) rfl dX2_remove_72 ?_
        refine lv_iload hx hb dX2_remove_75 (lv_at hl 4 rfl) ?_
        refine lv_iconst (v := 1) hx hb dX2_remove_77 (by decide) ?_
        refine lv_iadd hx hb dX2_remove_78 ?_
        rw [show (((nI k) + 1) : Int32) = nI (k + 1) from (nI_1 k)]
        refine hp_iald (n := 500) (g := (dlG Hh i k)) hx hb C0 hf hc_3_ah (vp_in_nI (n := (k + 1)) (N := 500) (by omega) (by omega)) dX2_remove_79 ?_
        rw [nI_clamp (n := (k + 1)) (by omega)]
        refine hp_iast (n := 500) (g := (dlG Hh i k)) hx hb C0 hf hS hc_3_ah (vp_in_nI (n := k) (N := 500) (by omega) (by omega)) dX2_remove_80 (fun f_4 H locs ef_4 hf hS => ?_)
        rw [nI_clamp (n := k) (by omega)] at ef_4
        have hc_4 : f_4 ah = some (.inl (cy, 500, .inl (upd (dlG Hh i k) k ((dlG Hh i k) (k + 1))))) := by rw [ef_4]; exact va_up_self _ _ _
        have hc_4_qm : f_4 qm = some (.inr (2, [.int 0, .ref ab, .ref al, .ref ah, .int (nI n), .ref nb, .ref nl, .int nc])) := by rw [ef_4, va_up_ne _ _ (hp_dif hc_3_qm hc_3_ah (by simp))]; exact hc_3_qm
        have hc_4_ab : f_4 ab = some (.inl (cy, 500, .inl (upd (dlG B i k) k ((dlG B i k) (k + 1))))) := by rw [ef_4, va_up_ne _ _ d2]; exact hc_3_ab
        have hc_4_al : f_4 al = some (.inl (cy, 500, .inl (upd (dlG L i k) k ((dlG L i k) (k + 1))))) := by rw [ef_4, va_up_ne _ _ d3]; exact hc_3
        refine lv_iinc (v := ((nI k) + 1)) (lv' := [(4, .int ((nI k) + 1)), (0, .ref qm), (1, .int x), (2, .int l0), (3, .int (nI i))]) hx hb dX2_remove_81 hl (k := 4) rfl rfl (by decide) rfl (fun ls hl => ?_)
        refine lv_goto (tgt := 22) hx hb dX2_remove_84 (by decide) ?_
        rw [nI_1] at hl
        exact ih i (k + 1) f_4 ls _ _ (by omega) (by omega) hk1 hBi hLi hc_4_qm (by rw [← dlG_step hik]; exact hc_4_ab) (by rw [← dlG_step hik]; exact hc_4_al) (by rw [← dlG_step hik]; exact hc_4) (fun y g1 g2 g3 g4 => by rw [ef_4, va_up_ne _ _ g4, ef_3, va_up_ne _ _ g3, ef_2, va_up_ne _ _ g2]; exact hF y g1 g2 g3 g4) hf hS (lv_sub hl [1, 2, 3, 4, 0] rfl)
  refine lv_aload_n hx hb dX2_remove_0 rfl (lv_at hl 0 rfl) ?_
  refine lv_iconst (v := 0) hx hb dX2_remove_1 (by decide) ?_
  refine hp_put (ci := 2) (v := .int 0) (C := RX2) (T := TX2) (N := 8) hx hb hts hin2 tyX2 tyX2_ok nmX2 hown C0 hf hS hm rfl 0 (by decide) (hts (.fieldLink RX2 25 "RouteTrieModel" "code" "I") (by decide +kernel)) (fun _ h9 => h9) rfl rfl rfl (Nat.le_of_ble_eq_true rfl) dX2_remove_2 (fun f_1 H locs ef_1 hf hS => ?_)
  have hc_1 : f_1 qm = some (.inr (2, [.int 0, .ref ab, .ref al, .ref ah, .int (nI n), .ref nb, .ref nl, .int nc])) := by rw [ef_1]; exact va_up_self _ _ _
  have hc_1_ab : f_1 ab = some (.inl (cy, 500, .inl B)) := by rw [ef_1, va_up_ne _ _ (hp_dif hB hm (by simp))]; exact hB
  have hc_1_al : f_1 al = some (.inl (cy, 500, .inl L)) := by rw [ef_1, va_up_ne _ _ (hp_dif hL hm (by simp))]; exact hL
  have hc_1_ah : f_1 ah = some (.inl (cy, 500, .inl Hh)) := by rw [ef_1, va_up_ne _ _ (hp_dif hH hm (by simp))]; exact hH
  refine lv_aload_n hx hb dX2_remove_5 rfl (lv_at hl 0 rfl) ?_
  refine lv_iload_n hx hb dX2_remove_6 rfl (lv_at hl 1 rfl) ?_
  refine lv_iload_n hx hb dX2_remove_7 rfl (lv_at hl 2 rfl) ?_
  refine hp_ki (hp_rV (C := RX2) (As := [.int x, .int l0]) (rest := []) ⟨hx, hb, hml, hown, hts⟩ C0 hf hS (c_X2_find l D cy base f_1 qm ab al ah nb nl 0 nc n B L Hh NB NL x l0 hc_1 hc_1_ab hc_1_al hc_1_ah hn) (cwV 2 hts gX2_remove_X2_find rfl rfl rfl (by decide +kernel) ⟨Nat.le_of_ble_eq_true rfl, Nat.le_of_ble_eq_true rfl⟩) hc_1 rfl rfl hl.1 rfl (Nat.le_of_ble_eq_true rfl) dX2_remove_8 ⟨Nat.le_of_ble_eq_true rfl, Nat.le_of_ble_eq_true rfl⟩) hS (fun r_2 u_2 H locs hq_2 hf hS => ?_)
  obtain ⟨hr_2, hu⟩ := hq_2
  rw [hu] at hf
  refine lv_istore_n (lv' := [(3, .int r_2), (0, .ref qm), (1, .int x), (2, .int l0)]) hx hb dX2_remove_11 rfl hl (by decide) rfl (fun ls hl => ?_)
  refine lv_iload_n hx hb dX2_remove_12 rfl (lv_at hl 0 rfl) ?_
  refine lv_iconst (v := (-1)) hx hb dX2_remove_13 (by decide) ?_
  refine lv_icmp_ne (tgt := 19) hx hb dX2_remove_14 (by decide) (fun h14 => ?_) (fun h14 => ?_)
  · obtain ⟨i, hi1, rfl, hi2, hi3⟩ := hr_2.elim id (fun g => absurd g.1 h14)
    refine lv_iload_n hx hb dX2_remove_19 rfl (lv_at hl 0 rfl) ?_
    refine lv_istore (lv' := [(4, .int (nI i)), (3, .int (nI i)), (0, .ref qm), (1, .int x), (2, .int l0)]) hx hb dX2_remove_20 hl (by decide) rfl (fun ls hl => ?_)
    exact loop n i i f_1 ls _ _ (by omega) (Nat.le_refl _) hi1 hi2 hi3 hc_1 (by rw [dlG_0]; exact hc_1_ab) (by rw [dlG_0]; exact hc_1_al) (by rw [dlG_0]; exact hc_1_ah) (fun y g1 _ _ _ => by rw [ef_1, va_up_ne _ _ g1]) hf hS (lv_sub hl [2, 3, 4, 1, 0] rfl)
  · refine lv_iconst (v := 0) hx hb dX2_remove_17 (by decide) ?_
    exact hp_zret (v := 0) hx hb hr hlocks C0 hf hS (by first | exact Nat.le_refl _ | omega) (by first | exact Nat.le_refl _ | omega) dX2_remove_18 (by decide) (Or.inl ⟨hr_2.elim (fun ⟨i, a1, a2, _, _⟩ => absurd (a2.symm.trans h14) (nI_m1 (by omega))) (fun g => g.2), rfl, ef_1⟩)
set_option maxHeartbeats 4000000 in
set_option maxRecDepth 100000 in
theorem c_X2_init (l : Launch) (D : va_G) (cy : ClassId) (base : Nat) (f : AH) (qm : Nat) (hm : f qm = some (.inr (2, [.int 0, .null, .null, .null, .int 0, .null, .null, .int 0]))) : Met l yX2_init wsX2_init ({ frames := 1, cells := 5, slots := 3500, locals := 12 }) (va_Pc [.ref qm] (hp_B D cy base f)) (va_Qv (fun (u : AH) => ∃ ab al ah nb nl : Nat, (ab ≠ al ∧ ab ≠ ah ∧ al ≠ ah ∧ ab ≠ nb ∧ ab ≠ nl ∧ al ≠ nb ∧ al ≠ nl ∧ ah ≠ nb ∧ ah ≠ nl ∧ nb ≠ nl) ∧ u qm = some (mdO 0 ab al ah 0 nb nl 0) ∧ u ab = some (arO cy 500 (fun _ => 0)) ∧ u al = some (arO cy 500 (fun _ => 0)) ∧ u ah = some (arO cy 500 (fun _ => 0)) ∧ u nb = some (arO cy 1000 (fun _ => 0)) ∧ u nl = some (arO cy 1000 (fun _ => 0)) ∧ ∀ b v, f b = some v → b ≠ qm → u b = some v) (hp_B D cy base) (hp_A base)) 5 3500 (hp_A base) := by
  refine Met.ofW (cc := cX2_init) (maxL := 1) (ret := none) (by decide) rfl ?_
  intro p e s m args below meth c s₁ Bd hml hv
  obtain ⟨rfl, hf, C0⟩ := hv
  have hx := Bd.exec
  have hb := Bd.bytes
  have hr := Bd.returns
  have hts := atoms_spec (ws := wsX2_init) Bd.pre
  have hown : s.vm.findClass RX2 = some m.cls := findClass_of_methodNamed Bd.named
  have hlocks := Bd.notSynchronized
  have hin : meth.name = "<init>" := (name_of_methodNamed Bd.named Bd.method).1
  have hin2 : ∀ w ∈ wsX20, w ∈ wsX2_init := by decide +kernel
  have hS : va_S (hp_A base) s.heap s.heap [] := va_S.rf
  have hl := lv_entry ([.ref qm]) (n := 1) (Nat.le_of_ble_eq_true rfl)
  rw [lg_entry_eq]
  generalize (lg_sl ([.ref qm]) ++ List.replicate (1 - (lg_sl ([.ref qm])).length) Slot.unset).toArray = ls at hl ⊢
  have hl : lv_has ls 1 [(0, .ref qm)] := hl
  refine lv_aload_n hx hb dX2_init_0 rfl (lv_at hl 0 rfl) ?_
  refine W.objInit hx hb hown (hts (.methodLink RX2 1 objectInit) (by decide +kernel)) (hts (.instanceMethod objectInit) (by decide +kernel)) (hts (.code objectInit ⟨#[0xb1]⟩ 1 none) (by decide +kernel)) rfl (by rw [hml]; exact hl.1) rfl dX2_init_1 (Nat.le_of_ble_eq_true rfl) (Nat.le_of_ble_eq_true rfl) ?_
  refine W.eq (g2 := F0 m 4 ls []) rfl ?_
  refine lv_aload_n hx hb dX2_init_4 rfl (lv_at hl 0 rfl) ?_
  refine lv_sipush (v := 500) hx hb dX2_init_5 (by decide) ?_
  refine hp_newi (N' := 500) hx hb (hts (.arrayClass .int) (by decide +kernel)) C0 hf hS C0.1 (by decide) (by decide) (by decide) (Nat.le_of_ble_eq_true rfl) (Nat.le_of_ble_eq_true rfl) dX2_init_8 (fun ab f_1 H hn_ab ef_1 hf hS => ?_)
  have hc_1 : f_1 ab = some (arO cy 500 (fun _ => 0)) := by rw [ef_1]; exact va_up_self _ _ _
  have n_qm_ab : qm ≠ ab := fun e => by rw [← e, hm] at hn_ab; cases hn_ab
  have hc_1_qm : f_1 qm = some (.inr (2, [.int 0, .null, .null, .null, .int 0, .null, .null, .int 0])) := by rw [ef_1, va_up_ne _ _ n_qm_ab]; exact hm
  refine hp_putF (ci := 2) (v := .ref ab) (C := RX2) (T := TX2) (N := 8) hx hb hts hin2 tyX2 tyX2_ok nmX2 hown C0 hf hS hc_1_qm rfl 1 (by decide) (hts (.fieldLink RX2 7 "RouteTrieModel" "bits" "[I") (by decide +kernel)) (fun _ h9 => h9) rfl hin rfl rfl rfl (Nat.le_of_ble_eq_true rfl) dX2_init_10 (fun f_2 H locs ef_2 hf hS => ?_)
  have hc_2 : f_2 qm = some (.inr (2, [.int 0, .ref ab, .null, .null, .int 0, .null, .null, .int 0])) := by rw [ef_2]; exact va_up_self _ _ _
  have hc_2_ab : f_2 ab = some (.inl (cy, 500, .inl (fun _ => 0))) := by rw [ef_2, va_up_ne _ _ (Ne.symm n_qm_ab)]; exact hc_1
  refine lv_aload_n hx hb dX2_init_13 rfl (lv_at hl 0 rfl) ?_
  refine lv_sipush (v := 500) hx hb dX2_init_14 (by decide) ?_
  refine hp_newi (N' := 500) hx hb (hts (.arrayClass .int) (by decide +kernel)) C0 hf hS C0.1 (by decide) (by decide) (by decide) (Nat.le_of_ble_eq_true rfl) (Nat.le_of_ble_eq_true rfl) dX2_init_17 (fun al f_3 H hn_al ef_3 hf hS => ?_)
  have hc_3 : f_3 al = some (arO cy 500 (fun _ => 0)) := by rw [ef_3]; exact va_up_self _ _ _
  have n_ab_al : ab ≠ al := fun e => by rw [← e, hc_2_ab] at hn_al; cases hn_al
  have hc_3_ab : f_3 ab = some (.inl (cy, 500, .inl (fun _ => 0))) := by rw [ef_3, va_up_ne _ _ n_ab_al]; exact hc_2_ab
  have n_qm_al : qm ≠ al := fun e => by rw [← e, hc_2] at hn_al; cases hn_al
  have hc_3_qm : f_3 qm = some (.inr (2, [.int 0, .ref ab, .null, .null, .int 0, .null, .null, .int 0])) := by rw [ef_3, va_up_ne _ _ n_qm_al]; exact hc_2
  refine hp_putF (ci := 2) (v := .ref al) (C := RX2) (T := TX2) (N := 8) hx hb hts hin2 tyX2 tyX2_ok nmX2 hown C0 hf hS hc_3_qm rfl 2 (by decide) (hts (.fieldLink RX2 13 "RouteTrieModel" "lengths" "[I") (by decide +kernel)) (fun _ h9 => h9) rfl hin rfl rfl rfl (Nat.le_of_ble_eq_true rfl) dX2_init_19 (fun f_4 H locs ef_4 hf hS => ?_)
  have hc_4 : f_4 qm = some (.inr (2, [.int 0, .ref ab, .ref al, .null, .int 0, .null, .null, .int 0])) := by rw [ef_4]; exact va_up_self _ _ _
  have hc_4_ab : f_4 ab = some (.inl (cy, 500, .inl (fun _ => 0))) := by rw [ef_4, va_up_ne _ _ (Ne.symm n_qm_ab)]; exact hc_3_ab
  have hc_4_al : f_4 al = some (.inl (cy, 500, .inl (fun _ => 0))) := by rw [ef_4, va_up_ne _ _ (Ne.symm n_qm_al)]; exact hc_3
  refine lv_aload_n hx hb dX2_init_22 rfl (lv_at hl 0 rfl) ?_
  refine lv_sipush (v := 500) hx hb dX2_init_23 (by decide) ?_
  refine hp_newi (N' := 500) hx hb (hts (.arrayClass .int) (by decide +kernel)) C0 hf hS C0.1 (by decide) (by decide) (by decide) (Nat.le_of_ble_eq_true rfl) (Nat.le_of_ble_eq_true rfl) dX2_init_26 (fun ah f_5 H hn_ah ef_5 hf hS => ?_)
  have hc_5 : f_5 ah = some (arO cy 500 (fun _ => 0)) := by rw [ef_5]; exact va_up_self _ _ _
  have n_ab_ah : ab ≠ ah := fun e => by rw [← e, hc_4_ab] at hn_ah; cases hn_ah
  have hc_5_ab : f_5 ab = some (.inl (cy, 500, .inl (fun _ => 0))) := by rw [ef_5, va_up_ne _ _ n_ab_ah]; exact hc_4_ab
  have n_al_ah : al ≠ ah := fun e => by rw [← e, hc_4_al] at hn_ah; cases hn_ah
  have hc_5_al : f_5 al = some (.inl (cy, 500, .inl (fun _ => 0))) := by rw [ef_5, va_up_ne _ _ n_al_ah]; exact hc_4_al
  have n_qm_ah : qm ≠ ah := fun e => by rw [← e, hc_4] at hn_ah; cases hn_ah
  have hc_5_qm : f_5 qm = some (.inr (2, [.int 0, .ref ab, .ref al, .null, .int 0, .null, .null, .int 0])) := by rw [ef_5, va_up_ne _ _ n_qm_ah]; exact hc_4
  refine hp_putF (ci := 2) (v := .ref ah) (C := RX2) (T := TX2) (N := 8) hx hb hts hin2 tyX2 tyX2_ok nmX2 hown C0 hf hS hc_5_qm rfl 3 (by decide) (hts (.fieldLink RX2 16 "RouteTrieModel" "hops" "[I") (by decide +kernel)) (fun _ h9 => h9) rfl hin rfl rfl rfl (Nat.le_of_ble_eq_true rfl) dX2_init_28 (fun f_6 H locs ef_6 hf hS => ?_)
  have hc_6 : f_6 qm = some (.inr (2, [.int 0, .ref ab, .ref al, .ref ah, .int 0, .null, .null, .int 0])) := by rw [ef_6]; exact va_up_self _ _ _
  have hc_6_ab : f_6 ab = some (.inl (cy, 500, .inl (fun _ => 0))) := by rw [ef_6, va_up_ne _ _ (Ne.symm n_qm_ab)]; exact hc_5_ab
  have hc_6_al : f_6 al = some (.inl (cy, 500, .inl (fun _ => 0))) := by rw [ef_6, va_up_ne _ _ (Ne.symm n_qm_al)]; exact hc_5_al
  have hc_6_ah : f_6 ah = some (.inl (cy, 500, .inl (fun _ => 0))) := by rw [ef_6, va_up_ne _ _ (Ne.symm n_qm_ah)]; exact hc_5
  refine lv_aload_n hx hb dX2_init_31 rfl (lv_at hl 0 rfl) ?_
  refine lv_sipush (v := 1000) hx hb dX2_init_32 (by decide) ?_
  refine hp_newi (N' := 1000) hx hb (hts (.arrayClass .int) (by decide +kernel)) C0 hf hS C0.1 (by decide) (by decide) (by decide) (Nat.le_of_ble_eq_true rfl) (Nat.le_of_ble_eq_true rfl) dX2_init_35 (fun nb f_7 H hn_nb ef_7 hf hS => ?_)
  have hc_7 : f_7 nb = some (arO cy 1000 (fun _ => 0)) := by rw [ef_7]; exact va_up_self _ _ _
  have n_ab_nb : ab ≠ nb := fun e => by rw [← e, hc_6_ab] at hn_nb; cases hn_nb
  have hc_7_ab : f_7 ab = some (.inl (cy, 500, .inl (fun _ => 0))) := by rw [ef_7, va_up_ne _ _ n_ab_nb]; exact hc_6_ab
  have n_al_nb : al ≠ nb := fun e => by rw [← e, hc_6_al] at hn_nb; cases hn_nb
  have hc_7_al : f_7 al = some (.inl (cy, 500, .inl (fun _ => 0))) := by rw [ef_7, va_up_ne _ _ n_al_nb]; exact hc_6_al
  have n_ah_nb : ah ≠ nb := fun e => by rw [← e, hc_6_ah] at hn_nb; cases hn_nb
  have hc_7_ah : f_7 ah = some (.inl (cy, 500, .inl (fun _ => 0))) := by rw [ef_7, va_up_ne _ _ n_ah_nb]; exact hc_6_ah
  have n_qm_nb : qm ≠ nb := fun e => by rw [← e, hc_6] at hn_nb; cases hn_nb
  have hc_7_qm : f_7 qm = some (.inr (2, [.int 0, .ref ab, .ref al, .ref ah, .int 0, .null, .null, .int 0])) := by rw [ef_7, va_up_ne _ _ n_qm_nb]; exact hc_6
  refine hp_putF (ci := 2) (v := .ref nb) (C := RX2) (T := TX2) (N := 8) hx hb hts hin2 tyX2 tyX2_ok nmX2 hown C0 hf hS hc_7_qm rfl 5 (by decide) (hts (.fieldLink RX2 19 "RouteTrieModel" "nodeBits" "[I") (by decide +kernel)) (fun _ h9 => h9) rfl hin rfl rfl rfl (Nat.le_of_ble_eq_true rfl) dX2_init_37 (fun f_8 H locs ef_8 hf hS => ?_)
  have hc_8 : f_8 qm = some (.inr (2, [.int 0, .ref ab, .ref al, .ref ah, .int 0, .ref nb, .null, .int 0])) := by rw [ef_8]; exact va_up_self _ _ _
  have hc_8_ab : f_8 ab = some (.inl (cy, 500, .inl (fun _ => 0))) := by rw [ef_8, va_up_ne _ _ (Ne.symm n_qm_ab)]; exact hc_7_ab
  have hc_8_al : f_8 al = some (.inl (cy, 500, .inl (fun _ => 0))) := by rw [ef_8, va_up_ne _ _ (Ne.symm n_qm_al)]; exact hc_7_al
  have hc_8_ah : f_8 ah = some (.inl (cy, 500, .inl (fun _ => 0))) := by rw [ef_8, va_up_ne _ _ (Ne.symm n_qm_ah)]; exact hc_7_ah
  have hc_8_nb : f_8 nb = some (.inl (cy, 1000, .inl (fun _ => 0))) := by rw [ef_8, va_up_ne _ _ (Ne.symm n_qm_nb)]; exact hc_7
  refine lv_aload_n hx hb dX2_init_40 rfl (lv_at hl 0 rfl) ?_
  refine lv_sipush (v := 1000) hx hb dX2_init_41 (by decide) ?_
  refine hp_newi (N' := 1000) hx hb (hts (.arrayClass .int) (by decide +kernel)) C0 hf hS C0.1 (by decide) (by decide) (by decide) (Nat.le_of_ble_eq_true rfl) (Nat.le_of_ble_eq_true rfl) dX2_init_44 (fun nl f_9 H hn_nl ef_9 hf hS => ?_)
  have hc_9 : f_9 nl = some (arO cy 1000 (fun _ => 0)) := by rw [ef_9]; exact va_up_self _ _ _
  have n_ab_nl : ab ≠ nl := fun e => by rw [← e, hc_8_ab] at hn_nl; cases hn_nl
  have hc_9_ab : f_9 ab = some (.inl (cy, 500, .inl (fun _ => 0))) := by rw [ef_9, va_up_ne _ _ n_ab_nl]; exact hc_8_ab
  have n_al_nl : al ≠ nl := fun e => by rw [← e, hc_8_al] at hn_nl; cases hn_nl
  have hc_9_al : f_9 al = some (.inl (cy, 500, .inl (fun _ => 0))) := by rw [ef_9, va_up_ne _ _ n_al_nl]; exact hc_8_al
  have n_ah_nl : ah ≠ nl := fun e => by rw [← e, hc_8_ah] at hn_nl; cases hn_nl
  have hc_9_ah : f_9 ah = some (.inl (cy, 500, .inl (fun _ => 0))) := by rw [ef_9, va_up_ne _ _ n_ah_nl]; exact hc_8_ah
  have n_nb_nl : nb ≠ nl := fun e => by rw [← e, hc_8_nb] at hn_nl; cases hn_nl
  have hc_9_nb : f_9 nb = some (.inl (cy, 1000, .inl (fun _ => 0))) := by rw [ef_9, va_up_ne _ _ n_nb_nl]; exact hc_8_nb
  have n_qm_nl : qm ≠ nl := fun e => by rw [← e, hc_8] at hn_nl; cases hn_nl
  have hc_9_qm : f_9 qm = some (.inr (2, [.int 0, .ref ab, .ref al, .ref ah, .int 0, .ref nb, .null, .int 0])) := by rw [ef_9, va_up_ne _ _ n_qm_nl]; exact hc_8
  refine hp_putF (ci := 2) (v := .ref nl) (C := RX2) (T := TX2) (N := 8) hx hb hts hin2 tyX2 tyX2_ok nmX2 hown C0 hf hS hc_9_qm rfl 6 (by decide) (hts (.fieldLink RX2 22 "RouteTrieModel" "nodeLengths" "[I") (by decide +kernel)) (fun _ h9 => h9) rfl hin rfl rfl rfl (Nat.le_of_ble_eq_true rfl) dX2_init_46 (fun f_10 H locs ef_10 hf hS => ?_)
  have hc_10 : f_10 qm = some (.inr (2, [.int 0, .ref ab, .ref al, .ref ah, .int 0, .ref nb, .ref nl, .int 0])) := by rw [ef_10]; exact va_up_self _ _ _
  have hc_10_ab : f_10 ab = some (.inl (cy, 500, .inl (fun _ => 0))) := by rw [ef_10, va_up_ne _ _ (Ne.symm n_qm_ab)]; exact hc_9_ab
  have hc_10_al : f_10 al = some (.inl (cy, 500, .inl (fun _ => 0))) := by rw [ef_10, va_up_ne _ _ (Ne.symm n_qm_al)]; exact hc_9_al
  have hc_10_ah : f_10 ah = some (.inl (cy, 500, .inl (fun _ => 0))) := by rw [ef_10, va_up_ne _ _ (Ne.symm n_qm_ah)]; exact hc_9_ah
  have hc_10_nb : f_10 nb = some (.inl (cy, 1000, .inl (fun _ => 0))) := by rw [ef_10, va_up_ne _ _ (Ne.symm n_qm_nb)]; exact hc_9_nb
  have hc_10_nl : f_10 nl = some (.inl (cy, 1000, .inl (fun _ => 0))) := by rw [ef_10, va_up_ne _ _ (Ne.symm n_qm_nl)]; exact hc_9
  exact hp_vret hx hb hr hlocks C0 hf hS (by first | exact Nat.le_refl _ | omega) (by first | exact Nat.le_refl _ | omega) dX2_init_49 (⟨ab, al, ah, nb, nl, ⟨n_ab_al, n_ab_ah, n_al_ah, n_ab_nb, n_ab_nl, n_al_nb, n_al_nl, n_ah_nb, n_ah_nl, n_nb_nl⟩, hc_10, hc_10_ab, hc_10_al, hc_10_ah, hc_10_nb, hc_10_nl, fun b v g1 g2 => by
        have v_1 : f_1 b = some v := by rw [ef_1, va_up_ne _ _ (fun e => by rw [← e, g1] at hn_ab; cases hn_ab)]; exact g1
        have v_2 : f_2 b = some v := by rw [ef_2, va_up_ne _ _ g2]; exact v_1
        have v_3 : f_3 b = some v := by rw [ef_3, va_up_ne _ _ (fun e => by rw [← e, v_2] at hn_al; cases hn_al)]; exact v_2
        have v_4 : f_4 b = some v := by rw [ef_4, va_up_ne _ _ g2]; exact v_3
        have v_5 : f_5 b = some v := by rw [ef_5, va_up_ne _ _ (fun e => by rw [← e, v_4] at hn_ah; cases hn_ah)]; exact v_4
        have v_6 : f_6 b = some v := by rw [ef_6, va_up_ne _ _ g2]; exact v_5
        have v_7 : f_7 b = some v := by rw [ef_7, va_up_ne _ _ (fun e => by rw [← e, v_6] at hn_nb; cases hn_nb)]; exact v_6
        have v_8 : f_8 b = some v := by rw [ef_8, va_up_ne _ _ g2]; exact v_7
        have v_9 : f_9 b = some v := by rw [ef_9, va_up_ne _ _ (fun e => by rw [← e, v_8] at hn_nl; cases hn_nl)]; exact v_8
        have v_10 : f_10 b = some v := by rw [ef_10, va_up_ne _ _ g2]; exact v_9
        exact v_10⟩)
end
section
/-! the reference's nodes -/
def FM3 (f u : AH) (a b c : Nat) : Prop := ∀ x, x ≠ a → x ≠ b → x ≠ c → u x = f x
def ADp (cy : ClassId) (f : AH) (qm ab al ah nb nl : Nat) (cd sz : Int32) (k : Nat) (NB NL : Nat → Int32) (x l0 : Int32) (u : AH) : Prop :=
  ((l0 = 0 ∨ ∃ j, j < k ∧ NB j = x ∧ NL j = l0) ∧ u = f) ∨ ((¬ l0 = 0) ∧ (∀ j, j < k → ¬ (NB j = x ∧ NL j = l0)) ∧ u qm = some (mdO cd ab al ah sz nb nl (nI (k + 1))) ∧ u nb = some (arO cy 1000 (upd NB k x)) ∧ u nl = some (arO cy 1000 (upd NL k l0)) ∧ FM3 f u qm nb nl)
def NDp (k : Nat) (NB NL : Nat → Int32) (P : Int32 → Int32 → Prop) : Prop := (∀ i j, i < j → j < k → ¬ (NB i = NB j ∧ NL i = NL j)) ∧ ∀ y m, (∃ j, j < k ∧ NB j = y ∧ NL j = m) ↔ ((¬ m = 0) ∧ P y m)
theorem nd_0 {NB NL : Nat → Int32} : NDp 0 NB NL (fun _ _ => False) := ⟨fun i j _ h => absurd h (by omega), fun y m => ⟨fun ⟨j, h, _⟩ => absurd h (by omega), fun h => h.2.elim⟩⟩
theorem nd_congr {k : Nat} {NB NL : Nat → Int32} {P Q : Int32 → Int32 → Prop} (h : NDp k NB NL P) (e : ∀ y m, P y m ↔ Q y m) : NDp k NB NL Q := ⟨h.1, fun y m => by rw [h.2 y m, e y m]⟩
theorem nd_add {cy : ClassId} {f u : AH} {qm ab al ah nb nl k : Nat} {cd sz x l0 : Int32} {NB NL : Nat → Int32} {P : Int32 → Int32 → Prop} (h : NDp k NB NL P) (hm : f qm = some (mdO cd ab al ah sz nb nl (nI k))) (hNB : f nb = some (arO cy 1000 NB)) (hNL : f nl = some (arO cy 1000 NL)) (a : ADp cy f qm ab al ah nb nl cd sz k NB NL x l0 u) :
    ∃ (k' : Nat) (NB' NL' : Nat → Int32), k' ≤ k + 1 ∧ NDp k' NB' NL' (fun y m => P y m ∨ (y = x ∧ m = l0)) ∧ u qm = some (mdO cd ab al ah sz nb nl (nI k')) ∧ u nb = some (arO cy 1000 NB') ∧ u nl = some (arO cy 1000 NL') ∧ FM3 f u qm nb nl := by
  rcases a with ⟨a1, rfl⟩ | ⟨a1, a2, a3, a4, a5, a6⟩
  · refine ⟨k, NB, NL, by omega, ⟨h.1, fun y m => ?_⟩, hm, hNB, hNL, fun _ _ _ _ => rfl⟩
    rw [h.2 y m]
    refine ⟨fun g => ⟨g.1, Or.inl g.2⟩, fun ⟨g1, g2⟩ => ⟨g1, ?_⟩⟩
    rcases g2 with g2 | ⟨g2, g3⟩
    · exact g2
    · rcases a1 with a1 | ⟨j, b1, b2, b3⟩
      · exact absurd (g3.trans a1) g1
      · exact ((h.2 y m).mp ⟨j, b1, b2.trans g2.symm, b3.trans g3.symm⟩).2
  · refine ⟨k + 1, upd NB k x, upd NL k l0, by omega, ⟨fun i j hi hj => ?_, fun y m => ?_⟩, a3, a4, a5, a6⟩
    · by_cases e : j = k
      · subst e
        rw [pk_us, pk_us, pk_un (by omega), pk_un (by omega)]
        exact a2 i hi
      · rw [pk_un e, pk_un e, pk_un (by omega), pk_un (by omega)]
        exact h.1 i j hi (by omega)
    · constructor
      · intro ⟨j, hj, g1, g2⟩
        by_cases e : j = k
        · subst e
          rw [pk_us] at g1 g2
          exact ⟨by rw [← g2]; exact a1, Or.inr ⟨g1.symm, g2.symm⟩⟩
        · rw [pk_un e] at g1 g2
          obtain ⟨q1, q2⟩ := (h.2 y m).mp ⟨j, by omega, g1, g2⟩
          exact ⟨q1, Or.inl q2⟩
      · intro ⟨g1, g2⟩
        rcases g2 with g2 | ⟨g2, g3⟩
        · obtain ⟨j, hj, q1, q2⟩ := (h.2 y m).mpr ⟨g1, g2⟩
          exact ⟨j, by omega, by rw [pk_un (by omega)]; exact q1, by rw [pk_un (by omega)]; exact q2⟩
        · exact ⟨k, by omega, by rw [pk_us]; exact g2.symm, by rw [pk_us]; exact g3.symm⟩
def CMp (B : Nat → Int32) (lam : Nat → Nat) (i k : Nat) : Prop := k ≤ lam i ∧ k ≤ lam (i - 1) ∧ ag (B i) (B (i - 1)) k ∧ (k < lam i → k < lam (i - 1) → ¬ bi (B i) k = bi (B (i - 1)) k)
def PPa (n : Nat) (B L : Nat → Int32) (y m : Int32) : Prop := ∃ i, i < n ∧ B i = y ∧ L i = m
def PPb (n : Nat) (B : Nat → Int32) (lam : Nat → Nat) (y m : Int32) : Prop := ∃ i k, 0 < i ∧ i < n ∧ CMp B lam i k ∧ y = fb (B i) k ∧ m = nI k
theorem cm_uniq {B : Nat → Int32} {lam : Nat → Nat} {i k k' : Nat} (h : CMp B lam i k) (h' : CMp B lam i k') : k = k' := by
  obtain ⟨a1, a2, a3, a4⟩ := h
  obtain ⟨b1, b2, b3, b4⟩ := h'
  rcases Nat.lt_trichotomy k k' with q | q | q
  · exact absurd (b3 k q) (a4 (by omega) (by omega))
  · exact q
  · exact absurd (a3 k' q) (b4 (by omega) (by omega))
theorem bit_eq {x y : Int32} {i : Nat} (hi : i < 32) : (((x.toUInt32 >>> ((31 - nI i).toUInt32 &&& Int32.toUInt32 31)).toInt32 &&& 1) = ((y.toUInt32 >>> ((31 - nI i).toUInt32 &&& Int32.toUInt32 31)).toInt32 &&& 1)) ↔ bi x i = bi y i := by
  rw [← sh_bi (x := x) hi, ← sh_bi (x := y) hi]
  rcases and1_cases ((x.toUInt32 >>> ((31 - nI i).toUInt32 &&& Int32.toUInt32 31)).toInt32) with ⟨a1, a2⟩ | ⟨a1, a2⟩ <;> rcases and1_cases ((y.toUInt32 >>> ((31 - nI i).toUInt32 &&& Int32.toUInt32 31)).toInt32) with ⟨b1, b2⟩ | ⟨b1, b2⟩ <;> rw [a1, a2, b1, b2] <;> simp
set_option maxHeartbeats 4000000 in
set_option maxRecDepth 100000 in
theorem c_X2_add (l : Launch) (D : va_G) (cy : ClassId) (base : Nat) (f : AH) (qm ab al ah nb nl : Nat) (cd sz : Int32) (k : Nat) (NB NL : Nat → Int32) (x l0 : Int32) (hm : f qm = some (mdO cd ab al ah sz nb nl (nI k))) (hNB : f nb = some (arO cy 1000 NB)) (hNL : f nl = some (arO cy 1000 NL)) (dn : nb ≠ nl) (hk : k < 1000) : Met l yX2_add wsX2_add ({ frames := 0, cells := 0, slots := 0, locals := 0 }) (va_Pc [.ref qm, .int x, .int l0] (hp_B D cy base f)) (va_Qv (fun (u : AH) => ADp cy f qm ab al ah nb nl cd sz k NB NL x l0 u) (hp_B D cy base) (hp_A base)) 0 0 (hp_A base) := by
  refine Met.ofW (cc := cX2_add) (maxL := 4) (ret := none) (by decide) rfl ?_
  intro p e s m args below meth c s₁ Bd hml hv
  obtain ⟨rfl, hf, C0⟩ := hv
  have hx := Bd.exec
  have hb := Bd.bytes
  have hr := Bd.returns
  have hts := atoms_spec (ws := wsX2_add) Bd.pre
  have hown : s.vm.findClass RX2 = some m.cls := findClass_of_methodNamed Bd.named
  have hlocks := Bd.notSynchronized
  have hin2 : ∀ w ∈ wsX20, w ∈ wsX2_add := by decide +kernel
  have hS : va_S (hp_A base) s.heap s.heap [] := va_S.rf
  have hl := lv_entry ([.ref qm, .int x, .int l0]) (n := 4) (Nat.le_of_ble_eq_true rfl)
  rw [lg_entry_eq]
  generalize (lg_sl ([.ref qm, .int x, .int l0]) ++ List.replicate (4 - (lg_sl ([.ref qm, .int x, .int l0])).length) Slot.unset).toArray = ls at hl ⊢
  have hl : lv_has ls 4 [(0, .ref qm), (1, .int x), (2, .int l0)] := hl
  have loop : ∀ (c0 j : Nat) (ls : Array Slot) (H : Heap) (locs : List Loc), (¬ l0 = 0) → j ≤ k → k + 1 ≤ j + c0 → (∀ i, i < j → ¬ (NB i = x ∧ NL i = l0)) → hp_ok D base f H → va_S (hp_A base) s.heap H locs → lv_has ls 4 [(0, .ref qm), (1, .int x), (2, .int l0), (3, .int (nI j))] → W p l e (headSpec wsX2_add ({ frames := 0, cells := 0, slots := 0, locals := 0 } : Room)).room s m #[Value.ref qm, Value.int x, Value.int l0] below meth c H locs 0 0 (MQ below (va_Qv (fun (u : AH) => ADp cy f qm ab al ah nb nl cd sz k NB NL x l0 u) (hp_B D cy base) (hp_A base)) #[Value.ref qm, Value.int x, Value.int l0] s 0 0 (hp_A base)) (F0 m 7 ls []) := by
    intro c0
    induction c0 with
    | zero => intro j _ _ _ _ h1 h2; exact absurd h2 (by omega)
    | succ c0 ih =>
      intro j ls H locs h0 hj hc hI hf hS hl
      refine lv_iload_n hx hb dX2_add_7 rfl (lv_at hl 3 rfl) ?_
      refine lv_aload_n hx hb dX2_add_8 rfl (lv_at hl 0 rfl) ?_
      refine hp_get (ci := 2) (v := .int (nI k)) (C := RX2) (T := TX2) (N := 8) hx hb hts hin2 hown C0 hf hm rfl 7 (by decide) (hts (.fieldLink RX2 55 "RouteTrieModel" "nodeCount" "I") (by decide +kernel)) (fun _ h9 => h9) rfl dX2_add_9 ?_
      refine lv_icmp_ge (tgt := 42) hx hb dX2_add_12 (by decide) (fun h12 => ?_) (fun h12 => ?_)
      · have hjn : j = k := by have := (nI_leI (by omega) (by omega)).mp h12; omega
        subst hjn
        refine lv_aload_n hx hb dX2_add_42 rfl (lv_at hl 0 rfl) ?_
        refine hp_get (ci := 2) (v := .ref nb) (C := RX2) (T := TX2) (N := 8) hx hb hts hin2 hown C0 hf hm rfl 5 (by decide) (hts (.fieldLink RX2 19 "RouteTrieModel" "nodeBits" "[I") (by decide +kernel)) (fun _ h9 => h9) rfl dX2_add_43 ?_
        refine lv_aload_n hx hb dX2_add_46 rfl (lv_at hl 0 rfl) ?_
        refine hp_get (ci := 2) (v := .int (nI j)) (C := RX2) (T := TX2) (N := 8) hx hb hts hin2 hown C0 hf hm rfl 7 (by decide) (hts (.fieldLink RX2 55 "RouteTrieModel" "nodeCount" "I") (by decide +kernel)) (fun _ h9 => h9) rfl dX2_add_47 ?_
        refine lv_iload_n hx hb dX2_add_50 rfl (lv_at hl 1 rfl) ?_
        refine hp_iast (n := 1000) (g := NB) hx hb C0 hf hS hNB (vp_in_nI (n := j) (N := 1000) (by omega) (by omega)) dX2_add_51 (fun f_1 H locs ef_1 hf hS => ?_)
        rw [nI_clamp (n := j) (by omega)] at ef_1
        have hc_1 : f_1 nb = some (.inl (cy, 1000, .inl (upd NB j x))) := by rw [ef_1]; exact va_up_self _ _ _
        have hc_1_qm : f_1 qm = some (.inr (2, [.int cd, .ref ab, .ref al, .ref ah, .int sz, .ref nb, .ref nl, .int (nI j)])) := by rw [ef_1, va_up_ne _ _ (hp_dif hm hNB (by simp))]; exact hm
        have hc_1_nl : f_1 nl = some (.inl (cy, 1000, .inl NL)) := by rw [ef_1, va_up_ne _ _ (Ne.symm dn)]; exact hNL
        refine lv_aload_n hx hb dX2_add_52 rfl (lv_at hl 0 rfl) ?_
        refine hp_get (ci := 2) (v := .ref nl) (C := RX2) (T := TX2) (N := 8) hx hb hts hin2 hown C0 hf hc_1_qm rfl 6 (by decide) (hts (.fieldLink RX2 22 "RouteTrieModel" "nodeLengths" "[I") (by decide +kernel)) (fun _ h9 => h9) rfl dX2_add_53 ?_
        refine lv_aload_n hx hb dX2_add_56 rfl (lv_at hl 0 rfl) ?_
        refine hp_get (ci := 2) (v := .int (nI j)) (C := RX2) (T := TX2) (N := 8) hx hb hts hin2 hown C0 hf hc_1_qm rfl 7 (by decide) (hts (.fieldLink RX2 55 "RouteTrieModel" "nodeCount" "I") (by decide +kernel)) (fun _ h9 => h9) rfl dX2_add_57 ?_
        refine lv_iload_n hx hb dX2_add_60 rfl (lv_at hl 2 rfl) ?_
        refine hp_iast (n := 1000) (g := NL) hx hb C0 hf hS hc_1_nl (vp_in_nI (n := j) (N := 1000) (by omega) (by omega)) dX2_add_61 (fun f_2 H locs ef_2 hf hS => ?_)
        rw [nI_clamp (n := j) (by omega)] at ef_2
        have hc_2 : f_2 nl = some (.inl (cy, 1000, .inl (upd NL j l0))) := by rw [ef_2]; exact va_up_self _ _ _
        have hc_2_qm : f_2 qm = some (.inr (2, [.int cd, .ref ab, .ref al, .ref ah, .int sz, .ref nb, .ref nl, .int (nI j)])) := by rw [ef_2, va_up_ne _ _ (hp_dif hc_1_qm hc_1_nl (by simp))]; exact hc_1_qm
        have hc_2_nb : f_2 nb = some (.inl (cy, 1000, .inl (upd NB j x))) := by rw [ef_2, va_up_ne _ _ dn]; exact hc_1
        refine lv_aload_n hx hb dX2_add_62 rfl (lv_at hl 0 rfl) ?_
        refine lv_dup hx hb dX2_add_63 rfl ?_
        refine hp_get (ci := 2) (v := .int (nI j)) (C := RX2) (T := TX2) (N := 8) hx hb hts hin2 hown C0 hf hc_2_qm rfl 7 (by decide) (hts (.fieldLink RX2 55 "RouteTrieModel" "nodeCount" "I") (by decide +kernel)) (fun _ h9 => h9) rfl dX2_add_64 ?_
        refine lv_iconst (v := 1) hx hb dX2_add_67 (by decide) ?_
        refine lv_iadd hx hb dX2_add_68 ?_
        refine hp_put (ci := 2) (v := .int ((nI j) + 1)) (C := RX2) (T := TX2) (N := 8) hx hb hts hin2 tyX2 tyX2_ok nmX2 hown C0 hf hS hc_2_qm rfl 7 (by decide) (hts (.fieldLink RX2 55 "RouteTrieModel" "nodeCount" "I") (by decide +kernel)) (fun _ h9 => h9) rfl rfl rfl (Nat.le_of_ble_eq_true rfl) dX2_add_69 (fun f_3 H locs ef_3 hf hS => ?_)
        have hc_3 : f_3 qm = some (.inr (2, [.int cd, .ref ab, .ref al, .ref ah, .int sz, .ref nb, .ref nl, .int ((nI j) + 1)])) := by rw [ef_3]; exact va_up_self _ _ _
        have hc_3_nb : f_3 nb = some (.inl (cy, 1000, .inl (upd NB j x))) := by rw [ef_3, va_up_ne _ _ (hp_dif hc_2_nb hc_2_qm (by simp))]; exact hc_2_nb
        have hc_3_nl : f_3 nl = some (.inl (cy, 1000, .inl (upd NL j l0))) := by rw [ef_3, va_up_ne _ _ (hp_dif hc_2 hc_2_qm (by simp))]; exact hc_2
        exact hp_vret hx hb hr hlocks C0 hf hS (by first | exact Nat.le_refl _ | omega) (by first | exact Nat.le_refl _ | omega) dX2_add_72 (Or.inr ⟨h0, hI, by rw [hc_3, nI_1], hc_3_nb, hc_3_nl, fun y g1 g2 g3 => by rw [ef_3, va_up_ne _ _ g1, ef_2, va_up_ne _ _ g3, ef_1, va_up_ne _ _ g2]⟩)
      · have hjn : j < k := Nat.not_le.mp (fun q => h12 ((nI_leI (by omega) (by omega)).mpr q))
        refine lv_aload_n hx hb dX2_add_15 rfl (lv_at hl 0 rfl) ?_
        refine hp_get (ci := 2) (v := .ref nb) (C := RX2) (T := TX2) (N := 8) hx hb hts hin2 hown C0 hf hm rfl 5 (by decide) (hts (.fieldLink RX2 19 "RouteTrieModel" "nodeBits" "[I") (by decide +kernel)) (fun _ h9 => h9) rfl dX2_add_16 ?_
        refine lv_iload_n hx hb dX2_add_19 rfl (lv_at hl 3 rfl) ?_
        refine hp_iald (n := 1000) (g := NB) hx hb C0 hf hNB (vp_in_nI (n := j) (N := 1000) (by omega) (by omega)) dX2_add_20 ?_
        rw [nI_clamp (n := j) (by omega)]
        refine lv_iload_n hx hb dX2_add_21 rfl (lv_at hl 1 rfl) ?_
        refine lv_icmp_ne (tgt := 36) hx hb dX2_add_22 (by decide) (fun h22 => ?_) (fun h22 => ?_)
        · refine lv_iinc (v := ((nI j) + 1)) (lv' := [(3, .int ((nI j) + 1)), (0, .ref qm), (1, .int x), (2, .int l0)]) hx hb dX2_add_36 hl (k := 3) rfl rfl (by decide) rfl (fun ls hl => ?_)
          refine lv_goto (tgt := 7) hx hb dX2_add_39 (by decide) ?_
          rw [nI_1] at hl
          exact ih (j + 1) ls _ _ h0 (by omega) (by omega) (fun i hi => by
            rcases Nat.lt_or_ge i j with q | q
            · exact hI i q
            · have e : i = j := by omega
              subst e
              exact fun g => h22 g.1) hf hS (lv_sub hl [1, 2, 3, 0] rfl)
        · refine lv_aload_n hx hb dX2_add_25 rfl (lv_at hl 0 rfl) ?_
          refine hp_get (ci := 2) (v := .ref nl) (C := RX2) (T := TX2) (N := 8) hx hb hts hin2 hown C0 hf hm rfl 6 (by decide) (hts (.fieldLink RX2 22 "RouteTrieModel" "nodeLengths" "[I") (by decide +kernel)) (fun _ h9 => h9) rfl dX2_add_26 ?_
          refine lv_iload_n hx hb dX2_add_29 rfl (lv_at hl 3 rfl) ?_
          refine hp_iald (n := 1000) (g := NL) hx hb C0 hf hNL (vp_in_nI (n := j) (N := 1000) (by omega) (by omega)) dX2_add_30 ?_
          rw [nI_clamp (n := j) (by omega)]
          refine lv_iload_n hx hb dX2_add_31 rfl (lv_at hl 2 rfl) ?_
          refine lv_icmp_ne (tgt := 36) hx hb dX2_add_32 (by decide) (fun h32 => ?_) (fun h32 => ?_)
          · refine lv_iinc (v := ((nI j) + 1)) (lv' := [(3, .int ((nI j) + 1)), (0, .ref qm), (1, .int x), (2, .int l0)]) hx hb dX2_add_36 hl (k := 3) rfl rfl (by decide) rfl (fun ls hl => ?_)
            refine lv_goto (tgt := 7) hx hb dX2_add_39 (by decide) ?_
            rw [nI_1] at hl
            exact ih (j + 1) ls _ _ h0 (by omega) (by omega) (fun i hi => by
              rcases Nat.lt_or_ge i j with q | q
              · exact hI i q
              · have e : i = j := by omega
                subst e
                exact fun g => h32 g.2) hf hS (lv_sub hl [1, 2, 3, 0] rfl)
          · exact hp_vret hx hb hr hlocks C0 hf hS (by first | exact Nat.le_refl _ | omega) (by first | exact Nat.le_refl _ | omega) dX2_add_35 (Or.inl ⟨Or.inr ⟨j, hjn, h22, h32⟩, rfl⟩)
  refine lv_iload_n hx hb dX2_add_0 rfl (lv_at hl 2 rfl) ?_
  refine lv_if_ne (tgt := 5) hx hb dX2_add_1 (by decide) (fun h1 => ?_) (fun h1 => ?_)
  · refine lv_iconst (v := 0) hx hb dX2_add_5 (by decide) ?_
    refine lv_istore_n (lv' := [(3, .int 0), (0, .ref qm), (1, .int x), (2, .int l0)]) hx hb dX2_add_6 rfl hl (by decide) rfl (fun ls hl => ?_)
    exact loop (k + 1) 0 ls _ _ h1 (by omega) (by omega) (fun i hi => absurd hi (by omega)) hf hS (lv_sub hl [1, 2, 3, 0] rfl)
  · exact hp_vret hx hb hr hlocks C0 hf hS (by first | exact Nat.le_refl _ | omega) (by first | exact Nat.le_refl _ | omega) dX2_add_4 (Or.inl ⟨Or.inl h1, rfl⟩)
def FNp (cy : ClassId) (f : AH) (qm ab al ah nb nl : Nat) (cd : Int32) (n : Nat) (B L : Nat → Int32) (lam : Nat → Nat) (u : AH) : Prop := ∃ (k : Nat) (NB NL : Nat → Int32), k ≤ 999 ∧ NDp k NB NL (fun y m => PPa n B L y m ∨ PPb n B lam y m) ∧ u qm = some (mdO cd ab al ah (nI n) nb nl (nI k)) ∧ u nb = some (arO cy 1000 NB) ∧ u nl = some (arO cy 1000 NL) ∧ FM3 f u qm nb nl
set_option maxHeartbeats 4000000 in
set_option maxRecDepth 100000 in
theorem c_X2_findNodes (l : Launch) (D : va_G) (cy : ClassId) (base : Nat) (f : AH) (qm ab al ah nb nl : Nat) (cd nc : Int32) (n : Nat) (B L NB0 NL0 : Nat → Int32) (lam : Nat → Nat) (hm : f qm = some (mdO cd ab al ah (nI n) nb nl nc)) (hB : f ab = some (arO cy 500 B)) (hL : f al = some (arO cy 500 L)) (hNB : f nb = some (arO cy 1000 NB0)) (hNL : f nl = some (arO cy 1000 NL0)) (hn : n ≤ 500) (hlam : ∀ j, j < n → L j = nI (lam j) ∧ lam j ≤ 32) (dn : nb ≠ nl) (d1 : ab ≠ nb) (d2 : ab ≠ nl) (d3 : al ≠ nb) (d4 : al ≠ nl) : Met l yX2_findNodes wsX2_findNodes ({ frames := 1, cells := 0, slots := 0, locals := 23 }) (va_Pc [.ref qm] (hp_B D cy base f)) (va_Qv (fun (u : AH) => FNp cy f qm ab al ah nb nl cd n B L lam u) (hp_B D cy base) (hp_A base)) 0 0 (hp_A base) := by
  refine Met.ofW (cc := cX2_findNodes) (maxL := 4) (ret := none) (by decide) rfl ?_
  intro p e s m args below meth c s₁ Bd hml hv
  obtain ⟨rfl, hf, C0⟩ := hv
  have hx := Bd.exec
  have hb := Bd.bytes
  have hr := Bd.returns
  have hts := atoms_spec (ws := wsX2_findNodes) Bd.pre
  have hown : s.vm.findClass RX2 = some m.cls := findClass_of_methodNamed Bd.named
  have hlocks := Bd.notSynchronized
  have hin2 : ∀ w ∈ wsX20, w ∈ wsX2_findNodes := by decide +kernel
  have hS : va_S (hp_A base) s.heap s.heap [] := va_S.rf
  have hl := lv_entry ([.ref qm]) (n := 4) (Nat.le_of_ble_eq_true rfl)
  rw [lg_entry_eq]
  generalize (lg_sl ([.ref qm]) ++ List.replicate (4 - (lg_sl ([.ref qm])).length) Slot.unset).toArray = ls at hl ⊢
  have hl : lv_has ls 4 [(0, .ref qm)] := hl
  have nqa : ab ≠ qm := hp_dif hB hm (by simp)
  have nql : al ≠ qm := hp_dif hL hm (by simp)
  have loopB : ∀ (c0 j k : Nat) (NB NL : Nat → Int32) (fc : AH) (ls : Array Slot) (H : Heap) (locs : List Loc), 1 ≤ j → (j ≤ n ∨ j = 1) → n + 2 ≤ j + c0 → k ≤ n + (j - 1) → (n = 0 → k = 0) → NDp k NB NL (fun y m => PPa n B L y m ∨ PPb (min j n) B lam y m) → fc qm = some (mdO cd ab al ah (nI n) nb nl (nI k)) → fc nb = some (arO cy 1000 NB) → fc nl = some (arO cy 1000 NL) → FM3 f fc qm nb nl → hp_ok D base fc H → va_S (hp_A base) s.heap H locs → lv_has ls 4 [(0, .ref qm), (1, .int (nI j))] → W p l e (headSpec wsX2_findNodes ({ frames := 1, cells := 0, slots := 0, locals := 23 } : Room)).room s m #[Value.ref qm] below meth c H locs 0 0 (MQ below (va_Qv (fun (u : AH) => FNp cy f qm ab al ah nb nl cd n B L lam u) (hp_B D cy base) (hp_A base)) #[Value.ref qm] s 0 0 (hp_A base)) (F0 m 39 ls []) := by
    intro c0
    induction c0 with
    | zero => intro j k _ _ _ _ _ _ h1 h2 h3; exact absurd h3 (by omega)
    | succ c0 ih =>
      intro j k NB NL fc ls H locs hj1 hjn hc hk hk0 hN hm2 hNB2 hNL2 hF hf hS hl
      have hB2 : fc ab = some (arO cy 500 B) := by rw [hF ab nqa d1 d2]; exact hB
      have hL2 : fc al = some (arO cy 500 L) := by rw [hF al nql d3 d4]; exact hL
      refine lv_iload_n hx hb dX2_findNodes_39 rfl (lv_at hl 1 rfl) ?_
      refine lv_aload_n hx hb dX2_findNodes_40 rfl (lv_at hl 0 rfl) ?_
      refine hp_get (ci := 2) (v := .int (nI n)) (C := RX2) (T := TX2) (N := 8) hx hb hts hin2 hown C0 hf hm2 rfl 4 (by decide) (hts (.fieldLink RX2 29 "RouteTrieModel" "size" "I") (by decide +kernel)) (fun _ h9 => h9) rfl dX2_findNodes_41 ?_
      refine lv_icmp_ge (tgt := 148) hx hb dX2_findNodes_44 (by decide) (fun h44 => ?_) (fun h44 => ?_)
      · have hnj : n ≤ j := (nI_leI (by omega) (by omega)).mp h44
        exact hp_vret hx hb hr hlocks C0 hf hS (by first | exact Nat.le_refl _ | omega) (by first | exact Nat.le_refl _ | omega) dX2_findNodes_148 (⟨k, NB, NL, by omega, nd_congr hN (fun y m => by rw [show min j n = n by omega]), hm2, hNB2, hNL2, hF⟩)
      · have hjn2 : j < n := Nat.not_le.mp (fun q => h44 ((nI_leI (by omega) (by omega)).mpr q))
        obtain ⟨ea, la⟩ := hlam j hjn2
        obtain ⟨eb, lb⟩ := hlam (j - 1) (by omega)
        refine lv_aload_n hx hb dX2_findNodes_47 rfl (lv_at hl 0 rfl) ?_
        refine hp_get (ci := 2) (v := .ref al) (C := RX2) (T := TX2) (N := 8) hx hb hts hin2 hown C0 hf hm2 rfl 2 (by decide) (hts (.fieldLink RX2 13 "RouteTrieModel" "lengths" "[I") (by decide +kernel)) (fun _ h9 => h9) rfl dX2_findNodes_48 ?_
        refine lv_iload_n hx hb dX2_findNodes_51 rfl (lv_at hl 1 rfl) ?_
        refine hp_iald (n := 500) (g := L) hx hb C0 hf hL2 (vp_in_nI (n := j) (N := 500) (by omega) (by omega)) dX2_findNodes_52 ?_
        rw [nI_clamp (n := j) (by omega)]
        refine lv_aload_n hx hb dX2_findNodes_53 rfl (lv_at hl 0 rfl) ?_
        refine hp_get (ci := 2) (v := .ref al) (C := RX2) (T := TX2) (N := 8) hx hb hts hin2 hown C0 hf hm2 rfl 2 (by decide) (hts (.fieldLink RX2 13 "RouteTrieModel" "lengths" "[I") (by decide +kernel)) (fun _ h9 => h9) rfl dX2_findNodes_54 ?_
        refine lv_iload_n hx hb dX2_findNodes_57 rfl (lv_at hl 1 rfl) ?_
        refine lv_iconst (v := 1) hx hb dX2_findNodes_58 (by decide) ?_
        refine lv_isub hx hb dX2_findNodes_59 ?_
        rw [show (((nI j) - 1) : Int32) = nI (j - 1) from (pk_sub (a := j) (b := 1) (by omega))]
        refine hp_iald (n := 500) (g := L) hx hb C0 hf hL2 (vp_in_nI (n := (j - 1)) (N := 500) (by omega) (by omega)) dX2_findNodes_60 ?_
        rw [nI_clamp (n := (j - 1)) (by omega)]
        refine lv_icmp_ge (tgt := 73) hx hb dX2_findNodes_61 (by decide) (fun h61 => ?_) (fun h61 => ?_)
        · refine lv_aload_n hx hb dX2_findNodes_73 rfl (lv_at hl 0 rfl) ?_
          refine hp_get (ci := 2) (v := .ref al) (C := RX2) (T := TX2) (N := 8) hx hb hts hin2 hown C0 hf hm2 rfl 2 (by decide) (hts (.fieldLink RX2 13 "RouteTrieModel" "lengths" "[I") (by decide +kernel)) (fun _ h9 => h9) rfl dX2_findNodes_74 ?_
          refine lv_iload_n hx hb dX2_findNodes_77 rfl (lv_at hl 1 rfl) ?_
          refine lv_iconst (v := 1) hx hb dX2_findNodes_78 (by decide) ?_
          refine lv_isub hx hb dX2_findNodes_79 ?_
          rw [show (((nI j) - 1) : Int32) = nI (j - 1) from (pk_sub (a := j) (b := 1) (by omega))]
          refine hp_iald (n := 500) (g := L) hx hb C0 hf hL2 (vp_in_nI (n := (j - 1)) (N := 500) (by omega) (by omega)) dX2_findNodes_80 ?_
          rw [nI_clamp (n := (j - 1)) (by omega)]
          have hmn : lam (j - 1) ≤ lam j := by rw [ea, eb] at h61; exact (nI_leI (by omega) (by omega)).mp h61
          rw [eb]
          obtain ⟨mm, emm, hmm⟩ : ∃ mm, lam (j - 1) = mm ∧ mm = min (lam j) (lam (j - 1)) := ⟨_, rfl, by omega⟩
          rw [emm]
          refine lv_istore_n (lv' := [(2, .int (nI mm)), (0, .ref qm), (1, .int (nI j))]) hx hb dX2_findNodes_81 rfl hl (by decide) rfl (fun ls hl => ?_)
          refine lv_iconst (v := 0) hx hb dX2_findNodes_82 (by decide) ?_
          refine lv_istore_n (lv' := [(3, .int 0), (2, .int (nI mm)), (0, .ref qm), (1, .int (nI j))]) hx hb dX2_findNodes_83 rfl hl (by decide) rfl (fun ls hl => ?_)
          have loopC : ∀ (c1 i : Nat) (ls : Array Slot) (H : Heap) (locs : List Loc), i ≤ mm → mm + 1 ≤ i + c1 → ag (B j) (B (j - 1)) i → hp_ok D base fc H → va_S (hp_A base) s.heap H locs → lv_has ls 4 [(0, .ref qm), (1, .int (nI j)), (2, .int (nI mm)), (3, .int (nI i))] → W p l e (headSpec wsX2_findNodes ({ frames := 1, cells := 0, slots := 0, locals := 23 } : Room)).room s m #[Value.ref qm] below meth c H locs 0 0 (MQ below (va_Qv (fun (u : AH) => FNp cy f qm ab al ah nb nl cd n B L lam u) (hp_B D cy base) (hp_A base)) #[Value.ref qm] s 0 0 (hp_A base)) (F0 m 84 ls []) := by
            intro c1
            induction c1 with
            | zero => intro i _ _ _ h1 h2; exact absurd h2 (by omega)
            | succ c1 ihC =>
              intro i ls H locs hi hc1 hag hf hS hl
              refine lv_iload_n hx hb dX2_findNodes_84 rfl (lv_at hl 3 rfl) ?_
              refine lv_iload_n hx hb dX2_findNodes_85 rfl (lv_at hl 2 rfl) ?_
              refine lv_icmp_ge (tgt := 126) hx hb dX2_findNodes_86 (by decide) (fun h86 => ?_) (fun h86 => ?_)
              · have him : i = mm := by have := (nI_leI (by omega) (by omega)).mp h86; omega
                have hcm : CMp B lam j i := ⟨by omega, by omega, hag, fun g1 g2 => absurd g2 (by omega)⟩
                refine lv_aload_n hx hb dX2_findNodes_126 rfl (lv_at hl 0 rfl) ?_
                refine lv_aload_n hx hb dX2_findNodes_127 rfl (lv_at hl 0 rfl) ?_
                refine hp_get (ci := 2) (v := .ref ab) (C := RX2) (T := TX2) (N := 8) hx hb hts hin2 hown C0 hf hm2 rfl 1 (by decide) (hts (.fieldLink RX2 7 "RouteTrieModel" "bits" "[I") (by decide +kernel)) (fun _ h9 => h9) rfl dX2_findNodes_128 ?_
                refine lv_iload_n hx hb dX2_findNodes_131 rfl (lv_at hl 1 rfl) ?_
                refine hp_iald (n := 500) (g := B) hx hb C0 hf hB2 (vp_in_nI (n := j) (N := 500) (by omega) (by omega)) dX2_findNodes_132 ?_
                rw [nI_clamp (n := j) (by omega)]
                refine lv_iload_n hx hb dX2_findNodes_133 rfl (lv_at hl 3 rfl) ?_
                refine hp_ki (hp_rS (As := [.int (nI i)]) (rest := [.int (B j), .ref qm]) ⟨hx, hb, hml, hown, hts⟩ C0 hf hS (c_X2_mask l D cy base fc (nI i)) (va_cwS 1 hts gX2_findNodes_X2_mask rfl rfl rfl (by decide +kernel) ⟨Nat.le_of_ble_eq_true rfl, Nat.le_of_ble_eq_true rfl⟩) rfl hl.1 rfl (Nat.le_of_ble_eq_true rfl) dX2_findNodes_134 ⟨Nat.le_of_ble_eq_true rfl, Nat.le_of_ble_eq_true rfl⟩) hS (fun r_1 u_1 H locs hq_1 hf hS => ?_)
                obtain ⟨rfl, hu⟩ := hq_1
                rw [hu] at hf
                rw [msk_mk]
                refine lv_iand hx hb dX2_findNodes_137 ?_
                refine lv_iload_n hx hb dX2_findNodes_138 rfl (lv_at hl 3 rfl) ?_
                refine hp_kv (hp_rV (C := RX2) (As := [.int ((B j) &&& (mkI i)), .int (nI i)]) (rest := []) ⟨hx, hb, hml, hown, hts⟩ C0 hf hS (c_X2_add l D cy base fc qm ab al ah nb nl cd (nI n) k NB NL (B j &&& mkI i) (nI i) hm2 hNB2 hNL2 dn (by omega)) (cwV 2 hts gX2_findNodes_X2_add rfl rfl rfl (by decide +kernel) ⟨Nat.le_of_ble_eq_true rfl, Nat.le_of_ble_eq_true rfl⟩) hm2 rfl rfl hl.1 rfl (Nat.le_of_ble_eq_true rfl) dX2_findNodes_139 ⟨Nat.le_of_ble_eq_true rfl, Nat.le_of_ble_eq_true rfl⟩) hS (fun u_2 H locs hq_2 hf hS => ?_)
                obtain ⟨k', NB', NL', a1, a2, a3, a4, a5, a6⟩ := nd_add hN hm2 hNB2 hNL2 hq_2
                have hN' : NDp k' NB' NL' (fun y m => PPa n B L y m ∨ PPb (min (j + 1) n) B lam y m) := nd_congr a2 (fun y m => by
                  constructor
                  · intro g
                    rcases g with (g | ⟨i', k2, g1, g2, g3⟩) | ⟨g1, g2⟩
                    · exact Or.inl g
                    · exact Or.inr ⟨i', k2, g1, by omega, g3⟩
                    · exact Or.inr ⟨j, i, by omega, by omega, hcm, g1, g2⟩
                  · intro g
                    rcases g with g | ⟨i', k2, g1, g2, g3, g4, g5⟩
                    · exact Or.inl (Or.inl g)
                    · by_cases e : i' = j
                      · subst e
                        have := cm_uniq g3 hcm
                        subst this
                        exact Or.inr ⟨g4, g5⟩
                      · exact Or.inl (Or.inr ⟨i', k2, g1, by omega, g3, g4, g5⟩))
                refine lv_iinc (v := ((nI j) + 1)) (lv' := [(1, .int ((nI j) + 1)), (0, .ref qm), (2, .int (nI mm)), (3, .int (nI i))]) hx hb dX2_findNodes_142 hl (k := 1) rfl rfl (by decide) rfl (fun ls hl => ?_)
                refine lv_goto (tgt := 39) hx hb dX2_findNodes_145 (by decide) ?_
                rw [nI_1] at hl
                exact ih (j + 1) k' NB' NL' u_2 ls _ _ (by omega) (by omega) (by omega) (by omega) (fun e => by omega) hN' a3 a4 a5 (fun y g1 g2 g3 => by rw [a6 y g1 g2 g3]; exact hF y g1 g2 g3) hf hS (lv_sub hl [1, 0] rfl)
              · have him : i < mm := Nat.not_le.mp (fun q => h86 ((nI_leI (by omega) (by omega)).mpr q))
                have hi32 : i < 32 := by omega
                refine lv_aload_n hx hb dX2_findNodes_89 rfl (lv_at hl 0 rfl) ?_
                refine hp_get (ci := 2) (v := .ref ab) (C := RX2) (T := TX2) (N := 8) hx hb hts hin2 hown C0 hf hm2 rfl 1 (by decide) (hts (.fieldLink RX2 7 "RouteTrieModel" "bits" "[I") (by decide +kernel)) (fun _ h9 => h9) rfl dX2_findNodes_90 ?_
                refine lv_iload_n hx hb dX2_findNodes_93 rfl (lv_at hl 1 rfl) ?_
                refine hp_iald (n := 500) (g := B) hx hb C0 hf hB2 (vp_in_nI (n := j) (N := 500) (by omega) (by omega)) dX2_findNodes_94 ?_
                rw [nI_clamp (n := j) (by omega)]
                refine lv_bipush (v := 31) hx hb dX2_findNodes_95 (by decide) ?_
                refine lv_iload_n hx hb dX2_findNodes_97 rfl (lv_at hl 3 rfl) ?_
                refine lv_isub hx hb dX2_findNodes_98 ?_
                refine lv_iushr hx hb dX2_findNodes_99 rfl ?_
                refine lv_iconst (v := 1) hx hb dX2_findNodes_100 (by decide) ?_
                refine lv_iand hx hb dX2_findNodes_101 ?_
                refine lv_aload_n hx hb dX2_findNodes_102 rfl (lv_at hl 0 rfl) ?_
                refine hp_get (ci := 2) (v := .ref ab) (C := RX2) (T := TX2) (N := 8) hx hb hts hin2 hown C0 hf hm2 rfl 1 (by decide) (hts (.fieldLink RX2 7 "RouteTrieModel" "bits" "[I") (by decide +kernel)) (fun _ h9 => h9) rfl dX2_findNodes_103 ?_
                refine lv_iload_n hx hb dX2_findNodes_106 rfl (lv_at hl 1 rfl) ?_
                refine lv_iconst (v := 1) hx hb dX2_findNodes_107 (by decide) ?_
                refine lv_isub hx hb dX2_findNodes_108 ?_
                rw [show (((nI j) - 1) : Int32) = nI (j - 1) from (pk_sub (a := j) (b := 1) (by omega))]
                refine hp_iald (n := 500) (g := B) hx hb C0 hf hB2 (vp_in_nI (n := (j - 1)) (N := 500) (by omega) (by omega)) dX2_findNodes_109 ?_
                rw [nI_clamp (n := (j - 1)) (by omega)]
                refine lv_bipush (v := 31) hx hb dX2_findNodes_110 (by decide) ?_
                refine lv_iload_n hx hb dX2_findNodes_112 rfl (lv_at hl 3 rfl) ?_
                refine lv_isub hx hb dX2_findNodes_113 ?_
                refine lv_iushr hx hb dX2_findNodes_114 rfl ?_
                refine lv_iconst (v := 1) hx hb dX2_findNodes_115 (by decide) ?_
                refine lv_iand hx hb dX2_findNodes_116 ?_
                refine lv_icmp_ne (tgt := 126) hx hb dX2_findNodes_117 (by decide) (fun h117 => ?_) (fun h117 => ?_)
                · have hdf : ¬ bi (B j) i = bi (B (j - 1)) i := (not_congr (bit_eq hi32)).mp h117
                  have hcm : CMp B lam j i := ⟨by omega, by omega, hag, fun _ _ => hdf⟩
                  refine lv_aload_n hx hb dX2_findNodes_126 rfl (lv_at hl 0 rfl) ?_
                  refine lv_aload_n hx hb dX2_findNodes_127 rfl (lv_at hl 0 rfl) ?_
                  refine hp_get (ci := 2) (v := .ref ab) (C := RX2) (T := TX2) (N := 8) hx hb hts hin2 hown C0 hf hm2 rfl 1 (by decide) (hts (.fieldLink RX2 7 "RouteTrieModel" "bits" "[I") (by decide +kernel)) (fun _ h9 => h9) rfl dX2_findNodes_128 ?_
                  refine lv_iload_n hx hb dX2_findNodes_131 rfl (lv_at hl 1 rfl) ?_
                  refine hp_iald (n := 500) (g := B) hx hb C0 hf hB2 (vp_in_nI (n := j) (N := 500) (by omega) (by omega)) dX2_findNodes_132 ?_
                  rw [nI_clamp (n := j) (by omega)]
                  refine lv_iload_n hx hb dX2_findNodes_133 rfl (lv_at hl 3 rfl) ?_
                  refine hp_ki (hp_rS (As := [.int (nI i)]) (rest := [.int (B j), .ref qm]) ⟨hx, hb, hml, hown, hts⟩ C0 hf hS (c_X2_mask l D cy base fc (nI i)) (va_cwS 1 hts gX2_findNodes_X2_mask rfl rfl rfl (by decide +kernel) ⟨Nat.le_of_ble_eq_true rfl, Nat.le_of_ble_eq_true rfl⟩) rfl hl.1 rfl (Nat.le_of_ble_eq_true rfl) dX2_findNodes_134 ⟨Nat.le_of_ble_eq_true rfl, Nat.le_of_ble_eq_true rfl⟩) hS (fun r_3 u_3 H locs hq_3 hf hS => ?_)
                  obtain ⟨rfl, hu⟩ := hq_3
                  rw [hu] at hf
                  rw [msk_mk]
                  refine lv_iand hx hb dX2_findNodes_137 ?_
                  refine lv_iload_n hx hb dX2_findNodes_138 rfl (lv_at hl 3 rfl) ?_
                  refine hp_kv (hp_rV (C := RX2) (As := [.int ((B j) &&& (mkI i)), .int (nI i)]) (rest := []) ⟨hx, hb, hml, hown, hts⟩ C0 hf hS (c_X2_add l D cy base fc qm ab al ah nb nl cd (nI n) k NB NL (B j &&& mkI i) (nI i) hm2 hNB2 hNL2 dn (by omega)) (cwV 2 hts gX2_findNodes_X2_add rfl rfl rfl (by decide +kernel) ⟨Nat.le_of_ble_eq_true rfl, Nat.le_of_ble_eq_true rfl⟩) hm2 rfl rfl hl.1 rfl (Nat.le_of_ble_eq_true rfl) dX2_findNodes_139 ⟨Nat.le_of_ble_eq_true rfl, Nat.le_of_ble_eq_true rfl⟩) hS (fun u_4 H locs hq_4 hf hS => ?_)
                  obtain ⟨k', NB', NL', a1, a2, a3, a4, a5, a6⟩ := nd_add hN hm2 hNB2 hNL2 hq_4
                  have hN' : NDp k' NB' NL' (fun y m => PPa n B L y m ∨ PPb (min (j + 1) n) B lam y m) := nd_congr a2 (fun y m => by
                    constructor
                    · intro g
                      rcases g with (g | ⟨i', k2, g1, g2, g3⟩) | ⟨g1, g2⟩
                      · exact Or.inl g
                      · exact Or.inr ⟨i', k2, g1, by omega, g3⟩
                      · exact Or.inr ⟨j, i, by omega, by omega, hcm, g1, g2⟩
                    · intro g
                      rcases g with g | ⟨i', k2, g1, g2, g3, g4, g5⟩
                      · exact Or.inl (Or.inl g)
                      · by_cases e : i' = j
                        · subst e
                          have := cm_uniq g3 hcm
                          subst this
                          exact Or.inr ⟨g4, g5⟩
                        · exact Or.inl (Or.inr ⟨i', k2, g1, by omega, g3, g4, g5⟩))
                  refine lv_iinc (v := ((nI j) + 1)) (lv' := [(1, .int ((nI j) + 1)), (0, .ref qm), (2, .int (nI mm)), (3, .int (nI i))]) hx hb dX2_findNodes_142 hl (k := 1) rfl rfl (by decide) rfl (fun ls hl => ?_)
                  refine lv_goto (tgt := 39) hx hb dX2_findNodes_145 (by decide) ?_
                  rw [nI_1] at hl
                  exact ih (j + 1) k' NB' NL' u_4 ls _ _ (by omega) (by omega) (by omega) (by omega) (fun e => by omega) hN' a3 a4 a5 (fun y g1 g2 g3 => by rw [a6 y g1 g2 g3]; exact hF y g1 g2 g3) hf hS (lv_sub hl [1, 0] rfl)
                · have hdf : bi (B j) i = bi (B (j - 1)) i := (bit_eq hi32).mp h117
                  refine lv_iinc (v := ((nI i) + 1)) (lv' := [(3, .int ((nI i) + 1)), (0, .ref qm), (1, .int (nI j)), (2, .int (nI mm))]) hx hb dX2_findNodes_120 hl (k := 3) rfl rfl (by decide) rfl (fun ls hl => ?_)
                  refine lv_goto (tgt := 84) hx hb dX2_findNodes_123 (by decide) ?_
                  rw [nI_1] at hl
                  exact ihC (i + 1) ls _ _ (by omega) (by omega) (ag_s hag hdf) hf hS (lv_sub hl [1, 2, 3, 0] rfl)
          exact loopC (mm + 1) 0 ls _ _ (by omega) (by omega) ag_0 hf hS (lv_sub hl [2, 3, 1, 0] rfl)
        · refine lv_aload_n hx hb dX2_findNodes_64 rfl (lv_at hl 0 rfl) ?_
          refine hp_get (ci := 2) (v := .ref al) (C := RX2) (T := TX2) (N := 8) hx hb hts hin2 hown C0 hf hm2 rfl 2 (by decide) (hts (.fieldLink RX2 13 "RouteTrieModel" "lengths" "[I") (by decide +kernel)) (fun _ h9 => h9) rfl dX2_findNodes_65 ?_
          refine lv_iload_n hx hb dX2_findNodes_68 rfl (lv_at hl 1 rfl) ?_
          refine hp_iald (n := 500) (g := L) hx hb C0 hf hL2 (vp_in_nI (n := j) (N := 500) (by omega) (by omega)) dX2_findNodes_69 ?_
          rw [nI_clamp (n := j) (by omega)]
          refine lv_goto (tgt := 81) hx hb dX2_findNodes_70 (by decide) ?_
          have hmn : lam j ≤ lam (j - 1) := by rw [ea, eb] at h61; rw [nI_leI (by omega) (by omega)] at h61; omega
          rw [ea]
          obtain ⟨mm, emm, hmm⟩ : ∃ mm, lam j = mm ∧ mm = min (lam j) (lam (j - 1)) := ⟨_, rfl, by omega⟩
          rw [emm]
          refine lv_istore_n (lv' := [(2, .int (nI mm)), (0, .ref qm), (1, .int (nI j))]) hx hb dX2_findNodes_81 rfl hl (by decide) rfl (fun ls hl => ?_)
          refine lv_iconst (v := 0) hx hb dX2_findNodes_82 (by decide) ?_
          refine lv_istore_n (lv' := [(3, .int 0), (2, .int (nI mm)), (0, .ref qm), (1, .int (nI j))]) hx hb dX2_findNodes_83 rfl hl (by decide) rfl (fun ls hl => ?_)
          have loopC : ∀ (c1 i : Nat) (ls : Array Slot) (H : Heap) (locs : List Loc), i ≤ mm → mm + 1 ≤ i + c1 → ag (B j) (B (j - 1)) i → hp_ok D base fc H → va_S (hp_A base) s.heap H locs → lv_has ls 4 [(0, .ref qm), (1, .int (nI j)), (2, .int (nI mm)), (3, .int (nI i))] → W p l e (headSpec wsX2_findNodes ({ frames := 1, cells := 0, slots := 0, locals := 23 } : Room)).room s m #[Value.ref qm] below meth c H locs 0 0 (MQ below (va_Qv (fun (u : AH) => FNp cy f qm ab al ah nb nl cd n B L lam u) (hp_B D cy base) (hp_A base)) #[Value.ref qm] s 0 0 (hp_A base)) (F0 m 84 ls []) := by
            intro c1
            induction c1 with
            | zero => intro i _ _ _ h1 h2; exact absurd h2 (by omega)
            | succ c1 ihC =>
              intro i ls H locs hi hc1 hag hf hS hl
              refine lv_iload_n hx hb dX2_findNodes_84 rfl (lv_at hl 3 rfl) ?_
              refine lv_iload_n hx hb dX2_findNodes_85 rfl (lv_at hl 2 rfl) ?_
              refine lv_icmp_ge (tgt := 126) hx hb dX2_findNodes_86 (by decide) (fun h86 => ?_) (fun h86 => ?_)
              · have him : i = mm := by have := (nI_leI (by omega) (by omega)).mp h86; omega
                have hcm : CMp B lam j i := ⟨by omega, by omega, hag, fun g1 g2 => absurd g2 (by omega)⟩
                refine lv_aload_n hx hb dX2_findNodes_126 rfl (lv_at hl 0 rfl) ?_
                refine lv_aload_n hx hb dX2_findNodes_127 rfl (lv_at hl 0 rfl) ?_
                refine hp_get (ci := 2) (v := .ref ab) (C := RX2) (T := TX2) (N := 8) hx hb hts hin2 hown C0 hf hm2 rfl 1 (by decide) (hts (.fieldLink RX2 7 "RouteTrieModel" "bits" "[I") (by decide +kernel)) (fun _ h9 => h9) rfl dX2_findNodes_128 ?_
                refine lv_iload_n hx hb dX2_findNodes_131 rfl (lv_at hl 1 rfl) ?_
                refine hp_iald (n := 500) (g := B) hx hb C0 hf hB2 (vp_in_nI (n := j) (N := 500) (by omega) (by omega)) dX2_findNodes_132 ?_
                rw [nI_clamp (n := j) (by omega)]
                refine lv_iload_n hx hb dX2_findNodes_133 rfl (lv_at hl 3 rfl) ?_
                refine hp_ki (hp_rS (As := [.int (nI i)]) (rest := [.int (B j), .ref qm]) ⟨hx, hb, hml, hown, hts⟩ C0 hf hS (c_X2_mask l D cy base fc (nI i)) (va_cwS 1 hts gX2_findNodes_X2_mask rfl rfl rfl (by decide +kernel) ⟨Nat.le_of_ble_eq_true rfl, Nat.le_of_ble_eq_true rfl⟩) rfl hl.1 rfl (Nat.le_of_ble_eq_true rfl) dX2_findNodes_134 ⟨Nat.le_of_ble_eq_true rfl, Nat.le_of_ble_eq_true rfl⟩) hS (fun r_5 u_5 H locs hq_5 hf hS => ?_)
                obtain ⟨rfl, hu⟩ := hq_5
                rw [hu] at hf
                rw [msk_mk]
                refine lv_iand hx hb dX2_findNodes_137 ?_
                refine lv_iload_n hx hb dX2_findNodes_138 rfl (lv_at hl 3 rfl) ?_
                refine hp_kv (hp_rV (C := RX2) (As := [.int ((B j) &&& (mkI i)), .int (nI i)]) (rest := []) ⟨hx, hb, hml, hown, hts⟩ C0 hf hS (c_X2_add l D cy base fc qm ab al ah nb nl cd (nI n) k NB NL (B j &&& mkI i) (nI i) hm2 hNB2 hNL2 dn (by omega)) (cwV 2 hts gX2_findNodes_X2_add rfl rfl rfl (by decide +kernel) ⟨Nat.le_of_ble_eq_true rfl, Nat.le_of_ble_eq_true rfl⟩) hm2 rfl rfl hl.1 rfl (Nat.le_of_ble_eq_true rfl) dX2_findNodes_139 ⟨Nat.le_of_ble_eq_true rfl, Nat.le_of_ble_eq_true rfl⟩) hS (fun u_6 H locs hq_6 hf hS => ?_)
                obtain ⟨k', NB', NL', a1, a2, a3, a4, a5, a6⟩ := nd_add hN hm2 hNB2 hNL2 hq_6
                have hN' : NDp k' NB' NL' (fun y m => PPa n B L y m ∨ PPb (min (j + 1) n) B lam y m) := nd_congr a2 (fun y m => by
                  constructor
                  · intro g
                    rcases g with (g | ⟨i', k2, g1, g2, g3⟩) | ⟨g1, g2⟩
                    · exact Or.inl g
                    · exact Or.inr ⟨i', k2, g1, by omega, g3⟩
                    · exact Or.inr ⟨j, i, by omega, by omega, hcm, g1, g2⟩
                  · intro g
                    rcases g with g | ⟨i', k2, g1, g2, g3, g4, g5⟩
                    · exact Or.inl (Or.inl g)
                    · by_cases e : i' = j
                      · subst e
                        have := cm_uniq g3 hcm
                        subst this
                        exact Or.inr ⟨g4, g5⟩
                      · exact Or.inl (Or.inr ⟨i', k2, g1, by omega, g3, g4, g5⟩))
                refine lv_iinc (v := ((nI j) + 1)) (lv' := [(1, .int ((nI j) + 1)), (0, .ref qm), (2, .int (nI mm)), (3, .int (nI i))]) hx hb dX2_findNodes_142 hl (k := 1) rfl rfl (by decide) rfl (fun ls hl => ?_)
                refine lv_goto (tgt := 39) hx hb dX2_findNodes_145 (by decide) ?_
                rw [nI_1] at hl
                exact ih (j + 1) k' NB' NL' u_6 ls _ _ (by omega) (by omega) (by omega) (by omega) (fun e => by omega) hN' a3 a4 a5 (fun y g1 g2 g3 => by rw [a6 y g1 g2 g3]; exact hF y g1 g2 g3) hf hS (lv_sub hl [1, 0] rfl)
              · have him : i < mm := Nat.not_le.mp (fun q => h86 ((nI_leI (by omega) (by omega)).mpr q))
                have hi32 : i < 32 := by omega
                refine lv_aload_n hx hb dX2_findNodes_89 rfl (lv_at hl 0 rfl) ?_
                refine hp_get (ci := 2) (v := .ref ab) (C := RX2) (T := TX2) (N := 8) hx hb hts hin2 hown C0 hf hm2 rfl 1 (by decide) (hts (.fieldLink RX2 7 "RouteTrieModel" "bits" "[I") (by decide +kernel)) (fun _ h9 => h9) rfl dX2_findNodes_90 ?_
                refine lv_iload_n hx hb dX2_findNodes_93 rfl (lv_at hl 1 rfl) ?_
                refine hp_iald (n := 500) (g := B) hx hb C0 hf hB2 (vp_in_nI (n := j) (N := 500) (by omega) (by omega)) dX2_findNodes_94 ?_
                rw [nI_clamp (n := j) (by omega)]
                refine lv_bipush (v := 31) hx hb dX2_findNodes_95 (by decide) ?_
                refine lv_iload_n hx hb dX2_findNodes_97 rfl (lv_at hl 3 rfl) ?_
                refine lv_isub hx hb dX2_findNodes_98 ?_
                refine lv_iushr hx hb dX2_findNodes_99 rfl ?_
                refine lv_iconst (v := 1) hx hb dX2_findNodes_100 (by decide) ?_
                refine lv_iand hx hb dX2_findNodes_101 ?_
                refine lv_aload_n hx hb dX2_findNodes_102 rfl (lv_at hl 0 rfl) ?_
                refine hp_get (ci := 2) (v := .ref ab) (C := RX2) (T := TX2) (N := 8) hx hb hts hin2 hown C0 hf hm2 rfl 1 (by decide) (hts (.fieldLink RX2 7 "RouteTrieModel" "bits" "[I") (by decide +kernel)) (fun _ h9 => h9) rfl dX2_findNodes_103 ?_
                refine lv_iload_n hx hb dX2_findNodes_106 rfl (lv_at hl 1 rfl) ?_
                refine lv_iconst (v := 1) hx hb dX2_findNodes_107 (by decide) ?_
                refine lv_isub hx hb dX2_findNodes_108 ?_
                rw [show (((nI j) - 1) : Int32) = nI (j - 1) from (pk_sub (a := j) (b := 1) (by omega))]
                refine hp_iald (n := 500) (g := B) hx hb C0 hf hB2 (vp_in_nI (n := (j - 1)) (N := 500) (by omega) (by omega)) dX2_findNodes_109 ?_
                rw [nI_clamp (n := (j - 1)) (by omega)]
                refine lv_bipush (v := 31) hx hb dX2_findNodes_110 (by decide) ?_
                refine lv_iload_n hx hb dX2_findNodes_112 rfl (lv_at hl 3 rfl) ?_
                refine lv_isub hx hb dX2_findNodes_113 ?_
                refine lv_iushr hx hb dX2_findNodes_114 rfl ?_
                refine lv_iconst (v := 1) hx hb dX2_findNodes_115 (by decide) ?_
                refine lv_iand hx hb dX2_findNodes_116 ?_
                refine lv_icmp_ne (tgt := 126) hx hb dX2_findNodes_117 (by decide) (fun h117 => ?_) (fun h117 => ?_)
                · have hdf : ¬ bi (B j) i = bi (B (j - 1)) i := (not_congr (bit_eq hi32)).mp h117
                  have hcm : CMp B lam j i := ⟨by omega, by omega, hag, fun _ _ => hdf⟩
                  refine lv_aload_n hx hb dX2_findNodes_126 rfl (lv_at hl 0 rfl) ?_
                  refine lv_aload_n hx hb dX2_findNodes_127 rfl (lv_at hl 0 rfl) ?_
                  refine hp_get (ci := 2) (v := .ref ab) (C := RX2) (T := TX2) (N := 8) hx hb hts hin2 hown C0 hf hm2 rfl 1 (by decide) (hts (.fieldLink RX2 7 "RouteTrieModel" "bits" "[I") (by decide +kernel)) (fun _ h9 => h9) rfl dX2_findNodes_128 ?_
                  refine lv_iload_n hx hb dX2_findNodes_131 rfl (lv_at hl 1 rfl) ?_
                  refine hp_iald (n := 500) (g := B) hx hb C0 hf hB2 (vp_in_nI (n := j) (N := 500) (by omega) (by omega)) dX2_findNodes_132 ?_
                  rw [nI_clamp (n := j) (by omega)]
                  refine lv_iload_n hx hb dX2_findNodes_133 rfl (lv_at hl 3 rfl) ?_
                  refine hp_ki (hp_rS (As := [.int (nI i)]) (rest := [.int (B j), .ref qm]) ⟨hx, hb, hml, hown, hts⟩ C0 hf hS (c_X2_mask l D cy base fc (nI i)) (va_cwS 1 hts gX2_findNodes_X2_mask rfl rfl rfl (by decide +kernel) ⟨Nat.le_of_ble_eq_true rfl, Nat.le_of_ble_eq_true rfl⟩) rfl hl.1 rfl (Nat.le_of_ble_eq_true rfl) dX2_findNodes_134 ⟨Nat.le_of_ble_eq_true rfl, Nat.le_of_ble_eq_true rfl⟩) hS (fun r_7 u_7 H locs hq_7 hf hS => ?_)
                  obtain ⟨rfl, hu⟩ := hq_7
                  rw [hu] at hf
                  rw [msk_mk]
                  refine lv_iand hx hb dX2_findNodes_137 ?_
                  refine lv_iload_n hx hb dX2_findNodes_138 rfl (lv_at hl 3 rfl) ?_
                  refine hp_kv (hp_rV (C := RX2) (As := [.int ((B j) &&& (mkI i)), .int (nI i)]) (rest := []) ⟨hx, hb, hml, hown, hts⟩ C0 hf hS (c_X2_add l D cy base fc qm ab al ah nb nl cd (nI n) k NB NL (B j &&& mkI i) (nI i) hm2 hNB2 hNL2 dn (by omega)) (cwV 2 hts gX2_findNodes_X2_add rfl rfl rfl (by decide +kernel) ⟨Nat.le_of_ble_eq_true rfl, Nat.le_of_ble_eq_true rfl⟩) hm2 rfl rfl hl.1 rfl (Nat.le_of_ble_eq_true rfl) dX2_findNodes_139 ⟨Nat.le_of_ble_eq_true rfl, Nat.le_of_ble_eq_true rfl⟩) hS (fun u_8 H locs hq_8 hf hS => ?_)
                  obtain ⟨k', NB', NL', a1, a2, a3, a4, a5, a6⟩ := nd_add hN hm2 hNB2 hNL2 hq_8
                  have hN' : NDp k' NB' NL' (fun y m => PPa n B L y m ∨ PPb (min (j + 1) n) B lam y m) := nd_congr a2 (fun y m => by
                    constructor
                    · intro g
                      rcases g with (g | ⟨i', k2, g1, g2, g3⟩) | ⟨g1, g2⟩
                      · exact Or.inl g
                      · exact Or.inr ⟨i', k2, g1, by omega, g3⟩
                      · exact Or.inr ⟨j, i, by omega, by omega, hcm, g1, g2⟩
                    · intro g
                      rcases g with g | ⟨i', k2, g1, g2, g3, g4, g5⟩
                      · exact Or.inl (Or.inl g)
                      · by_cases e : i' = j
                        · subst e
                          have := cm_uniq g3 hcm
                          subst this
                          exact Or.inr ⟨g4, g5⟩
                        · exact Or.inl (Or.inr ⟨i', k2, g1, by omega, g3, g4, g5⟩))
                  refine lv_iinc (v := ((nI j) + 1)) (lv' := [(1, .int ((nI j) + 1)), (0, .ref qm), (2, .int (nI mm)), (3, .int (nI i))]) hx hb dX2_findNodes_142 hl (k := 1) rfl rfl (by decide) rfl (fun ls hl => ?_)
                  refine lv_goto (tgt := 39) hx hb dX2_findNodes_145 (by decide) ?_
                  rw [nI_1] at hl
                  exact ih (j + 1) k' NB' NL' u_8 ls _ _ (by omega) (by omega) (by omega) (by omega) (fun e => by omega) hN' a3 a4 a5 (fun y g1 g2 g3 => by rw [a6 y g1 g2 g3]; exact hF y g1 g2 g3) hf hS (lv_sub hl [1, 0] rfl)
                · have hdf : bi (B j) i = bi (B (j - 1)) i := (bit_eq hi32).mp h117
                  refine lv_iinc (v := ((nI i) + 1)) (lv' := [(3, .int ((nI i) + 1)), (0, .ref qm), (1, .int (nI j)), (2, .int (nI mm))]) hx hb dX2_findNodes_120 hl (k := 3) rfl rfl (by decide) rfl (fun ls hl => ?_)
                  refine lv_goto (tgt := 84) hx hb dX2_findNodes_123 (by decide) ?_
                  rw [nI_1] at hl
                  exact ihC (i + 1) ls _ _ (by omega) (by omega) (ag_s hag hdf) hf hS (lv_sub hl [1, 2, 3, 0] rfl)
          exact loopC (mm + 1) 0 ls _ _ (by omega) (by omega) ag_0 hf hS (lv_sub hl [2, 3, 1, 0] rfl)
  have loopA : ∀ (c0 j k : Nat) (NB NL : Nat → Int32) (fc : AH) (ls : Array Slot) (H : Heap) (locs : List Loc), j ≤ n → n + 1 ≤ j + c0 → k ≤ j → NDp k NB NL (fun y m => PPa j B L y m) → fc qm = some (mdO cd ab al ah (nI n) nb nl (nI k)) → fc nb = some (arO cy 1000 NB) → fc nl = some (arO cy 1000 NL) → FM3 f fc qm nb nl → hp_ok D base fc H → va_S (hp_A base) s.heap H locs → lv_has ls 4 [(0, .ref qm), (1, .int (nI j))] → W p l e (headSpec wsX2_findNodes ({ frames := 1, cells := 0, slots := 0, locals := 23 } : Room)).room s m #[Value.ref qm] below meth c H locs 0 0 (MQ below (va_Qv (fun (u : AH) => FNp cy f qm ab al ah nb nl cd n B L lam u) (hp_B D cy base) (hp_A base)) #[Value.ref qm] s 0 0 (hp_A base)) (F0 m 7 ls []) := by
    intro c0
    induction c0 with
    | zero => intro j k _ _ _ _ _ _ h1 h2; exact absurd h2 (by omega)
    | succ c0 ih =>
      intro j k NB NL fc ls H locs hj hc hk hN hm2 hNB2 hNL2 hF hf hS hl
      have hB2 : fc ab = some (arO cy 500 B) := by rw [hF ab nqa d1 d2]; exact hB
      have hL2 : fc al = some (arO cy 500 L) := by rw [hF al nql d3 d4]; exact hL
      refine lv_iload_n hx hb dX2_findNodes_7 rfl (lv_at hl 1 rfl) ?_
      refine lv_aload_n hx hb dX2_findNodes_8 rfl (lv_at hl 0 rfl) ?_
      refine hp_get (ci := 2) (v := .int (nI n)) (C := RX2) (T := TX2) (N := 8) hx hb hts hin2 hown C0 hf hm2 rfl 4 (by decide) (hts (.fieldLink RX2 29 "RouteTrieModel" "size" "I") (by decide +kernel)) (fun _ h9 => h9) rfl dX2_findNodes_9 ?_
      refine lv_icmp_ge (tgt := 37) hx hb dX2_findNodes_12 (by decide) (fun h12 => ?_) (fun h12 => ?_)
      · have hjn : j = n := by have := (nI_leI (by omega) (by omega)).mp h12; omega
        subst hjn
        refine lv_iconst (v := 1) hx hb dX2_findNodes_37 (by decide) ?_
        refine lv_istore_n (lv' := [(1, .int 1), (0, .ref qm)]) hx hb dX2_findNodes_38 rfl hl (by decide) rfl (fun ls hl => ?_)
        have hl : lv_has ls 4 [(1, .int (nI 1)), (0, .ref qm)] := hl
        exact loopB (j + 1) 1 k NB NL fc ls _ _ (by omega) (Or.inr rfl) (by omega) (by omega) (fun e => by omega) (nd_congr hN (fun y m => ⟨Or.inl, fun g => g.elim id (fun ⟨i', k2, g1, g2, _⟩ => absurd g2 (by omega))⟩)) hm2 hNB2 hNL2 hF hf hS (lv_sub hl [1, 0] rfl)
      · have hjn : j < n := Nat.not_le.mp (fun q => h12 ((nI_leI (by omega) (by omega)).mpr q))
        refine lv_aload_n hx hb dX2_findNodes_15 rfl (lv_at hl 0 rfl) ?_
        refine lv_aload_n hx hb dX2_findNodes_16 rfl (lv_at hl 0 rfl) ?_
        refine hp_get (ci := 2) (v := .ref ab) (C := RX2) (T := TX2) (N := 8) hx hb hts hin2 hown C0 hf hm2 rfl 1 (by decide) (hts (.fieldLink RX2 7 "RouteTrieModel" "bits" "[I") (by decide +kernel)) (fun _ h9 => h9) rfl dX2_findNodes_17 ?_
        refine lv_iload_n hx hb dX2_findNodes_20 rfl (lv_at hl 1 rfl) ?_
        refine hp_iald (n := 500) (g := B) hx hb C0 hf hB2 (vp_in_nI (n := j) (N := 500) (by omega) (by omega)) dX2_findNodes_21 ?_
        rw [nI_clamp (n := j) (by omega)]
        refine lv_aload_n hx hb dX2_findNodes_22 rfl (lv_at hl 0 rfl) ?_
        refine hp_get (ci := 2) (v := .ref al) (C := RX2) (T := TX2) (N := 8) hx hb hts hin2 hown C0 hf hm2 rfl 2 (by decide) (hts (.fieldLink RX2 13 "RouteTrieModel" "lengths" "[I") (by decide +kernel)) (fun _ h9 => h9) rfl dX2_findNodes_23 ?_
        refine lv_iload_n hx hb dX2_findNodes_26 rfl (lv_at hl 1 rfl) ?_
        refine hp_iald (n := 500) (g := L) hx hb C0 hf hL2 (vp_in_nI (n := j) (N := 500) (by omega) (by omega)) dX2_findNodes_27 ?_
        rw [nI_clamp (n := j) (by omega)]
        refine hp_kv (hp_rV (C := RX2) (As := [.int (B j), .int (L j)]) (rest := []) ⟨hx, hb, hml, hown, hts⟩ C0 hf hS (c_X2_add l D cy base fc qm ab al ah nb nl cd (nI n) k NB NL (B j) (L j) hm2 hNB2 hNL2 dn (by omega)) (cwV 2 hts gX2_findNodes_X2_add rfl rfl rfl (by decide +kernel) ⟨Nat.le_of_ble_eq_true rfl, Nat.le_of_ble_eq_true rfl⟩) hm2 rfl rfl hl.1 rfl (Nat.le_of_ble_eq_true rfl) dX2_findNodes_28 ⟨Nat.le_of_ble_eq_true rfl, Nat.le_of_ble_eq_true rfl⟩) hS (fun u_1 H locs hq_1 hf hS => ?_)
        obtain ⟨k', NB', NL', a1, a2, a3, a4, a5, a6⟩ := nd_add hN hm2 hNB2 hNL2 hq_1
        have hN' : NDp k' NB' NL' (fun y m => PPa (j + 1) B L y m) := nd_congr a2 (fun y m => by
          constructor
          · intro g
            rcases g with ⟨i', g1, g2⟩ | ⟨g1, g2⟩
            · exact ⟨i', by omega, g2⟩
            · exact ⟨j, by omega, g1.symm, g2.symm⟩
          · intro ⟨i', g1, g2, g3⟩
            by_cases e : i' = j
            · subst e; exact Or.inr ⟨g2.symm, g3.symm⟩
            · exact Or.inl ⟨i', by omega, g2, g3⟩)
        refine lv_iinc (v := ((nI j) + 1)) (lv' := [(1, .int ((nI j) + 1)), (0, .ref qm)]) hx hb dX2_findNodes_31 hl (k := 1) rfl rfl (by decide) rfl (fun ls hl => ?_)
        refine lv_goto (tgt := 7) hx hb dX2_findNodes_34 (by decide) ?_
        rw [nI_1] at hl
        exact ih (j + 1) k' NB' NL' u_1 ls _ _ (by omega) (by omega) (by omega) hN' a3 a4 a5 (fun y g1 g2 g3 => by rw [a6 y g1 g2 g3]; exact hF y g1 g2 g3) hf hS (lv_sub hl [1, 0] rfl)
  refine lv_aload_n hx hb dX2_findNodes_0 rfl (lv_at hl 0 rfl) ?_
  refine lv_iconst (v := 0) hx hb dX2_findNodes_1 (by decide) ?_
  refine hp_put (ci := 2) (v := .int 0) (C := RX2) (T := TX2) (N := 8) hx hb hts hin2 tyX2 tyX2_ok nmX2 hown C0 hf hS hm rfl 7 (by decide) (hts (.fieldLink RX2 55 "RouteTrieModel" "nodeCount" "I") (by decide +kernel)) (fun _ h9 => h9) rfl rfl rfl (Nat.le_of_ble_eq_true rfl) dX2_findNodes_2 (fun f_1 H locs ef_1 hf hS => ?_)
  have hc_1 : f_1 qm = some (.inr (2, [.int cd, .ref ab, .ref al, .ref ah, .int (nI n), .ref nb, .ref nl, .int 0])) := by rw [ef_1]; exact va_up_self _ _ _
  have hc_1_nb : f_1 nb = some (.inl (cy, 1000, .inl NB0)) := by rw [ef_1, va_up_ne _ _ (hp_dif hNB hm (by simp))]; exact hNB
  have hc_1_nl : f_1 nl = some (.inl (cy, 1000, .inl NL0)) := by rw [ef_1, va_up_ne _ _ (hp_dif hNL hm (by simp))]; exact hNL
  refine lv_iconst (v := 0) hx hb dX2_findNodes_5 (by decide) ?_
  refine lv_istore_n (lv' := [(1, .int 0), (0, .ref qm)]) hx hb dX2_findNodes_6 rfl hl (by decide) rfl (fun ls hl => ?_)
  exact loopA (n + 1) 0 0 NB0 NL0 f_1 ls _ _ (by omega) (by omega) (by omega) (nd_congr nd_0 (fun y m => ⟨fun g => g.elim, fun ⟨i, g, _⟩ => absurd g (by omega)⟩)) hc_1 hc_1_nb hc_1_nl (fun y g1 _ _ => by rw [ef_1, va_up_ne _ _ g1]) hf hS (lv_sub hl [1, 0] rfl)
set_option maxHeartbeats 4000000 in
set_option maxRecDepth 100000 in
theorem c_X2_nodes (l : Launch) (D : va_G) (cy : ClassId) (base : Nat) (f : AH) (qm ab al ah nb nl : Nat) (cd nc : Int32) (n : Nat) (B L NB0 NL0 : Nat → Int32) (lam : Nat → Nat) (hm : f qm = some (mdO cd ab al ah (nI n) nb nl nc)) (hB : f ab = some (arO cy 500 B)) (hL : f al = some (arO cy 500 L)) (hNB : f nb = some (arO cy 1000 NB0)) (hNL : f nl = some (arO cy 1000 NL0)) (hn : n ≤ 500) (hlam : ∀ j, j < n → L j = nI (lam j) ∧ lam j ≤ 32) (dn : nb ≠ nl) (d1 : ab ≠ nb) (d2 : ab ≠ nl) (d3 : al ≠ nb) (d4 : al ≠ nl) : Met l yX2_nodes wsX2_nodes ({ frames := 2, cells := 0, slots := 0, locals := 46 }) (va_Pc [.ref qm] (hp_B D cy base f)) (va_Qi (fun (r : Int32) (u : AH) => ∃ (k : Nat) (NB NL : Nat → Int32), k ≤ 999 ∧ NDp k NB NL (fun y m => PPa n B L y m ∨ PPb n B lam y m) ∧ r = nI (k + 1) ∧ u qm = some (mdO 0 ab al ah (nI n) nb nl (nI k)) ∧ u nb = some (arO cy 1000 NB) ∧ u nl = some (arO cy 1000 NL) ∧ FM3 f u qm nb nl) (hp_B D cy base) (hp_A base)) 0 0 (hp_A base) := by
  refine Met.ofW (cc := cX2_nodes) (maxL := 1) (ret := (some .int)) (by decide) rfl ?_
  intro p e s m args below meth c s₁ Bd hml hv
  obtain ⟨rfl, hf, C0⟩ := hv
  have hx := Bd.exec
  have hb := Bd.bytes
  have hr := Bd.returns
  have hts := atoms_spec (ws := wsX2_nodes) Bd.pre
  have hown : s.vm.findClass RX2 = some m.cls := findClass_of_methodNamed Bd.named
  have hlocks := Bd.notSynchronized
  have hin2 : ∀ w ∈ wsX20, w ∈ wsX2_nodes := by decide +kernel
  have hS : va_S (hp_A base) s.heap s.heap [] := va_S.rf
  have hl := lv_entry ([.ref qm]) (n := 1) (Nat.le_of_ble_eq_true rfl)
  rw [lg_entry_eq]
  generalize (lg_sl ([.ref qm]) ++ List.replicate (1 - (lg_sl ([.ref qm])).length) Slot.unset).toArray = ls at hl ⊢
  have hl : lv_has ls 1 [(0, .ref qm)] := hl
  refine lv_aload_n hx hb dX2_nodes_0 rfl (lv_at hl 0 rfl) ?_
  refine lv_iconst (v := 0) hx hb dX2_nodes_1 (by decide) ?_
  refine hp_put (ci := 2) (v := .int 0) (C := RX2) (T := TX2) (N := 8) hx hb hts hin2 tyX2 tyX2_ok nmX2 hown C0 hf hS hm rfl 0 (by decide) (hts (.fieldLink RX2 25 "RouteTrieModel" "code" "I") (by decide +kernel)) (fun _ h9 => h9) rfl rfl rfl (Nat.le_of_ble_eq_true rfl) dX2_nodes_2 (fun f_1 H locs ef_1 hf hS => ?_)
  have hc_1 : f_1 qm = some (.inr (2, [.int 0, .ref ab, .ref al, .ref ah, .int (nI n), .ref nb, .ref nl, .int nc])) := by rw [ef_1]; exact va_up_self _ _ _
  have hc_1_ab : f_1 ab = some (.inl (cy, 500, .inl B)) := by rw [ef_1, va_up_ne _ _ (hp_dif hB hm (by simp))]; exact hB
  have hc_1_al : f_1 al = some (.inl (cy, 500, .inl L)) := by rw [ef_1, va_up_ne _ _ (hp_dif hL hm (by simp))]; exact hL
  have hc_1_nb : f_1 nb = some (.inl (cy, 1000, .inl NB0)) := by rw [ef_1, va_up_ne _ _ (hp_dif hNB hm (by simp))]; exact hNB
  have hc_1_nl : f_1 nl = some (.inl (cy, 1000, .inl NL0)) := by rw [ef_1, va_up_ne _ _ (hp_dif hNL hm (by simp))]; exact hNL
  refine lv_aload_n hx hb dX2_nodes_5 rfl (lv_at hl 0 rfl) ?_
  refine hp_kv (hp_rV (C := RX2) (As := []) (rest := []) ⟨hx, hb, hml, hown, hts⟩ C0 hf hS (c_X2_findNodes l D cy base f_1 qm ab al ah nb nl 0 nc n B L NB0 NL0 lam hc_1 hc_1_ab hc_1_al hc_1_nb hc_1_nl hn hlam dn d1 d2 d3 d4) (cwV 0 hts gX2_nodes_X2_findNodes rfl rfl rfl (by decide +kernel) ⟨Nat.le_of_ble_eq_true rfl, Nat.le_of_ble_eq_true rfl⟩) hc_1 rfl rfl hl.1 rfl (Nat.le_of_ble_eq_true rfl) dX2_nodes_6 ⟨Nat.le_of_ble_eq_true rfl, Nat.le_of_ble_eq_true rfl⟩) hS (fun u_2 H locs hq_2 hf hS => ?_)
  obtain ⟨k, NB, NL, k1, k2, k3, k4, k5, k6⟩ := hq_2
  refine lv_iconst (v := 1) hx hb dX2_nodes_9 (by decide) ?_
  refine lv_aload_n hx hb dX2_nodes_10 rfl (lv_at hl 0 rfl) ?_
  refine hp_get (ci := 2) (v := .int (nI k)) (C := RX2) (T := TX2) (N := 8) hx hb hts hin2 hown C0 hf k3 rfl 7 (by decide) (hts (.fieldLink RX2 55 "RouteTrieModel" "nodeCount" "I") (by decide +kernel)) (fun _ h9 => h9) rfl dX2_nodes_11 ?_
  refine lv_iadd hx hb dX2_nodes_14 ?_
  exact hp_iret (v := (1 + (nI k))) hx hb hr hlocks C0 hf hS (by first | exact Nat.le_refl _ | omega) (by first | exact Nat.le_refl _ | omega) dX2_nodes_15 (⟨k, NB, NL, k1, k2, by rw [show (1 : Int32) = nI 1 from rfl, nI_add, Nat.add_comm], k3, k4, k5, fun y g1 g2 g3 => by rw [k6 y g1 g2 g3, ef_1, va_up_ne _ _ g1]⟩)
set_option maxHeartbeats 4000000 in
set_option maxRecDepth 100000 in
theorem c_X2_depth (l : Launch) (D : va_G) (cy : ClassId) (base : Nat) (f : AH) (qm ab al ah nb nl : Nat) (cd nc : Int32) (n : Nat) (B L NB0 NL0 : Nat → Int32) (lam : Nat → Nat) (x : Int32) (hm : f qm = some (mdO cd ab al ah (nI n) nb nl nc)) (hB : f ab = some (arO cy 500 B)) (hL : f al = some (arO cy 500 L)) (hNB : f nb = some (arO cy 1000 NB0)) (hNL : f nl = some (arO cy 1000 NL0)) (hn : n ≤ 500) (hlam : ∀ j, j < n → L j = nI (lam j) ∧ lam j ≤ 32) (dn : nb ≠ nl) (d1 : ab ≠ nb) (d2 : ab ≠ nl) (d3 : al ≠ nb) (d4 : al ≠ nl) : Met l yX2_depth wsX2_depth ({ frames := 2, cells := 0, slots := 0, locals := 46 }) (va_Pc [.ref qm, .int x] (hp_B D cy base f)) (va_Qi (fun (r : Int32) (u : AH) => ∃ (k : Nat) (NB NL : Nat → Int32), k ≤ 999 ∧ NDp k NB NL (fun y m => PPa n B L y m ∨ PPb n B lam y m) ∧ r = nI ((List.range k).countP (fun j => x &&& mskI (NL j) == NB j) + 1) ∧ u qm = some (mdO 0 ab al ah (nI n) nb nl (nI k)) ∧ u nb = some (arO cy 1000 NB) ∧ u nl = some (arO cy 1000 NL) ∧ FM3 f u qm nb nl) (hp_B D cy base) (hp_A base)) 0 0 (hp_A base) := by
  refine Met.ofW (cc := cX2_depth) (maxL := 4) (ret := (some .int)) (by decide) rfl ?_
  intro p e s m args below meth c s₁ Bd hml hv
  obtain ⟨rfl, hf, C0⟩ := hv
  have hx := Bd.exec
  have hb := Bd.bytes
  have hr := Bd.returns
  have hts := atoms_spec (ws := wsX2_depth) Bd.pre
  have hown : s.vm.findClass RX2 = some m.cls := findClass_of_methodNamed Bd.named
  have hlocks := Bd.notSynchronized
  have hin2 : ∀ w ∈ wsX20, w ∈ wsX2_depth := by decide +kernel
  have hS : va_S (hp_A base) s.heap s.heap [] := va_S.rf
  have hl := lv_entry ([.ref qm, .int x]) (n := 4) (Nat.le_of_ble_eq_true rfl)
  rw [lg_entry_eq]
  generalize (lg_sl ([.ref qm, .int x]) ++ List.replicate (4 - (lg_sl ([.ref qm, .int x])).length) Slot.unset).toArray = ls at hl ⊢
  have hl : lv_has ls 4 [(0, .ref qm), (1, .int x)] := hl
  have loop : ∀ (k : Nat) (NB NL : Nat → Int32) (fc : AH), k ≤ 999 → NDp k NB NL (fun y m => PPa n B L y m ∨ PPb n B lam y m) → fc qm = some (mdO 0 ab al ah (nI n) nb nl (nI k)) → fc nb = some (arO cy 1000 NB) → fc nl = some (arO cy 1000 NL) → FM3 f fc qm nb nl → ∀ (c0 j : Nat) (ls : Array Slot) (H : Heap) (locs : List Loc), j ≤ k → k + 1 ≤ j + c0 → hp_ok D base fc H → va_S (hp_A base) s.heap H locs → lv_has ls 4 [(0, .ref qm), (1, .int x), (2, .int (nI ((List.range j).countP (fun j => x &&& mskI (NL j) == NB j) + 1))), (3, .int (nI j))] → W p l e (headSpec wsX2_depth ({ frames := 2, cells := 0, slots := 0, locals := 46 } : Room)).room s m #[Value.ref qm, Value.int x] below meth c H locs 0 0 (MQ below (va_Qi (fun (r : Int32) (u : AH) => ∃ (k : Nat) (NB NL : Nat → Int32), k ≤ 999 ∧ NDp k NB NL (fun y m => PPa n B L y m ∨ PPb n B lam y m) ∧ r = nI ((List.range k).countP (fun j => x &&& mskI (NL j) == NB j) + 1) ∧ u qm = some (mdO 0 ab al ah (nI n) nb nl (nI k)) ∧ u nb = some (arO cy 1000 NB) ∧ u nl = some (arO cy 1000 NL) ∧ FM3 f u qm nb nl) (hp_B D cy base) (hp_A base)) #[Value.ref qm, Value.int x] s 0 0 (hp_A base)) (F0 m 13 ls []) := by
    intro k NB NL fc k1 k2 k3 k4 k5 k6 c0
    induction c0 with
    | zero => intro j _ _ _ h1 h2; exact absurd h2 (by omega)
    | succ c0 ih =>
      intro j ls H locs hj hc hf hS hl
      refine lv_iload_n hx hb dX2_depth_13 rfl (lv_at hl 3 rfl) ?_
      refine lv_aload_n hx hb dX2_depth_14 rfl (lv_at hl 0 rfl) ?_
      refine hp_get (ci := 2) (v := .int (nI k)) (C := RX2) (T := TX2) (N := 8) hx hb hts hin2 hown C0 hf k3 rfl 7 (by decide) (hts (.fieldLink RX2 55 "RouteTrieModel" "nodeCount" "I") (by decide +kernel)) (fun _ h9 => h9) rfl dX2_depth_15 ?_
      refine lv_icmp_ge (tgt := 54) hx hb dX2_depth_18 (by decide) (fun h18 => ?_) (fun h18 => ?_)
      · have hjn : j = k := by have := (nI_leI (by omega) (by omega)).mp h18; omega
        subst hjn
        refine lv_iload_n hx hb dX2_depth_54 rfl (lv_at hl 2 rfl) ?_
        exact hp_iret (v := nI ((List.range j).countP (fun j => x &&& mskI (NL j) == NB j) + 1)) hx hb hr hlocks C0 hf hS (by first | exact Nat.le_refl _ | omega) (by first | exact Nat.le_refl _ | omega) dX2_depth_55 (⟨j, NB, NL, k1, k2, rfl, k3, k4, k5, k6⟩)
      · have hjn : j < k := Nat.not_le.mp (fun q => h18 ((nI_leI (by omega) (by omega)).mpr q))
        refine lv_iload_n hx hb dX2_depth_21 rfl (lv_at hl 2 rfl) ?_
        refine lv_iload_n hx hb dX2_depth_22 rfl (lv_at hl 1 rfl) ?_
        refine lv_aload_n hx hb dX2_depth_23 rfl (lv_at hl 0 rfl) ?_
        refine hp_get (ci := 2) (v := .ref nb) (C := RX2) (T := TX2) (N := 8) hx hb hts hin2 hown C0 hf k3 rfl 5 (by decide) (hts (.fieldLink RX2 19 "RouteTrieModel" "nodeBits" "[I") (by decide +kernel)) (fun _ h9 => h9) rfl dX2_depth_24 ?_
        refine lv_iload_n hx hb dX2_depth_27 rfl (lv_at hl 3 rfl) ?_
        refine hp_iald (n := 1000) (g := NB) hx hb C0 hf k4 (vp_in_nI (n := j) (N := 1000) (by omega) (by omega)) dX2_depth_28 ?_
        rw [nI_clamp (n := j) (by omega)]
        refine lv_aload_n hx hb dX2_depth_29 rfl (lv_at hl 0 rfl) ?_
        refine hp_get (ci := 2) (v := .ref nl) (C := RX2) (T := TX2) (N := 8) hx hb hts hin2 hown C0 hf k3 rfl 6 (by decide) (hts (.fieldLink RX2 22 "RouteTrieModel" "nodeLengths" "[I") (by decide +kernel)) (fun _ h9 => h9) rfl dX2_depth_30 ?_
        refine lv_iload_n hx hb dX2_depth_33 rfl (lv_at hl 3 rfl) ?_
        refine hp_iald (n := 1000) (g := NL) hx hb C0 hf k5 (vp_in_nI (n := j) (N := 1000) (by omega) (by omega)) dX2_depth_34 ?_
        rw [nI_clamp (n := j) (by omega)]
        refine hp_ki (hp_rS (As := [.int x, .int (NB j), .int (NL j)]) (rest := [.int (nI ((List.range j).countP (fun j => x &&& mskI (NL j) == NB j) + 1))]) ⟨hx, hb, hml, hown, hts⟩ C0 hf hS (c_X2_begins l D cy base fc x (NB j) (NL j)) (va_cwS 3 hts gX2_depth_X2_begins rfl rfl rfl (by decide +kernel) ⟨Nat.le_of_ble_eq_true rfl, Nat.le_of_ble_eq_true rfl⟩) rfl hl.1 rfl (Nat.le_of_ble_eq_true rfl) dX2_depth_35 ⟨Nat.le_of_ble_eq_true rfl, Nat.le_of_ble_eq_true rfl⟩) hS (fun r_1 u_1 H locs hq_1 hf hS => ?_)
        obtain ⟨hr_1, hu⟩ := hq_1
        rw [hu] at hf
        have hbg : r_1 = 0 ↔ ¬ x &&& mskI (NL j) = NB j := by rw [hr_1]; split <;> simp_all
        refine lv_if_eq (tgt := 45) hx hb dX2_depth_38 (by decide) (fun h38 => ?_) (fun h38 => ?_)
        · refine lv_iconst (v := 0) hx hb dX2_depth_45 (by decide) ?_
          refine lv_iadd hx hb dX2_depth_46 ?_
          refine lv_istore_n (lv' := [(2, .int ((nI ((List.range j).countP (fun j => x &&& mskI (NL j) == NB j) + 1)) + 0)), (0, .ref qm), (1, .int x), (3, .int (nI j))]) hx hb dX2_depth_47 rfl hl (by decide) rfl (fun ls hl => ?_)
          refine lv_iinc (v := ((nI j) + 1)) (lv' := [(3, .int ((nI j) + 1)), (2, .int ((nI ((List.range j).countP (fun j => x &&& mskI (NL j) == NB j) + 1)) + 0)), (0, .ref qm), (1, .int x)]) hx hb dX2_depth_48 hl (k := 3) rfl rfl (by decide) rfl (fun ls hl => ?_)
          refine lv_goto (tgt := 13) hx hb dX2_depth_51 (by decide) ?_
          have hct : ((List.range (j + 1)).countP (fun j => x &&& mskI (NL j) == NB j) + 1) = ((List.range j).countP (fun j => x &&& mskI (NL j) == NB j) + 1) + 0 := by
            rw [List.range_succ, List.countP_append, List.countP_singleton, show (x &&& mskI (NL j) == NB j) = false from by simp [hbg.mp h38]]
            simp only [Bool.false_eq_true, if_true, if_false]
          rw [nI_1, show nI ((List.range j).countP (fun j => x &&& mskI (NL j) == NB j) + 1) + 0 = nI ((List.range (j + 1)).countP (fun j => x &&& mskI (NL j) == NB j) + 1) by rw [hct]; exact nI_add _ 0] at hl
          exact ih (j + 1) ls _ _ (by omega) (by omega) hf hS (lv_sub hl [2, 3, 1, 0] rfl)
        · refine lv_iconst (v := 1) hx hb dX2_depth_41 (by decide) ?_
          refine lv_goto (tgt := 46) hx hb dX2_depth_42 (by decide) ?_
          refine lv_iadd hx hb dX2_depth_46 ?_
          refine lv_istore_n (lv' := [(2, .int ((nI ((List.range j).countP (fun j => x &&& mskI (NL j) == NB j) + 1)) + 1)), (0, .ref qm), (1, .int x), (3, .int (nI j))]) hx hb dX2_depth_47 rfl hl (by decide) rfl (fun ls hl => ?_)
          refine lv_iinc (v := ((nI j) + 1)) (lv' := [(3, .int ((nI j) + 1)), (2, .int ((nI ((List.range j).countP (fun j => x &&& mskI (NL j) == NB j) + 1)) + 1)), (0, .ref qm), (1, .int x)]) hx hb dX2_depth_48 hl (k := 3) rfl rfl (by decide) rfl (fun ls hl => ?_)
          refine lv_goto (tgt := 13) hx hb dX2_depth_51 (by decide) ?_
          have hct : ((List.range (j + 1)).countP (fun j => x &&& mskI (NL j) == NB j) + 1) = ((List.range j).countP (fun j => x &&& mskI (NL j) == NB j) + 1) + 1 := by
            rw [List.range_succ, List.countP_append, List.countP_singleton, show (x &&& mskI (NL j) == NB j) = true from by simp [Classical.not_not.mp ((not_congr hbg).mp h38)]]
            simp only [Bool.false_eq_true, if_true, if_false]
          rw [nI_1, show nI ((List.range j).countP (fun j => x &&& mskI (NL j) == NB j) + 1) + 1 = nI ((List.range (j + 1)).countP (fun j => x &&& mskI (NL j) == NB j) + 1) by rw [hct]; exact nI_add _ 1] at hl
          exact ih (j + 1) ls _ _ (by omega) (by omega) hf hS (lv_sub hl [2, 3, 1, 0] rfl)
  refine lv_aload_n hx hb dX2_depth_0 rfl (lv_at hl 0 rfl) ?_
  refine lv_iconst (v := 0) hx hb dX2_depth_1 (by decide) ?_
  refine hp_put (ci := 2) (v := .int 0) (C := RX2) (T := TX2) (N := 8) hx hb hts hin2 tyX2 tyX2_ok nmX2 hown C0 hf hS hm rfl 0 (by decide) (hts (.fieldLink RX2 25 "RouteTrieModel" "code" "I") (by decide +kernel)) (fun _ h9 => h9) rfl rfl rfl (Nat.le_of_ble_eq_true rfl) dX2_depth_2 (fun f_1 H locs ef_1 hf hS => ?_)
  have hc_1 : f_1 qm = some (.inr (2, [.int 0, .ref ab, .ref al, .ref ah, .int (nI n), .ref nb, .ref nl, .int nc])) := by rw [ef_1]; exact va_up_self _ _ _
  have hc_1_ab : f_1 ab = some (.inl (cy, 500, .inl B)) := by rw [ef_1, va_up_ne _ _ (hp_dif hB hm (by simp))]; exact hB
  have hc_1_al : f_1 al = some (.inl (cy, 500, .inl L)) := by rw [ef_1, va_up_ne _ _ (hp_dif hL hm (by simp))]; exact hL
  have hc_1_nb : f_1 nb = some (.inl (cy, 1000, .inl NB0)) := by rw [ef_1, va_up_ne _ _ (hp_dif hNB hm (by simp))]; exact hNB
  have hc_1_nl : f_1 nl = some (.inl (cy, 1000, .inl NL0)) := by rw [ef_1, va_up_ne _ _ (hp_dif hNL hm (by simp))]; exact hNL
  refine lv_aload_n hx hb dX2_depth_5 rfl (lv_at hl 0 rfl) ?_
  refine hp_kv (hp_rV (C := RX2) (As := []) (rest := []) ⟨hx, hb, hml, hown, hts⟩ C0 hf hS (c_X2_findNodes l D cy base f_1 qm ab al ah nb nl 0 nc n B L NB0 NL0 lam hc_1 hc_1_ab hc_1_al hc_1_nb hc_1_nl hn hlam dn d1 d2 d3 d4) (cwV 0 hts gX2_depth_X2_findNodes rfl rfl rfl (by decide +kernel) ⟨Nat.le_of_ble_eq_true rfl, Nat.le_of_ble_eq_true rfl⟩) hc_1 rfl rfl hl.1 rfl (Nat.le_of_ble_eq_true rfl) dX2_depth_6 ⟨Nat.le_of_ble_eq_true rfl, Nat.le_of_ble_eq_true rfl⟩) hS (fun u_2 H locs hq_2 hf hS => ?_)
  obtain ⟨k, NB, NL, k1, k2, k3, k4, k5, k6⟩ := hq_2
  refine lv_iconst (v := 1) hx hb dX2_depth_9 (by decide) ?_
  refine lv_istore_n (lv' := [(2, .int 1), (0, .ref qm), (1, .int x)]) hx hb dX2_depth_10 rfl hl (by decide) rfl (fun ls hl => ?_)
  refine lv_iconst (v := 0) hx hb dX2_depth_11 (by decide) ?_
  refine lv_istore_n (lv' := [(3, .int 0), (2, .int 1), (0, .ref qm), (1, .int x)]) hx hb dX2_depth_12 rfl hl (by decide) rfl (fun ls hl => ?_)
  exact loop k NB NL u_2 k1 k2 k3 k4 k5 (fun y g1 g2 g3 => by rw [k6 y g1 g2 g3, ef_1, va_up_ne _ _ g1]) (k + 1) 0 ls _ _ (by omega) (by omega) hf hS (lv_sub hl [2, 3, 1, 0] rfl)
end
section
/-! the tree and the rows of the reference: the same routes -/
def mkR (n : Nat) (B : Nat → Int32) (lam : Nat → Nat) (Hh : Nat → Int32) : List RT := (List.range n).map (fun i => (B i, lam i, Hh i))
def MW (n : Nat) (B L : Nat → Int32) (lam : Nat → Nat) (Hh : Nat → Int32) : Prop := (∀ i, i < n → L i = nI (lam i) ∧ px (B i) (lam i) ∧ ¬ Hh i = -1) ∧ ∀ i j, i < j → j < n → key (B i) (lam i) < key (B j) (lam j)
def REL (N : List Nat) (t : NT) (root n : Nat) (B L : Nat → Int32) (lam : Nat → Nat) (Hh : Nat → Int32) : Prop := CI N t root ∧ MW n B L lam Hh ∧ (rts N t).Perm (mkR n B lam Hh)
theorem mem_mkR {n : Nat} {B : Nat → Int32} {lam : Nat → Nat} {Hh : Nat → Int32} {e : RT} : e ∈ mkR n B lam Hh ↔ ∃ i, i < n ∧ e = (B i, lam i, Hh i) := by
  unfold mkR
  rw [List.mem_map]
  constructor
  · intro ⟨i, h1, h2⟩; exact ⟨i, List.mem_range.mp h1, h2.symm⟩
  · intro ⟨i, h1, h2⟩; exact ⟨i, List.mem_range.mpr h1, h2.symm⟩
theorem mem_rts {N : List Nat} {t : NT} {e : RT} : e ∈ rts N t ↔ ∃ a ∈ N, isR t a = true ∧ rdt t a = e := by
  unfold rts
  rw [List.mem_map]
  constructor
  · intro ⟨a, h1, h2⟩; obtain ⟨h3, h4⟩ := List.mem_filter.mp h1; exact ⟨a, h3, h4, h2⟩
  · intro ⟨a, h1, h2, h3⟩; exact ⟨a, List.mem_filter.mpr ⟨h1, h2⟩, h3⟩
section REL
variable {N : List Nat} {t : NT} {root n : Nat} {B L : Nat → Int32} {lam : Nat → Nat} {Hh : Nat → Int32}
theorem rel_node (R : REL N t root n B L lam Hh) {i : Nat} (hi : i < n) : ∃ a ∈ N, isR t a = true ∧ tB t a = B i ∧ tL t a = lam i ∧ tH t a = Hh i := by
  obtain ⟨a, h1, h2, h3⟩ := mem_rts.mp (R.2.2.mem_iff.mpr (mem_mkR.mpr ⟨i, hi, rfl⟩))
  unfold rdt at h3
  simp only [Prod.mk.injEq] at h3
  exact ⟨a, h1, h2, h3⟩
theorem rel_ix (R : REL N t root n B L lam Hh) {a : Nat} (ha : a ∈ N) (hR : isR t a = true) : ∃ i, i < n ∧ B i = tB t a ∧ lam i = tL t a ∧ Hh i = tH t a := by
  obtain ⟨i, h1, h2⟩ := mem_mkR.mp (R.2.2.mem_iff.mp (mem_rts.mpr ⟨a, ha, hR, rfl⟩))
  unfold rdt at h2
  simp only [Prod.mk.injEq] at h2
  exact ⟨i, h1, h2.1.symm, h2.2.1.symm, h2.2.2.symm⟩
theorem rel_inj (R : REL N t root n B L lam Hh) {i j : Nat} (hi : i < n) (hj : j < n) (e1 : B i = B j) (e2 : lam i = lam j) : i = j := by
  rcases Nat.lt_trichotomy i j with q | q | q
  · have := R.2.1.2 i j q hj; rw [e1, e2] at this; omega
  · exact q
  · have := R.2.1.2 j i q hi; rw [e1, e2] at this; omega
theorem rel_cnt (R : REL N t root n B L lam Hh) (p : RT → Bool) : N.countP (fun y => isR t y && p (rdt t y)) = (List.range n).countP (fun i => p (B i, lam i, Hh i)) := by
  have h1 : (rts N t).countP p = (mkR n B lam Hh).countP p := R.2.2.countP_eq p
  unfold rts mkR at h1
  rw [List.countP_map, List.countP_map, List.countP_filter] at h1
  rw [cnt_congr (q := fun a => (p ∘ rdt t) a && isR t a) (fun y _ => by show (isR t y && p (rdt t y)) = (p (rdt t y) && isR t y); rw [Bool.and_comm]), h1]
  rfl
theorem rel_exact (R : REL N t root n B L lam Hh) {x l0 r r' : Int32} {ro : Option Nat} (h1 : RAp N t x l0 ro) (h2 : r = ro.elim (-1) (tH t)) (h3 : (∃ i : Nat, i < n ∧ r' = Hh i ∧ B i = x ∧ L i = l0) ∨ (r' = -1 ∧ ∀ j, j < n → ¬ (B j = x ∧ L j = l0))) : r = r' := by
  cases ro with
  | none =>
    rw [h2]
    rcases h3 with ⟨i, i1, i2, i3, i4⟩ | ⟨i1, -⟩
    · obtain ⟨a, a1, a2, a3, a4, a5⟩ := rel_node R i1
      exact absurd (a3.trans i3) (h1.2 rfl a a1 (isR_iff.mp a2) (by rw [a4, ← (R.2.1.1 i i1).1]; exact i4.symm))
    · exact i1.symm
  | some a =>
    obtain ⟨a1, a2, a3, a4⟩ := h1.1 a rfl
    obtain ⟨i, i1, i2, i3, i4⟩ := rel_ix R a1 (isR_iff.mpr a4)
    rcases h3 with ⟨j, j1, j2, j3, j4⟩ | ⟨-, j1⟩
    · have hj := (R.2.1.1 j j1)
      have e : i = j := rel_inj R i1 j1 (by rw [i2, a3, j3]) (by
        rw [i3]
        exact (nI_eq (by have := (R.1.1.2.2.1 a a1).1; omega) (by have := hj.2.1.1; omega)).mp (by rw [← a2, ← hj.1, j4]))
      subst e
      rw [h2, j2, i4]; rfl
    · exact absurd ⟨i2.trans a3, by rw [(R.2.1.1 i i1).1, i3, ← a2]⟩ (j1 i i1)
theorem rel_look (R : REL N t root n B L lam Hh) {x r r' : Int32} {ro : Option Nat} {G : Nat → Int32} {g : Nat → Int32} (hG : ∀ i a, i < n → a ∈ N → B i = tB t a → lam i = tL t a → Hh i = tH t a → G i = g a) (h1 : LRp N t x ro) (h2 : r = ro.elim (-1) g)
    (h3 : (∃ i : Nat, i < n ∧ r' = G i ∧ x &&& mskI (L i) = B i ∧ ∀ j, j < n → x &&& mskI (L j) = B j → L j ≤ L i) ∨ (r' = -1 ∧ ∀ j, j < n → ¬ x &&& mskI (L j) = B j)) : r = r' := by
  have bg : ∀ i, i < n → (x &&& mskI (L i) = B i ↔ ag (B i) x (lam i)) := fun i hi => by
    obtain ⟨e1, e2, -⟩ := R.2.1.1 i hi
    rw [e1, msk_mk]
    exact px_fb e2
  cases ro with
  | none =>
    rw [h2]
    rcases h3 with ⟨i, i1, i2, i3, i4⟩ | ⟨i1, -⟩
    · obtain ⟨a, a1, a2, a3, a4, a5⟩ := rel_node R i1
      exact absurd (h1.2 rfl a a1 (by rw [a3, a4]; exact (bg i i1).mp i3)) (isR_iff.mp a2)
    · exact i1.symm
  | some a =>
    obtain ⟨a1, a2, a3, a4⟩ := h1.1 a rfl
    obtain ⟨i, i1, i2, i3, i4⟩ := rel_ix R a1 (isR_iff.mpr a3)
    have hi := R.2.1.1 i i1
    rcases h3 with ⟨j, j1, j2, j3, j4⟩ | ⟨-, j1⟩
    · have hj := R.2.1.1 j j1
      obtain ⟨b, b1, b2, b3, b4, b5⟩ := rel_node R j1
      have l1 : tL t b ≤ tL t a := a4 b b1 (by rw [b3, b4]; exact (bg j j1).mp j3) (isR_iff.mp b2)
      have l2 : lam i ≤ lam j := by
        have := j4 i i1 ((bg i i1).mpr (by rw [i2, i3]; exact a2))
        rw [hi.1, hj.1] at this
        exact (nI_leI (by have := hi.2.1.1; omega) (by have := hj.2.1.1; omega)).mp this
      have e : lam i = lam j := by omega
      have e2 : i = j := rel_inj R i1 j1 (px_inj hi.2.1 (e ▸ hj.2.1) (ag_tr (by rw [i2, i3]; exact a2) (ag_sy (by rw [e]; exact (bg j j1).mp j3)))) e
      subst e2
      rw [h2, j2]
      exact (hG i a i1 a1 i2 i3 i4).symm
    · exact absurd ((bg i i1).mpr (by rw [i2, i3]; exact a2)) (j1 i i1)
theorem rel_under (R : REL N t root n B L lam Hh) {x : Int32} {k : Nat} {ro : Option Nat} (hk : px x k) (h1 : TMp N t x k ro) : ro.elim (0 : Int32) (fun a => nI (tR t a)) = nI ((List.range n).countP (fun j => decide (nI k ≤ L j) && (B j &&& mskI (nI k) == x))) := by
  have e1 : (List.range n).countP (fun j => decide (nI k ≤ L j) && (B j &&& mskI (nI k) == x)) = N.countP (fun y => isR t y && (decide (k ≤ tL t y) && (fb (tB t y) k == x))) := by
    refine Eq.trans ?_ (rel_cnt R (fun e => decide (k ≤ e.2.1) && (fb e.1 k == x))).symm
    refine cnt_congr fun i hi => ?_
    have hi := List.mem_range.mp hi
    rw [(R.2.1.1 i hi).1, msk_mk]
    congr 1
    exact decide_eq_decide.mpr (nI_leI (by have := hk.1; omega) (by have := (R.2.1.1 i hi).2.1.1; omega))
  rw [e1]
  have hs := R.1.1
  have hP : ∀ y ∈ N, ((decide (k ≤ tL t y) && (fb (tB t y) k == x)) = true ↔ (k ≤ tL t y ∧ ag x (tB t y) k)) := fun y _ => by
    rw [Bool.and_eq_true, decide_eq_true_eq, beq_iff_eq, px_fb hk]
  cases ro with
  | none =>
    rw [List.countP_eq_zero.mpr (fun y hy => by
      rw [Bool.and_eq_true, hP y hy]
      exact fun g => h1.2 rfl y hy g.2.1 g.2.2)]
    rfl
  | some a =>
    obtain ⟨a1, a2, a3, a4⟩ := h1.1 a rfl
    show nI (tR t a) = _
    rw [R.1.2.1 a a1]
    congr 1
    refine cnt_congr fun y hy => ?_
    congr 1
    refine bool_eq ?_
    rw [hP y hy, pb_iff (hs.2.2.1 a a1)]
    constructor
    · intro ⟨g1, g2⟩; exact ⟨by omega, ag_tr a3 (ag_mono g2 a2)⟩
    · intro ⟨g1, g2⟩; exact a4 y hy g1 g2
theorem rel_count (R : REL N t root n B L lam Hh) : tR t root = n := by
  have hs := R.1.1
  rw [R.1.2.1 root hs.1.1]
  have h1 := rel_cnt R (fun _ => true)
  rw [cnt_congr (q := fun y => isR t y && (fun _ => true) (rdt t y)) (fun y hy => by
    congr 1
    refine bool_eq ⟨fun _ => rfl, fun _ => ?_⟩
    rw [pb_iff (hs.2.2.1 root hs.1.1), hs.1.2]
    exact ⟨Nat.zero_le _, ag_0⟩), h1]
  rw [List.countP_eq_length.mpr (fun _ _ => rfl), List.length_range]
theorem cnt_range (n i : Nat) (hi : i ≤ n) : (List.range n).countP (fun j => decide (j < i)) = i := by
  induction n with
  | zero => rw [Nat.le_zero.mp hi]; rfl
  | succ n ih =>
    rw [List.range_succ, List.countP_append, List.countP_singleton]
    rcases Nat.lt_or_ge n i with q | q
    · have e : i = n + 1 := by omega
      subst e
      rw [List.countP_eq_length.mpr (fun j hj => by have := List.mem_range.mp hj; simp; omega), List.length_range]
      simp
    · rw [ih q]; simp [Nat.not_lt.mpr q]
theorem rel_lo (R : REL N t root n B L lam Hh) {i a : Nat} (hi : i < n) (e1 : B i = tB t a) (e2 : lam i = tL t a) : lo N t a = i := by
  unfold lo
  have h1 := rel_cnt R (fun e => decide (key e.1 e.2.1 < key (tB t a) (tL t a)))
  have h2 : N.countP (fun y => isR t y && decide (key (tB t y) (tL t y) < key (tB t a) (tL t a))) = (List.range n).countP (fun i => decide (key (B i) (lam i) < key (tB t a) (tL t a))) := h1
  rw [h2, ← e1, ← e2]
  refine (cnt_congr fun j hj => ?_).trans (cnt_range n i (by omega))
  have hj := List.mem_range.mp hj
  refine decide_eq_decide.mpr ⟨fun g => ?_, fun g => R.2.1.2 j i g hi⟩
  rcases Nat.lt_trichotomy j i with q | q | q
  · exact q
  · subst q; omega
  · have := R.2.1.2 i j q hj; omega
theorem rel_route (R : REL N t root n B L lam Hh) (hn : n ≤ 500) {k w r r' : Int32} {ro : Option Nat} (h1 : IOp N t root k ro) (h2 : r = ro.elim 0 (rtA t w)) (h3 : ((k < 0 ∨ nI n ≤ k) ∧ r' = 0) ∨ ∃ i : Nat, i < n ∧ k = nI i ∧ r' = if w = 0 then B i else if w = 1 then L i else if w = 2 then Hh i else 0) : r = r' := by
  have hc := rel_count R
  cases ro with
  | none =>
    rw [h2]
    rcases h3 with ⟨-, i2⟩ | ⟨i, i1, i2, i3⟩
    · exact i2.symm
    · rcases h1.2 rfl with q | q
      · rw [i2] at q; exact absurd q (nI_pos (by omega))
      · rw [i2, hc, nI_leI (by omega) (by omega)] at q; omega
  | some a =>
    obtain ⟨a1, a2, a3, a4⟩ := h1.1 a rfl
    obtain ⟨j, j1, j2, j3, j4⟩ := rel_ix R a1 a2
    have hlo := rel_lo R j1 j2 j3
    rw [hlo] at a3
    rcases h3 with ⟨q | q, -⟩ | ⟨i, i1, i2, i3⟩
    · rw [a3] at q; exact absurd q (nI_pos (by omega))
    · rw [a3, nI_leI (by omega) (by omega)] at q; omega
    · have e : i = j := (nI_eq (by omega) (by omega)).mp (i2.symm.trans a3)
      subst e
      rw [h2, i3]
      show rtA t w a = _
      unfold rtA
      rw [← j2, ← j3, ← j4, (R.2.1.1 i i1).1]
/-! the nodes -/
theorem below_route (C : CI N t root) : ∀ (m c : Nat), 33 ≤ tL t c + m → c ∈ N → c ≠ root → ∃ y ∈ N, isR t y = true ∧ pb t c y = true := by
  intro m
  induction m with
  | zero => intro c h hc; have := (C.1.2.2.1 c hc).1; omega
  | succ m ih =>
    intro c h hc hcr
    cases hR : isR t c with
    | true => exact ⟨c, hc, hR, (pb_iff (C.1.2.2.1 c hc)).mpr ⟨Nat.le_refl _, ag_rf⟩⟩
    | false =>
      cases hz : ch t c false with
      | none => exact absurd hz (C.2.2 c hc hcr hR false)
      | some z =>
        obtain ⟨z1, z2, z3, z4⟩ := C.1.2.2.2.2.1 c hc false z hz
        obtain ⟨y, y1, y2, y3⟩ := ih z (by omega) z1 (fun e => by rw [e, C.1.1.2] at z2; omega)
        rw [pb_iff (C.1.2.2.1 z z1)] at y3
        exact ⟨y, y1, y2, (pb_iff (C.1.2.2.1 c hc)).mpr ⟨by omega, ag_tr z3 (ag_mono y3.2 (by omega))⟩⟩
theorem interval {o y w : Nat} (C : CI N t root) (ho : o ∈ N) (hy : y ∈ N) (hw : w ∈ N) (h1 : pb t o w = true) (h2 : key (tB t o) (tL t o) ≤ key (tB t y) (tL t y)) (h3 : key (tB t y) (tL t y) ≤ key (tB t w) (tL t w)) : pb t o y = true := by
  have po := C.1.2.2.1 o ho
  have py := C.1.2.2.1 y hy
  have pw := C.1.2.2.1 w hw
  rw [pb_iff po] at h1 ⊢
  have hag : ag (tB t o) (tB t y) (tL t o) := by
    refine Classical.byContradiction fun q => ?_
    obtain ⟨⟨n1, n2⟩, n3⟩ := dif_lt h1.2 q
    have k1 : ¬ (tB t y).toBitVec.toNat < (tB t o).toBitVec.toNat := fun g => by have := (key_lt py.1 po.1 n2).mpr g; omega
    have k2 : (tB t y).toBitVec.toNat < (tB t w).toBitVec.toNat := by
      rcases Nat.lt_or_ge (key (tB t y) (tL t y)) (key (tB t w) (tL t w)) with g | g
      · exact (key_lt py.1 pw.1 n1).mp g
      · exfalso
        apply n1
        apply nat_eq
        have := py.1
        have := pw.1
        unfold key at g h3
        omega
    exact k1 (n3.mp k2)
  refine ⟨?_, hag⟩
  rcases Nat.lt_or_ge (tL t y) (tL t o) with q | q
  · exfalso
    have e : tB t y = tB t o := by
      refine bi_ext fun i _ => ?_
      by_cases hi : i < tL t o
      · exact (hag i hi).symm
      · rw [px_bi po (by omega), px_bi py (by omega)]
    unfold key at h2
    rw [e] at h2
    omega
  · exact q
theorem node_in (R : REL N t root n B L lam Hh) {a : Nat} (ha : a ∈ N) (har : a ≠ root) : PPa n B L (tB t a) (nI (tL t a)) ∨ PPb n B lam (tB t a) (nI (tL t a)) := by
  have C := R.1
  have hs := C.1
  cases hR : isR t a with
  | true =>
    obtain ⟨i, i1, i2, i3, i4⟩ := rel_ix R ha hR
    exact Or.inl ⟨i, i1, i2, by rw [(R.2.1.1 i i1).1, i3]⟩
  | false =>
    right
    cases hz : ch t a false with
    | none => exact absurd hz (C.2.2 a ha har hR false)
    | some z =>
      cases ho : ch t a true with
      | none => exact absurd ho (C.2.2 a ha har hR true)
      | some o =>
        obtain ⟨z1, z2, z3, z4⟩ := hs.2.2.2.2.1 a ha false z hz
        obtain ⟨o1, o2, o3, o4⟩ := hs.2.2.2.2.1 a ha true o ho
        obtain ⟨y0, y01, y02, y03⟩ := below_route C 33 z (by omega) z1 (fun e => by rw [e, hs.1.2] at z2; omega)
        obtain ⟨y1, y11, y12, y13⟩ := below_route C 33 o (by omega) o1 (fun e => by rw [e, hs.1.2] at o2; omega)
        obtain ⟨j0, j01, j02, j03, -⟩ := rel_ix R y01 y02
        obtain ⟨j1, j11, j12, j13, -⟩ := rel_ix R y11 y12
        have pa := hs.2.2.1 a ha
        have po := hs.2.2.1 o o1
        rw [← io_child hs ha hz y01, eb_iff pa] at y03
        have ky0 : key (tB t a) (tL t a) < key (tB t y0) (tL t y0) := key_pre pa (hs.2.2.1 y0 y01).1 y03.1 y03.2.1
        have ky0o : key (tB t y0) (tL t y0) < key (tB t o) (tL t o) := (lo_key hs ha ho y01).mpr (Or.inr (Or.inr ⟨rfl, y03⟩))
        have ky1 : key (tB t o) (tL t o) ≤ key (tB t y1) (tL t y1) := by
          have g := (pb_iff po).mp y13
          rcases Nat.lt_or_ge (tL t o) (tL t y1) with q | q
          · exact Nat.le_of_lt (key_pre po (hs.2.2.1 y1 y11).1 q g.2)
          · rw [hs.2.2.2.1 o o1 y1 y11 (by omega) g.2]; exact Nat.le_refl _
        obtain ⟨i, ⟨i1, i2⟩, i3⟩ := pk_least (fun i => i < n ∧ key (tB t o) (tL t o) ≤ key (B i) (lam i)) ⟨j1, j11, by rw [j12, j13]; exact ky1⟩
        have ij1 : i ≤ j1 := Nat.not_lt.mp (fun q => i3 j1 q ⟨j11, by rw [j12, j13]; exact ky1⟩)
        have mono : ∀ p q, p ≤ q → q < n → key (B p) (lam p) ≤ key (B q) (lam q) := fun p q h hq => by
          rcases Nat.lt_or_ge p q with g | g
          · exact Nat.le_of_lt (R.2.1.2 p q g hq)
          · rw [show p = q by omega]; exact Nat.le_refl _
        have j0i : j0 < i := Nat.not_le.mp (fun q => by
          have := mono i j0 q j01
          rw [j02, j03] at this
          omega)
        have hpre : key (B (i - 1)) (lam (i - 1)) < key (tB t o) (tL t o) := Nat.not_le.mp (fun q => i3 (i - 1) (by omega) ⟨by omega, q⟩)
        obtain ⟨u, u1, u2, u3, u4, -⟩ := rel_node R i1
        obtain ⟨v, v1, v2, v3, v4, -⟩ := rel_node R (show i - 1 < n by omega)
        have hu : pb t o u = true := interval C o1 u1 y11 y13 (by rw [u3, u4]; exact i2) (by rw [u3, u4, ← j12, ← j13]; exact mono i j1 ij1 j11)
        rw [← io_child hs ha ho u1, eb_iff pa] at hu
        have hv : tL t a < tL t v ∧ ag (tB t a) (tB t v) (tL t a) ∧ bi (tB t v) (tL t a) = false := by
          have k1 : key (tB t y0) (tL t y0) ≤ key (tB t v) (tL t v) := by rw [v3, v4, ← j02, ← j03]; exact mono j0 (i - 1) (by omega) (by omega)
          rcases (lo_key hs ha ho v1).mp (by rw [v3, v4]; exact hpre) with g | g | g
          · omega
          · rw [g] at k1; omega
          · exact g.2
        rw [u3, u4] at hu
        rw [v3, v4] at hv
        refine ⟨i, tL t a, by omega, i1, ⟨by omega, by omega, ag_tr (ag_sy hu.2.1) hv.2.1, fun _ _ => by rw [hu.2.2, hv.2.2]; decide⟩, ?_, rfl⟩
        exact ((px_fb pa).mpr hu.2.1).symm
theorem in_node (R : REL N t root n B L lam Hh) {y m : Int32} (h : PPa n B L y m ∨ PPb n B lam y m) : ∃ a ∈ N, tB t a = y ∧ nI (tL t a) = m := by
  rcases h with ⟨i, i1, i2, i3⟩ | ⟨i, k, i0, i1, ⟨k1, k2, k3, k4⟩, i2, i3⟩
  · obtain ⟨a, a1, a2, a3, a4, a5⟩ := rel_node R i1
    exact ⟨a, a1, by rw [a3, i2], by rw [a4, ← (R.2.1.1 i i1).1, i3]⟩
  · obtain ⟨u, u1, u2, u3, u4, -⟩ := rel_node R i1
    obtain ⟨v, v1, v2, v3, v4, -⟩ := rel_node R (show i - 1 < n by omega)
    obtain ⟨a, a1, a2, a3, a4, a5, a6⟩ := st_meet R.1.1 u1 v1
    rw [u3] at a4
    rw [v3] at a5
    rw [u3, v3, u4, v4] at a6
    rw [u4] at a2
    rw [v4] at a3
    have e : tL t a = k := cm_uniq (B := B) (lam := lam) (i := i) ⟨a2, a3, ag_tr (ag_sy a4) a5, fun g1 g2 => a6 g1 g2⟩ ⟨k1, k2, k3, k4⟩
    refine ⟨a, a1, ?_, by rw [e, i3]⟩
    rw [i2, ← e]
    exact ((px_fb (R.1.1.2.2.1 a a1)).mpr a4).symm
theorem nodes_perm (R : REL N t root n B L lam Hh) {k : Nat} {NB NL : Nat → Int32} (h : NDp k NB NL (fun y m => PPa n B L y m ∨ PPb n B lam y m)) : (N.map (fun a => (tB t a, nI (tL t a)))).Perm (((0 : Int32), (0 : Int32)) :: (List.range k).map (fun j => (NB j, NL j))) := by
  have hs := R.1.1
  have hr0 : tB t root = 0 := by have := hs.2.2.1 root hs.1.1; rw [hs.1.2] at this; exact px_inj this px_0 ag_0
  have l32 : ∀ a ∈ N, tL t a ≤ 32 := fun a ha => (hs.2.2.1 a ha).1
  have nz : ∀ a ∈ N, a ≠ root → ¬ nI (tL t a) = 0 := fun a ha har e => by
    have e2 : tL t a = 0 := (nI_eq (b := 0) (by have := l32 a ha; omega) (by omega)).mp e
    exact har (hs.2.2.2.1 a ha root hs.1.1 (by rw [e2, hs.1.2]) (by rw [e2]; exact ag_0))
  refine (List.perm_ext_iff_of_nodup ?_ ?_).mpr fun e => ?_
  · refine (List.pairwise_map).mpr (List.Pairwise.imp_of_mem (R := fun a b => a ≠ b) ?_ hs.2.1)
    intro a b ha hb hne e
    simp only [Prod.mk.injEq] at e
    have el : tL t a = tL t b := (nI_eq (by have := l32 a ha; omega) (by have := l32 b hb; omega)).mp e.2
    exact hne (hs.2.2.2.1 a ha b hb el (by rw [e.1]; exact ag_rf))
  · refine List.nodup_cons.mpr ⟨?_, ?_⟩
    · intro g
      obtain ⟨j, j1, j2⟩ := List.mem_map.mp g
      simp only [Prod.mk.injEq] at j2
      exact ((h.2 0 0).mp ⟨j, List.mem_range.mp j1, j2.1, j2.2⟩).1 rfl
    · refine (List.pairwise_map).mpr (List.Pairwise.imp_of_mem (R := fun a b => a < b) ?_ List.pairwise_lt_range)
      intro a b ha hb hlt e
      simp only [Prod.mk.injEq] at e
      exact h.1 a b hlt (List.mem_range.mp hb) e
  · obtain ⟨y, m⟩ := e
    rw [List.mem_map, List.mem_cons, List.mem_map]
    constructor
    · intro ⟨a, a1, a2⟩
      simp only [Prod.mk.injEq] at a2
      by_cases har : a = root
      · left
        rw [← a2.1, ← a2.2, har, hr0, hs.1.2]; rfl
      · right
        obtain ⟨j, j1, j2, j3⟩ := (h.2 y m).mpr ⟨by rw [← a2.2]; exact nz a a1 har, by rw [← a2.1, ← a2.2]; exact node_in R a1 har⟩
        exact ⟨j, List.mem_range.mpr j1, by rw [j2, j3]⟩
    · intro g
      rcases g with g | ⟨j, j1, j2⟩
      · simp only [Prod.mk.injEq] at g
        exact ⟨root, hs.1.1, by rw [hr0, hs.1.2, g.1, g.2]; rfl⟩
      · simp only [Prod.mk.injEq] at j2
        obtain ⟨-, q⟩ := (h.2 y m).mp ⟨j, List.mem_range.mp j1, j2.1, j2.2⟩
        obtain ⟨a, a1, a2, a3⟩ := in_node R q
        exact ⟨a, a1, by rw [a2, a3]⟩
theorem rel_nodes (R : REL N t root n B L lam Hh) {k : Nat} {NB NL : Nat → Int32} (h : NDp k NB NL (fun y m => PPa n B L y m ∨ PPb n B lam y m)) : N.length = k + 1 := by
  have := (nodes_perm R h).length_eq
  rw [List.length_map, List.length_cons, List.length_map, List.length_range] at this
  exact this
theorem rel_depth (R : REL N t root n B L lam Hh) {k : Nat} {NB NL : Nat → Int32} (h : NDp k NB NL (fun y m => PPa n B L y m ∨ PPb n B lam y m)) (x : Int32) : N.countP (fun y => fb x (tL t y) == tB t y) = (List.range k).countP (fun j => x &&& mskI (NL j) == NB j) + 1 := by
  have := (nodes_perm R h).countP_eq (fun e : Int32 × Int32 => x &&& mskI e.2 == e.1)
  rw [List.countP_map, List.countP_cons, List.countP_map] at this
  have h0 : (x &&& mskI 0 == 0) = true := by
    rw [beq_iff_eq, show mskI 0 = 0 from rfl]
    exact b_ext fun i _ => by rw [b_and, bt_0]; simp
  rw [h0, if_pos rfl] at this
  exact this
end REL
end
section
/-! how the relation moves -/
def insG {α : Type} (g : Nat → α) (k n : Nat) (x : α) : Nat → α := fun j => if j < k then g j else if j = k then x else if j ≤ n then g (j - 1) else g j
def delG {α : Type} (g : Nat → α) (i k : Nat) : Nat → α := fun j => if j < i then g j else if j < k then g (j + 1) else g j
theorem insF_G (g : Nat → Int32) (k n : Nat) (x : Int32) : insF g k n x = insG g k n x := rfl
theorem dlG_G (g : Nat → Int32) (i k : Nat) : dlG g i k = delG g i k := rfl
theorem insG_lt {α : Type} {g : Nat → α} {k n j : Nat} {x : α} (h : j < k) : insG g k n x j = g j := by unfold insG; rw [if_pos h]
theorem insG_eq {α : Type} {g : Nat → α} {k n : Nat} {x : α} : insG g k n x k = x := by unfold insG; rw [if_neg (Nat.lt_irrefl _), if_pos rfl]
theorem insG_gt {α : Type} {g : Nat → α} {k n j : Nat} {x : α} (h : k < j) (h2 : j ≤ n) : insG g k n x j = g (j - 1) := by unfold insG; rw [if_neg (by omega), if_neg (by omega), if_pos h2]
theorem delG_lt {α : Type} {g : Nat → α} {i k j : Nat} (h : j < i) : delG g i k j = g j := by unfold delG; rw [if_pos h]
theorem delG_ge {α : Type} {g : Nat → α} {i k j : Nat} (h : i ≤ j) (h2 : j < k) : delG g i k j = g (j + 1) := by unfold delG; rw [if_neg (by omega), if_pos h2]
theorem perm_ins {α : Type} (g : Nat → α) {p n : Nat} (x : α) (hp : p ≤ n) : ((List.range (n + 1)).map (insG g p n x)).Perm (x :: (List.range n).map g) := by
  have e : (List.range (n + 1)).map (insG g p n x) = ((List.range n).map g).take p ++ x :: ((List.range n).map g).drop p := by
    refine List.ext_getElem (by simp; omega) (fun j h1 h2 => ?_)
    rw [List.getElem_map, List.getElem_range, List.getElem_append]
    have hl : (((List.range n).map g).take p).length = p := by simp; omega
    have hj : j < n + 1 := by simpa using h1
    split
    · next h =>
      rw [hl] at h
      rw [List.getElem_take, List.getElem_map, List.getElem_range, insG_lt h]
    · next h =>
      rw [hl] at h
      rw [List.getElem_cons]
      split
      · next h3 =>
        rw [hl] at h3
        rw [show j = p by omega, insG_eq]
      · next h3 =>
        rw [hl] at h3
        rw [List.getElem_drop, List.getElem_map, List.getElem_range, insG_gt (by omega) (by omega)]
        congr 1
        rw [hl]; omega
  rw [e]
  refine List.perm_middle.trans ?_
  rw [List.take_append_drop]
theorem perm_del {α : Type} (g : Nat → α) {i n : Nat} (hi : i < n) : ((List.range n).map g).Perm (g i :: (List.range (n - 1)).map (delG g i (n - 1))) := by
  have h := perm_ins (delG g i (n - 1)) (p := i) (n := n - 1) (g i) (by omega)
  rw [show n - 1 + 1 = n by omega] at h
  refine List.Perm.trans (List.Perm.of_eq ?_) h
  refine List.map_congr_left fun j hj => ?_
  have hj := List.mem_range.mp hj
  rcases Nat.lt_trichotomy j i with q | q | q
  · rw [insG_lt q, delG_lt q]
  · subst q; rw [insG_eq]
  · rw [insG_gt q (by omega), delG_ge (by omega) (by omega)]
    congr 1; omega
theorem bfr_key {x b : Int32} {k m : Nat} (hk : k ≤ 32) (hm : m ≤ 32) : bfr x (nI k) b (nI m) ↔ key x k < key b m := by
  unfold bfr
  rw [ul_iff, nI_ltI (by omega) (by omega)]
  unfold key
  constructor
  · intro h
    rcases h with h | ⟨h1, h2⟩
    · omega
    · rw [h1]; omega
  · intro h
    by_cases e : x = b
    · subst e; exact Or.inr ⟨rfl, by omega⟩
    · left
      have : x.toBitVec.toNat ≠ b.toBitVec.toNat := fun z => e (nat_eq z)
      omega
theorem key_inj {x b : Int32} {k m : Nat} (hk : k ≤ 32) (hm : m ≤ 32) (h : key x k = key b m) : x = b ∧ k = m := by
  unfold key at h
  have h1 : x.toBitVec.toNat = b.toBitVec.toNat := by omega
  exact ⟨nat_eq h1, by omega⟩
theorem rel_init {root : Nat} {t : NT} (h : t root = (0, 0, -1, 0, none, none)) (B L Hh : Nat → Int32) (lam : Nat → Nat) : REL [root] t root 0 B L lam Hh := by
  have hR : isR t root = false := by unfold isR; simp only [tH]; rw [h]; rfl
  have hc : ∀ d, ch t root d = none := fun d => by unfold ch; simp only [tO, tZ]; rw [h]; cases d <;> rfl
  have hL : tL t root = 0 := by simp only [tL]; rw [h]
  have hB : tB t root = 0 := by simp only [tB]; rw [h]
  have one : ∀ a ∈ [root], a = root := fun a ha => List.mem_singleton.mp ha
  refine ⟨⟨⟨⟨List.mem_singleton.mpr rfl, hL⟩, List.nodup_cons.mpr ⟨List.not_mem_nil, List.nodup_nil⟩, fun a ha => ?_, fun a ha b hb _ _ => ?_, fun a ha d c k => ?_, fun a ha x hx k => ?_⟩, fun a ha => ?_, fun b hb g => ?_⟩, ⟨fun i hi => absurd hi (by omega), fun i j _ hj => absurd hj (by omega)⟩, ?_⟩
  · rw [one a ha, hB, hL]; exact px_0
  · rw [one a ha, one b hb]
  · rw [one a ha, hc] at k; cases k
  · rw [one a ha, one x hx] at k; omega
  · rw [one a ha]
    have e : tR t root = 0 := by simp only [tR]; rw [h]
    rw [e, List.countP_cons, hR]; rfl
  · exact absurd (one b hb) g
  · unfold rts
    rw [List.filter_cons, hR]
    exact List.Perm.refl _
section STEP
variable {N : List Nat} {t : NT} {root n : Nat} {B L : Nat → Int32} {lam : Nat → Nat} {Hh : Nat → Int32}
theorem rel_hop (R : REL N t root n B L lam Hh) {a i : Nat} {h : Int32} (ha : a ∈ N) (hR : isR t a = true) (hi : i < n) (e1 : B i = tB t a) (e2 : lam i = tL t a) (hh : ¬ h = -1) : REL N (va_up t a (sethop (t a) h)) root n B L lam (upd Hh i h) := by
  obtain ⟨⟨hs, hr, hf⟩, hw, hp⟩ := R
  have R0 : REL N t root n B L lam Hh := ⟨⟨hs, hr, hf⟩, hw, hp⟩
  obtain ⟨t', et⟩ : ∃ t', t' = va_up t a (sethop (t a) h) := ⟨_, rfl⟩
  rw [← et]
  have ta : t' a = sethop (t a) h := by rw [et, va_up_self]
  have tn : ∀ b, b ≠ a → t' b = t b := fun b e => by rw [et, va_up_ne _ _ e]
  have dat : ∀ b, tB t' b = tB t b ∧ tL t' b = tL t b ∧ tZ t' b = tZ t b ∧ tO t' b = tO t b ∧ tR t' b = tR t b := fun b => by
    simp only [tB, tL, tZ, tO, tR]
    by_cases e : b = a
    · subst e; rw [ta]; exact ⟨rfl, rfl, rfl, rfl, rfl⟩
    · rw [tn b e]; exact ⟨rfl, rfl, rfl, rfl, rfl⟩
  have hRa : isR t' a = true := by rw [isR_iff]; simp only [tH]; rw [ta]; exact hh
  have hR' : ∀ b, isR t' b = isR t b := fun b => by
    by_cases e : b = a
    · rw [e, hRa, hR]
    · exact isR_eq (by simp only [tH]; rw [tn b e])
  have hs' : ST N t' root := st_same hs (fun b _ => ⟨(dat b).1, (dat b).2.1, (dat b).2.2.1, (dat b).2.2.2.1⟩)
  refine ⟨⟨hs', fun b hb => ?_, fun b hb g1 g2 d => ?_⟩, ⟨fun j hj => ⟨(hw.1 j hj).1, (hw.1 j hj).2.1, ?_⟩, hw.2⟩, ?_⟩
  · rw [(dat b).2.2.2.2, hr b hb]
    exact cnt_congr fun y _ => by rw [hR', pb_eq (dat b).1 (dat b).2.1 (dat y).1 (dat y).2.1]
  · rw [hR'] at g2
    have := hf b hb g1 g2 d
    unfold ch at this ⊢
    rw [(dat b).2.2.1, (dat b).2.2.2.1]
    exact this
  · by_cases e : j = i
    · rw [e, pk_us]; exact hh
    · rw [pk_un e]; exact (hw.1 j hj).2.2
  · obtain ⟨M, m1, m2, m3, m4⟩ := rts_one (t := t) (t' := t') ha hs.2.1 (fun b _ e => by unfold rdt; simp only [tB, tL, tH]; rw [tn b e])
    rw [rts_cons, hR, if_pos rfl] at m2
    rw [rts_cons, hRa, if_pos rfl, m4] at m3
    -- the row's place
    have q1 := perm_del (fun j => ((B j, lam j, Hh j) : RT)) hi
    have q2 := perm_del (fun j => ((B j, lam j, upd Hh i h j) : RT)) hi
    have eqd : (List.range (n - 1)).map (delG (fun j => ((B j, lam j, upd Hh i h j) : RT)) i (n - 1)) = (List.range (n - 1)).map (delG (fun j => ((B j, lam j, Hh j) : RT)) i (n - 1)) := by
      refine List.map_congr_left fun j hj => ?_
      have hj := List.mem_range.mp hj
      rcases Nat.lt_or_ge j i with q | q
      · rw [delG_lt q, delG_lt q, pk_un (by omega)]
      · rw [delG_ge q hj, delG_ge q hj, pk_un (by omega)]
    rw [eqd] at q2
    have eH : Hh i = tH t a := by
      obtain ⟨i', i1, i2, i3, i4⟩ := rel_ix R0 ha hR
      have : i' = i := rel_inj R0 i1 hi (i2.trans e1.symm) (i3.trans e2.symm)
      rw [← this]; exact i4
    have e3 : rdt t a = (B i, lam i, Hh i) := by unfold rdt; rw [e1, e2, eH]
    have e4 : rdt t' a = (B i, lam i, upd Hh i h i) := by unfold rdt; rw [(dat a).1, (dat a).2.1, e1, e2, pk_us]; simp only [tH]; rw [ta]; rfl
    have rest := (m2.symm.trans (hp.trans q1))
    rw [e3] at rest
    refine m3.trans (List.Perm.trans ?_ q2.symm)
    rw [e4]
    exact List.Perm.cons _ rest.cons_inv
theorem rel_ins (R : REL N t root n B L lam Hh) {N' : List Nat} {t' : NT} {x h : Int32} {k p : Nat} (C : CI N' t' root) (hp : ((x, k, h) :: rts N t).Perm (rts N' t')) (hx : px x k) (hh : ¬ h = -1) (hpn : p ≤ n)
    (h1 : ∀ j, p ≤ j → j < n → bfr x (nI k) (B j) (L j)) (h2 : 0 < p → ¬ bfr x (nI k) (B (p - 1)) (L (p - 1))) (h3 : ∀ j, j < n → ¬ (B j = x ∧ L j = nI k)) :
    REL N' t' root (n + 1) (insF B p n x) (insF L p n (nI k)) (insG lam p n k) (insF Hh p n h) := by
  have hw := R.2.1
  have kb : ∀ j, j < n → (bfr x (nI k) (B j) (L j) ↔ key x k < key (B j) (lam j)) := fun j hj => by
    rw [(hw.1 j hj).1]; exact bfr_key hx.1 (hw.1 j hj).2.1.1
  have mono : ∀ i j, i ≤ j → j < n → key (B i) (lam i) ≤ key (B j) (lam j) := fun i j h hj => by
    rcases Nat.lt_or_ge i j with g | g
    · exact Nat.le_of_lt (hw.2 i j g hj)
    · rw [show i = j by omega]; exact Nat.le_refl _
  have lowK : ∀ j, j < p → key (B j) (lam j) < key x k := fun j hj => by
    have a1 : ¬ key x k < key (B (p - 1)) (lam (p - 1)) := fun g => h2 (by omega) ((kb (p - 1) (by omega)).mpr g)
    have a2 : key (B (p - 1)) (lam (p - 1)) ≠ key x k := fun g => by
      obtain ⟨g1, g2⟩ := key_inj (hw.1 (p - 1) (by omega)).2.1.1 hx.1 g
      exact h3 (p - 1) (by omega) ⟨g1, by rw [(hw.1 (p - 1) (by omega)).1, g2]⟩
    have a3 := mono j (p - 1) (by omega) (by omega)
    omega
  refine ⟨C, ⟨fun i hi => ?_, fun i j hij hj => ?_⟩, hp.symm.trans ((List.Perm.cons _ R.2.2).trans ?_)⟩
  · rw [insF_G, insF_G, insF_G]
    rcases Nat.lt_trichotomy i p with q | q | q
    · rw [insG_lt q, insG_lt q, insG_lt q, insG_lt q]; exact hw.1 i (by omega)
    · subst q; rw [insG_eq, insG_eq, insG_eq, insG_eq]; exact ⟨rfl, hx, hh⟩
    · rw [insG_gt q (by omega), insG_gt q (by omega), insG_gt q (by omega), insG_gt q (by omega)]; exact hw.1 (i - 1) (by omega)
  · rw [insF_G]
    rcases Nat.lt_trichotomy i p with q | q | q
    · rw [insG_lt q, insG_lt q]
      rcases Nat.lt_trichotomy j p with w | w | w
      · rw [insG_lt w, insG_lt w]; exact hw.2 i j hij (by omega)
      · subst w; rw [insG_eq, insG_eq]; exact lowK i q
      · rw [insG_gt w (by omega), insG_gt w (by omega)]; exact hw.2 i (j - 1) (by omega) (by omega)
    · subst q
      rw [insG_eq, insG_eq, insG_gt hij (by omega), insG_gt hij (by omega)]
      exact (kb (j - 1) (by omega)).mp (h1 (j - 1) (by omega) (by omega))
    · rw [insG_gt q (by omega), insG_gt q (by omega), insG_gt (by omega) (by omega), insG_gt (by omega) (by omega)]
      exact hw.2 (i - 1) (j - 1) (by omega) (by omega)
  · have q := perm_ins (fun j => ((B j, lam j, Hh j) : RT)) (p := p) (n := n) (x, k, h) hpn
    refine q.symm.trans (List.Perm.of_eq ?_)
    refine List.map_congr_left fun j hj => ?_
    have hj := List.mem_range.mp hj
    rw [insF_G, insF_G]
    rcases Nat.lt_trichotomy j p with q | q | q
    · rw [insG_lt q, insG_lt q, insG_lt q, insG_lt q]
    · subst q; rw [insG_eq, insG_eq, insG_eq, insG_eq]
    · rw [insG_gt q (by omega), insG_gt q (by omega), insG_gt q (by omega), insG_gt q (by omega)]
theorem rel_del (R : REL N t root n B L lam Hh) {N' : List Nat} {t' : NT} {a i : Nat} (ha : a ∈ N) (hR : isR t a = true) (C : CI N' t' root) (hp : (rts N t).Perm (rdt t a :: rts N' t')) (hi : i < n) (e1 : B i = tB t a) (e2 : lam i = tL t a) :
    REL N' t' root (n - 1) (dlG B i (n - 1)) (dlG L i (n - 1)) (delG lam i (n - 1)) (dlG Hh i (n - 1)) := by
  have hw := R.2.1
  have eH : Hh i = tH t a := by
    obtain ⟨i', i1, i2, i3, i4⟩ := rel_ix R ha hR
    have : i' = i := rel_inj R i1 hi (i2.trans e1.symm) (i3.trans e2.symm)
    rw [← this]; exact i4
  refine ⟨C, ⟨fun j hj => ?_, fun j j2 hij hj => ?_⟩, ?_⟩
  · rw [dlG_G, dlG_G, dlG_G]
    rcases Nat.lt_or_ge j i with q | q
    · rw [delG_lt q, delG_lt q, delG_lt q, delG_lt q]; exact hw.1 j (by omega)
    · rw [delG_ge q hj, delG_ge q hj, delG_ge q hj, delG_ge q hj]; exact hw.1 (j + 1) (by omega)
  · rw [dlG_G]
    rcases Nat.lt_or_ge j i with q | q
    · rw [delG_lt q, delG_lt q]
      rcases Nat.lt_or_ge j2 i with w | w
      · rw [delG_lt w, delG_lt w]; exact hw.2 j j2 hij (by omega)
      · rw [delG_ge w hj, delG_ge w hj]; exact hw.2 j (j2 + 1) (by omega) (by omega)
    · rw [delG_ge q (by omega), delG_ge q (by omega), delG_ge (by omega) hj, delG_ge (by omega) hj]
      exact hw.2 (j + 1) (j2 + 1) (by omega) (by omega)
  · have q := perm_del (fun j => ((B j, lam j, Hh j) : RT)) hi
    have w := (hp.symm.trans (R.2.2.trans q))
    rw [show rdt t a = (B i, lam i, Hh i) by unfold rdt; rw [e1, e2, eH]] at w
    refine w.cons_inv.trans (List.Perm.of_eq ?_)
    refine List.map_congr_left fun j hj => ?_
    have hj := List.mem_range.mp hj
    rw [dlG_G, dlG_G]
    rcases Nat.lt_or_ge j i with q | q
    · rw [delG_lt q, delG_lt q, delG_lt q, delG_lt q]
    · rw [delG_ge q hj, delG_ge q hj, delG_ge q hj, delG_ge q hj]
theorem rel_le (R : REL N t root n B L lam Hh) (hn : n ≤ 500) : tR t root ≤ 500 := by rw [rel_count R]; exact hn
/-- the same route is looked for on both sides -/
theorem rel_find (R : REL N t root n B L lam Hh) {x : Int32} {k : Nat} (hk : k ≤ 32) : (∃ i, i < n ∧ B i = x ∧ L i = nI k) ↔ ∃ a ∈ N, isR t a = true ∧ tL t a = k ∧ tB t a = x := by
  constructor
  · intro ⟨i, i1, i2, i3⟩
    obtain ⟨a, a1, a2, a3, a4, -⟩ := rel_node R i1
    refine ⟨a, a1, a2, ?_, a3.trans i2⟩
    rw [a4]
    have hw := R.2.1.1 i i1
    rw [hw.1] at i3
    exact (nI_eq (by have := hw.2.1.1; omega) (by omega)).mp i3
  · intro ⟨a, a1, a2, a3, a4⟩
    obtain ⟨i, i1, i2, i3, -⟩ := rel_ix R a1 a2
    exact ⟨i, i1, i2.trans a4, by rw [(R.2.1.1 i i1).1, i3, a3]⟩
end STEP
end
section
/-! the law's state: both objects in one heap -/
def XS (f : AH) (q : Nat) (N : List Nat) (t : NT) (root : Nat) : Prop := f q = some (trO root (nI N.length)) ∧ TN f N t
def MS (cy : ClassId) (f : AH) (qm ab al ah nb nl n : Nat) (B L Hh : Nat → Int32) : Prop := ∃ (cd nc : Int32) (NB NL : Nat → Int32), f qm = some (mdO cd ab al ah (nI n) nb nl nc) ∧ f ab = some (arO cy 500 B) ∧ f al = some (arO cy 500 L) ∧ f ah = some (arO cy 500 Hh) ∧ f nb = some (arO cy 1000 NB) ∧ f nl = some (arO cy 1000 NL)
def DSt (ab al ah nb nl : Nat) : Prop := ab ≠ al ∧ ab ≠ ah ∧ al ≠ ah ∧ ab ≠ nb ∧ ab ≠ nl ∧ al ≠ nb ∧ al ≠ nl ∧ ah ≠ nb ∧ ah ≠ nl ∧ nb ≠ nl
def LwS (cy : ClassId) (f : AH) (q qm ab al ah nb nl i : Nat) : Prop := ∃ (N : List Nat) (t : NT) (root n : Nat) (B L : Nat → Int32) (lam : Nat → Nat) (Hh : Nat → Int32), XS f q N t root ∧ MS cy f qm ab al ah nb nl n B L Hh ∧ n ≤ 500 ∧ REL N t root n B L lam Hh ∧ N.length ≤ 1 + i
section ST8
variable {cy : ClassId} {f u v : AH} {q qm ab al ah nb nl n : Nat} {N : List Nat} {t : NT} {root : Nat} {B L Hh : Nat → Int32} {lam : Nat → Nat}
theorem not_node (hX : XS f q N t root) {b : Nat} {e : va_E} (h : f b = some e) (h1 : ∀ x, e ≠ ndo x) (h2 : ∀ r k, e ≠ trO r k) : b ∉ N ∧ b ≠ q := by
  refine ⟨fun g => ?_, fun g => ?_⟩
  · exact h1 (t b) (Option.some.inj (h.symm.trans (hX.2 b g)))
  · subst g; exact h2 _ _ (Option.some.inj (h.symm.trans hX.1))
theorem ms_fr (hX : XS f q N t root) (hM : MS cy f qm ab al ah nb nl n B L Hh) (hF : FR f u N q) : MS cy u qm ab al ah nb nl n B L Hh := by
  obtain ⟨cd, nc, NB, NL, m1, m2, m3, m4, m5, m6⟩ := hM
  have k : ∀ {b : Nat} {e : va_E}, f b = some e → (∀ x, e ≠ ndo x) → (∀ r k, e ≠ trO r k) → u b = some e := fun {b e} g g1 g2 => by
    obtain ⟨a1, a2⟩ := not_node hX g g1 g2
    exact hF b e g a1 a2
  exact ⟨cd, nc, NB, NL, k m1 (fun x => by simp [ndo, ndE]) (fun r k => by simp), k m2 (fun x => by simp [ndo, ndE]) (fun r k => by simp), k m3 (fun x => by simp [ndo, ndE]) (fun r k => by simp), k m4 (fun x => by simp [ndo, ndE]) (fun r k => by simp), k m5 (fun x => by simp [ndo, ndE]) (fun r k => by simp), k m6 (fun x => by simp [ndo, ndE]) (fun r k => by simp)⟩
theorem xs_keep (hX : XS f q N t root) (hM : MS cy f qm ab al ah nb nl n B L Hh) (hF : ∀ b, b ≠ qm → b ≠ ab → b ≠ al → b ≠ ah → b ≠ nb → b ≠ nl → u b = f b) : XS u q N t root := by
  obtain ⟨cd, nc, NB, NL, m1, m2, m3, m4, m5, m6⟩ := hM
  have k : ∀ {b : Nat} {e : va_E}, f b = some e → ((∃ x, e = ndo x) ∨ ∃ r k, e = trO r k) → u b = some e := fun {b e} g g1 => by
    rw [hF b ?_ ?_ ?_ ?_ ?_ ?_]
    · exact g
    · rintro rfl
      have z := Option.some.inj (g.symm.trans m1)
      rcases g1 with ⟨x, w⟩ | ⟨r, k, w⟩ <;> rw [w] at z <;> simp [ndo, ndE] at z
    · rintro rfl
      have z := Option.some.inj (g.symm.trans m2)
      rcases g1 with ⟨x, w⟩ | ⟨r, k, w⟩ <;> rw [w] at z <;> simp [ndo, ndE] at z
    · rintro rfl
      have z := Option.some.inj (g.symm.trans m3)
      rcases g1 with ⟨x, w⟩ | ⟨r, k, w⟩ <;> rw [w] at z <;> simp [ndo, ndE] at z
    · rintro rfl
      have z := Option.some.inj (g.symm.trans m4)
      rcases g1 with ⟨x, w⟩ | ⟨r, k, w⟩ <;> rw [w] at z <;> simp [ndo, ndE] at z
    · rintro rfl
      have z := Option.some.inj (g.symm.trans m5)
      rcases g1 with ⟨x, w⟩ | ⟨r, k, w⟩ <;> rw [w] at z <;> simp [ndo, ndE] at z
    · rintro rfl
      have z := Option.some.inj (g.symm.trans m6)
      rcases g1 with ⟨x, w⟩ | ⟨r, k, w⟩ <;> rw [w] at z <;> simp [ndo, ndE] at z
  exact ⟨k hX.1 (Or.inr ⟨_, _, rfl⟩), fun a ha => k (hX.2 a ha) (Or.inl ⟨_, rfl⟩)⟩
/-- only the reference's object was written: what it holds besides its counters stays -/
theorem ms_up {cd nc : Int32} {NB NL : Nat → Int32} (m2 : f ab = some (arO cy 500 B)) (m1 : f qm = some (mdO cd ab al ah (nI n) nb nl nc)) (m3 : f al = some (arO cy 500 L)) (m4 : f ah = some (arO cy 500 Hh)) (m5 : f nb = some (arO cy 1000 NB)) (m6 : f nl = some (arO cy 1000 NL)) {n' : Nat} {cd' nc' : Int32} (hu : u = va_up f qm (some (mdO cd' ab al ah (nI n') nb nl nc'))) : MS cy u qm ab al ah nb nl n' B L Hh := by
  have k : ∀ {b : Nat} {e : va_E}, f b = some e → (∀ a b c d e' g h i, e ≠ mdO a b c d e' g h i) → u b = some e := fun {b e} g g1 => by
    have : b ≠ qm := fun z => by subst z; exact g1 _ _ _ _ _ _ _ _ (Option.some.inj (g.symm.trans m1))
    rw [hu, va_up_ne _ _ this]; exact g
  exact ⟨cd', nc', NB, NL, by rw [hu]; exact va_up_self _ _ _, k m2 (fun _ _ _ _ _ _ _ _ => by simp), k m3 (fun _ _ _ _ _ _ _ _ => by simp), k m4 (fun _ _ _ _ _ _ _ _ => by simp), k m5 (fun _ _ _ _ _ _ _ _ => by simp), k m6 (fun _ _ _ _ _ _ _ _ => by simp)⟩
/-- a reading call: nothing but the reference's counters moved -/
theorem ls_read {i : Nat} {cd nc cd' nc' : Int32} {NB NL : Nat → Int32} (hX : XS f q N t root) (m1 : f qm = some (mdO cd ab al ah (nI n) nb nl nc)) (m2 : f ab = some (arO cy 500 B)) (m3 : f al = some (arO cy 500 L)) (m4 : f ah = some (arO cy 500 Hh)) (m5 : f nb = some (arO cy 1000 NB)) (m6 : f nl = some (arO cy 1000 NL)) (hn : n ≤ 500) (hR : REL N t root n B L lam Hh) (hN : N.length ≤ 1 + i) (hu : u = va_up f qm (some (mdO cd' ab al ah (nI n) nb nl nc'))) : LwS cy u q qm ab al ah nb nl (i + 4) :=
  ⟨N, t, root, n, B, L, lam, Hh, xs_keep hX ⟨cd, nc, NB, NL, m1, m2, m3, m4, m5, m6⟩ (fun b g _ _ _ _ _ => by rw [hu, va_up_ne _ _ g]), ms_up m2 m1 m3 m4 m5 m6 hu, hn, hR, by omega⟩
theorem ls_nodes {i : Nat} {cd nc : Int32} {NB NL NB' NL' : Nat → Int32} {nc' : Int32} (hd : DSt ab al ah nb nl) (hX : XS f q N t root) (m1 : f qm = some (mdO cd ab al ah (nI n) nb nl nc)) (m2 : f ab = some (arO cy 500 B)) (m3 : f al = some (arO cy 500 L)) (m4 : f ah = some (arO cy 500 Hh)) (m5 : f nb = some (arO cy 1000 NB)) (m6 : f nl = some (arO cy 1000 NL)) (hn : n ≤ 500) (hR : REL N t root n B L lam Hh) (hN : N.length ≤ 1 + i) (u1 : u qm = some (mdO 0 ab al ah (nI n) nb nl nc')) (u2 : u nb = some (arO cy 1000 NB')) (u3 : u nl = some (arO cy 1000 NL')) (uF : FM3 f u qm nb nl) : LwS cy u q qm ab al ah nb nl (i + 4) := by
  obtain ⟨d1, d2, d3, d4, d5, d6, d7, d8, d9, d10⟩ := hd
  have nq : ∀ {b : Nat} {e : va_E}, f b = some e → (∀ a b c d e' g h i, e ≠ mdO a b c d e' g h i) → b ≠ qm := fun {b e} g g1 z => by subst z; exact g1 _ _ _ _ _ _ _ _ (Option.some.inj (g.symm.trans m1))
  refine ⟨N, t, root, n, B, L, lam, Hh, xs_keep hX ⟨cd, nc, NB, NL, m1, m2, m3, m4, m5, m6⟩ (fun b g _ _ _ g5 g6 => uF b g g5 g6), ⟨0, nc', NB', NL', u1, ?_, ?_, ?_, u2, u3⟩, hn, hR, by omega⟩
  · rw [uF ab (nq m2 (fun _ _ _ _ _ _ _ _ => by simp)) d4 d5]; exact m2
  · rw [uF al (nq m3 (fun _ _ _ _ _ _ _ _ => by simp)) d6 d7]; exact m3
  · rw [uF ah (nq m4 (fun _ _ _ _ _ _ _ _ => by simp)) d8 d9]; exact m4
theorem in_fr {x l0 h r : Int32} (hI : INp f q N t root x l0 h r u) : FR f u N q := by
  rcases hI with ⟨-, -, e⟩ | ⟨-, k, -, -, ⟨a, ha, -, -, -, -, e⟩ | ⟨-, ⟨-, -, e⟩ | ⟨-, -, g⟩⟩⟩
  · rw [e]; exact fun b v k _ _ => k
  · intro b v k1 k2 k3
    have : b ≠ a := fun z => k2 (z ▸ ha)
    rw [e, va_up_ne _ _ this]; exact k1
  · rw [e]; exact fun b v k _ _ => k
  · obtain ⟨N', t', -, -, -, -, g, -⟩ := g; exact g
theorem step_ins {i : Nat} {x l0 h r r' : Int32} (hd : DSt ab al ah nb nl) (hX : XS f q N t root) (hM : MS cy f qm ab al ah nb nl n B L Hh) (hn : n ≤ 500) (hR : REL N t root n B L lam Hh) (hN : N.length ≤ 1 + i) (hI : INp f q N t root x l0 h r u) {cd nc : Int32} {NB NL : Nat → Int32} (m1 : u qm = some (mdO cd ab al ah (nI n) nb nl nc)) (m2 : u ab = some (arO cy 500 B)) (m3 : u al = some (arO cy 500 L)) (m4 : u ah = some (arO cy 500 Hh)) (m5 : u nb = some (arO cy 1000 NB)) (m6 : u nl = some (arO cy 1000 NL)) (hJ : MIp cy u qm ab al ah nb nl nc n B L Hh x l0 h r' v) : r = r' ∧ LwS cy v q qm ab al ah nb nl (i + 4) := by
  have hMu : MS cy u qm ab al ah nb nl n B L Hh := ⟨cd, nc, NB, NL, m1, m2, m3, m4, m5, m6⟩
  rcases hI with ⟨c1, c2, c3⟩ | ⟨c1, k, c2, c3, c4⟩
  · rcases hJ with ⟨-, e2, e3⟩ | ⟨e1, e2, -⟩
    · rw [c3] at e3 m1 m2 m3 m4 m5 m6
      exact ⟨by rw [c2, e2], ls_read hX m1 m2 m3 m4 m5 m6 hn hR hN e3⟩
    · rcases c1 with c1 | c1
      · exact absurd e1 c1
      · exact absurd c1 e2
  · have hok : okP x l0 := ⟨k, c2, c3⟩
    have hh : ¬ h = -1 := fun e => c1 (by rw [e]; decide)
    have k32 := c3.1
    subst c2
    have hfd := rel_find hR (x := x) k32
    rcases hJ with ⟨e1, -, -⟩ | ⟨-, -, e4⟩
    · rcases e1 with e1 | e1
      · exact absurd hok e1
      · exact absurd e1 c1
    · rcases c4 with ⟨a, a1, a2, a3, a4, a5, a6⟩ | ⟨c5, c6⟩
      · rcases e4 with ⟨j, j1, j2, j3, j4, j5⟩ | ⟨e5, -⟩
        · have e1 : B j = tB t a := by rw [j2, a3]
          have e2 : lam j = tL t a := by
            have hw := hR.2.1.1 j j1
            rw [hw.1] at j3
            rw [a2]
            exact (nI_eq (by have := hw.2.1.1; omega) (by omega)).mp j3
          have hXu : XS u q N (va_up t a (sethop (t a) h)) root := by
            have naq : q ≠ a := fun e => q_notin hX.1 hX.2 (e ▸ a1)
            refine ⟨by rw [a6, va_up_ne _ _ naq]; exact hX.1, fun y hy => ?_⟩
            by_cases e : y = a
            · subst e; rw [a6, va_up_self, va_up_self]
            · rw [a6, va_up_ne _ _ e, va_up_ne _ _ e]; exact hX.2 y hy
          obtain ⟨d1, d2, d3, d4, d5, d6, d7, d8, d9, d10⟩ := hd
          have nq : ∀ {b : Nat} {e : va_E}, u b = some e → (∀ a b c d e' g h i, e ≠ mdO a b c d e' g h i) → b ≠ qm := fun {b e} g g1 z => by subst z; exact g1 _ _ _ _ _ _ _ _ (Option.some.inj (g.symm.trans m1))
          have nah := nq m4 (fun _ _ _ _ _ _ _ _ => by simp)
          refine ⟨by rw [a5, j4], N, va_up t a (sethop (t a) h), root, n, B, L, lam, upd Hh j h, xs_keep hXu hMu (fun b g1 g2 g3 g4 g5 g6 => by rw [j5, va_up_ne _ _ g4, va_up_ne _ _ g1]), ⟨0, nc, NB, NL, ?_, ?_, ?_, ?_, ?_, ?_⟩, hn, rel_hop hR a1 a4 j1 e1 e2 hh, by omega⟩
          · rw [j5, va_up_ne _ _ (Ne.symm nah)]; exact va_up_self _ _ _
          · rw [j5, va_up_ne _ _ d2, va_up_ne _ _ (nq m2 (fun _ _ _ _ _ _ _ _ => by simp))]; exact m2
          · rw [j5, va_up_ne _ _ d3, va_up_ne _ _ (nq m3 (fun _ _ _ _ _ _ _ _ => by simp))]; exact m3
          · rw [j5]; exact va_up_self _ _ _
          · rw [j5, va_up_ne _ _ (Ne.symm d8), va_up_ne _ _ (nq m5 (fun _ _ _ _ _ _ _ _ => by simp))]; exact m5
          · rw [j5, va_up_ne _ _ (Ne.symm d9), va_up_ne _ _ (nq m6 (fun _ _ _ _ _ _ _ _ => by simp))]; exact m6
        · exfalso
          obtain ⟨j, j1, j2, j3⟩ := hfd.mpr ⟨a, a1, a4, a2, a3⟩
          exact e5 j j1 ⟨j2, j3⟩
      · rcases e4 with ⟨j, j1, j2, j3, -, -⟩ | ⟨e5, e6⟩
        · exfalso
          obtain ⟨a, a1, a2, a3, a4⟩ := hfd.mp ⟨j, j1, j2, j3⟩
          exact c5 a a1 a2 a3 a4
        · have hc := rel_count hR
          rcases c6 with ⟨c7, c8, c9⟩ | ⟨c7, c8, c9⟩
          · rcases e6 with ⟨-, e8, e9⟩ | ⟨e7, -⟩
            · rw [c9] at e9 m1 m2 m3 m4 m5 m6
              exact ⟨by rw [c8, e8], ls_read hX m1 m2 m3 m4 m5 m6 hn hR hN e9⟩
            · omega
          · rcases e6 with ⟨e7, -, -⟩ | ⟨e7, e8, p, p1, p2, p3, v1, v2, v3, v4, vF⟩
            · omega
            · obtain ⟨N', t', g1, g2, g3, g4, g5, g6⟩ := c9
              refine ⟨by rw [c8, e8], N', t', root, n + 1, _, _, _, _, xs_keep (f := u) ⟨g1, g2⟩ hMu (fun b h1 h2 h3 h4 _ _ => vF b h1 h2 h3 h4), ⟨0, nc, NB, NL, v1, v2, v3, v4, ?_, ?_⟩, by omega, rel_ins hR g3 g4 c3 hh p1 p2 p3 (fun j hj => e5 j hj), by omega⟩
              · obtain ⟨d1, d2, d3, d4, d5, d6, d7, d8, d9, d10⟩ := hd
                have nq : nb ≠ qm := fun z => by rw [z, m1] at m5; simp at m5
                rw [vF nb nq (Ne.symm d4) (Ne.symm d6) (Ne.symm d8)]; exact m5
              · obtain ⟨d1, d2, d3, d4, d5, d6, d7, d8, d9, d10⟩ := hd
                have nq : nl ≠ qm := fun z => by rw [z, m1] at m6; simp at m6
                rw [vF nl nq (Ne.symm d5) (Ne.symm d7) (Ne.symm d9)]; exact m6
def RMp (f : AH) (q : Nat) (N : List Nat) (t : NT) (root : Nat) (x n r : Int32) (u : AH) : Prop := (∃ a ∈ N, n = nI (tL t a) ∧ tB t a = x ∧ isR t a = true ∧ r = 1 ∧ CP f q N t root a u) ∨ ((∀ a ∈ N, isR t a = true → n = nI (tL t a) → ¬ tB t a = x) ∧ r = 0 ∧ u = f)
theorem rm_fr {x l0 r : Int32} (hI : RMp f q N t root x l0 r u) : FR f u N q := by
  rcases hI with ⟨a, -, -, -, -, -, N', t', -, -, -, -, g, -⟩ | ⟨-, -, e⟩
  · exact g
  · rw [e]; exact fun b v k _ _ => k
theorem step_rem {i : Nat} {x l0 r r' : Int32} (hd : DSt ab al ah nb nl) (hX : XS f q N t root) (hn : n ≤ 500) (hR : REL N t root n B L lam Hh) (hN : N.length ≤ 1 + i) (hI : RMp f q N t root x l0 r u) {cd nc : Int32} {NB NL : Nat → Int32} (m1 : u qm = some (mdO cd ab al ah (nI n) nb nl nc)) (m2 : u ab = some (arO cy 500 B)) (m3 : u al = some (arO cy 500 L)) (m4 : u ah = some (arO cy 500 Hh)) (m5 : u nb = some (arO cy 1000 NB)) (m6 : u nl = some (arO cy 1000 NL)) (hJ : MRp cy u qm ab al ah nb nl nc n B L Hh x l0 r' v) : r = r' ∧ LwS cy v q qm ab al ah nb nl (i + 4) := by
  have hMu : MS cy u qm ab al ah nb nl n B L Hh := ⟨cd, nc, NB, NL, m1, m2, m3, m4, m5, m6⟩
  rcases hI with ⟨a, a1, a2, a3, a4, a5, N', t', g1, g2, g3, g4, g5, g6⟩ | ⟨c1, c2, c3⟩
  · have l32 := (hR.1.1.2.2.1 a a1).1
    have hfd := rel_find hR (x := x) l32
    rcases hJ with ⟨e1, -, -⟩ | ⟨j, j1, j2, j3, j4, v1, v2, v3, v4, vF⟩
    · exfalso
      obtain ⟨j, j1, j2, j3⟩ := hfd.mpr ⟨a, a1, a4, rfl, a3⟩
      exact e1 j j1 ⟨j2, by rw [j3, a2]⟩
    · have e1 : B j = tB t a := by rw [j2, a3]
      have e2 : lam j = tL t a := by
        have hw := hR.2.1.1 j j1
        rw [hw.1, a2] at j3
        exact (nI_eq (by have := hw.2.1.1; omega) (by omega)).mp j3
      obtain ⟨d1, d2, d3, d4, d5, d6, d7, d8, d9, d10⟩ := hd
      refine ⟨by rw [a5, j4], N', t', root, n - 1, _, _, _, _, xs_keep (f := u) ⟨g1, g2⟩ hMu (fun b h1 h2 h3 h4 _ _ => vF b h1 h2 h3 h4), ⟨0, nc, NB, NL, v1, v2, v3, v4, ?_, ?_⟩, by omega, rel_del hR a1 a4 g3 g4 j1 e1 e2, by omega⟩
      · have nq : nb ≠ qm := fun z => by rw [z, m1] at m5; simp at m5
        rw [vF nb nq (Ne.symm d4) (Ne.symm d6) (Ne.symm d8)]; exact m5
      · have nq : nl ≠ qm := fun z => by rw [z, m1] at m6; simp at m6
        rw [vF nl nq (Ne.symm d5) (Ne.symm d7) (Ne.symm d9)]; exact m6
  · rcases hJ with ⟨-, e2, e3⟩ | ⟨j, j1, j2, j3, -⟩
    · rw [c3] at e3 m1 m2 m3 m4 m5 m6
      exact ⟨by rw [c2, e2], ls_read hX m1 m2 m3 m4 m5 m6 hn hR hN e3⟩
    · exfalso
      obtain ⟨a, a1, a2, a3, a4, -⟩ := rel_node hR j1
      exact c1 a a1 a2 (by rw [a4, ← j3, (hR.2.1.1 j j1).1]) (a3.trans j2)
theorem step_init {i : Nat} (hX : XS f q N t root) (hR : REL N t root n B L lam Hh) (u1 : u q = some (trO root 1)) (u2 : u root = some (ndE (tB t root) (nI (tL t root)) (-1) 0 none none)) {cd nc : Int32} {NB NL : Nat → Int32} (m1 : u qm = some (mdO cd ab al ah (nI n) nb nl nc)) (m2 : u ab = some (arO cy 500 B)) (m3 : u al = some (arO cy 500 L)) (m4 : u ah = some (arO cy 500 Hh)) (m5 : u nb = some (arO cy 1000 NB)) (m6 : u nl = some (arO cy 1000 NL)) (hv : v = va_up u qm (some (mdO 0 ab al ah 0 nb nl nc))) : LwS cy v q qm ab al ah nb nl (i + 4) := by
  have hs := hR.1.1
  have hr0 : tB t root = 0 := by have := hs.2.2.1 root hs.1.1; rw [hs.1.2] at this; exact px_inj this px_0 ag_0
  have hXu : XS u q [root] (fun _ => (0, 0, -1, 0, none, none)) root := ⟨u1, fun a ha => by rw [List.mem_singleton.mp ha, u2, hr0, hs.1.2]; rfl⟩
  refine ⟨[root], fun _ => (0, 0, -1, 0, none, none), root, 0, B, L, lam, Hh, xs_keep hXu ⟨cd, nc, NB, NL, m1, m2, m3, m4, m5, m6⟩ (fun b g _ _ _ _ _ => by rw [hv, va_up_ne _ _ g]), ms_up (n' := 0) m2 m1 m3 m4 m5 m6 hv, by omega, rel_init rfl B L Hh lam, ?_⟩
  rw [List.length_singleton]; omega
end ST8
end
section
/-! THE CLAIM OUT OF ONE WALK OF THE LAW'S BODY. Your part is whole_start (and what it stands on); all else here is the same for every law, but numbers. -/
def R_law : String := "RouteTrieLaw"
def lw_P (b : Addr) (xs : List Int32) (args : Array Value) (s : State) : Prop := args = #[.ref b] ∧ s.IntsAt b xs ∧ xs.length ≤ 2048 ∧ (Jvm.Cond.and given_1 narrow_1).before args s = true
def lw_Q (_ : Array Value) (s : State) (o : Outcome) (t : State) : Prop := o = .returned (some (.int 1)) ∧ Framed s o t [] 600000 7302250
def lw_Z (below : List Frame) (a : Array Value) (s : State) : State → Prop := fun t => ∃ o, t.status = .running ∧ Ended t below o ∧ lw_Q a s o t
/-- the law's own end, with 1 on the stack, nothing written that was there before, its room as the claim has it -/
theorem lw_ret {p : Program} {l : Launch} {e : Env} {s : State} {m : MethodId} {below : List Frame} {meth : Method} {c : Code} {b : Nat} (hx : p.tables.exec = Jvm.exec) (hb : c.code = code) (hr : meth.sig.returnType = ret) (hlocks : meth.locks = false) {pc : Nat} {H : Heap} {ls : Array Slot} (hdg : decode code pc = .ok (.ireturn, 1)) : W p l e room_1 s m #[Value.ref b] below meth c H [] 600000 7302250 (lw_Z below #[Value.ref b] s) (F0 m pc ls [.int 1]) := by
  intro T hT X
  obtain ⟨fs, hret, hrun, hended, hW, hframe⟩ := X.leave (v := some (.int 1)) (hlocks := hlocks) (fun h => by rw [hr] at h; cases h)
  have hmeth' : T.vm.method? m = some meth := X.method'
  refine ⟨T.setFrames fs, ?_, .returned (some (.int 1)), hrun, hended, rfl, ⟨_, rfl⟩, hW, hframe⟩
  jvm_step X.here [X.here.top, hx, hb, hdg, hmeth', hr, ret, narrow_b1]
  (try refine ⟨rfl, ?_⟩); (try refine ⟨rfl, ?_⟩)
  first | (intro acts; rw [hret _ acts rfl rfl rfl]) | rw [hret _ _ rfl rfl rfl]
  exact Steps.refl _
/-- what holds at the law's entry: the machine, the code, the tables' words (any of lw_tbl by 'hts w (by decide +kernel)'), the script of L ints xs at the cell b, what the Statement gives of the start (any of its parts by flat_of_before) -/
def lw_At (p : Program) (s : State) (m : MethodId) (meth : Method) (c : Code) (b L : Nat) (xs : Nat → Int32) : Prop :=
  p.tables.exec = Jvm.exec ∧ c.code = code ∧ meth.sig.returnType = ret ∧ c.maxLocals = 4 ∧ s.vm.findClass R_law = some m.cls ∧ (∀ w ∈ lw_tbl, w.before #[Value.ref b] s = true) ∧ va_X b L xs s s.heap ∧ b < s.heap.size ∧ meth.locks = false ∧ (Jvm.Cond.and given_1 narrow_1).before #[Value.ref b] s = true
end
section
/-! the law: its loop and its start -/
theorem und_eq {N : List Nat} {t : NT} {root n : Nat} {B L : Nat → Int32} {lam : Nat → Nat} {Hh : Nat → Int32} (R : REL N t root n B L lam Hh) {x l0 r r' : Int32} (h1 : ((¬ okP x l0) ∧ r = -1) ∨ ∃ (k : Nat) (ro : Option Nat), l0 = nI k ∧ px x k ∧ TMp N t x k ro ∧ r = ro.elim 0 (fun a => nI (tR t a))) (h2 : ((¬ okP x l0) ∧ r' = -1) ∨ (okP x l0 ∧ r' = nI ((List.range n).countP (fun j => decide (l0 ≤ L j) && (B j &&& mskI l0 == x))))) : r = r' := by
  rcases h1 with ⟨a1, a2⟩ | ⟨k, ro, a1, a2, a3, a4⟩
  · rcases h2 with ⟨-, b2⟩ | ⟨b1, -⟩
    · rw [a2, b2]
    · exact absurd b1 a1
  · subst a1
    rcases h2 with ⟨b1, -⟩ | ⟨-, b2⟩
    · exact absurd ⟨k, rfl, a2⟩ b1
    · rw [a4, b2]; exact rel_under R a2 a3
theorem law_go {Ls i : Nat} (hL : Ls ≤ 2048) (hi : i ≤ Ls + 3) (h : ¬ nI Ls - 4 < nI i) : i + 4 ≤ Ls := by
  rw [Int32.lt_iff_toInt_lt] at h
  have h1 : (nI Ls - 4).toInt = (Ls : Int) - 4 := pk_sub_toInt (a := Ls) (b := 4) (by omega) (by omega)
  rw [h1, nI_toInt (by omega)] at h
  omega
set_option maxHeartbeats 4000000 in
set_option maxRecDepth 100000 in
theorem law_loop {p : Program} {l : Launch} {e : Env} {s : State} {m : MethodId} {below : List Frame} {meth : Method} {c : Code} {D : va_G} {cy : ClassId} {b Ls : Nat} {xs : Nat → Int32} (hL : Ls ≤ 2048) (A0 : lw_At p s m meth c b Ls xs) (C0 : hp_C D cy s.heap.size s) (q qm ab al ah nb nl : Nat) (hd : DSt ab al ah nb nl) :
    ∀ (c0 i ce sl : Nat) (f : AH) (ls : Array Slot) (H : Heap) (locs : List Loc), Ls + 5 ≤ i + c0 → i ≤ Ls + 3 → ce ≤ 8 + i → sl ≤ 3600 + 12 * i → LwS cy f q qm ab al ah nb nl i → hp_ok D s.heap.size f H → va_S (hp_A s.heap.size) s.heap H locs → lv_has ls 4 [(0, .ref b), (1, .ref q), (2, .ref qm), (3, .int (nI i))] → W p l e room_1 s m #[Value.ref b] below meth c H locs ce sl (lw_Z below #[Value.ref b] s) (F0 m 18 ls []) := by
  obtain ⟨hx, hb, hr, hml, hown, hts, hX0, hbl, hlocks, hgv⟩ := A0
  have hown : s.vm.findClass RL = some m.cls := hown
  have hts : ∀ w ∈ wsL_law, w.before #[Value.ref b] s = true := fun w h => hts w (wsL_law_in w h)
  have hbA : ¬ hp_A s.heap.size b := Nat.not_le.mpr hbl
  obtain ⟨d1, d2, d3, d4, d5, d6, d7, d8, d9, d10⟩ := id hd
  intro c0
  induction c0 with
  | zero => intro i _ _ _ _ _ _ h1 h2; exact absurd h1 (by omega)
  | succ c0 ih =>
    intro i ce sl f ls H locs hc0 hi hce hsl hLS hf hS hl
    obtain ⟨N, t, root, n, B, L, lam, Hh, hX, hM, hn, hR, hN⟩ := hLS
    obtain ⟨cd, nc, NB, NL, m1, m2, m3, m4, m5, m6⟩ := id hM
    have hbd : N.length < 2 ^ 30 := by omega
    have hst := hR.1.1
    refine lv_iload_n hx hb dL_law_18 rfl (lv_at hl 3 rfl) ?_
    refine lv_aload_n hx hb dL_law_19 rfl (lv_at hl 0 rfl) ?_
    refine va_slen hx hb hX0 hbl hbA hS dL_law_20 ?_
    rw [show Int32.ofNat Ls = nI Ls from rfl]
    refine lv_iconst (v := 4) hx hb dL_law_21 (by decide) ?_
    refine lv_isub hx hb dL_law_22 ?_
    refine lv_icmp_gt (tgt := 379) hx hb dL_law_23 (by decide) (fun h23 => ?_) (fun h23 => ?_)
    · refine lv_iconst (v := 1) hx hb dL_law_379 (by decide) ?_
      refine va_forget (fun z hz => hS.2.2 z hz) ?_
      refine W.widen (k := 600000) (n := 7302250) (by omega) (by omega) ?_
      exact lw_ret hx hb hr hlocks dL_law_380
    · have hgo : i + 4 ≤ Ls := law_go hL hi h23
      refine lv_aload_n hx hb dL_law_26 rfl (lv_at hl 0 rfl) ?_
      refine lv_iload_n hx hb dL_law_27 rfl (lv_at hl 3 rfl) ?_
      refine va_sld hx hb hX0 hbl hbA hS (vp_in_nI (n := i) (by omega) (by omega)) dL_law_28 ?_
      rw [nI_clamp (n := i) (by omega)]
      refine lv_bipush (v := 15) hx hb dL_law_29 (by decide) ?_
      refine lv_iand hx hb dL_law_31 ?_
      obtain ⟨sv, hsv⟩ : ∃ sv : Int32, sv = ((xs i) &&& 15) := ⟨_, rfl⟩
      rw [← hsv]
      by_cases hw0 : sv = 0
      · refine lv_tableIn (tgt := 92) (off := 60) hx hb dL_law_32 (by rw [hw0]; decide) (by rw [hw0]; decide) (by rw [hw0]; decide) (by decide) ?_
        refine lv_aload_n hx hb dL_law_92 rfl (lv_at hl 1 rfl) ?_
        refine hp_kv (hp_rV (C := RX1) (As := []) (rest := []) ⟨hx, hb, hml, hown, hts⟩ C0 hf hS (c_X1_init_ l D cy _ f q N t root (nI N.length) hX.1 hX.2 hst.1.1) (cwV 0 hts gL_law_X1_init_ rfl rfl rfl (by decide +kernel) ⟨Nat.le_of_ble_eq_true rfl, Nat.le_of_ble_eq_true rfl⟩) hX.1 rfl rfl hl.1 rfl (Nat.le_of_ble_eq_true rfl) dL_law_93 ⟨by show _ ≤ 600000; omega, by show _ ≤ 7302250; omega⟩) hS (fun u_1 H locs hq_1 hf hS => ?_)
        obtain ⟨cd1, nc1, NB1, NL1, n1, n2, n3, n4, n5, n6⟩ := ms_fr hX hM (hq_1.2.2)
        refine lv_aload_n hx hb dL_law_96 rfl (lv_at hl 2 rfl) ?_
        refine hp_kv (hp_rV (C := RX2) (As := []) (rest := []) ⟨hx, hb, hml, hown, hts⟩ C0 hf hS (c_X2_init_ l D cy _ u_1 qm ab al ah nb nl cd1 nc1 n B L Hh NB1 NL1  n1 n2 n3 n4 hn) (cwV 0 hts gL_law_X2_init_ rfl rfl rfl (by decide +kernel) ⟨Nat.le_of_ble_eq_true rfl, Nat.le_of_ble_eq_true rfl⟩) n1 rfl rfl hl.1 rfl (Nat.le_of_ble_eq_true rfl) dL_law_97 ⟨by show _ ≤ 600000; omega, by show _ ≤ 7302250; omega⟩) hS (fun u_2 H locs hq_2 hf hS => ?_)
        have hLn : LwS cy u_2 q qm ab al ah nb nl (i + 4) := step_init hX hR hq_1.1 hq_1.2.1 n1 n2 n3 n4 n5 n6 hq_2
        refine lv_goto (tgt := 373) hx hb dL_law_100 (by decide) ?_
        refine lv_iinc (v := ((nI i) + 4)) (lv' := [(3, .int ((nI i) + 4)), (0, .ref b), (1, .ref q), (2, .ref qm)]) hx hb dL_law_373 hl (k := 3) rfl rfl (by decide) rfl (fun ls hl => ?_)
        refine lv_goto (tgt := 18) hx hb dL_law_376 (by decide) ?_
        rw [show nI i + 4 = nI (i + 4) from nI_add i 4] at hl
        exact ih (i + 4) _ _ u_2 ls _ _ (by omega) (by omega) (by omega) (by omega) hLn hf hS (lv_sub hl [1, 2, 3, 0] rfl)
      by_cases hw1 : sv = 1
      · refine lv_tableIn (tgt := 103) (off := 71) hx hb dL_law_32 (by rw [hw1]; decide) (by rw [hw1]; decide) (by rw [hw1]; decide) (by decide) ?_
        refine lv_aload_n hx hb dL_law_103 rfl (lv_at hl 1 rfl) ?_
        refine lv_aload_n hx hb dL_law_104 rfl (lv_at hl 0 rfl) ?_
        refine lv_iload_n hx hb dL_law_105 rfl (lv_at hl 3 rfl) ?_
        refine lv_iconst (v := 1) hx hb dL_law_106 (by decide) ?_
        refine lv_iadd hx hb dL_law_107 ?_
        rw [show (((nI i) + 1) : Int32) = nI (i + 1) from nI_add i 1]
        refine va_sld hx hb hX0 hbl hbA hS (vp_in_nI (n := (i + 1)) (by omega) (by omega)) dL_law_108 ?_
        rw [nI_clamp (n := (i + 1)) (by omega)]
        refine lv_aload_n hx hb dL_law_109 rfl (lv_at hl 0 rfl) ?_
        refine lv_iload_n hx hb dL_law_110 rfl (lv_at hl 3 rfl) ?_
        refine lv_iconst (v := 2) hx hb dL_law_111 (by decide) ?_
        refine lv_iadd hx hb dL_law_112 ?_
        rw [show (((nI i) + 2) : Int32) = nI (i + 2) from nI_add i 2]
        refine va_sld hx hb hX0 hbl hbA hS (vp_in_nI (n := (i + 2)) (by omega) (by omega)) dL_law_113 ?_
        rw [nI_clamp (n := (i + 2)) (by omega)]
        refine lv_aload_n hx hb dL_law_114 rfl (lv_at hl 0 rfl) ?_
        refine lv_iload_n hx hb dL_law_115 rfl (lv_at hl 3 rfl) ?_
        refine lv_iconst (v := 3) hx hb dL_law_116 (by decide) ?_
        refine lv_iadd hx hb dL_law_117 ?_
        rw [show (((nI i) + 3) : Int32) = nI (i + 3) from nI_add i 3]
        refine va_sld hx hb hX0 hbl hbA hS (vp_in_nI (n := (i + 3)) (by omega) (by omega)) dL_law_118 ?_
        rw [nI_clamp (n := (i + 3)) (by omega)]
        refine hp_ki (hp_rV (C := RX1) (As := [.int (xs (i + 1)), .int (xs (i + 2)), .int (xs (i + 3))]) (rest := []) ⟨hx, hb, hml, hown, hts⟩ C0 hf hS (c_X1_insert l D cy _ f q N t root (xs (i + 1)) (xs (i + 2)) (xs (i + 3)) hX.1 hX.2 hR.1 hbd) (cwV 3 hts gL_law_X1_insert rfl rfl rfl (by decide +kernel) ⟨Nat.le_of_ble_eq_true rfl, Nat.le_of_ble_eq_true rfl⟩) hX.1 rfl rfl hl.1 rfl (Nat.le_of_ble_eq_true rfl) dL_law_119 ⟨by show _ ≤ 600000; omega, by show _ ≤ 7302250; omega⟩) hS (fun r_3 u_3 H locs hq_3 hf hS => ?_)
        obtain ⟨cd1, nc1, NB1, NL1, n1, n2, n3, n4, n5, n6⟩ := ms_fr hX hM (in_fr hq_3)
        refine lv_aload_n hx hb dL_law_122 rfl (lv_at hl 2 rfl) ?_
        refine lv_aload_n hx hb dL_law_123 rfl (lv_at hl 0 rfl) ?_
        refine lv_iload_n hx hb dL_law_124 rfl (lv_at hl 3 rfl) ?_
        refine lv_iconst (v := 1) hx hb dL_law_125 (by decide) ?_
        refine lv_iadd hx hb dL_law_126 ?_
        rw [show (((nI i) + 1) : Int32) = nI (i + 1) from nI_add i 1]
        refine va_sld hx hb hX0 hbl hbA hS (vp_in_nI (n := (i + 1)) (by omega) (by omega)) dL_law_127 ?_
        rw [nI_clamp (n := (i + 1)) (by omega)]
        refine lv_aload_n hx hb dL_law_128 rfl (lv_at hl 0 rfl) ?_
        refine lv_iload_n hx hb dL_law_129 rfl (lv_at hl 3 rfl) ?_
        refine lv_iconst (v := 2) hx hb dL_law_130 (by decide) ?_
        refine lv_iadd hx hb dL_law_131 ?_
        rw [show (((nI i) + 2) : Int32) = nI (i + 2) from nI_add i 2]
        refine va_sld hx hb hX0 hbl hbA hS (vp_in_nI (n := (i + 2)) (by omega) (by omega)) dL_law_132 ?_
        rw [nI_clamp (n := (i + 2)) (by omega)]
        refine lv_aload_n hx hb dL_law_133 rfl (lv_at hl 0 rfl) ?_
        refine lv_iload_n hx hb dL_law_134 rfl (lv_at hl 3 rfl) ?_
        refine lv_iconst (v := 3) hx hb dL_law_135 (by decide) ?_
        refine lv_iadd hx hb dL_law_136 ?_
        rw [show (((nI i) + 3) : Int32) = nI (i + 3) from nI_add i 3]
        refine va_sld hx hb hX0 hbl hbA hS (vp_in_nI (n := (i + 3)) (by omega) (by omega)) dL_law_137 ?_
        rw [nI_clamp (n := (i + 3)) (by omega)]
        refine hp_ki (hp_rV (C := RX2) (As := [.int (xs (i + 1)), .int (xs (i + 2)), .int (xs (i + 3))]) (rest := [.int r_3]) ⟨hx, hb, hml, hown, hts⟩ C0 hf hS (c_X2_insert l D cy _ u_3 qm ab al ah nb nl cd1 nc1 n B L Hh NB1 NL1 (xs (i + 1)) (xs (i + 2)) (xs (i + 3)) n1 n2 n3 n4 hn d1 d2 d3) (cwV 3 hts gL_law_X2_insert rfl rfl rfl (by decide +kernel) ⟨Nat.le_of_ble_eq_true rfl, Nat.le_of_ble_eq_true rfl⟩) n1 rfl rfl hl.1 rfl (Nat.le_of_ble_eq_true rfl) dL_law_138 ⟨by show _ ≤ 600000; omega, by show _ ≤ 7302250; omega⟩) hS (fun r_4 u_4 H locs hq_4 hf hS => ?_)
        obtain ⟨heq, hLn⟩ := step_ins (i := i) hd hX hM hn hR hN hq_3 n1 n2 n3 n4 n5 n6 hq_4
        refine lv_icmp_eq (tgt := 373) hx hb dL_law_141 (by decide) (fun h141 => ?_) (fun h141 => ?_)
        · refine lv_iinc (v := ((nI i) + 4)) (lv' := [(3, .int ((nI i) + 4)), (0, .ref b), (1, .ref q), (2, .ref qm)]) hx hb dL_law_373 hl (k := 3) rfl rfl (by decide) rfl (fun ls hl => ?_)
          refine lv_goto (tgt := 18) hx hb dL_law_376 (by decide) ?_
          rw [show nI i + 4 = nI (i + 4) from nI_add i 4] at hl
          exact ih (i + 4) _ _ u_4 ls _ _ (by omega) (by omega) (by omega) (by omega) hLn hf hS (lv_sub hl [1, 2, 3, 0] rfl)
        · exact absurd heq h141
      by_cases hw2 : sv = 2
      · refine lv_tableIn (tgt := 146) (off := 114) hx hb dL_law_32 (by rw [hw2]; decide) (by rw [hw2]; decide) (by rw [hw2]; decide) (by decide) ?_
        refine lv_aload_n hx hb dL_law_146 rfl (lv_at hl 1 rfl) ?_
        refine lv_aload_n hx hb dL_law_147 rfl (lv_at hl 0 rfl) ?_
        refine lv_iload_n hx hb dL_law_148 rfl (lv_at hl 3 rfl) ?_
        refine lv_iconst (v := 1) hx hb dL_law_149 (by decide) ?_
        refine lv_iadd hx hb dL_law_150 ?_
        rw [show (((nI i) + 1) : Int32) = nI (i + 1) from nI_add i 1]
        refine va_sld hx hb hX0 hbl hbA hS (vp_in_nI (n := (i + 1)) (by omega) (by omega)) dL_law_151 ?_
        rw [nI_clamp (n := (i + 1)) (by omega)]
        refine lv_aload_n hx hb dL_law_152 rfl (lv_at hl 0 rfl) ?_
        refine lv_iload_n hx hb dL_law_153 rfl (lv_at hl 3 rfl) ?_
        refine lv_iconst (v := 2) hx hb dL_law_154 (by decide) ?_
        refine lv_iadd hx hb dL_law_155 ?_
        rw [show (((nI i) + 2) : Int32) = nI (i + 2) from nI_add i 2]
        refine va_sld hx hb hX0 hbl hbA hS (vp_in_nI (n := (i + 2)) (by omega) (by omega)) dL_law_156 ?_
        rw [nI_clamp (n := (i + 2)) (by omega)]
        refine hp_ki (hp_rV (C := RX1) (As := [.int (xs (i + 1)), .int (xs (i + 2))]) (rest := []) ⟨hx, hb, hml, hown, hts⟩ C0 hf hS (c_X1_remove l D cy _ f q N t root (xs (i + 1)) (xs (i + 2)) hX.1 hX.2 hR.1) (cwV 2 hts gL_law_X1_remove rfl rfl rfl (by decide +kernel) ⟨Nat.le_of_ble_eq_true rfl, Nat.le_of_ble_eq_true rfl⟩) hX.1 rfl rfl hl.1 rfl (Nat.le_of_ble_eq_true rfl) dL_law_157 ⟨by show _ ≤ 600000; omega, by show _ ≤ 7302250; omega⟩) hS (fun r_5 u_5 H locs hq_5 hf hS => ?_)
        obtain ⟨cd1, nc1, NB1, NL1, n1, n2, n3, n4, n5, n6⟩ := ms_fr hX hM (rm_fr hq_5)
        refine lv_aload_n hx hb dL_law_160 rfl (lv_at hl 2 rfl) ?_
        refine lv_aload_n hx hb dL_law_161 rfl (lv_at hl 0 rfl) ?_
        refine lv_iload_n hx hb dL_law_162 rfl (lv_at hl 3 rfl) ?_
        refine lv_iconst (v := 1) hx hb dL_law_163 (by decide) ?_
        refine lv_iadd hx hb dL_law_164 ?_
        rw [show (((nI i) + 1) : Int32) = nI (i + 1) from nI_add i 1]
        refine va_sld hx hb hX0 hbl hbA hS (vp_in_nI (n := (i + 1)) (by omega) (by omega)) dL_law_165 ?_
        rw [nI_clamp (n := (i + 1)) (by omega)]
        refine lv_aload_n hx hb dL_law_166 rfl (lv_at hl 0 rfl) ?_
        refine lv_iload_n hx hb dL_law_167 rfl (lv_at hl 3 rfl) ?_
        refine lv_iconst (v := 2) hx hb dL_law_168 (by decide) ?_
        refine lv_iadd hx hb dL_law_169 ?_
        rw [show (((nI i) + 2) : Int32) = nI (i + 2) from nI_add i 2]
        refine va_sld hx hb hX0 hbl hbA hS (vp_in_nI (n := (i + 2)) (by omega) (by omega)) dL_law_170 ?_
        rw [nI_clamp (n := (i + 2)) (by omega)]
        refine hp_ki (hp_rV (C := RX2) (As := [.int (xs (i + 1)), .int (xs (i + 2))]) (rest := [.int r_5]) ⟨hx, hb, hml, hown, hts⟩ C0 hf hS (c_X2_remove l D cy _ u_5 qm ab al ah nb nl cd1 nc1 n B L Hh NB1 NL1 (xs (i + 1)) (xs (i + 2)) n1 n2 n3 n4 hn d1 d2 d3) (cwV 2 hts gL_law_X2_remove rfl rfl rfl (by decide +kernel) ⟨Nat.le_of_ble_eq_true rfl, Nat.le_of_ble_eq_true rfl⟩) n1 rfl rfl hl.1 rfl (Nat.le_of_ble_eq_true rfl) dL_law_171 ⟨by show _ ≤ 600000; omega, by show _ ≤ 7302250; omega⟩) hS (fun r_6 u_6 H locs hq_6 hf hS => ?_)
        obtain ⟨heq, hLn⟩ := step_rem (i := i) hd hX hn hR hN hq_5 n1 n2 n3 n4 n5 n6 hq_6
        refine lv_icmp_eq (tgt := 373) hx hb dL_law_174 (by decide) (fun h174 => ?_) (fun h174 => ?_)
        · refine lv_iinc (v := ((nI i) + 4)) (lv' := [(3, .int ((nI i) + 4)), (0, .ref b), (1, .ref q), (2, .ref qm)]) hx hb dL_law_373 hl (k := 3) rfl rfl (by decide) rfl (fun ls hl => ?_)
          refine lv_goto (tgt := 18) hx hb dL_law_376 (by decide) ?_
          rw [show nI i + 4 = nI (i + 4) from nI_add i 4] at hl
          exact ih (i + 4) _ _ u_6 ls _ _ (by omega) (by omega) (by omega) (by omega) hLn hf hS (lv_sub hl [1, 2, 3, 0] rfl)
        · exact absurd heq h174
      by_cases hw3 : sv = 3
      · refine lv_tableIn (tgt := 179) (off := 147) hx hb dL_law_32 (by rw [hw3]; decide) (by rw [hw3]; decide) (by rw [hw3]; decide) (by decide) ?_
        refine lv_aload_n hx hb dL_law_179 rfl (lv_at hl 1 rfl) ?_
        refine lv_aload_n hx hb dL_law_180 rfl (lv_at hl 0 rfl) ?_
        refine lv_iload_n hx hb dL_law_181 rfl (lv_at hl 3 rfl) ?_
        refine lv_iconst (v := 1) hx hb dL_law_182 (by decide) ?_
        refine lv_iadd hx hb dL_law_183 ?_
        rw [show (((nI i) + 1) : Int32) = nI (i + 1) from nI_add i 1]
        refine va_sld hx hb hX0 hbl hbA hS (vp_in_nI (n := (i + 1)) (by omega) (by omega)) dL_law_184 ?_
        rw [nI_clamp (n := (i + 1)) (by omega)]
        refine hp_ki (hp_rV (C := RX1) (As := [.int (xs (i + 1))]) (rest := []) ⟨hx, hb, hml, hown, hts⟩ C0 hf hS (c_X1_lookup l D cy _ f q N t root (nI N.length) (xs (i + 1)) hX.1 hX.2 hst) (cwV 1 hts gL_law_X1_lookup rfl rfl rfl (by decide +kernel) ⟨Nat.le_of_ble_eq_true rfl, Nat.le_of_ble_eq_true rfl⟩) hX.1 rfl rfl hl.1 rfl (Nat.le_of_ble_eq_true rfl) dL_law_185 ⟨by show _ ≤ 600000; omega, by show _ ≤ 7302250; omega⟩) hS (fun r_7 u_7 H locs hq_7 hf hS => ?_)
        obtain ⟨hxr, hu⟩ := hq_7
        rw [hu] at hf
        refine lv_aload_n hx hb dL_law_188 rfl (lv_at hl 2 rfl) ?_
        refine lv_aload_n hx hb dL_law_189 rfl (lv_at hl 0 rfl) ?_
        refine lv_iload_n hx hb dL_law_190 rfl (lv_at hl 3 rfl) ?_
        refine lv_iconst (v := 1) hx hb dL_law_191 (by decide) ?_
        refine lv_iadd hx hb dL_law_192 ?_
        rw [show (((nI i) + 1) : Int32) = nI (i + 1) from nI_add i 1]
        refine va_sld hx hb hX0 hbl hbA hS (vp_in_nI (n := (i + 1)) (by omega) (by omega)) dL_law_193 ?_
        rw [nI_clamp (n := (i + 1)) (by omega)]
        refine hp_ki (hp_rV (C := RX2) (As := [.int (xs (i + 1))]) (rest := [.int r_7]) ⟨hx, hb, hml, hown, hts⟩ C0 hf hS (c_X2_lookup l D cy _ f qm ab al ah nb nl cd nc n B L Hh NB NL (xs (i + 1)) m1 m2 m3 m4 hn) (cwV 1 hts gL_law_X2_lookup rfl rfl rfl (by decide +kernel) ⟨Nat.le_of_ble_eq_true rfl, Nat.le_of_ble_eq_true rfl⟩) m1 rfl rfl hl.1 rfl (Nat.le_of_ble_eq_true rfl) dL_law_194 ⟨by show _ ≤ 600000; omega, by show _ ≤ 7302250; omega⟩) hS (fun r_8 u_8 H locs hq_8 hf hS => ?_)
        obtain ⟨hmr, hu2⟩ := hq_8
        have hLn : LwS cy u_8 q qm ab al ah nb nl (i + 4) := ls_read hX m1 m2 m3 m4 m5 m6 hn hR hN hu2
        have heq : r_7 = r_8 := by obtain ⟨ro, k1, k2⟩ := hxr; exact rel_look hR (G := Hh) (g := tH t) (fun _ _ _ _ _ _ z => z) k1 k2 hmr
        refine lv_icmp_eq (tgt := 373) hx hb dL_law_197 (by decide) (fun h197 => ?_) (fun h197 => ?_)
        · refine lv_iinc (v := ((nI i) + 4)) (lv' := [(3, .int ((nI i) + 4)), (0, .ref b), (1, .ref q), (2, .ref qm)]) hx hb dL_law_373 hl (k := 3) rfl rfl (by decide) rfl (fun ls hl => ?_)
          refine lv_goto (tgt := 18) hx hb dL_law_376 (by decide) ?_
          rw [show nI i + 4 = nI (i + 4) from nI_add i 4] at hl
          exact ih (i + 4) _ _ u_8 ls _ _ (by omega) (by omega) (by omega) (by omega) hLn hf hS (lv_sub hl [1, 2, 3, 0] rfl)
        · exact absurd heq h197
      by_cases hw4 : sv = 4
      · refine lv_tableIn (tgt := 202) (off := 170) hx hb dL_law_32 (by rw [hw4]; decide) (by rw [hw4]; decide) (by rw [hw4]; decide) (by decide) ?_
        refine lv_aload_n hx hb dL_law_202 rfl (lv_at hl 1 rfl) ?_
        refine lv_aload_n hx hb dL_law_203 rfl (lv_at hl 0 rfl) ?_
        refine lv_iload_n hx hb dL_law_204 rfl (lv_at hl 3 rfl) ?_
        refine lv_iconst (v := 1) hx hb dL_law_205 (by decide) ?_
        refine lv_iadd hx hb dL_law_206 ?_
        rw [show (((nI i) + 1) : Int32) = nI (i + 1) from nI_add i 1]
        refine va_sld hx hb hX0 hbl hbA hS (vp_in_nI (n := (i + 1)) (by omega) (by omega)) dL_law_207 ?_
        rw [nI_clamp (n := (i + 1)) (by omega)]
        refine hp_ki (hp_rV (C := RX1) (As := [.int (xs (i + 1))]) (rest := []) ⟨hx, hb, hml, hown, hts⟩ C0 hf hS (c_X1_lookupLen l D cy _ f q N t root (nI N.length) (xs (i + 1)) hX.1 hX.2 hst) (cwV 1 hts gL_law_X1_lookupLen rfl rfl rfl (by decide +kernel) ⟨Nat.le_of_ble_eq_true rfl, Nat.le_of_ble_eq_true rfl⟩) hX.1 rfl rfl hl.1 rfl (Nat.le_of_ble_eq_true rfl) dL_law_208 ⟨by show _ ≤ 600000; omega, by show _ ≤ 7302250; omega⟩) hS (fun r_9 u_9 H locs hq_9 hf hS => ?_)
        obtain ⟨hxr, hu⟩ := hq_9
        rw [hu] at hf
        refine lv_aload_n hx hb dL_law_211 rfl (lv_at hl 2 rfl) ?_
        refine lv_aload_n hx hb dL_law_212 rfl (lv_at hl 0 rfl) ?_
        refine lv_iload_n hx hb dL_law_213 rfl (lv_at hl 3 rfl) ?_
        refine lv_iconst (v := 1) hx hb dL_law_214 (by decide) ?_
        refine lv_iadd hx hb dL_law_215 ?_
        rw [show (((nI i) + 1) : Int32) = nI (i + 1) from nI_add i 1]
        refine va_sld hx hb hX0 hbl hbA hS (vp_in_nI (n := (i + 1)) (by omega) (by omega)) dL_law_216 ?_
        rw [nI_clamp (n := (i + 1)) (by omega)]
        refine hp_ki (hp_rV (C := RX2) (As := [.int (xs (i + 1))]) (rest := [.int r_9]) ⟨hx, hb, hml, hown, hts⟩ C0 hf hS (c_X2_lookupLen l D cy _ f qm ab al ah nb nl cd nc n B L Hh NB NL (xs (i + 1)) m1 m2 m3 m4 hn) (cwV 1 hts gL_law_X2_lookupLen rfl rfl rfl (by decide +kernel) ⟨Nat.le_of_ble_eq_true rfl, Nat.le_of_ble_eq_true rfl⟩) m1 rfl rfl hl.1 rfl (Nat.le_of_ble_eq_true rfl) dL_law_217 ⟨by show _ ≤ 600000; omega, by show _ ≤ 7302250; omega⟩) hS (fun r_10 u_10 H locs hq_10 hf hS => ?_)
        obtain ⟨hmr, hu2⟩ := hq_10
        have hLn : LwS cy u_10 q qm ab al ah nb nl (i + 4) := ls_read hX m1 m2 m3 m4 m5 m6 hn hR hN hu2
        have heq : r_9 = r_10 := by obtain ⟨ro, k1, k2⟩ := hxr; exact rel_look hR (G := L) (g := fun a => nI (tL t a)) (fun j _ hj _ _ z _ => by rw [(hR.2.1.1 j hj).1, z]) k1 k2 hmr
        refine lv_icmp_eq (tgt := 373) hx hb dL_law_220 (by decide) (fun h220 => ?_) (fun h220 => ?_)
        · refine lv_iinc (v := ((nI i) + 4)) (lv' := [(3, .int ((nI i) + 4)), (0, .ref b), (1, .ref q), (2, .ref qm)]) hx hb dL_law_373 hl (k := 3) rfl rfl (by decide) rfl (fun ls hl => ?_)
          refine lv_goto (tgt := 18) hx hb dL_law_376 (by decide) ?_
          rw [show nI i + 4 = nI (i + 4) from nI_add i 4] at hl
          exact ih (i + 4) _ _ u_10 ls _ _ (by omega) (by omega) (by omega) (by omega) hLn hf hS (lv_sub hl [1, 2, 3, 0] rfl)
        · exact absurd heq h220
      by_cases hw5 : sv = 5
      · refine lv_tableIn (tgt := 225) (off := 193) hx hb dL_law_32 (by rw [hw5]; decide) (by rw [hw5]; decide) (by rw [hw5]; decide) (by decide) ?_
        refine lv_aload_n hx hb dL_law_225 rfl (lv_at hl 1 rfl) ?_
        refine lv_aload_n hx hb dL_law_226 rfl (lv_at hl 0 rfl) ?_
        refine lv_iload_n hx hb dL_law_227 rfl (lv_at hl 3 rfl) ?_
        refine lv_iconst (v := 1) hx hb dL_law_228 (by decide) ?_
        refine lv_iadd hx hb dL_law_229 ?_
        rw [show (((nI i) + 1) : Int32) = nI (i + 1) from nI_add i 1]
        refine va_sld hx hb hX0 hbl hbA hS (vp_in_nI (n := (i + 1)) (by omega) (by omega)) dL_law_230 ?_
        rw [nI_clamp (n := (i + 1)) (by omega)]
        refine lv_aload_n hx hb dL_law_231 rfl (lv_at hl 0 rfl) ?_
        refine lv_iload_n hx hb dL_law_232 rfl (lv_at hl 3 rfl) ?_
        refine lv_iconst (v := 2) hx hb dL_law_233 (by decide) ?_
        refine lv_iadd hx hb dL_law_234 ?_
        rw [show (((nI i) + 2) : Int32) = nI (i + 2) from nI_add i 2]
        refine va_sld hx hb hX0 hbl hbA hS (vp_in_nI (n := (i + 2)) (by omega) (by omega)) dL_law_235 ?_
        rw [nI_clamp (n := (i + 2)) (by omega)]
        refine hp_ki (hp_rV (C := RX1) (As := [.int (xs (i + 1)), .int (xs (i + 2))]) (rest := []) ⟨hx, hb, hml, hown, hts⟩ C0 hf hS (c_X1_exact l D cy _ f q N t root (nI N.length) (xs (i + 1)) (xs (i + 2)) hX.1 hX.2 hst) (cwV 2 hts gL_law_X1_exact rfl rfl rfl (by decide +kernel) ⟨Nat.le_of_ble_eq_true rfl, Nat.le_of_ble_eq_true rfl⟩) hX.1 rfl rfl hl.1 rfl (Nat.le_of_ble_eq_true rfl) dL_law_236 ⟨by show _ ≤ 600000; omega, by show _ ≤ 7302250; omega⟩) hS (fun r_11 u_11 H locs hq_11 hf hS => ?_)
        obtain ⟨hxr, hu⟩ := hq_11
        rw [hu] at hf
        refine lv_aload_n hx hb dL_law_239 rfl (lv_at hl 2 rfl) ?_
        refine lv_aload_n hx hb dL_law_240 rfl (lv_at hl 0 rfl) ?_
        refine lv_iload_n hx hb dL_law_241 rfl (lv_at hl 3 rfl) ?_
        refine lv_iconst (v := 1) hx hb dL_law_242 (by decide) ?_
        refine lv_iadd hx hb dL_law_243 ?_
        rw [show (((nI i) + 1) : Int32) = nI (i + 1) from nI_add i 1]
        refine va_sld hx hb hX0 hbl hbA hS (vp_in_nI (n := (i + 1)) (by omega) (by omega)) dL_law_244 ?_
        rw [nI_clamp (n := (i + 1)) (by omega)]
        refine lv_aload_n hx hb dL_law_245 rfl (lv_at hl 0 rfl) ?_
        refine lv_iload_n hx hb dL_law_246 rfl (lv_at hl 3 rfl) ?_
        refine lv_iconst (v := 2) hx hb dL_law_247 (by decide) ?_
        refine lv_iadd hx hb dL_law_248 ?_
        rw [show (((nI i) + 2) : Int32) = nI (i + 2) from nI_add i 2]
        refine va_sld hx hb hX0 hbl hbA hS (vp_in_nI (n := (i + 2)) (by omega) (by omega)) dL_law_249 ?_
        rw [nI_clamp (n := (i + 2)) (by omega)]
        refine hp_ki (hp_rV (C := RX2) (As := [.int (xs (i + 1)), .int (xs (i + 2))]) (rest := [.int r_11]) ⟨hx, hb, hml, hown, hts⟩ C0 hf hS (c_X2_exact l D cy _ f qm ab al ah nb nl cd nc n B L Hh NB NL (xs (i + 1)) (xs (i + 2)) m1 m2 m3 m4 hn) (cwV 2 hts gL_law_X2_exact rfl rfl rfl (by decide +kernel) ⟨Nat.le_of_ble_eq_true rfl, Nat.le_of_ble_eq_true rfl⟩) m1 rfl rfl hl.1 rfl (Nat.le_of_ble_eq_true rfl) dL_law_250 ⟨by show _ ≤ 600000; omega, by show _ ≤ 7302250; omega⟩) hS (fun r_12 u_12 H locs hq_12 hf hS => ?_)
        obtain ⟨hmr, hu2⟩ := hq_12
        have hLn : LwS cy u_12 q qm ab al ah nb nl (i + 4) := ls_read hX m1 m2 m3 m4 m5 m6 hn hR hN hu2
        have heq : r_11 = r_12 := by obtain ⟨ro, k1, k2⟩ := hxr; exact rel_exact hR k1 k2 hmr
        refine lv_icmp_eq (tgt := 373) hx hb dL_law_253 (by decide) (fun h253 => ?_) (fun h253 => ?_)
        · refine lv_iinc (v := ((nI i) + 4)) (lv' := [(3, .int ((nI i) + 4)), (0, .ref b), (1, .ref q), (2, .ref qm)]) hx hb dL_law_373 hl (k := 3) rfl rfl (by decide) rfl (fun ls hl => ?_)
          refine lv_goto (tgt := 18) hx hb dL_law_376 (by decide) ?_
          rw [show nI i + 4 = nI (i + 4) from nI_add i 4] at hl
          exact ih (i + 4) _ _ u_12 ls _ _ (by omega) (by omega) (by omega) (by omega) hLn hf hS (lv_sub hl [1, 2, 3, 0] rfl)
        · exact absurd heq h253
      by_cases hw6 : sv = 6
      · refine lv_tableIn (tgt := 258) (off := 226) hx hb dL_law_32 (by rw [hw6]; decide) (by rw [hw6]; decide) (by rw [hw6]; decide) (by decide) ?_
        refine lv_aload_n hx hb dL_law_258 rfl (lv_at hl 1 rfl) ?_
        refine lv_aload_n hx hb dL_law_259 rfl (lv_at hl 0 rfl) ?_
        refine lv_iload_n hx hb dL_law_260 rfl (lv_at hl 3 rfl) ?_
        refine lv_iconst (v := 1) hx hb dL_law_261 (by decide) ?_
        refine lv_iadd hx hb dL_law_262 ?_
        rw [show (((nI i) + 1) : Int32) = nI (i + 1) from nI_add i 1]
        refine va_sld hx hb hX0 hbl hbA hS (vp_in_nI (n := (i + 1)) (by omega) (by omega)) dL_law_263 ?_
        rw [nI_clamp (n := (i + 1)) (by omega)]
        refine lv_aload_n hx hb dL_law_264 rfl (lv_at hl 0 rfl) ?_
        refine lv_iload_n hx hb dL_law_265 rfl (lv_at hl 3 rfl) ?_
        refine lv_iconst (v := 2) hx hb dL_law_266 (by decide) ?_
        refine lv_iadd hx hb dL_law_267 ?_
        rw [show (((nI i) + 2) : Int32) = nI (i + 2) from nI_add i 2]
        refine va_sld hx hb hX0 hbl hbA hS (vp_in_nI (n := (i + 2)) (by omega) (by omega)) dL_law_268 ?_
        rw [nI_clamp (n := (i + 2)) (by omega)]
        refine hp_ki (hp_rV (C := RX1) (As := [.int (xs (i + 1)), .int (xs (i + 2))]) (rest := []) ⟨hx, hb, hml, hown, hts⟩ C0 hf hS (c_X1_under l D cy _ f q N t root (nI N.length) (xs (i + 1)) (xs (i + 2)) hX.1 hX.2 hst) (cwV 2 hts gL_law_X1_under rfl rfl rfl (by decide +kernel) ⟨Nat.le_of_ble_eq_true rfl, Nat.le_of_ble_eq_true rfl⟩) hX.1 rfl rfl hl.1 rfl (Nat.le_of_ble_eq_true rfl) dL_law_269 ⟨by show _ ≤ 600000; omega, by show _ ≤ 7302250; omega⟩) hS (fun r_13 u_13 H locs hq_13 hf hS => ?_)
        obtain ⟨hxr, hu⟩ := hq_13
        rw [hu] at hf
        refine lv_aload_n hx hb dL_law_272 rfl (lv_at hl 2 rfl) ?_
        refine lv_aload_n hx hb dL_law_273 rfl (lv_at hl 0 rfl) ?_
        refine lv_iload_n hx hb dL_law_274 rfl (lv_at hl 3 rfl) ?_
        refine lv_iconst (v := 1) hx hb dL_law_275 (by decide) ?_
        refine lv_iadd hx hb dL_law_276 ?_
        rw [show (((nI i) + 1) : Int32) = nI (i + 1) from nI_add i 1]
        refine va_sld hx hb hX0 hbl hbA hS (vp_in_nI (n := (i + 1)) (by omega) (by omega)) dL_law_277 ?_
        rw [nI_clamp (n := (i + 1)) (by omega)]
        refine lv_aload_n hx hb dL_law_278 rfl (lv_at hl 0 rfl) ?_
        refine lv_iload_n hx hb dL_law_279 rfl (lv_at hl 3 rfl) ?_
        refine lv_iconst (v := 2) hx hb dL_law_280 (by decide) ?_
        refine lv_iadd hx hb dL_law_281 ?_
        rw [show (((nI i) + 2) : Int32) = nI (i + 2) from nI_add i 2]
        refine va_sld hx hb hX0 hbl hbA hS (vp_in_nI (n := (i + 2)) (by omega) (by omega)) dL_law_282 ?_
        rw [nI_clamp (n := (i + 2)) (by omega)]
        refine hp_ki (hp_rV (C := RX2) (As := [.int (xs (i + 1)), .int (xs (i + 2))]) (rest := [.int r_13]) ⟨hx, hb, hml, hown, hts⟩ C0 hf hS (c_X2_under l D cy _ f qm ab al ah nb nl cd nc n B L Hh NB NL (xs (i + 1)) (xs (i + 2)) m1 m2 m3 m4 hn) (cwV 2 hts gL_law_X2_under rfl rfl rfl (by decide +kernel) ⟨Nat.le_of_ble_eq_true rfl, Nat.le_of_ble_eq_true rfl⟩) m1 rfl rfl hl.1 rfl (Nat.le_of_ble_eq_true rfl) dL_law_283 ⟨by show _ ≤ 600000; omega, by show _ ≤ 7302250; omega⟩) hS (fun r_14 u_14 H locs hq_14 hf hS => ?_)
        obtain ⟨hmr, hu2⟩ := hq_14
        have hLn : LwS cy u_14 q qm ab al ah nb nl (i + 4) := ls_read hX m1 m2 m3 m4 m5 m6 hn hR hN hu2
        have heq : r_13 = r_14 := und_eq hR hxr hmr
        refine lv_icmp_eq (tgt := 373) hx hb dL_law_286 (by decide) (fun h286 => ?_) (fun h286 => ?_)
        · refine lv_iinc (v := ((nI i) + 4)) (lv' := [(3, .int ((nI i) + 4)), (0, .ref b), (1, .ref q), (2, .ref qm)]) hx hb dL_law_373 hl (k := 3) rfl rfl (by decide) rfl (fun ls hl => ?_)
          refine lv_goto (tgt := 18) hx hb dL_law_376 (by decide) ?_
          rw [show nI i + 4 = nI (i + 4) from nI_add i 4] at hl
          exact ih (i + 4) _ _ u_14 ls _ _ (by omega) (by omega) (by omega) (by omega) hLn hf hS (lv_sub hl [1, 2, 3, 0] rfl)
        · exact absurd heq h286
      by_cases hw7 : sv = 7
      · refine lv_tableIn (tgt := 291) (off := 259) hx hb dL_law_32 (by rw [hw7]; decide) (by rw [hw7]; decide) (by rw [hw7]; decide) (by decide) ?_
        refine lv_aload_n hx hb dL_law_291 rfl (lv_at hl 1 rfl) ?_
        refine lv_aload_n hx hb dL_law_292 rfl (lv_at hl 0 rfl) ?_
        refine lv_iload_n hx hb dL_law_293 rfl (lv_at hl 3 rfl) ?_
        refine lv_iconst (v := 1) hx hb dL_law_294 (by decide) ?_
        refine lv_iadd hx hb dL_law_295 ?_
        rw [show (((nI i) + 1) : Int32) = nI (i + 1) from nI_add i 1]
        refine va_sld hx hb hX0 hbl hbA hS (vp_in_nI (n := (i + 1)) (by omega) (by omega)) dL_law_296 ?_
        rw [nI_clamp (n := (i + 1)) (by omega)]
        refine lv_aload_n hx hb dL_law_297 rfl (lv_at hl 0 rfl) ?_
        refine lv_iload_n hx hb dL_law_298 rfl (lv_at hl 3 rfl) ?_
        refine lv_iconst (v := 2) hx hb dL_law_299 (by decide) ?_
        refine lv_iadd hx hb dL_law_300 ?_
        rw [show (((nI i) + 2) : Int32) = nI (i + 2) from nI_add i 2]
        refine va_sld hx hb hX0 hbl hbA hS (vp_in_nI (n := (i + 2)) (by omega) (by omega)) dL_law_301 ?_
        rw [nI_clamp (n := (i + 2)) (by omega)]
        refine hp_ki (hp_rV (C := RX1) (As := [.int (xs (i + 1)), .int (xs (i + 2))]) (rest := []) ⟨hx, hb, hml, hown, hts⟩ C0 hf hS (c_X1_route l D cy _ f q N t root (nI N.length) (xs (i + 1)) (xs (i + 2)) hX.1 hX.2 hst hR.1.2.1 hbd) (cwV 2 hts gL_law_X1_route rfl rfl rfl (by decide +kernel) ⟨Nat.le_of_ble_eq_true rfl, Nat.le_of_ble_eq_true rfl⟩) hX.1 rfl rfl hl.1 rfl (Nat.le_of_ble_eq_true rfl) dL_law_302 ⟨by show _ ≤ 600000; omega, by show _ ≤ 7302250; omega⟩) hS (fun r_15 u_15 H locs hq_15 hf hS => ?_)
        obtain ⟨hxr, hu⟩ := hq_15
        rw [hu] at hf
        refine lv_aload_n hx hb dL_law_305 rfl (lv_at hl 2 rfl) ?_
        refine lv_aload_n hx hb dL_law_306 rfl (lv_at hl 0 rfl) ?_
        refine lv_iload_n hx hb dL_law_307 rfl (lv_at hl 3 rfl) ?_
        refine lv_iconst (v := 1) hx hb dL_law_308 (by decide) ?_
        refine lv_iadd hx hb dL_law_309 ?_
        rw [show (((nI i) + 1) : Int32) = nI (i + 1) from nI_add i 1]
        refine va_sld hx hb hX0 hbl hbA hS (vp_in_nI (n := (i + 1)) (by omega) (by omega)) dL_law_310 ?_
        rw [nI_clamp (n := (i + 1)) (by omega)]
        refine lv_aload_n hx hb dL_law_311 rfl (lv_at hl 0 rfl) ?_
        refine lv_iload_n hx hb dL_law_312 rfl (lv_at hl 3 rfl) ?_
        refine lv_iconst (v := 2) hx hb dL_law_313 (by decide) ?_
        refine lv_iadd hx hb dL_law_314 ?_
        rw [show (((nI i) + 2) : Int32) = nI (i + 2) from nI_add i 2]
        refine va_sld hx hb hX0 hbl hbA hS (vp_in_nI (n := (i + 2)) (by omega) (by omega)) dL_law_315 ?_
        rw [nI_clamp (n := (i + 2)) (by omega)]
        refine hp_ki (hp_rV (C := RX2) (As := [.int (xs (i + 1)), .int (xs (i + 2))]) (rest := [.int r_15]) ⟨hx, hb, hml, hown, hts⟩ C0 hf hS (c_X2_route l D cy _ f qm ab al ah nb nl cd nc n B L Hh NB NL (xs (i + 1)) (xs (i + 2)) m1 m2 m3 m4 hn) (cwV 2 hts gL_law_X2_route rfl rfl rfl (by decide +kernel) ⟨Nat.le_of_ble_eq_true rfl, Nat.le_of_ble_eq_true rfl⟩) m1 rfl rfl hl.1 rfl (Nat.le_of_ble_eq_true rfl) dL_law_316 ⟨by show _ ≤ 600000; omega, by show _ ≤ 7302250; omega⟩) hS (fun r_16 u_16 H locs hq_16 hf hS => ?_)
        obtain ⟨hmr, hu2⟩ := hq_16
        have hLn : LwS cy u_16 q qm ab al ah nb nl (i + 4) := ls_read hX m1 m2 m3 m4 m5 m6 hn hR hN hu2
        have heq : r_15 = r_16 := by obtain ⟨ro, k1, k2⟩ := hxr; exact rel_route hR hn k1 k2 hmr
        refine lv_icmp_eq (tgt := 373) hx hb dL_law_319 (by decide) (fun h319 => ?_) (fun h319 => ?_)
        · refine lv_iinc (v := ((nI i) + 4)) (lv' := [(3, .int ((nI i) + 4)), (0, .ref b), (1, .ref q), (2, .ref qm)]) hx hb dL_law_373 hl (k := 3) rfl rfl (by decide) rfl (fun ls hl => ?_)
          refine lv_goto (tgt := 18) hx hb dL_law_376 (by decide) ?_
          rw [show nI i + 4 = nI (i + 4) from nI_add i 4] at hl
          exact ih (i + 4) _ _ u_16 ls _ _ (by omega) (by omega) (by omega) (by omega) hLn hf hS (lv_sub hl [1, 2, 3, 0] rfl)
        · exact absurd heq h319
      by_cases hw8 : sv = 8
      · refine lv_tableIn (tgt := 324) (off := 292) hx hb dL_law_32 (by rw [hw8]; decide) (by rw [hw8]; decide) (by rw [hw8]; decide) (by decide) ?_
        refine lv_aload_n hx hb dL_law_324 rfl (lv_at hl 1 rfl) ?_
        refine hp_ki (hp_rV (C := RX1) (As := []) (rest := []) ⟨hx, hb, hml, hown, hts⟩ C0 hf hS (c_X1_count l D cy _ f q N t root (nI N.length)  hX.1 hX.2 hst) (cwV 0 hts gL_law_X1_count rfl rfl rfl (by decide +kernel) ⟨Nat.le_of_ble_eq_true rfl, Nat.le_of_ble_eq_true rfl⟩) hX.1 rfl rfl hl.1 rfl (Nat.le_of_ble_eq_true rfl) dL_law_325 ⟨by show _ ≤ 600000; omega, by show _ ≤ 7302250; omega⟩) hS (fun r_17 u_17 H locs hq_17 hf hS => ?_)
        obtain ⟨hxr, hu⟩ := hq_17
        rw [hu] at hf
        refine lv_aload_n hx hb dL_law_328 rfl (lv_at hl 2 rfl) ?_
        refine hp_ki (hp_rV (C := RX2) (As := []) (rest := [.int r_17]) ⟨hx, hb, hml, hown, hts⟩ C0 hf hS (c_X2_count l D cy _ f qm ab al ah nb nl cd nc n B L Hh NB NL  m1 m2 m3 m4 hn) (cwV 0 hts gL_law_X2_count rfl rfl rfl (by decide +kernel) ⟨Nat.le_of_ble_eq_true rfl, Nat.le_of_ble_eq_true rfl⟩) m1 rfl rfl hl.1 rfl (Nat.le_of_ble_eq_true rfl) dL_law_329 ⟨by show _ ≤ 600000; omega, by show _ ≤ 7302250; omega⟩) hS (fun r_18 u_18 H locs hq_18 hf hS => ?_)
        obtain ⟨hmr, hu2⟩ := hq_18
        have hLn : LwS cy u_18 q qm ab al ah nb nl (i + 4) := ls_read hX m1 m2 m3 m4 m5 m6 hn hR hN hu2
        have heq : r_17 = r_18 := by rw [hxr, hmr, rel_count hR]
        refine lv_icmp_eq (tgt := 373) hx hb dL_law_332 (by decide) (fun h332 => ?_) (fun h332 => ?_)
        · refine lv_iinc (v := ((nI i) + 4)) (lv' := [(3, .int ((nI i) + 4)), (0, .ref b), (1, .ref q), (2, .ref qm)]) hx hb dL_law_373 hl (k := 3) rfl rfl (by decide) rfl (fun ls hl => ?_)
          refine lv_goto (tgt := 18) hx hb dL_law_376 (by decide) ?_
          rw [show nI i + 4 = nI (i + 4) from nI_add i 4] at hl
          exact ih (i + 4) _ _ u_18 ls _ _ (by omega) (by omega) (by omega) (by omega) hLn hf hS (lv_sub hl [1, 2, 3, 0] rfl)
        · exact absurd heq h332
      by_cases hw9 : sv = 9
      · refine lv_tableIn (tgt := 337) (off := 305) hx hb dL_law_32 (by rw [hw9]; decide) (by rw [hw9]; decide) (by rw [hw9]; decide) (by decide) ?_
        refine lv_aload_n hx hb dL_law_337 rfl (lv_at hl 1 rfl) ?_
        refine hp_ki (hp_rV (C := RX1) (As := []) (rest := []) ⟨hx, hb, hml, hown, hts⟩ C0 hf hS (c_X1_nodes l D cy _ f q root (nI N.length) hX.1) (cwV 0 hts gL_law_X1_nodes rfl rfl rfl (by decide +kernel) ⟨Nat.le_of_ble_eq_true rfl, Nat.le_of_ble_eq_true rfl⟩) hX.1 rfl rfl hl.1 rfl (Nat.le_of_ble_eq_true rfl) dL_law_338 ⟨by show _ ≤ 600000; omega, by show _ ≤ 7302250; omega⟩) hS (fun r_19 u_19 H locs hq_19 hf hS => ?_)
        obtain ⟨hxr, hu⟩ := hq_19
        rw [hu] at hf
        refine lv_aload_n hx hb dL_law_341 rfl (lv_at hl 2 rfl) ?_
        refine hp_ki (hp_rV (C := RX2) (As := []) (rest := [.int r_19]) ⟨hx, hb, hml, hown, hts⟩ C0 hf hS (c_X2_nodes l D cy _ f qm ab al ah nb nl cd nc n B L NB NL lam  m1 m2 m3 m5 m6 hn (fun j hj => ⟨(hR.2.1.1 j hj).1, (hR.2.1.1 j hj).2.1.1⟩) d10 d4 d5 d6 d7) (cwV 0 hts gL_law_X2_nodes rfl rfl rfl (by decide +kernel) ⟨Nat.le_of_ble_eq_true rfl, Nat.le_of_ble_eq_true rfl⟩) m1 rfl rfl hl.1 rfl (Nat.le_of_ble_eq_true rfl) dL_law_342 ⟨by show _ ≤ 600000; omega, by show _ ≤ 7302250; omega⟩) hS (fun r_20 u_20 H locs hq_20 hf hS => ?_)
        obtain ⟨kk, NBx, NLx, z1, z2, z3, z4, z5, z6, z7⟩ := hq_20
        have hLn : LwS cy u_20 q qm ab al ah nb nl (i + 4) := ls_nodes hd hX m1 m2 m3 m4 m5 m6 hn hR hN z4 z5 z6 z7
        have heq : r_19 = r_20 := by rw [hxr, z3, rel_nodes hR z2]
        refine lv_icmp_eq (tgt := 373) hx hb dL_law_345 (by decide) (fun h345 => ?_) (fun h345 => ?_)
        · refine lv_iinc (v := ((nI i) + 4)) (lv' := [(3, .int ((nI i) + 4)), (0, .ref b), (1, .ref q), (2, .ref qm)]) hx hb dL_law_373 hl (k := 3) rfl rfl (by decide) rfl (fun ls hl => ?_)
          refine lv_goto (tgt := 18) hx hb dL_law_376 (by decide) ?_
          rw [show nI i + 4 = nI (i + 4) from nI_add i 4] at hl
          exact ih (i + 4) _ _ u_20 ls _ _ (by omega) (by omega) (by omega) (by omega) hLn hf hS (lv_sub hl [1, 2, 3, 0] rfl)
        · exact absurd heq h345
      by_cases hw10 : sv = 10
      · refine lv_tableIn (tgt := 350) (off := 318) hx hb dL_law_32 (by rw [hw10]; decide) (by rw [hw10]; decide) (by rw [hw10]; decide) (by decide) ?_
        refine lv_aload_n hx hb dL_law_350 rfl (lv_at hl 1 rfl) ?_
        refine lv_aload_n hx hb dL_law_351 rfl (lv_at hl 0 rfl) ?_
        refine lv_iload_n hx hb dL_law_352 rfl (lv_at hl 3 rfl) ?_
        refine lv_iconst (v := 1) hx hb dL_law_353 (by decide) ?_
        refine lv_iadd hx hb dL_law_354 ?_
        rw [show (((nI i) + 1) : Int32) = nI (i + 1) from nI_add i 1]
        refine va_sld hx hb hX0 hbl hbA hS (vp_in_nI (n := (i + 1)) (by omega) (by omega)) dL_law_355 ?_
        rw [nI_clamp (n := (i + 1)) (by omega)]
        refine hp_ki (hp_rV (C := RX1) (As := [.int (xs (i + 1))]) (rest := []) ⟨hx, hb, hml, hown, hts⟩ C0 hf hS (c_X1_depth l D cy _ f q N t root (nI N.length) (xs (i + 1)) hX.1 hX.2 hst) (cwV 1 hts gL_law_X1_depth rfl rfl rfl (by decide +kernel) ⟨Nat.le_of_ble_eq_true rfl, Nat.le_of_ble_eq_true rfl⟩) hX.1 rfl rfl hl.1 rfl (Nat.le_of_ble_eq_true rfl) dL_law_356 ⟨by show _ ≤ 600000; omega, by show _ ≤ 7302250; omega⟩) hS (fun r_21 u_21 H locs hq_21 hf hS => ?_)
        obtain ⟨hxr, hu⟩ := hq_21
        rw [hu] at hf
        refine lv_aload_n hx hb dL_law_359 rfl (lv_at hl 2 rfl) ?_
        refine lv_aload_n hx hb dL_law_360 rfl (lv_at hl 0 rfl) ?_
        refine lv_iload_n hx hb dL_law_361 rfl (lv_at hl 3 rfl) ?_
        refine lv_iconst (v := 1) hx hb dL_law_362 (by decide) ?_
        refine lv_iadd hx hb dL_law_363 ?_
        rw [show (((nI i) + 1) : Int32) = nI (i + 1) from nI_add i 1]
        refine va_sld hx hb hX0 hbl hbA hS (vp_in_nI (n := (i + 1)) (by omega) (by omega)) dL_law_364 ?_
        rw [nI_clamp (n := (i + 1)) (by omega)]
        refine hp_ki (hp_rV (C := RX2) (As := [.int (xs (i + 1))]) (rest := [.int r_21]) ⟨hx, hb, hml, hown, hts⟩ C0 hf hS (c_X2_depth l D cy _ f qm ab al ah nb nl cd nc n B L NB NL lam (xs (i + 1)) m1 m2 m3 m5 m6 hn (fun j hj => ⟨(hR.2.1.1 j hj).1, (hR.2.1.1 j hj).2.1.1⟩) d10 d4 d5 d6 d7) (cwV 1 hts gL_law_X2_depth rfl rfl rfl (by decide +kernel) ⟨Nat.le_of_ble_eq_true rfl, Nat.le_of_ble_eq_true rfl⟩) m1 rfl rfl hl.1 rfl (Nat.le_of_ble_eq_true rfl) dL_law_365 ⟨by show _ ≤ 600000; omega, by show _ ≤ 7302250; omega⟩) hS (fun r_22 u_22 H locs hq_22 hf hS => ?_)
        obtain ⟨kk, NBx, NLx, z1, z2, z3, z4, z5, z6, z7⟩ := hq_22
        have hLn : LwS cy u_22 q qm ab al ah nb nl (i + 4) := ls_nodes hd hX m1 m2 m3 m4 m5 m6 hn hR hN z4 z5 z6 z7
        have heq : r_21 = r_22 := by rw [hxr, z3, rel_depth hR z2]
        refine lv_icmp_eq (tgt := 373) hx hb dL_law_368 (by decide) (fun h368 => ?_) (fun h368 => ?_)
        · refine lv_iinc (v := ((nI i) + 4)) (lv' := [(3, .int ((nI i) + 4)), (0, .ref b), (1, .ref q), (2, .ref qm)]) hx hb dL_law_373 hl (k := 3) rfl rfl (by decide) rfl (fun ls hl => ?_)
          refine lv_goto (tgt := 18) hx hb dL_law_376 (by decide) ?_
          rw [show nI i + 4 = nI (i + 4) from nI_add i 4] at hl
          exact ih (i + 4) _ _ u_22 ls _ _ (by omega) (by omega) (by omega) (by omega) hLn hf hS (lv_sub hl [1, 2, 3, 0] rfl)
        · exact absurd heq h368
      have tw0 : sv.toInt ≠ 0 := fun z => hw0 (Int32.toInt_inj.mp (z.trans (by decide)))
      have tw1 : sv.toInt ≠ 1 := fun z => hw1 (Int32.toInt_inj.mp (z.trans (by decide)))
      have tw2 : sv.toInt ≠ 2 := fun z => hw2 (Int32.toInt_inj.mp (z.trans (by decide)))
      have tw3 : sv.toInt ≠ 3 := fun z => hw3 (Int32.toInt_inj.mp (z.trans (by decide)))
      have tw4 : sv.toInt ≠ 4 := fun z => hw4 (Int32.toInt_inj.mp (z.trans (by decide)))
      have tw5 : sv.toInt ≠ 5 := fun z => hw5 (Int32.toInt_inj.mp (z.trans (by decide)))
      have tw6 : sv.toInt ≠ 6 := fun z => hw6 (Int32.toInt_inj.mp (z.trans (by decide)))
      have tw7 : sv.toInt ≠ 7 := fun z => hw7 (Int32.toInt_inj.mp (z.trans (by decide)))
      have tw8 : sv.toInt ≠ 8 := fun z => hw8 (Int32.toInt_inj.mp (z.trans (by decide)))
      have tw9 : sv.toInt ≠ 9 := fun z => hw9 (Int32.toInt_inj.mp (z.trans (by decide)))
      have tw10 : sv.toInt ≠ 10 := fun z => hw10 (Int32.toInt_inj.mp (z.trans (by decide)))
      refine lv_tableOut (tgt := 373) hx hb dL_law_32 (by omega) (by decide) ?_
      have hLn : LwS cy f q qm ab al ah nb nl (i + 4) := ⟨N, t, root, n, B, L, lam, Hh, hX, hM, hn, hR, by omega⟩
      refine lv_iinc (v := ((nI i) + 4)) (lv' := [(3, .int ((nI i) + 4)), (0, .ref b), (1, .ref q), (2, .ref qm)]) hx hb dL_law_373 hl (k := 3) rfl rfl (by decide) rfl (fun ls hl => ?_)
      refine lv_goto (tgt := 18) hx hb dL_law_376 (by decide) ?_
      rw [show nI i + 4 = nI (i + 4) from nI_add i 4] at hl
      exact ih (i + 4) _ _ f ls _ _ (by omega) (by omega) (by omega) (by omega) hLn hf hS (lv_sub hl [1, 2, 3, 0] rfl)
end
section
set_option maxHeartbeats 4000000 in
set_option maxRecDepth 100000 in
theorem whole_start {p : Program} {e : Env} {s : State} {m : MethodId} {below : List Frame} {meth : Method} {c : Code} (l : Launch) {b L : Nat} {xs : Nat → Int32} (hL : L ≤ 2048) (C0 : lw_At p s m meth c b L xs) : W p l e room_1 s m #[Value.ref b] below meth c s.heap [] 0 0 (lw_Z below #[Value.ref b] s) (entryFrame m ([Value.ref b] : List Value).toArray 4) := by
  have C0x := C0
  have A0 := C0
  obtain ⟨hx, hb, hr, hml, hown, hts0, hX0, hbl, hlocks, hgv⟩ := A0
  have hown : s.vm.findClass RL = some m.cls := hown
  have hts : ∀ w ∈ wsL_law, w.before #[Value.ref b] s = true := fun w h => hts0 w (wsL_law_in w h)
  obtain ⟨c0, iS0, hKn0⟩ := u_known (C := RX0) (T := TX0) (N := 6) (n := 6) hts inlX0 (hts (.instantiable RX0 6) (by decide +kernel))
  obtain ⟨c1, iS1, hKn1⟩ := u_known (C := RX1) (T := TX1) (N := 2) (n := 2) hts inlX1 (hts (.instantiable RX1 2) (by decide +kernel))
  obtain ⟨c2, iS2, hKn2⟩ := u_known (C := RX2) (T := TX2) (N := 8) (n := 8) hts inlX2 (hts (.instantiable RX2 8) (by decide +kernel))
  obtain ⟨D, hKc⟩ : ∃ D : va_G, ∀ (k : Nat) (q : vw_C), vwCl[k]? = some q → u_Kn s q.1 q.2.1 q.2.2 (D.1 k) (D.2 k) := by
    refine ⟨(fun k => if k = 0 then c0 else if k = 1 then c1 else c2, fun k => if k = 0 then iS0 else if k = 1 then iS1 else iS2), ?_⟩
    intro k q hq
    match k, hq with
    | 0, hq => cases hq; exact hKn0
    | 1, hq => cases hq; exact hKn1
    | 2, hq => cases hq; exact hKn2
    | k + 3, hq => simp [vwCl] at hq
  obtain ⟨cy, kA, comp, hcy1, hcy2, hcy3⟩ := Cond.arrayClass_spec (hts (.arrayClass .int) (by decide +kernel))
  have hK : va_K D vwCl [(cy, .int)] s := ⟨hKc, fun k q h => by
    match k, h with
    | 0, h => cases h; exact ⟨fun n z => ⟨fun k h => (by cases h), kA, hcy2, comp, hcy3⟩, hcy1⟩
    | k + 1, h => simp at h⟩
  have C1 : hp_C D cy s.heap.size s := ⟨Nat.le_refl _, hK, fun w hw => va_Nw.of (hp_nw_on w hw) (hts0 w (hp_nw_in w hw))⟩
  have hS : va_S (hp_A s.heap.size) s.heap s.heap [] := va_S.rf
  have hf : hp_ok D s.heap.size (fun _ => none) s.heap := fun a e h => by cases h
  have hl := lv_entry ([.ref b]) (n := 4) (Nat.le_of_ble_eq_true rfl)
  rw [lg_entry_eq]
  generalize (lg_sl ([.ref b]) ++ List.replicate (4 - (lg_sl ([.ref b])).length) Slot.unset).toArray = ls at hl ⊢
  have hl : lv_has ls 4 [(0, .ref b)] := hl
  refine hp_new (ci := 1) (fs := [.null, .int 0]) (C := RX1) (T := TX1) (N := 2) hx hb hts inlX1 tyX1 tyX1_ok hown (hts (.classLink RL 7 RX1) (by decide +kernel)) (hts (.instantiable RX1 2) (by decide +kernel)) (hts (.initialized RX1) (by decide +kernel)) C1 hf hS (Nat.le_refl _) rfl (fun j hj => by rcases (show j = 0 ∨ j = 1 by omega) with rfl | rfl <;> rfl) (Nat.le_of_ble_eq_true rfl) (Nat.le_of_ble_eq_true rfl) dL_law_0 (fun q f_1 H hq0 ef_1 hf hS => ?_)
  have hq : f_1 q = some (.inr (1, [.null, .int 0])) := by rw [ef_1]; exact va_up_self _ _ _
  refine lv_dup hx hb dL_law_3 rfl ?_
  have C0 := C1
  refine hp_kv (hp_rI (As := []) (rest := [.ref q]) ⟨hx, hb, hml, hown, hts⟩ C0 hf hS (c_X1_init l D cy _ f_1 q hq) (cwI 0 hts gL_law_X1_init rfl rfl rfl (hts (.initialized RX1) (by decide +kernel)) (hts (.methodLink RL 9 yX1_init) (by decide +kernel)) (hts (.instanceMethod yX1_init) (by decide +kernel)) rfl (by decide +kernel) ⟨Nat.le_of_ble_eq_true rfl, Nat.le_of_ble_eq_true rfl⟩) rfl hl.1 rfl (Nat.le_of_ble_eq_true rfl) dL_law_4 ⟨Nat.le_of_ble_eq_true rfl, Nat.le_of_ble_eq_true rfl⟩) hS (fun u_2 H locs hq_2 hf hS => ?_)
  obtain ⟨root, hr0, hrq, hu⟩ := hq_2
  have kq : u_2 q = some (trO root 1) := by rw [hu]; exact va_up_self _ _ _
  have kr : u_2 root = some (ndE 0 0 (-1) 0 none none) := by rw [hu, va_up_ne _ _ hrq]; exact va_up_self _ _ _
  refine lv_astore_n (lv' := [(1, .ref q), (0, .ref b)]) hx hb dL_law_7 rfl hl (by decide) rfl (fun ls hl => ?_)
  refine hp_new (ci := 2) (fs := [.int 0, .null, .null, .null, .int 0, .null, .null, .int 0]) (C := RX2) (T := TX2) (N := 8) hx hb hts inlX2 tyX2 tyX2_ok hown (hts (.classLink RL 10 RX2) (by decide +kernel)) (hts (.instantiable RX2 8) (by decide +kernel)) (hts (.initialized RX2) (by decide +kernel)) C1 hf hS (Nat.le_refl _) rfl (fun j hj => by rcases (show j = 0 ∨ j = 1 ∨ j = 2 ∨ j = 3 ∨ j = 4 ∨ j = 5 ∨ j = 6 ∨ j = 7 by omega) with rfl | rfl | rfl | rfl | rfl | rfl | rfl | rfl <;> rfl) (Nat.le_of_ble_eq_true rfl) (Nat.le_of_ble_eq_true rfl) dL_law_8 (fun qm f_3 H hm0 ef_3 hf hS => ?_)
  have hmm : f_3 qm = some (.inr (2, [.int 0, .null, .null, .null, .int 0, .null, .null, .int 0])) := by rw [ef_3]; exact va_up_self _ _ _
  have nqm : q ≠ qm := fun z => by rw [← z, kq] at hm0; cases hm0
  have nrm : root ≠ qm := fun z => by rw [← z, kr] at hm0; cases hm0
  have kq3 : f_3 q = some (trO root 1) := by rw [ef_3, va_up_ne _ _ nqm]; exact kq
  have kr3 : f_3 root = some (ndE 0 0 (-1) 0 none none) := by rw [ef_3, va_up_ne _ _ nrm]; exact kr
  refine lv_dup hx hb dL_law_11 rfl ?_
  refine hp_kv (hp_rI (As := []) (rest := [.ref qm]) ⟨hx, hb, hml, hown, hts⟩ C0 hf hS (c_X2_init l D cy _ f_3 qm hmm) (cwI 0 hts gL_law_X2_init rfl rfl rfl (hts (.initialized RX2) (by decide +kernel)) (hts (.methodLink RL 12 yX2_init) (by decide +kernel)) (hts (.instanceMethod yX2_init) (by decide +kernel)) rfl (by decide +kernel) ⟨Nat.le_of_ble_eq_true rfl, Nat.le_of_ble_eq_true rfl⟩) rfl hl.1 rfl (Nat.le_of_ble_eq_true rfl) dL_law_12 ⟨Nat.le_of_ble_eq_true rfl, Nat.le_of_ble_eq_true rfl⟩) hS (fun u_4 H locs hq_4 hf hS => ?_)
  obtain ⟨ab, al, ah, nb, nl, hds, u1, u2, u3, u4, u5, u6, uF⟩ := hq_4
  have kq4 := uF q _ kq3 nqm
  have kr4 := uF root _ kr3 nrm
  refine lv_astore_n (lv' := [(2, .ref qm), (1, .ref q), (0, .ref b)]) hx hb dL_law_15 rfl hl (by decide) rfl (fun ls hl => ?_)
  refine lv_iconst (v := 0) hx hb dL_law_16 (by decide) ?_
  refine lv_istore_n (lv' := [(3, .int 0), (2, .ref qm), (1, .ref q), (0, .ref b)]) hx hb dL_law_17 rfl hl (by decide) rfl (fun ls hl => ?_)
  have hLS : LwS cy u_4 q qm ab al ah nb nl 0 := ⟨[root], fun _ => (0, 0, -1, 0, none, none), root, 0, fun _ => 0, fun _ => 0, fun _ => 0, fun _ => 0, ⟨kq4, fun a ha => by rw [List.mem_singleton.mp ha]; exact kr4⟩, ⟨0, 0, fun _ => 0, fun _ => 0, u1, u2, u3, u4, u5, u6⟩, by omega, rel_init rfl _ _ _ _, Nat.le_refl _⟩
  have hl : lv_has ls 4 [(3, .int (nI 0)), (2, .ref qm), (1, .ref q), (0, .ref b)] := hl
  exact law_loop hL C0x C1 q qm ab al ah nb nl hds (L + 5) 0 _ _ u_4 ls _ _ (by omega) (by omega) (by omega) (by omega) hLS hf hS (lv_sub hl [3, 2, 1, 0] rfl)
set_option maxHeartbeats 4000000 in
theorem lw_walk (l : Launch) (b : Addr) (xs : List Int32) : MetFree l x (headSpec (Jvm.Cond.code x code maxLocals ret :: tables_1) room_1) (lw_P b xs) (fun _ _ _ _ _ => True) lw_Q := by
  refine MetFree.of_bodyS (code := code) (maxLocals := maxLocals) (ret := ret) (by decide) ?_ ?_
  · intro args s m h hn
    obtain ⟨meth, c, h1, h2, h3, h4, h5, h6, -, -⟩ := Cond.code_spec hn (atoms_spec (ws := Jvm.Cond.code x code maxLocals ret :: tables_1) h _ List.mem_cons_self)
    exact ⟨meth, c, h1, h2, h3, h4, h5, h6⟩
  · intro p e s m args below meth c s₁ B hml0 hP _
    obtain ⟨rfl, hx, hbd, hgv⟩ := hP
    obtain ⟨scr, harrAt, hlist, hof, hsmall⟩ := hx
    obtain ⟨hcb, hkn, -, -⟩ := State.arrayAt?_spec harrAt
    have hown : s.vm.findClass R_law = some m.cls := findClass_of_methodNamed B.named
    have hts0 : ∀ c ∈ (Jvm.Cond.code x code maxLocals ret :: tables_1), c.before #[Value.ref b] s = true := atoms_spec (ws := Jvm.Cond.code x code maxLocals ret :: tables_1) B.pre
    have hts : ∀ w ∈ lw_tbl, w.before #[Value.ref b] s = true := k2_hts_sels lw_privs (fun w hw => hts0 w (List.mem_cons_of_mem _ hw)) lw_privs_ok
    have hml : c.maxLocals = 4 := B.maxLocals_eq (hts0 _ List.mem_cons_self)
    have X₀ : Stand p l e room_1 s m #[Value.ref b] below meth c s₁ [] 0 0 := Stand.of_body B
    have hh0 : s₁.heap = s.heap := by rw [B.state]; rfl
    have hsz : scr.slots.size = xs.length := by rw [← Array.length_toList, hlist, List.length_map]
    have hval : ∀ j : Nat, j < xs.length → scr.slots[j]? = some (.int (xs.getD j 0)) := fun j hj => by
      rw [← Array.getElem?_toList, hlist]
      simp [hj]
    have hbl : b < s.heap.size := (Array.getElem?_eq_some_iff.mp hcb).1
    have hX : va_X b xs.length (fun j => xs.getD j 0) s s.heap := ⟨scr, hcb, hof, hkn, hsz, hval⟩
    have K : W p l e room_1 s m #[Value.ref b] below meth c s₁.heap [] 0 0 (lw_Z below #[Value.ref b] s) (entryFrame m ([Value.ref b] : List Value).toArray 4) := by
      rw [hh0]
      exact whole_start l hbd ⟨B.exec, B.bytes, B.returns, hml, hown, hts, hX, hbl, B.notSynchronized, hgv⟩
    obtain ⟨t, a1, o, b1, b2, b3⟩ := K s₁ rfl X₀
    exact ⟨t, o, a1, b1, b2, b3⟩
theorem lw_pre_spec {args : Array Value} {s : State} (h : (Jvm.Cond.and given_1 narrow_1).before args s = true) (hr : rest_1_c.before args s = true) : ∃ (b : Addr) (xs : List Int32), lw_P b xs args s := by
  have hs := flat_of_before _ h
  have hq := flat_of_before _ hr
  have hc : (Cond.count 1).before args s = true := hs _ (by decide +kernel)
  have harr : (Cond.arrayOf (.arg 0) .int).before args s = true := hs _ (by decide +kernel)
  have hle : (Cond.le (.length (.arg 0)) (.int 2048)).before args s = true := hs _ (by decide +kernel)
  have hlen : (Cond.isInt (.length (.arg 0))).before args s = true := hq _ (by decide +kernel)
  have hall : (Cond.all (.arg 0) (.isInt (.elem (.arg 0) (.index 0)))).before args s = true := hq _ (by decide +kernel)
  obtain ⟨b, xs, hb, hx⟩ := State.ints_of_pre rfl harr hlen hall
  have hsm : xs.length < 2 ^ 31 := hx.choose_spec.2.2.2
  have hev : (Term.length (.arg 0)).eval args s none [] s = some (.int xs.length.toInt32) := hx.length_eval hb
  have hv := Cond.le_ints hev (show (Term.int 2048).eval args s none [] s = some (.int 2048) from rfl)
  have hd : xs.length.toInt32 ≤ 2048 := by
    simpa [Cond.before, Cond.holds, hv] using hle
  have hN : xs.length ≤ 2048 := (Int32.ofNat_le_ofNat hsm (by decide)).mp (show Int32.ofNat xs.length ≤ Int32.ofNat 2048 from hd)
  exact ⟨b, xs, Cond.one_arg hc (show args[0]? = some (.ref b) from hb), hx, hN, h⟩
theorem lw_comes (l : Launch) : Comes l x (Jvm.Cond.code x code maxLocals ret :: tables_1) room_1 (fun tb e args s => Calls_1 tb e args s ∧ rest_1 tb e args s ∧ Pre_1 tb e args s)
    (fun _ _ args s o t => lw_Q args s o t) := by
  intro p e ha hc hk s m args below hf hfit hheap happ hpre
  obtain ⟨b, xs, hP⟩ := lw_pre_spec hpre.2.2 hpre.2.1
  obtain ⟨k, o, h1, h2, h3, hQ⟩ := lw_walk l b xs p e ha hc hk s m args below hf ((Spec.applies_iff_loose hf).mp happ).1 hP trivial
  exact ⟨k, o, h1, h2, h3, hQ⟩
theorem lw_frame {s t : State} {o : Outcome} {args : Array Value} (h : Framed s o t [] 600000 7302250) :
    Framed s o t (fieldLocs frame_1_writes args s ++ arrayLocs frame_1_arrays args s ++ staticLocs frame_1_statics s) 600000 7302250 := h
theorem lw_limb (L : Cond) (hL : ∀ (args : Array Value) (s t : State), L.after args s (.returned (some (.int 1))) t = true) :
    ArmFor flags0 classFile x code maxLocals ret World_1 tables_1 room_1 Calls_1 rest_1 Pre_1
      (fun tb e a s o t => postC L tb e a s o t ∧ Framed s o t (fieldLocs frame_1_writes a s ++ arrayLocs frame_1_arrays a s ++ staticLocs frame_1_statics s) 600000 7302250) := by
  intro l _ _ _ p e ha hc hk s m args below hf hfit hheap happ hpre
  obtain ⟨k, o, h1, h2, h3, rfl, hF⟩ := lw_comes l p e ha hc hk s m args below hf hfit hheap happ hpre
  exact ⟨k, _, h1, h2, h3, hL args s _, lw_frame hF⟩
theorem i_vc : Claimed_1_1 ∧ Claimed_1_2 := ⟨lw_limb limb_1_1 (fun args s t => by simp [limb_1_1, Cond.after, Cond.holds, Cond.value]), lw_limb limb_1_2 (fun args s t => Cond.after_iff.mpr (by
  first | (rw [show limb_1_2 = Cond.eq .result (.int 1) from rfl, Cond.eq_ints (x := 1) (y := 1) rfl rfl]; simp; done) | (simp [limb_1_2, Cond.value, Term.eval]; done)))⟩
end
