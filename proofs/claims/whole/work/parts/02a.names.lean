/-! ===== BEGIN words of one list among another's, by their places ===== -/
theorem goodIn_r {big : List Cond} (ws : List Cond) (ps : List Nat) (hp : ws = ps.filterMap (fun i => big[i]?)) (h : ws.all goodWord = true) : GoodIn big ws := by
  intro w hw
  have h1 := List.all_eq_true.mp h w hw
  rw [hp] at hw
  obtain ⟨i, -, hi⟩ := List.mem_filterMap.mp hw
  have hm : w ∈ big := by first | exact List.mem_of_getElem? hi | exact List.getElem?_mem hi
  exact ⟨hm, good_of_word h1⟩
theorem goodIn_app {big a b : List Cond} (ha : GoodIn big a) (hb : GoodIn big b) : GoodIn big (a ++ b) := fun w h => (List.mem_append.mp h).elim (ha w) (hb w)
theorem goodIn_ca {big a b : List Cond} {c : Cond} (ha : GoodIn big (c :: a)) (hb : GoodIn big b) : GoodIn big (c :: (a ++ b)) := fun w h => (List.mem_cons.mp h).elim (fun e => ha w (List.mem_cons.mpr (Or.inl e))) (fun h => (List.mem_append.mp h).elim (fun h => ha w (List.mem_cons.mpr (Or.inr h))) (hb w))
theorem goodIn_sub {big ws : List Cond} (hm : ∀ w ∈ ws, w ∈ big) (h : ws.all goodWord = true) : GoodIn big ws := fun w hw => ⟨hm w hw, good_of_word (List.all_eq_true.mp h w hw)⟩
/-! ===== END ===== -/

/-! ===== BEGIN printed: names, fields, word lists, decode rows ===== -/
def RX0 : String := "RouteTrie$Node"
def TX0 : u_T := fun k => match k with
  | 0 => ("RouteTrie$Node", "bits", "I", true)
  | 1 => ("RouteTrie$Node", "len", "I", true)
  | 2 => ("RouteTrie$Node", "hop", "I", false)
  | 3 => ("RouteTrie$Node", "routes", "I", false)
  | 4 => ("RouteTrie$Node", "zero", "LRouteTrie$Node;", false)
  | _ => ("RouteTrie$Node", "one", "LRouteTrie$Node;", false)
def tyX0 : Nat → FieldType := fun k => match k with
  | 0 => .int
  | 1 => .int
  | 2 => .int
  | 3 => .int
  | 4 => .object "RouteTrie$Node"
  | _ => .object "RouteTrie$Node"
abbrev wsX00 : List Cond := u_ws RX0 TX0 6
theorem nmX0 : ∀ a, a < 6 → ∀ b, b < 6 → a ≠ b → (TX0 a).2.1 ≠ (TX0 b).2.1 := by decide +kernel
theorem tyX0_ok : ∀ k, k < 6 → parseFieldDescriptor (TX0 k).2.2.1 = some (tyX0 k) := by decide +kernel
abbrev cX0_init : ByteArray := prog_2_method_1_code
def yX0_init : MethodName := ⟨RX0, "<init>", "(III)V"⟩
abbrev cX0_isRoute : ByteArray := prog_2_method_2_code
def yX0_isRoute : MethodName := ⟨RX0, "isRoute", "()Z"⟩
abbrev cX0_isBeginOf : ByteArray := prog_2_method_3_code
def yX0_isBeginOf : MethodName := ⟨RX0, "isBeginOf", "(I)Z"⟩
abbrev cX0_goesToOne : ByteArray := prog_2_method_4_code
def yX0_goesToOne : MethodName := ⟨RX0, "goesToOne", "(I)Z"⟩
abbrev cX0_toward : ByteArray := prog_2_method_5_code
def yX0_toward : MethodName := ⟨RX0, "toward", "(I)LRouteTrie$Node;"⟩
abbrev cX0_hang : ByteArray := prog_2_method_6_code
def yX0_hang : MethodName := ⟨RX0, "hang", "(LRouteTrie$Node;)V"⟩
abbrev cX0_replace : ByteArray := prog_2_method_7_code
def yX0_replace : MethodName := ⟨RX0, "replace", "(LRouteTrie$Node;LRouteTrie$Node;)V"⟩
def RX1 : String := "RouteTrie"
def TX1 : u_T := fun k => match k with
  | 0 => ("RouteTrie", "root", "LRouteTrie$Node;", true)
  | _ => ("RouteTrie", "nodeCount", "I", false)
def tyX1 : Nat → FieldType := fun k => match k with
  | 0 => .object "RouteTrie$Node"
  | _ => .int
abbrev wsX10 : List Cond := u_ws RX1 TX1 2
theorem nmX1 : ∀ a, a < 2 → ∀ b, b < 2 → a ≠ b → (TX1 a).2.1 ≠ (TX1 b).2.1 := by decide +kernel
theorem tyX1_ok : ∀ k, k < 2 → parseFieldDescriptor (TX1 k).2.2.1 = some (tyX1 k) := by decide +kernel
abbrev cX1_init : ByteArray := prog_1_method_1_code
def yX1_init : MethodName := ⟨RX1, "<init>", "()V"⟩
abbrev cX1_init_ : ByteArray := prog_1_method_2_code
def yX1_init_ : MethodName := ⟨RX1, "init", "()V"⟩
abbrev cX1_insert : ByteArray := prog_1_method_3_code
def yX1_insert : MethodName := ⟨RX1, "insert", "(III)I"⟩
abbrev cX1_remove : ByteArray := prog_1_method_4_code
def yX1_remove : MethodName := ⟨RX1, "remove", "(II)Z"⟩
abbrev cX1_lookup : ByteArray := prog_1_method_5_code
def yX1_lookup : MethodName := ⟨RX1, "lookup", "(I)I"⟩
abbrev cX1_lookupLen : ByteArray := prog_1_method_6_code
def yX1_lookupLen : MethodName := ⟨RX1, "lookupLen", "(I)I"⟩
abbrev cX1_exact : ByteArray := prog_1_method_7_code
def yX1_exact : MethodName := ⟨RX1, "exact", "(II)I"⟩
abbrev cX1_under : ByteArray := prog_1_method_8_code
def yX1_under : MethodName := ⟨RX1, "under", "(II)I"⟩
abbrev cX1_route : ByteArray := prog_1_method_9_code
def yX1_route : MethodName := ⟨RX1, "route", "(II)I"⟩
abbrev cX1_count : ByteArray := prog_1_method_10_code
def yX1_count : MethodName := ⟨RX1, "count", "()I"⟩
abbrev cX1_nodes : ByteArray := prog_1_method_11_code
def yX1_nodes : MethodName := ⟨RX1, "nodes", "()I"⟩
abbrev cX1_depth : ByteArray := prog_1_method_12_code
def yX1_depth : MethodName := ⟨RX1, "depth", "(I)I"⟩
abbrev cX1_isPrefix : ByteArray := prog_1_method_13_code
def yX1_isPrefix : MethodName := ⟨RX1, "isPrefix", "(II)Z"⟩
abbrev cX1_firstBits : ByteArray := prog_1_method_14_code
def yX1_firstBits : MethodName := ⟨RX1, "firstBits", "(II)I"⟩
abbrev cX1_commonLength : ByteArray := prog_1_method_15_code
def yX1_commonLength : MethodName := ⟨RX1, "commonLength", "(LRouteTrie$Node;LRouteTrie$Node;)I"⟩
abbrev cX1_topmost : ByteArray := prog_1_method_16_code
def yX1_topmost : MethodName := ⟨RX1, "topmost", "(II)LRouteTrie$Node;"⟩
abbrev cX1_routeAt : ByteArray := prog_1_method_17_code
def yX1_routeAt : MethodName := ⟨RX1, "routeAt", "(II)LRouteTrie$Node;"⟩
abbrev cX1_longestRoute : ByteArray := prog_1_method_18_code
def yX1_longestRoute : MethodName := ⟨RX1, "longestRoute", "(I)LRouteTrie$Node;"⟩
abbrev cX1_inOrder : ByteArray := prog_1_method_19_code
def yX1_inOrder : MethodName := ⟨RX1, "inOrder", "(I)LRouteTrie$Node;"⟩
abbrev cX1_grow : ByteArray := prog_1_method_20_code
def yX1_grow : MethodName := ⟨RX1, "grow", "(III)V"⟩
abbrev cX1_joined : ByteArray := prog_1_method_21_code
def yX1_joined : MethodName := ⟨RX1, "joined", "(LRouteTrie$Node;LRouteTrie$Node;)LRouteTrie$Node;"⟩
abbrev cX1_newNode : ByteArray := prog_1_method_22_code
def yX1_newNode : MethodName := ⟨RX1, "newNode", "(III)LRouteTrie$Node;"⟩
abbrev cX1_cut : ByteArray := prog_1_method_23_code
def yX1_cut : MethodName := ⟨RX1, "cut", "(LRouteTrie$Node;)V"⟩
abbrev cX1_dropIfIdle : ByteArray := prog_1_method_24_code
def yX1_dropIfIdle : MethodName := ⟨RX1, "dropIfIdle", "(LRouteTrie$Node;LRouteTrie$Node;)V"⟩
def RX2 : String := "RouteTrieModel"
def TX2 : u_T := fun k => match k with
  | 0 => ("RouteTrieModel", "code", "I", false)
  | 1 => ("RouteTrieModel", "bits", "[I", true)
  | 2 => ("RouteTrieModel", "lengths", "[I", true)
  | 3 => ("RouteTrieModel", "hops", "[I", true)
  | 4 => ("RouteTrieModel", "size", "I", false)
  | 5 => ("RouteTrieModel", "nodeBits", "[I", true)
  | 6 => ("RouteTrieModel", "nodeLengths", "[I", true)
  | _ => ("RouteTrieModel", "nodeCount", "I", false)
def tyX2 : Nat → FieldType := fun k => match k with
  | 0 => .int
  | 1 => .array .int
  | 2 => .array .int
  | 3 => .array .int
  | 4 => .int
  | 5 => .array .int
  | 6 => .array .int
  | _ => .int
abbrev wsX20 : List Cond := u_ws RX2 TX2 8
theorem nmX2 : ∀ a, a < 8 → ∀ b, b < 8 → a ≠ b → (TX2 a).2.1 ≠ (TX2 b).2.1 := by decide +kernel
theorem tyX2_ok : ∀ k, k < 8 → parseFieldDescriptor (TX2 k).2.2.1 = some (tyX2 k) := by decide +kernel
abbrev cX2_init : ByteArray := prog_4_method_1_code
def yX2_init : MethodName := ⟨RX2, "<init>", "()V"⟩
abbrev cX2_init_ : ByteArray := prog_4_method_3_code
def yX2_init_ : MethodName := ⟨RX2, "init", "()V"⟩
abbrev cX2_mask : ByteArray := prog_4_method_4_code
def yX2_mask : MethodName := ⟨RX2, "mask", "(I)I"⟩
abbrev cX2_isPrefix : ByteArray := prog_4_method_5_code
def yX2_isPrefix : MethodName := ⟨RX2, "isPrefix", "(II)Z"⟩
abbrev cX2_begins : ByteArray := prog_4_method_6_code
def yX2_begins : MethodName := ⟨RX2, "begins", "(III)Z"⟩
abbrev cX2_isBefore : ByteArray := prog_4_method_7_code
def yX2_isBefore : MethodName := ⟨RX2, "isBefore", "(III)Z"⟩
abbrev cX2_find : ByteArray := prog_4_method_8_code
def yX2_find : MethodName := ⟨RX2, "find", "(II)I"⟩
abbrev cX2_insert : ByteArray := prog_4_method_9_code
def yX2_insert : MethodName := ⟨RX2, "insert", "(III)I"⟩
abbrev cX2_remove : ByteArray := prog_4_method_10_code
def yX2_remove : MethodName := ⟨RX2, "remove", "(II)Z"⟩
abbrev cX2_longest : ByteArray := prog_4_method_11_code
def yX2_longest : MethodName := ⟨RX2, "longest", "(I)I"⟩
abbrev cX2_lookup : ByteArray := prog_4_method_12_code
def yX2_lookup : MethodName := ⟨RX2, "lookup", "(I)I"⟩
abbrev cX2_lookupLen : ByteArray := prog_4_method_13_code
def yX2_lookupLen : MethodName := ⟨RX2, "lookupLen", "(I)I"⟩
abbrev cX2_exact : ByteArray := prog_4_method_14_code
def yX2_exact : MethodName := ⟨RX2, "exact", "(II)I"⟩
abbrev cX2_under : ByteArray := prog_4_method_15_code
def yX2_under : MethodName := ⟨RX2, "under", "(II)I"⟩
abbrev cX2_route : ByteArray := prog_4_method_16_code
def yX2_route : MethodName := ⟨RX2, "route", "(II)I"⟩
abbrev cX2_count : ByteArray := prog_4_method_17_code
def yX2_count : MethodName := ⟨RX2, "count", "()I"⟩
abbrev cX2_add : ByteArray := prog_4_method_18_code
def yX2_add : MethodName := ⟨RX2, "add", "(II)V"⟩
abbrev cX2_findNodes : ByteArray := prog_4_method_19_code
def yX2_findNodes : MethodName := ⟨RX2, "findNodes", "()V"⟩
abbrev cX2_nodes : ByteArray := prog_4_method_20_code
def yX2_nodes : MethodName := ⟨RX2, "nodes", "()I"⟩
abbrev cX2_depth : ByteArray := prog_4_method_21_code
def yX2_depth : MethodName := ⟨RX2, "depth", "(I)I"⟩
def RJ6 : String := "java/lang/Integer"
def TJ6 : u_T := fun k => match k with
  | _ => ("", "", "", false)
def tyJ6 : Nat → FieldType := fun k => match k with
  | _ => .int
abbrev wsJ60 : List Cond := u_ws RJ6 TJ6 0
theorem nmJ6 : ∀ a, a < 0 → ∀ b, b < 0 → a ≠ b → (TJ6 a).2.1 ≠ (TJ6 b).2.1 := by decide +kernel
theorem tyJ6_ok : ∀ k, k < 0 → parseFieldDescriptor (TJ6 k).2.2.1 = some (tyJ6 k) := by decide +kernel
abbrev cJ6_numberOfLeadingZeros_0f7a4 : ByteArray := prog_5_method_47_code
def yJ6_numberOfLeadingZeros_0f7a4 : MethodName := ⟨RJ6, "numberOfLeadingZeros", "(I)I"⟩
def RJ9 : String := "java/lang/Math"
def TJ9 : u_T := fun k => match k with
  | _ => ("", "", "", false)
def tyJ9 : Nat → FieldType := fun k => match k with
  | _ => .int
abbrev wsJ90 : List Cond := u_ws RJ9 TJ9 0
theorem nmJ9 : ∀ a, a < 0 → ∀ b, b < 0 → a ≠ b → (TJ9 a).2.1 ≠ (TJ9 b).2.1 := by decide +kernel
theorem tyJ9_ok : ∀ k, k < 0 → parseFieldDescriptor (TJ9 k).2.2.1 = some (tyJ9 k) := by decide +kernel
abbrev cJ9_min_7cf53 : ByteArray := prog_6_method_69_code
def yJ9_min_7cf53 : MethodName := ⟨RJ9, "min", "(II)I"⟩
def RL : String := "RouteTrieLaw"
abbrev cL_law : ByteArray := code
def yL_law : MethodName := ⟨RL, "law", "([I)Z"⟩
def wsX0_init : List Cond := .code yX0_init cX0_init 4 none :: ([.methodLink RX0 3 objectInit, .instanceMethod objectInit, .code objectInit ⟨#[0xb1]⟩ 1 none, .fieldLink RX0 9 "RouteTrie$Node" "bits" "I", .fieldLink RX0 15 "RouteTrie$Node" "len" "I", .fieldLink RX0 18 "RouteTrie$Node" "hop" "I", .fieldLink RX0 21 "RouteTrie$Node" "routes" "I"] ++ wsX00)
def wsX0_isRoute : List Cond := .code yX0_isRoute cX0_isRoute 1 (some .boolean) :: ([.fieldLink RX0 18 "RouteTrie$Node" "hop" "I"] ++ wsX00)
def wsX1_firstBits : List Cond := .code yX1_firstBits cX1_firstBits 2 (some .int) :: ([])
def wsX0_isBeginOf : List Cond := .code yX0_isBeginOf cX0_isBeginOf 2 (some .boolean) :: ([.fieldLink RX0 15 "RouteTrie$Node" "len" "I", .fieldLink RX0 9 "RouteTrie$Node" "bits" "I", .static yX1_firstBits, .initialized RX1, .code yX1_firstBits cX1_firstBits 2 (some .int)] ++ wsX00)
def wsX0_goesToOne : List Cond := .code yX0_goesToOne cX0_goesToOne 2 (some .boolean) :: ([.fieldLink RX0 15 "RouteTrie$Node" "len" "I"] ++ wsX00)
def wsX0_toward : List Cond := .code yX0_toward cX0_toward 2 (some (.object "RouteTrie$Node")) :: ([.fieldLink RX0 32 "RouteTrie$Node" "one" "LRouteTrie$Node;", .fieldLink RX0 36 "RouteTrie$Node" "zero" "LRouteTrie$Node;", .methodLink RX0 28 yX0_goesToOne, .instanceMethod yX0_goesToOne, .selects RX0 yX0_goesToOne yX0_goesToOne, .initialized RX0, .code yX0_goesToOne cX0_goesToOne 2 (some .boolean), .fieldLink RX0 15 "RouteTrie$Node" "len" "I"] ++ wsX00)
def wsX0_hang : List Cond := .code yX0_hang cX0_hang 2 none :: ([.fieldLink RX0 9 "RouteTrie$Node" "bits" "I", .fieldLink RX0 32 "RouteTrie$Node" "one" "LRouteTrie$Node;", .fieldLink RX0 36 "RouteTrie$Node" "zero" "LRouteTrie$Node;", .methodLink RX0 28 yX0_goesToOne, .instanceMethod yX0_goesToOne, .selects RX0 yX0_goesToOne yX0_goesToOne, .initialized RX0, .code yX0_goesToOne cX0_goesToOne 2 (some .boolean), .fieldLink RX0 15 "RouteTrie$Node" "len" "I"] ++ wsX00)
def wsX0_replace : List Cond := .code yX0_replace cX0_replace 3 none :: ([.fieldLink RX0 32 "RouteTrie$Node" "one" "LRouteTrie$Node;", .fieldLink RX0 36 "RouteTrie$Node" "zero" "LRouteTrie$Node;"] ++ wsX00)
def wsX1_init : List Cond := .code yX1_init cX1_init 1 none :: ([.methodLink RX1 1 objectInit, .instanceMethod objectInit, .code objectInit ⟨#[0xb1]⟩ 1 none, .classLink RX1 7 RX0, .instantiable RX0 6, .initialized RX0, .fieldLink RX1 14 "RouteTrie" "root" "LRouteTrie$Node;", .fieldLink RX1 18 "RouteTrie" "nodeCount" "I", .instanceMethod yX0_init, .code yX0_init cX0_init 4 none, .methodLink RX0 3 objectInit, .fieldLink RX0 9 "RouteTrie$Node" "bits" "I", .fieldLink RX0 15 "RouteTrie$Node" "len" "I", .fieldLink RX0 18 "RouteTrie$Node" "hop" "I", .fieldLink RX0 21 "RouteTrie$Node" "routes" "I"] ++ wsX00 ++ wsX10)
def wsX1_init_ : List Cond := .code yX1_init_ cX1_init_ 1 none :: ([.fieldLink RX1 14 "RouteTrie" "root" "LRouteTrie$Node;", .fieldLink RX1 18 "RouteTrie" "nodeCount" "I"] ++ wsX10 ++ wsX00)
def wsX1_isPrefix : List Cond := .code yX1_isPrefix cX1_isPrefix 2 (some .boolean) :: ([.methodLink RX1 72 yX1_firstBits, .static yX1_firstBits, .initialized RX1, .code yX1_firstBits cX1_firstBits 2 (some .int)])
def wsX1_topmost : List Cond := .code yX1_topmost cX1_topmost 4 (some (.object "RouteTrie$Node")) :: ([.fieldLink RX1 14 "RouteTrie" "root" "LRouteTrie$Node;", .instanceMethod yX0_toward, .initialized RX0, .selects RX0 yX0_toward yX0_toward, .code yX0_toward cX0_toward 2 (some (.object "RouteTrie$Node")), .fieldLink RX0 32 "RouteTrie$Node" "one" "LRouteTrie$Node;", .fieldLink RX0 36 "RouteTrie$Node" "zero" "LRouteTrie$Node;", .methodLink RX0 28 yX0_goesToOne, .instanceMethod yX0_goesToOne, .selects RX0 yX0_goesToOne yX0_goesToOne, .code yX0_goesToOne cX0_goesToOne 2 (some .boolean), .fieldLink RX0 15 "RouteTrie$Node" "len" "I", .methodLink RX1 72 yX1_firstBits, .static yX1_firstBits, .initialized RX1, .code yX1_firstBits cX1_firstBits 2 (some .int)] ++ wsX10 ++ wsX00)
def wsX1_routeAt_r1 : List Cond := [Cond.methodLink RX1 34 yX1_isPrefix, Cond.static yX1_isPrefix, Cond.initialized RX1, Cond.code yX1_isPrefix cX1_isPrefix 2 (some .boolean), Cond.methodLink RX1 72 yX1_firstBits, Cond.static yX1_firstBits, Cond.code yX1_firstBits cX1_firstBits 2 (some .int), Cond.methodLink RX1 56 yX1_topmost, Cond.instanceMethod yX1_topmost, Cond.selects RX1 yX1_topmost yX1_topmost, Cond.code yX1_topmost cX1_topmost 4 (some (.object "RouteTrie$Node")), Cond.fieldLink RX1 14 "RouteTrie" "root" "LRouteTrie$Node;", Cond.instanceMethod yX0_toward, Cond.initialized RX0, Cond.selects RX0 yX0_toward yX0_toward, Cond.code yX0_toward cX0_toward 2 (some (.object "RouteTrie$Node")), Cond.fieldLink RX0 32 "RouteTrie$Node" "one" "LRouteTrie$Node;", Cond.fieldLink RX0 36 "RouteTrie$Node" "zero" "LRouteTrie$Node;", Cond.methodLink RX0 28 yX0_goesToOne, Cond.instanceMethod yX0_goesToOne, Cond.selects RX0 yX0_goesToOne yX0_goesToOne, Cond.code yX0_goesToOne cX0_goesToOne 2 (some .boolean), Cond.fieldLink RX0 15 "RouteTrie$Node" "len" "I", Cond.instanceMethod yX0_isRoute]
def wsX1_routeAt_r2 : List Cond := [Cond.selects RX0 yX0_isRoute yX0_isRoute, Cond.code yX0_isRoute cX0_isRoute 1 (some .boolean), Cond.fieldLink RX0 18 "RouteTrie$Node" "hop" "I"]
def wsX1_routeAt : List Cond := .code yX1_routeAt cX1_routeAt 4 (some (.object "RouteTrie$Node")) :: ((wsX1_routeAt_r1 ++ wsX1_routeAt_r2) ++ wsX00 ++ wsX10)
def wsX1_newNode : List Cond := .code yX1_newNode cX1_newNode 4 (some (.object "RouteTrie$Node")) :: ([.fieldLink RX1 18 "RouteTrie" "nodeCount" "I", .classLink RX1 7 RX0, .instantiable RX0 6, .initialized RX0, .instanceMethod yX0_init, .code yX0_init cX0_init 4 none, .methodLink RX0 3 objectInit, .instanceMethod objectInit, .code objectInit ⟨#[0xb1]⟩ 1 none, .fieldLink RX0 9 "RouteTrie$Node" "bits" "I", .fieldLink RX0 15 "RouteTrie$Node" "len" "I", .fieldLink RX0 18 "RouteTrie$Node" "hop" "I", .fieldLink RX0 21 "RouteTrie$Node" "routes" "I"] ++ wsX10 ++ wsX00)
def wsJ6_numberOfLeadingZeros_0f7a4 : List Cond := .code yJ6_numberOfLeadingZeros_0f7a4 cJ6_numberOfLeadingZeros_0f7a4 2 (some .int) :: ([.constant RJ6 264 (65536)])
def wsX1_commonLength : List Cond := .code yX1_commonLength cX1_commonLength 3 (some .int) :: ([.methodLink RX1 82 Lib.Math.min.name, .static Lib.Math.min.name, .initialized "java/lang/Math", .code Lib.Math.min.name Lib.Math.min.code 2 (some .int), .methodLink RX1 76 yJ6_numberOfLeadingZeros_0f7a4, .static yJ6_numberOfLeadingZeros_0f7a4, .initialized RJ6, .code yJ6_numberOfLeadingZeros_0f7a4 cJ6_numberOfLeadingZeros_0f7a4 2 (some .int), .constant RJ6 264 (65536)] ++ wsX00)
def wsX1_joined_r1 : List Cond := [Cond.methodLink RX1 102 yX1_commonLength, Cond.static yX1_commonLength, Cond.initialized RX1, Cond.code yX1_commonLength cX1_commonLength 3 (some .int), Cond.methodLink RX1 82 Lib.Math.min.name, Cond.static Lib.Math.min.name, Cond.initialized "java/lang/Math", Cond.code Lib.Math.min.name Lib.Math.min.code 2 (some .int), Cond.methodLink RX1 76 yJ6_numberOfLeadingZeros_0f7a4, Cond.static yJ6_numberOfLeadingZeros_0f7a4, Cond.initialized RJ6, Cond.code yJ6_numberOfLeadingZeros_0f7a4 cJ6_numberOfLeadingZeros_0f7a4 2 (some .int), Cond.constant RJ6 264 (65536), Cond.methodLink RX1 72 yX1_firstBits, Cond.static yX1_firstBits, Cond.code yX1_firstBits cX1_firstBits 2 (some .int), Cond.methodLink RX1 91 yX1_newNode, Cond.instanceMethod yX1_newNode, Cond.selects RX1 yX1_newNode yX1_newNode, Cond.code yX1_newNode cX1_newNode 4 (some (.object "RouteTrie$Node")), Cond.fieldLink RX1 18 "RouteTrie" "nodeCount" "I", Cond.classLink RX1 7 RX0, Cond.instantiable RX0 6, Cond.initialized RX0]
def wsX1_joined_r2 : List Cond := [Cond.instanceMethod yX0_init, Cond.code yX0_init cX0_init 4 none, Cond.methodLink RX0 3 objectInit, Cond.instanceMethod objectInit, Cond.code objectInit ⟨#[0xb1]⟩ 1 none, Cond.fieldLink RX0 9 "RouteTrie$Node" "bits" "I", Cond.fieldLink RX0 15 "RouteTrie$Node" "len" "I", Cond.fieldLink RX0 18 "RouteTrie$Node" "hop" "I", Cond.fieldLink RX0 21 "RouteTrie$Node" "routes" "I", Cond.instanceMethod yX0_hang, Cond.selects RX0 yX0_hang yX0_hang, Cond.code yX0_hang cX0_hang 2 none, Cond.fieldLink RX0 32 "RouteTrie$Node" "one" "LRouteTrie$Node;", Cond.fieldLink RX0 36 "RouteTrie$Node" "zero" "LRouteTrie$Node;", Cond.methodLink RX0 28 yX0_goesToOne, Cond.instanceMethod yX0_goesToOne, Cond.selects RX0 yX0_goesToOne yX0_goesToOne, Cond.code yX0_goesToOne cX0_goesToOne 2 (some .boolean)]
def wsX1_joined : List Cond := .code yX1_joined cX1_joined 5 (some (.object "RouteTrie$Node")) :: ((wsX1_joined_r1 ++ wsX1_joined_r2) ++ wsX00 ++ wsX10)
def wsX1_grow_r1 : List Cond := [Cond.fieldLink RX1 14 "RouteTrie" "root" "LRouteTrie$Node;", Cond.instanceMethod yX0_toward, Cond.initialized RX0, Cond.selects RX0 yX0_toward yX0_toward, Cond.code yX0_toward cX0_toward 2 (some (.object "RouteTrie$Node")), Cond.fieldLink RX0 32 "RouteTrie$Node" "one" "LRouteTrie$Node;", Cond.fieldLink RX0 36 "RouteTrie$Node" "zero" "LRouteTrie$Node;", Cond.methodLink RX0 28 yX0_goesToOne, Cond.instanceMethod yX0_goesToOne, Cond.selects RX0 yX0_goesToOne yX0_goesToOne, Cond.code yX0_goesToOne cX0_goesToOne 2 (some .boolean), Cond.fieldLink RX0 15 "RouteTrie$Node" "len" "I", Cond.instanceMethod yX0_isBeginOf, Cond.selects RX0 yX0_isBeginOf yX0_isBeginOf, Cond.code yX0_isBeginOf cX0_isBeginOf 2 (some .boolean), Cond.fieldLink RX0 9 "RouteTrie$Node" "bits" "I", Cond.static yX1_firstBits, Cond.initialized RX1, Cond.code yX1_firstBits cX1_firstBits 2 (some .int), Cond.methodLink RX1 91 yX1_newNode, Cond.instanceMethod yX1_newNode, Cond.selects RX1 yX1_newNode yX1_newNode, Cond.code yX1_newNode cX1_newNode 4 (some (.object "RouteTrie$Node")), Cond.fieldLink RX1 18 "RouteTrie" "nodeCount" "I"]
def wsX1_grow_r2 : List Cond := [Cond.classLink RX1 7 RX0, Cond.instantiable RX0 6, Cond.instanceMethod yX0_init, Cond.code yX0_init cX0_init 4 none, Cond.methodLink RX0 3 objectInit, Cond.instanceMethod objectInit, Cond.code objectInit ⟨#[0xb1]⟩ 1 none, Cond.fieldLink RX0 18 "RouteTrie$Node" "hop" "I", Cond.fieldLink RX0 21 "RouteTrie$Node" "routes" "I", Cond.methodLink RX1 95 yX1_joined, Cond.instanceMethod yX1_joined, Cond.selects RX1 yX1_joined yX1_joined, Cond.code yX1_joined cX1_joined 5 (some (.object "RouteTrie$Node")), Cond.methodLink RX1 102 yX1_commonLength, Cond.static yX1_commonLength, Cond.code yX1_commonLength cX1_commonLength 3 (some .int), Cond.methodLink RX1 82 Lib.Math.min.name, Cond.static Lib.Math.min.name, Cond.initialized "java/lang/Math", Cond.code Lib.Math.min.name Lib.Math.min.code 2 (some .int), Cond.methodLink RX1 76 yJ6_numberOfLeadingZeros_0f7a4, Cond.static yJ6_numberOfLeadingZeros_0f7a4, Cond.initialized RJ6, Cond.code yJ6_numberOfLeadingZeros_0f7a4 cJ6_numberOfLeadingZeros_0f7a4 2 (some .int)]
def wsX1_grow_r3 : List Cond := [Cond.constant RJ6 264 (65536), Cond.methodLink RX1 72 yX1_firstBits, Cond.instanceMethod yX0_hang, Cond.selects RX0 yX0_hang yX0_hang, Cond.code yX0_hang cX0_hang 2 none]
def wsX1_grow : List Cond := .code yX1_grow cX1_grow 6 none :: ((wsX1_grow_r1 ++ (wsX1_grow_r2 ++ wsX1_grow_r3)) ++ wsX10 ++ wsX00)
def wsX1_insert_r1 : List Cond := [Cond.fieldLink RX1 14 "RouteTrie" "root" "LRouteTrie$Node;", Cond.methodLink RX1 34 yX1_isPrefix, Cond.static yX1_isPrefix, Cond.initialized RX1, Cond.code yX1_isPrefix cX1_isPrefix 2 (some .boolean), Cond.methodLink RX1 72 yX1_firstBits, Cond.static yX1_firstBits, Cond.code yX1_firstBits cX1_firstBits 2 (some .int), Cond.methodLink RX1 38 yX1_routeAt, Cond.instanceMethod yX1_routeAt, Cond.selects RX1 yX1_routeAt yX1_routeAt, Cond.code yX1_routeAt cX1_routeAt 4 (some (.object "RouteTrie$Node")), Cond.methodLink RX1 56 yX1_topmost, Cond.instanceMethod yX1_topmost, Cond.selects RX1 yX1_topmost yX1_topmost, Cond.code yX1_topmost cX1_topmost 4 (some (.object "RouteTrie$Node")), Cond.instanceMethod yX0_toward, Cond.initialized RX0, Cond.selects RX0 yX0_toward yX0_toward, Cond.code yX0_toward cX0_toward 2 (some (.object "RouteTrie$Node")), Cond.fieldLink RX0 32 "RouteTrie$Node" "one" "LRouteTrie$Node;", Cond.fieldLink RX0 36 "RouteTrie$Node" "zero" "LRouteTrie$Node;", Cond.methodLink RX0 28 yX0_goesToOne, Cond.instanceMethod yX0_goesToOne]
def wsX1_insert_r2 : List Cond := [Cond.selects RX0 yX0_goesToOne yX0_goesToOne, Cond.code yX0_goesToOne cX0_goesToOne 2 (some .boolean), Cond.fieldLink RX0 15 "RouteTrie$Node" "len" "I", Cond.instanceMethod yX0_isRoute, Cond.selects RX0 yX0_isRoute yX0_isRoute, Cond.code yX0_isRoute cX0_isRoute 1 (some .boolean), Cond.fieldLink RX0 18 "RouteTrie$Node" "hop" "I", Cond.methodLink RX1 42 yX1_grow, Cond.instanceMethod yX1_grow, Cond.selects RX1 yX1_grow yX1_grow, Cond.code yX1_grow cX1_grow 6 none, Cond.instanceMethod yX0_isBeginOf, Cond.selects RX0 yX0_isBeginOf yX0_isBeginOf, Cond.code yX0_isBeginOf cX0_isBeginOf 2 (some .boolean), Cond.fieldLink RX0 9 "RouteTrie$Node" "bits" "I", Cond.methodLink RX1 91 yX1_newNode, Cond.instanceMethod yX1_newNode, Cond.selects RX1 yX1_newNode yX1_newNode, Cond.code yX1_newNode cX1_newNode 4 (some (.object "RouteTrie$Node")), Cond.fieldLink RX1 18 "RouteTrie" "nodeCount" "I", Cond.classLink RX1 7 RX0, Cond.instantiable RX0 6, Cond.instanceMethod yX0_init, Cond.code yX0_init cX0_init 4 none]
def wsX1_insert_r3 : List Cond := [Cond.methodLink RX0 3 objectInit, Cond.instanceMethod objectInit, Cond.code objectInit ⟨#[0xb1]⟩ 1 none, Cond.fieldLink RX0 21 "RouteTrie$Node" "routes" "I", Cond.methodLink RX1 95 yX1_joined, Cond.instanceMethod yX1_joined, Cond.selects RX1 yX1_joined yX1_joined, Cond.code yX1_joined cX1_joined 5 (some (.object "RouteTrie$Node")), Cond.methodLink RX1 102 yX1_commonLength, Cond.static yX1_commonLength, Cond.code yX1_commonLength cX1_commonLength 3 (some .int), Cond.methodLink RX1 82 Lib.Math.min.name, Cond.static Lib.Math.min.name, Cond.initialized "java/lang/Math", Cond.code Lib.Math.min.name Lib.Math.min.code 2 (some .int), Cond.methodLink RX1 76 yJ6_numberOfLeadingZeros_0f7a4, Cond.static yJ6_numberOfLeadingZeros_0f7a4, Cond.initialized RJ6, Cond.code yJ6_numberOfLeadingZeros_0f7a4 cJ6_numberOfLeadingZeros_0f7a4 2 (some .int), Cond.constant RJ6 264 (65536), Cond.instanceMethod yX0_hang, Cond.selects RX0 yX0_hang yX0_hang, Cond.code yX0_hang cX0_hang 2 none]
def wsX1_insert : List Cond := .code yX1_insert cX1_insert 5 (some .int) :: ((wsX1_insert_r1 ++ (wsX1_insert_r2 ++ wsX1_insert_r3)) ++ wsX00 ++ wsX10)
def wsX1_dropIfIdle : List Cond := .code yX1_dropIfIdle cX1_dropIfIdle 3 none :: ([.fieldLink RX1 18 "RouteTrie" "nodeCount" "I", .instanceMethod yX0_isRoute, .initialized RX0, .selects RX0 yX0_isRoute yX0_isRoute, .code yX0_isRoute cX0_isRoute 1 (some .boolean), .fieldLink RX0 18 "RouteTrie$Node" "hop" "I", .instanceMethod yX0_replace, .selects RX0 yX0_replace yX0_replace, .code yX0_replace cX0_replace 3 none, .fieldLink RX0 32 "RouteTrie$Node" "one" "LRouteTrie$Node;", .fieldLink RX0 36 "RouteTrie$Node" "zero" "LRouteTrie$Node;"] ++ wsX00 ++ wsX10)
def wsX1_cut_r1 : List Cond := [Cond.fieldLink RX1 14 "RouteTrie" "root" "LRouteTrie$Node;", Cond.instanceMethod yX0_toward, Cond.initialized RX0, Cond.selects RX0 yX0_toward yX0_toward, Cond.code yX0_toward cX0_toward 2 (some (.object "RouteTrie$Node")), Cond.fieldLink RX0 32 "RouteTrie$Node" "one" "LRouteTrie$Node;", Cond.fieldLink RX0 36 "RouteTrie$Node" "zero" "LRouteTrie$Node;", Cond.methodLink RX0 28 yX0_goesToOne, Cond.instanceMethod yX0_goesToOne, Cond.selects RX0 yX0_goesToOne yX0_goesToOne, Cond.code yX0_goesToOne cX0_goesToOne 2 (some .boolean), Cond.fieldLink RX0 15 "RouteTrie$Node" "len" "I", Cond.methodLink RX1 106 yX1_dropIfIdle, Cond.instanceMethod yX1_dropIfIdle, Cond.selects RX1 yX1_dropIfIdle yX1_dropIfIdle, Cond.initialized RX1, Cond.code yX1_dropIfIdle cX1_dropIfIdle 3 none, Cond.fieldLink RX1 18 "RouteTrie" "nodeCount" "I", Cond.instanceMethod yX0_isRoute, Cond.selects RX0 yX0_isRoute yX0_isRoute, Cond.code yX0_isRoute cX0_isRoute 1 (some .boolean), Cond.fieldLink RX0 18 "RouteTrie$Node" "hop" "I", Cond.instanceMethod yX0_replace, Cond.selects RX0 yX0_replace yX0_replace]
def wsX1_cut_r2 : List Cond := [Cond.code yX0_replace cX0_replace 3 none]
def wsX1_cut : List Cond := .code yX1_cut cX1_cut 5 none :: ((wsX1_cut_r1 ++ wsX1_cut_r2) ++ wsX10 ++ wsX00)
def wsX1_remove_r1 : List Cond := [Cond.methodLink RX1 38 yX1_routeAt, Cond.instanceMethod yX1_routeAt, Cond.selects RX1 yX1_routeAt yX1_routeAt, Cond.initialized RX1, Cond.code yX1_routeAt cX1_routeAt 4 (some (.object "RouteTrie$Node")), Cond.methodLink RX1 34 yX1_isPrefix, Cond.static yX1_isPrefix, Cond.code yX1_isPrefix cX1_isPrefix 2 (some .boolean), Cond.methodLink RX1 72 yX1_firstBits, Cond.static yX1_firstBits, Cond.code yX1_firstBits cX1_firstBits 2 (some .int), Cond.methodLink RX1 56 yX1_topmost, Cond.instanceMethod yX1_topmost, Cond.selects RX1 yX1_topmost yX1_topmost, Cond.code yX1_topmost cX1_topmost 4 (some (.object "RouteTrie$Node")), Cond.fieldLink RX1 14 "RouteTrie" "root" "LRouteTrie$Node;", Cond.instanceMethod yX0_toward, Cond.initialized RX0, Cond.selects RX0 yX0_toward yX0_toward, Cond.code yX0_toward cX0_toward 2 (some (.object "RouteTrie$Node")), Cond.fieldLink RX0 32 "RouteTrie$Node" "one" "LRouteTrie$Node;", Cond.fieldLink RX0 36 "RouteTrie$Node" "zero" "LRouteTrie$Node;", Cond.methodLink RX0 28 yX0_goesToOne, Cond.instanceMethod yX0_goesToOne]
def wsX1_remove_r2 : List Cond := [Cond.selects RX0 yX0_goesToOne yX0_goesToOne, Cond.code yX0_goesToOne cX0_goesToOne 2 (some .boolean), Cond.fieldLink RX0 15 "RouteTrie$Node" "len" "I", Cond.instanceMethod yX0_isRoute, Cond.selects RX0 yX0_isRoute yX0_isRoute, Cond.code yX0_isRoute cX0_isRoute 1 (some .boolean), Cond.fieldLink RX0 18 "RouteTrie$Node" "hop" "I", Cond.methodLink RX1 45 yX1_cut, Cond.instanceMethod yX1_cut, Cond.selects RX1 yX1_cut yX1_cut, Cond.code yX1_cut cX1_cut 5 none, Cond.methodLink RX1 106 yX1_dropIfIdle, Cond.instanceMethod yX1_dropIfIdle, Cond.selects RX1 yX1_dropIfIdle yX1_dropIfIdle, Cond.code yX1_dropIfIdle cX1_dropIfIdle 3 none, Cond.fieldLink RX1 18 "RouteTrie" "nodeCount" "I", Cond.instanceMethod yX0_replace, Cond.selects RX0 yX0_replace yX0_replace, Cond.code yX0_replace cX0_replace 3 none]
def wsX1_remove : List Cond := .code yX1_remove cX1_remove 4 (some .boolean) :: ((wsX1_remove_r1 ++ wsX1_remove_r2) ++ wsX00 ++ wsX10)
def wsX1_longestRoute : List Cond := .code yX1_longestRoute cX1_longestRoute 4 (some (.object "RouteTrie$Node")) :: ([.fieldLink RX1 14 "RouteTrie" "root" "LRouteTrie$Node;", .instanceMethod yX0_isBeginOf, .initialized RX0, .selects RX0 yX0_isBeginOf yX0_isBeginOf, .code yX0_isBeginOf cX0_isBeginOf 2 (some .boolean), .fieldLink RX0 15 "RouteTrie$Node" "len" "I", .fieldLink RX0 9 "RouteTrie$Node" "bits" "I", .static yX1_firstBits, .initialized RX1, .code yX1_firstBits cX1_firstBits 2 (some .int), .instanceMethod yX0_isRoute, .selects RX0 yX0_isRoute yX0_isRoute, .code yX0_isRoute cX0_isRoute 1 (some .boolean), .fieldLink RX0 18 "RouteTrie$Node" "hop" "I", .instanceMethod yX0_toward, .selects RX0 yX0_toward yX0_toward, .code yX0_toward cX0_toward 2 (some (.object "RouteTrie$Node")), .fieldLink RX0 32 "RouteTrie$Node" "one" "LRouteTrie$Node;", .fieldLink RX0 36 "RouteTrie$Node" "zero" "LRouteTrie$Node;", .methodLink RX0 28 yX0_goesToOne, .instanceMethod yX0_goesToOne, .selects RX0 yX0_goesToOne yX0_goesToOne, .code yX0_goesToOne cX0_goesToOne 2 (some .boolean)] ++ wsX10 ++ wsX00)
def wsX1_lookup_r1 : List Cond := [Cond.methodLink RX1 49 yX1_longestRoute, Cond.instanceMethod yX1_longestRoute, Cond.selects RX1 yX1_longestRoute yX1_longestRoute, Cond.initialized RX1, Cond.code yX1_longestRoute cX1_longestRoute 4 (some (.object "RouteTrie$Node")), Cond.fieldLink RX1 14 "RouteTrie" "root" "LRouteTrie$Node;", Cond.instanceMethod yX0_isBeginOf, Cond.initialized RX0, Cond.selects RX0 yX0_isBeginOf yX0_isBeginOf, Cond.code yX0_isBeginOf cX0_isBeginOf 2 (some .boolean), Cond.fieldLink RX0 15 "RouteTrie$Node" "len" "I", Cond.fieldLink RX0 9 "RouteTrie$Node" "bits" "I", Cond.static yX1_firstBits, Cond.code yX1_firstBits cX1_firstBits 2 (some .int), Cond.instanceMethod yX0_isRoute, Cond.selects RX0 yX0_isRoute yX0_isRoute, Cond.code yX0_isRoute cX0_isRoute 1 (some .boolean), Cond.fieldLink RX0 18 "RouteTrie$Node" "hop" "I", Cond.instanceMethod yX0_toward, Cond.selects RX0 yX0_toward yX0_toward, Cond.code yX0_toward cX0_toward 2 (some (.object "RouteTrie$Node")), Cond.fieldLink RX0 32 "RouteTrie$Node" "one" "LRouteTrie$Node;", Cond.fieldLink RX0 36 "RouteTrie$Node" "zero" "LRouteTrie$Node;", Cond.methodLink RX0 28 yX0_goesToOne]
def wsX1_lookup_r2 : List Cond := [Cond.instanceMethod yX0_goesToOne, Cond.selects RX0 yX0_goesToOne yX0_goesToOne, Cond.code yX0_goesToOne cX0_goesToOne 2 (some .boolean)]
def wsX1_lookup : List Cond := .code yX1_lookup cX1_lookup 3 (some .int) :: ((wsX1_lookup_r1 ++ wsX1_lookup_r2) ++ wsX00 ++ wsX10)
def wsX1_lookupLen_r1 : List Cond := [Cond.methodLink RX1 49 yX1_longestRoute, Cond.instanceMethod yX1_longestRoute, Cond.selects RX1 yX1_longestRoute yX1_longestRoute, Cond.initialized RX1, Cond.code yX1_longestRoute cX1_longestRoute 4 (some (.object "RouteTrie$Node")), Cond.fieldLink RX1 14 "RouteTrie" "root" "LRouteTrie$Node;", Cond.instanceMethod yX0_isBeginOf, Cond.initialized RX0, Cond.selects RX0 yX0_isBeginOf yX0_isBeginOf, Cond.code yX0_isBeginOf cX0_isBeginOf 2 (some .boolean), Cond.fieldLink RX0 15 "RouteTrie$Node" "len" "I", Cond.fieldLink RX0 9 "RouteTrie$Node" "bits" "I", Cond.static yX1_firstBits, Cond.code yX1_firstBits cX1_firstBits 2 (some .int), Cond.instanceMethod yX0_isRoute, Cond.selects RX0 yX0_isRoute yX0_isRoute, Cond.code yX0_isRoute cX0_isRoute 1 (some .boolean), Cond.fieldLink RX0 18 "RouteTrie$Node" "hop" "I", Cond.instanceMethod yX0_toward, Cond.selects RX0 yX0_toward yX0_toward, Cond.code yX0_toward cX0_toward 2 (some (.object "RouteTrie$Node")), Cond.fieldLink RX0 32 "RouteTrie$Node" "one" "LRouteTrie$Node;", Cond.fieldLink RX0 36 "RouteTrie$Node" "zero" "LRouteTrie$Node;", Cond.methodLink RX0 28 yX0_goesToOne]
def wsX1_lookupLen_r2 : List Cond := [Cond.instanceMethod yX0_goesToOne, Cond.selects RX0 yX0_goesToOne yX0_goesToOne, Cond.code yX0_goesToOne cX0_goesToOne 2 (some .boolean)]
def wsX1_lookupLen : List Cond := .code yX1_lookupLen cX1_lookupLen 3 (some .int) :: ((wsX1_lookupLen_r1 ++ wsX1_lookupLen_r2) ++ wsX00 ++ wsX10)
def wsX1_exact_r1 : List Cond := [Cond.methodLink RX1 38 yX1_routeAt, Cond.instanceMethod yX1_routeAt, Cond.selects RX1 yX1_routeAt yX1_routeAt, Cond.initialized RX1, Cond.code yX1_routeAt cX1_routeAt 4 (some (.object "RouteTrie$Node")), Cond.methodLink RX1 34 yX1_isPrefix, Cond.static yX1_isPrefix, Cond.code yX1_isPrefix cX1_isPrefix 2 (some .boolean), Cond.methodLink RX1 72 yX1_firstBits, Cond.static yX1_firstBits, Cond.code yX1_firstBits cX1_firstBits 2 (some .int), Cond.methodLink RX1 56 yX1_topmost, Cond.instanceMethod yX1_topmost, Cond.selects RX1 yX1_topmost yX1_topmost, Cond.code yX1_topmost cX1_topmost 4 (some (.object "RouteTrie$Node")), Cond.fieldLink RX1 14 "RouteTrie" "root" "LRouteTrie$Node;", Cond.instanceMethod yX0_toward, Cond.initialized RX0, Cond.selects RX0 yX0_toward yX0_toward, Cond.code yX0_toward cX0_toward 2 (some (.object "RouteTrie$Node")), Cond.fieldLink RX0 32 "RouteTrie$Node" "one" "LRouteTrie$Node;", Cond.fieldLink RX0 36 "RouteTrie$Node" "zero" "LRouteTrie$Node;", Cond.methodLink RX0 28 yX0_goesToOne, Cond.instanceMethod yX0_goesToOne]
def wsX1_exact_r2 : List Cond := [Cond.selects RX0 yX0_goesToOne yX0_goesToOne, Cond.code yX0_goesToOne cX0_goesToOne 2 (some .boolean), Cond.fieldLink RX0 15 "RouteTrie$Node" "len" "I", Cond.instanceMethod yX0_isRoute, Cond.selects RX0 yX0_isRoute yX0_isRoute, Cond.code yX0_isRoute cX0_isRoute 1 (some .boolean), Cond.fieldLink RX0 18 "RouteTrie$Node" "hop" "I"]
def wsX1_exact : List Cond := .code yX1_exact cX1_exact 4 (some .int) :: ((wsX1_exact_r1 ++ wsX1_exact_r2) ++ wsX00 ++ wsX10)
def wsX1_under : List Cond := .code yX1_under cX1_under 4 (some .int) :: ([.methodLink RX1 34 yX1_isPrefix, .static yX1_isPrefix, .initialized RX1, .code yX1_isPrefix cX1_isPrefix 2 (some .boolean), .methodLink RX1 72 yX1_firstBits, .static yX1_firstBits, .code yX1_firstBits cX1_firstBits 2 (some .int), .methodLink RX1 56 yX1_topmost, .instanceMethod yX1_topmost, .selects RX1 yX1_topmost yX1_topmost, .code yX1_topmost cX1_topmost 4 (some (.object "RouteTrie$Node")), .fieldLink RX1 14 "RouteTrie" "root" "LRouteTrie$Node;", .instanceMethod yX0_toward, .initialized RX0, .selects RX0 yX0_toward yX0_toward, .code yX0_toward cX0_toward 2 (some (.object "RouteTrie$Node")), .fieldLink RX0 32 "RouteTrie$Node" "one" "LRouteTrie$Node;", .fieldLink RX0 36 "RouteTrie$Node" "zero" "LRouteTrie$Node;", .methodLink RX0 28 yX0_goesToOne, .instanceMethod yX0_goesToOne, .selects RX0 yX0_goesToOne yX0_goesToOne, .code yX0_goesToOne cX0_goesToOne 2 (some .boolean), .fieldLink RX0 15 "RouteTrie$Node" "len" "I"] ++ wsX00 ++ wsX10)
def wsX1_inOrder : List Cond := .code yX1_inOrder cX1_inOrder 5 (some (.object "RouteTrie$Node")) :: ([.fieldLink RX1 14 "RouteTrie" "root" "LRouteTrie$Node;", .instanceMethod yX0_isRoute, .initialized RX0, .selects RX0 yX0_isRoute yX0_isRoute, .code yX0_isRoute cX0_isRoute 1 (some .boolean), .fieldLink RX0 18 "RouteTrie$Node" "hop" "I"] ++ wsX10 ++ wsX00)
def wsX1_route : List Cond := .code yX1_route cX1_route 4 (some .int) :: ([.methodLink RX1 59 yX1_inOrder, .instanceMethod yX1_inOrder, .selects RX1 yX1_inOrder yX1_inOrder, .initialized RX1, .code yX1_inOrder cX1_inOrder 5 (some (.object "RouteTrie$Node")), .fieldLink RX1 14 "RouteTrie" "root" "LRouteTrie$Node;", .instanceMethod yX0_isRoute, .initialized RX0, .selects RX0 yX0_isRoute yX0_isRoute, .code yX0_isRoute cX0_isRoute 1 (some .boolean), .fieldLink RX0 18 "RouteTrie$Node" "hop" "I"] ++ wsX00 ++ wsX10)
def wsX1_count : List Cond := .code yX1_count cX1_count 1 (some .int) :: ([.fieldLink RX1 14 "RouteTrie" "root" "LRouteTrie$Node;"] ++ wsX10 ++ wsX00)
def wsX1_nodes : List Cond := .code yX1_nodes cX1_nodes 1 (some .int) :: ([.fieldLink RX1 18 "RouteTrie" "nodeCount" "I"] ++ wsX10)
def wsX1_depth : List Cond := .code yX1_depth cX1_depth 4 (some .int) :: ([.fieldLink RX1 14 "RouteTrie" "root" "LRouteTrie$Node;", .instanceMethod yX0_isBeginOf, .initialized RX0, .selects RX0 yX0_isBeginOf yX0_isBeginOf, .code yX0_isBeginOf cX0_isBeginOf 2 (some .boolean), .fieldLink RX0 15 "RouteTrie$Node" "len" "I", .fieldLink RX0 9 "RouteTrie$Node" "bits" "I", .static yX1_firstBits, .initialized RX1, .code yX1_firstBits cX1_firstBits 2 (some .int), .instanceMethod yX0_toward, .selects RX0 yX0_toward yX0_toward, .code yX0_toward cX0_toward 2 (some (.object "RouteTrie$Node")), .fieldLink RX0 32 "RouteTrie$Node" "one" "LRouteTrie$Node;", .fieldLink RX0 36 "RouteTrie$Node" "zero" "LRouteTrie$Node;", .methodLink RX0 28 yX0_goesToOne, .instanceMethod yX0_goesToOne, .selects RX0 yX0_goesToOne yX0_goesToOne, .code yX0_goesToOne cX0_goesToOne 2 (some .boolean)] ++ wsX10 ++ wsX00)
def wsX2_init : List Cond := .code yX2_init cX2_init 1 none :: ([.methodLink RX2 1 objectInit, .instanceMethod objectInit, .code objectInit ⟨#[0xb1]⟩ 1 none, .arrayClass .int, .fieldLink RX2 7 "RouteTrieModel" "bits" "[I", .fieldLink RX2 13 "RouteTrieModel" "lengths" "[I", .fieldLink RX2 16 "RouteTrieModel" "hops" "[I", .fieldLink RX2 19 "RouteTrieModel" "nodeBits" "[I", .fieldLink RX2 22 "RouteTrieModel" "nodeLengths" "[I"] ++ wsX20)
def wsX2_init_ : List Cond := .code yX2_init_ cX2_init_ 1 none :: ([.fieldLink RX2 25 "RouteTrieModel" "code" "I", .fieldLink RX2 29 "RouteTrieModel" "size" "I"] ++ wsX20)
def wsX2_mask : List Cond := .code yX2_mask cX2_mask 1 (some .int) :: ([])
def wsX2_isPrefix : List Cond := .code yX2_isPrefix cX2_isPrefix 2 (some .boolean) :: ([.methodLink RX2 32 yX2_mask, .static yX2_mask, .initialized RX2, .code yX2_mask cX2_mask 1 (some .int)])
def wsX2_begins : List Cond := .code yX2_begins cX2_begins 3 (some .boolean) :: ([.methodLink RX2 32 yX2_mask, .static yX2_mask, .initialized RX2, .code yX2_mask cX2_mask 1 (some .int)])
def wsX2_isBefore : List Cond := .code yX2_isBefore cX2_isBefore 6 (some .boolean) :: ([.constant RX2 36 (-2147483648), .fieldLink RX2 7 "RouteTrieModel" "bits" "[I", .fieldLink RX2 13 "RouteTrieModel" "lengths" "[I"] ++ wsX20)
def wsX2_find : List Cond := .code yX2_find cX2_find 4 (some .int) :: ([.fieldLink RX2 29 "RouteTrieModel" "size" "I", .fieldLink RX2 7 "RouteTrieModel" "bits" "[I", .fieldLink RX2 13 "RouteTrieModel" "lengths" "[I"] ++ wsX20)
def wsX2_insert : List Cond := .code yX2_insert cX2_insert 6 (some .int) :: ([.fieldLink RX2 25 "RouteTrieModel" "code" "I", .fieldLink RX2 16 "RouteTrieModel" "hops" "[I", .fieldLink RX2 29 "RouteTrieModel" "size" "I", .fieldLink RX2 7 "RouteTrieModel" "bits" "[I", .fieldLink RX2 13 "RouteTrieModel" "lengths" "[I", .methodLink RX2 37 yX2_isPrefix, .static yX2_isPrefix, .initialized RX2, .code yX2_isPrefix cX2_isPrefix 2 (some .boolean), .methodLink RX2 32 yX2_mask, .static yX2_mask, .code yX2_mask cX2_mask 1 (some .int), .methodLink RX2 41 yX2_find, .instanceMethod yX2_find, .selects RX2 yX2_find yX2_find, .code yX2_find cX2_find 4 (some .int), .methodLink RX2 45 yX2_isBefore, .instanceMethod yX2_isBefore, .selects RX2 yX2_isBefore yX2_isBefore, .code yX2_isBefore cX2_isBefore 6 (some .boolean), .constant RX2 36 (-2147483648)] ++ wsX20)
def wsX2_remove : List Cond := .code yX2_remove cX2_remove 5 (some .boolean) :: ([.fieldLink RX2 25 "RouteTrieModel" "code" "I", .fieldLink RX2 29 "RouteTrieModel" "size" "I", .fieldLink RX2 7 "RouteTrieModel" "bits" "[I", .fieldLink RX2 13 "RouteTrieModel" "lengths" "[I", .fieldLink RX2 16 "RouteTrieModel" "hops" "[I", .methodLink RX2 41 yX2_find, .instanceMethod yX2_find, .selects RX2 yX2_find yX2_find, .initialized RX2, .code yX2_find cX2_find 4 (some .int)] ++ wsX20)
def wsX2_longest : List Cond := .code yX2_longest cX2_longest 4 (some .int) :: ([.fieldLink RX2 29 "RouteTrieModel" "size" "I", .fieldLink RX2 7 "RouteTrieModel" "bits" "[I", .fieldLink RX2 13 "RouteTrieModel" "lengths" "[I", .methodLink RX2 49 yX2_begins, .static yX2_begins, .initialized RX2, .code yX2_begins cX2_begins 3 (some .boolean), .methodLink RX2 32 yX2_mask, .static yX2_mask, .code yX2_mask cX2_mask 1 (some .int)] ++ wsX20)
def wsX2_lookup : List Cond := .code yX2_lookup cX2_lookup 3 (some .int) :: ([.fieldLink RX2 25 "RouteTrieModel" "code" "I", .fieldLink RX2 16 "RouteTrieModel" "hops" "[I", .methodLink RX2 52 yX2_longest, .instanceMethod yX2_longest, .selects RX2 yX2_longest yX2_longest, .initialized RX2, .code yX2_longest cX2_longest 4 (some .int), .fieldLink RX2 29 "RouteTrieModel" "size" "I", .fieldLink RX2 7 "RouteTrieModel" "bits" "[I", .fieldLink RX2 13 "RouteTrieModel" "lengths" "[I", .methodLink RX2 49 yX2_begins, .static yX2_begins, .code yX2_begins cX2_begins 3 (some .boolean), .methodLink RX2 32 yX2_mask, .static yX2_mask, .code yX2_mask cX2_mask 1 (some .int)] ++ wsX20)
def wsX2_lookupLen : List Cond := .code yX2_lookupLen cX2_lookupLen 3 (some .int) :: ([.fieldLink RX2 25 "RouteTrieModel" "code" "I", .fieldLink RX2 13 "RouteTrieModel" "lengths" "[I", .methodLink RX2 52 yX2_longest, .instanceMethod yX2_longest, .selects RX2 yX2_longest yX2_longest, .initialized RX2, .code yX2_longest cX2_longest 4 (some .int), .fieldLink RX2 29 "RouteTrieModel" "size" "I", .fieldLink RX2 7 "RouteTrieModel" "bits" "[I", .methodLink RX2 49 yX2_begins, .static yX2_begins, .code yX2_begins cX2_begins 3 (some .boolean), .methodLink RX2 32 yX2_mask, .static yX2_mask, .code yX2_mask cX2_mask 1 (some .int)] ++ wsX20)
def wsX2_exact : List Cond := .code yX2_exact cX2_exact 4 (some .int) :: ([.fieldLink RX2 25 "RouteTrieModel" "code" "I", .fieldLink RX2 16 "RouteTrieModel" "hops" "[I", .methodLink RX2 41 yX2_find, .instanceMethod yX2_find, .selects RX2 yX2_find yX2_find, .initialized RX2, .code yX2_find cX2_find 4 (some .int), .fieldLink RX2 29 "RouteTrieModel" "size" "I", .fieldLink RX2 7 "RouteTrieModel" "bits" "[I", .fieldLink RX2 13 "RouteTrieModel" "lengths" "[I"] ++ wsX20)
def wsX2_under : List Cond := .code yX2_under cX2_under 5 (some .int) :: ([.fieldLink RX2 25 "RouteTrieModel" "code" "I", .fieldLink RX2 29 "RouteTrieModel" "size" "I", .fieldLink RX2 13 "RouteTrieModel" "lengths" "[I", .fieldLink RX2 7 "RouteTrieModel" "bits" "[I", .methodLink RX2 37 yX2_isPrefix, .static yX2_isPrefix, .initialized RX2, .code yX2_isPrefix cX2_isPrefix 2 (some .boolean), .methodLink RX2 32 yX2_mask, .static yX2_mask, .code yX2_mask cX2_mask 1 (some .int), .methodLink RX2 49 yX2_begins, .static yX2_begins, .code yX2_begins cX2_begins 3 (some .boolean)] ++ wsX20)
def wsX2_route : List Cond := .code yX2_route cX2_route 3 (some .int) :: ([.fieldLink RX2 25 "RouteTrieModel" "code" "I", .fieldLink RX2 29 "RouteTrieModel" "size" "I", .fieldLink RX2 7 "RouteTrieModel" "bits" "[I", .fieldLink RX2 13 "RouteTrieModel" "lengths" "[I", .fieldLink RX2 16 "RouteTrieModel" "hops" "[I"] ++ wsX20)
def wsX2_count : List Cond := .code yX2_count cX2_count 1 (some .int) :: ([.fieldLink RX2 25 "RouteTrieModel" "code" "I", .fieldLink RX2 29 "RouteTrieModel" "size" "I"] ++ wsX20)
def wsX2_add : List Cond := .code yX2_add cX2_add 4 none :: ([.fieldLink RX2 55 "RouteTrieModel" "nodeCount" "I", .fieldLink RX2 19 "RouteTrieModel" "nodeBits" "[I", .fieldLink RX2 22 "RouteTrieModel" "nodeLengths" "[I"] ++ wsX20)
def wsX2_findNodes : List Cond := .code yX2_findNodes cX2_findNodes 4 none :: ([.fieldLink RX2 55 "RouteTrieModel" "nodeCount" "I", .fieldLink RX2 29 "RouteTrieModel" "size" "I", .fieldLink RX2 7 "RouteTrieModel" "bits" "[I", .fieldLink RX2 13 "RouteTrieModel" "lengths" "[I", .methodLink RX2 58 yX2_add, .instanceMethod yX2_add, .selects RX2 yX2_add yX2_add, .initialized RX2, .code yX2_add cX2_add 4 none, .fieldLink RX2 19 "RouteTrieModel" "nodeBits" "[I", .fieldLink RX2 22 "RouteTrieModel" "nodeLengths" "[I", .methodLink RX2 32 yX2_mask, .static yX2_mask, .code yX2_mask cX2_mask 1 (some .int)] ++ wsX20)
def wsX2_nodes : List Cond := .code yX2_nodes cX2_nodes 1 (some .int) :: ([.fieldLink RX2 25 "RouteTrieModel" "code" "I", .fieldLink RX2 55 "RouteTrieModel" "nodeCount" "I", .methodLink RX2 62 yX2_findNodes, .instanceMethod yX2_findNodes, .selects RX2 yX2_findNodes yX2_findNodes, .initialized RX2, .code yX2_findNodes cX2_findNodes 4 none, .fieldLink RX2 29 "RouteTrieModel" "size" "I", .fieldLink RX2 7 "RouteTrieModel" "bits" "[I", .fieldLink RX2 13 "RouteTrieModel" "lengths" "[I", .methodLink RX2 58 yX2_add, .instanceMethod yX2_add, .selects RX2 yX2_add yX2_add, .code yX2_add cX2_add 4 none, .fieldLink RX2 19 "RouteTrieModel" "nodeBits" "[I", .fieldLink RX2 22 "RouteTrieModel" "nodeLengths" "[I", .methodLink RX2 32 yX2_mask, .static yX2_mask, .code yX2_mask cX2_mask 1 (some .int)] ++ wsX20)
def wsX2_depth : List Cond := .code yX2_depth cX2_depth 4 (some .int) :: ([.fieldLink RX2 25 "RouteTrieModel" "code" "I", .fieldLink RX2 55 "RouteTrieModel" "nodeCount" "I", .fieldLink RX2 19 "RouteTrieModel" "nodeBits" "[I", .fieldLink RX2 22 "RouteTrieModel" "nodeLengths" "[I", .methodLink RX2 62 yX2_findNodes, .instanceMethod yX2_findNodes, .selects RX2 yX2_findNodes yX2_findNodes, .initialized RX2, .code yX2_findNodes cX2_findNodes 4 none, .fieldLink RX2 29 "RouteTrieModel" "size" "I", .fieldLink RX2 7 "RouteTrieModel" "bits" "[I", .fieldLink RX2 13 "RouteTrieModel" "lengths" "[I", .methodLink RX2 58 yX2_add, .instanceMethod yX2_add, .selects RX2 yX2_add yX2_add, .code yX2_add cX2_add 4 none, .methodLink RX2 32 yX2_mask, .static yX2_mask, .code yX2_mask cX2_mask 1 (some .int), .methodLink RX2 49 yX2_begins, .static yX2_begins, .code yX2_begins cX2_begins 3 (some .boolean)] ++ wsX20)
def wsJ9_min_7cf53 : List Cond := .code yJ9_min_7cf53 cJ9_min_7cf53 2 (some .int) :: ([])
def wsL_law_r1 : List Cond := [Cond.classLink RL 7 RX1, Cond.instantiable RX1 2, Cond.initialized RX1, Cond.classLink RL 10 RX2, Cond.instantiable RX2 8, Cond.initialized RX2, Cond.methodLink RL 9 yX1_init, Cond.instanceMethod yX1_init, Cond.code yX1_init cX1_init 1 none, Cond.methodLink RX1 1 objectInit, Cond.instanceMethod objectInit, Cond.code objectInit ⟨#[0xb1]⟩ 1 none, Cond.classLink RX1 7 RX0, Cond.instantiable RX0 6, Cond.initialized RX0, Cond.fieldLink RX1 14 "RouteTrie" "root" "LRouteTrie$Node;", Cond.fieldLink RX1 18 "RouteTrie" "nodeCount" "I", Cond.instanceMethod yX0_init, Cond.code yX0_init cX0_init 4 none, Cond.methodLink RX0 3 objectInit, Cond.fieldLink RX0 9 "RouteTrie$Node" "bits" "I", Cond.fieldLink RX0 15 "RouteTrie$Node" "len" "I", Cond.fieldLink RX0 18 "RouteTrie$Node" "hop" "I", Cond.fieldLink RX0 21 "RouteTrie$Node" "routes" "I"]
def wsL_law_r2 : List Cond := [Cond.methodLink RL 12 yX2_init, Cond.instanceMethod yX2_init, Cond.code yX2_init cX2_init 1 none, Cond.methodLink RX2 1 objectInit, Cond.arrayClass .int, Cond.fieldLink RX2 7 "RouteTrieModel" "bits" "[I", Cond.fieldLink RX2 13 "RouteTrieModel" "lengths" "[I", Cond.fieldLink RX2 16 "RouteTrieModel" "hops" "[I", Cond.fieldLink RX2 19 "RouteTrieModel" "nodeBits" "[I", Cond.fieldLink RX2 22 "RouteTrieModel" "nodeLengths" "[I", Cond.methodLink RL 13 yX1_init_, Cond.instanceMethod yX1_init_, Cond.selects RX1 yX1_init_ yX1_init_, Cond.code yX1_init_ cX1_init_ 1 none, Cond.methodLink RL 16 yX2_init_, Cond.instanceMethod yX2_init_, Cond.selects RX2 yX2_init_ yX2_init_, Cond.code yX2_init_ cX2_init_ 1 none, Cond.fieldLink RX2 25 "RouteTrieModel" "code" "I", Cond.fieldLink RX2 29 "RouteTrieModel" "size" "I", Cond.methodLink RL 17 yX1_insert, Cond.instanceMethod yX1_insert, Cond.selects RX1 yX1_insert yX1_insert, Cond.code yX1_insert cX1_insert 5 (some .int)]
def wsL_law_r3 : List Cond := [Cond.methodLink RX1 34 yX1_isPrefix, Cond.static yX1_isPrefix, Cond.code yX1_isPrefix cX1_isPrefix 2 (some .boolean), Cond.methodLink RX1 72 yX1_firstBits, Cond.static yX1_firstBits, Cond.code yX1_firstBits cX1_firstBits 2 (some .int), Cond.methodLink RX1 38 yX1_routeAt, Cond.instanceMethod yX1_routeAt, Cond.selects RX1 yX1_routeAt yX1_routeAt, Cond.code yX1_routeAt cX1_routeAt 4 (some (.object "RouteTrie$Node")), Cond.methodLink RX1 56 yX1_topmost, Cond.instanceMethod yX1_topmost, Cond.selects RX1 yX1_topmost yX1_topmost, Cond.code yX1_topmost cX1_topmost 4 (some (.object "RouteTrie$Node")), Cond.instanceMethod yX0_toward, Cond.selects RX0 yX0_toward yX0_toward, Cond.code yX0_toward cX0_toward 2 (some (.object "RouteTrie$Node")), Cond.fieldLink RX0 32 "RouteTrie$Node" "one" "LRouteTrie$Node;", Cond.fieldLink RX0 36 "RouteTrie$Node" "zero" "LRouteTrie$Node;", Cond.methodLink RX0 28 yX0_goesToOne, Cond.instanceMethod yX0_goesToOne, Cond.selects RX0 yX0_goesToOne yX0_goesToOne, Cond.code yX0_goesToOne cX0_goesToOne 2 (some .boolean), Cond.instanceMethod yX0_isRoute]
def wsL_law_r4 : List Cond := [Cond.selects RX0 yX0_isRoute yX0_isRoute, Cond.code yX0_isRoute cX0_isRoute 1 (some .boolean), Cond.methodLink RX1 42 yX1_grow, Cond.instanceMethod yX1_grow, Cond.selects RX1 yX1_grow yX1_grow, Cond.code yX1_grow cX1_grow 6 none, Cond.instanceMethod yX0_isBeginOf, Cond.selects RX0 yX0_isBeginOf yX0_isBeginOf, Cond.code yX0_isBeginOf cX0_isBeginOf 2 (some .boolean), Cond.methodLink RX1 91 yX1_newNode, Cond.instanceMethod yX1_newNode, Cond.selects RX1 yX1_newNode yX1_newNode, Cond.code yX1_newNode cX1_newNode 4 (some (.object "RouteTrie$Node")), Cond.methodLink RX1 95 yX1_joined, Cond.instanceMethod yX1_joined, Cond.selects RX1 yX1_joined yX1_joined, Cond.code yX1_joined cX1_joined 5 (some (.object "RouteTrie$Node")), Cond.methodLink RX1 102 yX1_commonLength, Cond.static yX1_commonLength, Cond.code yX1_commonLength cX1_commonLength 3 (some .int), Cond.methodLink RX1 82 Lib.Math.min.name, Cond.static Lib.Math.min.name, Cond.initialized "java/lang/Math", Cond.code Lib.Math.min.name Lib.Math.min.code 2 (some .int)]
def wsL_law_r5 : List Cond := [Cond.methodLink RX1 76 yJ6_numberOfLeadingZeros_0f7a4, Cond.static yJ6_numberOfLeadingZeros_0f7a4, Cond.initialized RJ6, Cond.code yJ6_numberOfLeadingZeros_0f7a4 cJ6_numberOfLeadingZeros_0f7a4 2 (some .int), Cond.constant RJ6 264 (65536), Cond.instanceMethod yX0_hang, Cond.selects RX0 yX0_hang yX0_hang, Cond.code yX0_hang cX0_hang 2 none, Cond.methodLink RL 21 yX2_insert, Cond.instanceMethod yX2_insert, Cond.selects RX2 yX2_insert yX2_insert, Cond.code yX2_insert cX2_insert 6 (some .int), Cond.methodLink RX2 37 yX2_isPrefix, Cond.static yX2_isPrefix, Cond.code yX2_isPrefix cX2_isPrefix 2 (some .boolean), Cond.methodLink RX2 32 yX2_mask, Cond.static yX2_mask, Cond.code yX2_mask cX2_mask 1 (some .int), Cond.methodLink RX2 41 yX2_find, Cond.instanceMethod yX2_find, Cond.selects RX2 yX2_find yX2_find, Cond.code yX2_find cX2_find 4 (some .int), Cond.methodLink RX2 45 yX2_isBefore, Cond.instanceMethod yX2_isBefore]
def wsL_law_r6 : List Cond := [Cond.selects RX2 yX2_isBefore yX2_isBefore, Cond.code yX2_isBefore cX2_isBefore 6 (some .boolean), Cond.constant RX2 36 (-2147483648), Cond.methodLink RL 22 yX1_remove, Cond.instanceMethod yX1_remove, Cond.selects RX1 yX1_remove yX1_remove, Cond.code yX1_remove cX1_remove 4 (some .boolean), Cond.methodLink RX1 45 yX1_cut, Cond.instanceMethod yX1_cut, Cond.selects RX1 yX1_cut yX1_cut, Cond.code yX1_cut cX1_cut 5 none, Cond.methodLink RX1 106 yX1_dropIfIdle, Cond.instanceMethod yX1_dropIfIdle, Cond.selects RX1 yX1_dropIfIdle yX1_dropIfIdle, Cond.code yX1_dropIfIdle cX1_dropIfIdle 3 none, Cond.instanceMethod yX0_replace, Cond.selects RX0 yX0_replace yX0_replace, Cond.code yX0_replace cX0_replace 3 none, Cond.methodLink RL 26 yX2_remove, Cond.instanceMethod yX2_remove, Cond.selects RX2 yX2_remove yX2_remove, Cond.code yX2_remove cX2_remove 5 (some .boolean), Cond.methodLink RL 27 yX1_lookup, Cond.instanceMethod yX1_lookup]
def wsL_law_r7 : List Cond := [Cond.selects RX1 yX1_lookup yX1_lookup, Cond.code yX1_lookup cX1_lookup 3 (some .int), Cond.methodLink RX1 49 yX1_longestRoute, Cond.instanceMethod yX1_longestRoute, Cond.selects RX1 yX1_longestRoute yX1_longestRoute, Cond.code yX1_longestRoute cX1_longestRoute 4 (some (.object "RouteTrie$Node")), Cond.methodLink RL 31 yX2_lookup, Cond.instanceMethod yX2_lookup, Cond.selects RX2 yX2_lookup yX2_lookup, Cond.code yX2_lookup cX2_lookup 3 (some .int), Cond.methodLink RX2 52 yX2_longest, Cond.instanceMethod yX2_longest, Cond.selects RX2 yX2_longest yX2_longest, Cond.code yX2_longest cX2_longest 4 (some .int), Cond.methodLink RX2 49 yX2_begins, Cond.static yX2_begins, Cond.code yX2_begins cX2_begins 3 (some .boolean), Cond.methodLink RL 32 yX1_lookupLen, Cond.instanceMethod yX1_lookupLen, Cond.selects RX1 yX1_lookupLen yX1_lookupLen, Cond.code yX1_lookupLen cX1_lookupLen 3 (some .int), Cond.methodLink RL 35 yX2_lookupLen, Cond.instanceMethod yX2_lookupLen, Cond.selects RX2 yX2_lookupLen yX2_lookupLen]
def wsL_law_r8 : List Cond := [Cond.code yX2_lookupLen cX2_lookupLen 3 (some .int), Cond.methodLink RL 36 yX1_exact, Cond.instanceMethod yX1_exact, Cond.selects RX1 yX1_exact yX1_exact, Cond.code yX1_exact cX1_exact 4 (some .int), Cond.methodLink RL 40 yX2_exact, Cond.instanceMethod yX2_exact, Cond.selects RX2 yX2_exact yX2_exact, Cond.code yX2_exact cX2_exact 4 (some .int), Cond.methodLink RL 41 yX1_under, Cond.instanceMethod yX1_under, Cond.selects RX1 yX1_under yX1_under, Cond.code yX1_under cX1_under 4 (some .int), Cond.methodLink RL 44 yX2_under, Cond.instanceMethod yX2_under, Cond.selects RX2 yX2_under yX2_under, Cond.code yX2_under cX2_under 5 (some .int), Cond.methodLink RL 45 yX1_route, Cond.instanceMethod yX1_route, Cond.selects RX1 yX1_route yX1_route, Cond.code yX1_route cX1_route 4 (some .int), Cond.methodLink RX1 59 yX1_inOrder, Cond.instanceMethod yX1_inOrder, Cond.selects RX1 yX1_inOrder yX1_inOrder]
def wsL_law_r9 : List Cond := [Cond.code yX1_inOrder cX1_inOrder 5 (some (.object "RouteTrie$Node")), Cond.methodLink RL 48 yX2_route, Cond.instanceMethod yX2_route, Cond.selects RX2 yX2_route yX2_route, Cond.code yX2_route cX2_route 3 (some .int), Cond.methodLink RL 49 yX1_count, Cond.instanceMethod yX1_count, Cond.selects RX1 yX1_count yX1_count, Cond.code yX1_count cX1_count 1 (some .int), Cond.methodLink RL 53 yX2_count, Cond.instanceMethod yX2_count, Cond.selects RX2 yX2_count yX2_count, Cond.code yX2_count cX2_count 1 (some .int), Cond.methodLink RL 54 yX1_nodes, Cond.instanceMethod yX1_nodes, Cond.selects RX1 yX1_nodes yX1_nodes, Cond.code yX1_nodes cX1_nodes 1 (some .int), Cond.methodLink RL 57 yX2_nodes, Cond.instanceMethod yX2_nodes, Cond.selects RX2 yX2_nodes yX2_nodes, Cond.code yX2_nodes cX2_nodes 1 (some .int), Cond.fieldLink RX2 55 "RouteTrieModel" "nodeCount" "I", Cond.methodLink RX2 62 yX2_findNodes, Cond.instanceMethod yX2_findNodes]
def wsL_law_r10 : List Cond := [Cond.selects RX2 yX2_findNodes yX2_findNodes, Cond.code yX2_findNodes cX2_findNodes 4 none, Cond.methodLink RX2 58 yX2_add, Cond.instanceMethod yX2_add, Cond.selects RX2 yX2_add yX2_add, Cond.code yX2_add cX2_add 4 none, Cond.methodLink RL 58 yX1_depth, Cond.instanceMethod yX1_depth, Cond.selects RX1 yX1_depth yX1_depth, Cond.code yX1_depth cX1_depth 4 (some .int), Cond.methodLink RL 61 yX2_depth, Cond.instanceMethod yX2_depth, Cond.selects RX2 yX2_depth yX2_depth, Cond.code yX2_depth cX2_depth 4 (some .int)]
def wsL_law : List Cond := (wsL_law_r1 ++ (wsL_law_r2 ++ (wsL_law_r3 ++ (wsL_law_r4 ++ (wsL_law_r5 ++ (wsL_law_r6 ++ (wsL_law_r7 ++ (wsL_law_r8 ++ (wsL_law_r9 ++ wsL_law_r10))))))))) ++ wsX10 ++ wsX20 ++ wsX00 ++ ([] : List Cond)
set_option maxRecDepth 20000 in
theorem wsL_law_in : ∀ w ∈ wsL_law, w ∈ lw_tbl := fun w h => (goodIn_p wsL_law [30, 33, 38, 197, 75, 228, 79, 82, 85, 89, 93, 97, 101, 105, 109, 113, 118, 122, 125, 132, 128, 136, 232, 235, 238, 242, 246, 140, 144, 148, 152, 251, 156, 160, 255, 259, 262, 164, 266, 168, 270, 172, 274, 176, 180, 278, 184, 282, 188, 286, 290, 294, 192, 298] (by decide +kernel) (by decide +kernel) w h).1
theorem inlX0 : ∀ w ∈ wsX00, w ∈ wsL_law := fun _ h => List.mem_append_left _ (List.mem_append_right _ h)
theorem inX0 : ∀ w ∈ wsX00, w ∈ lw_tbl := fun w h => wsL_law_in w (inlX0 w h)
theorem inlX1 : ∀ w ∈ wsX10, w ∈ wsL_law := fun _ h => List.mem_append_left _ (List.mem_append_left _ (List.mem_append_left _ (List.mem_append_right _ h)))
theorem inX1 : ∀ w ∈ wsX10, w ∈ lw_tbl := fun w h => wsL_law_in w (inlX1 w h)
theorem inlX2 : ∀ w ∈ wsX20, w ∈ wsL_law := fun _ h => List.mem_append_left _ (List.mem_append_left _ (List.mem_append_right _ h))
theorem inX2 : ∀ w ∈ wsX20, w ∈ lw_tbl := fun w h => wsL_law_in w (inlX2 w h)
theorem inJ6 : ∀ w ∈ wsJ60, w ∈ lw_tbl := by decide +kernel
theorem inJ9 : ∀ w ∈ wsJ90, w ∈ lw_tbl := by decide +kernel
theorem dX0_init_0 : decode cX0_init 0 = .ok (.aload_n 0, 1) := by decide +kernel
theorem dX0_init_1 : decode cX0_init 1 = .ok (.invokespecial 3, 3) := by decide +kernel
theorem dX0_init_4 : decode cX0_init 4 = .ok (.aload_n 0, 1) := by decide +kernel
theorem dX0_init_5 : decode cX0_init 5 = .ok (.iload_n 1, 1) := by decide +kernel
theorem dX0_init_6 : decode cX0_init 6 = .ok (.putfield 9, 3) := by decide +kernel
theorem dX0_init_9 : decode cX0_init 9 = .ok (.aload_n 0, 1) := by decide +kernel
theorem dX0_init_10 : decode cX0_init 10 = .ok (.iload_n 2, 1) := by decide +kernel
theorem dX0_init_11 : decode cX0_init 11 = .ok (.putfield 15, 3) := by decide +kernel
theorem dX0_init_14 : decode cX0_init 14 = .ok (.aload_n 0, 1) := by decide +kernel
theorem dX0_init_15 : decode cX0_init 15 = .ok (.iload_n 3, 1) := by decide +kernel
theorem dX0_init_16 : decode cX0_init 16 = .ok (.putfield 18, 3) := by decide +kernel
theorem dX0_init_19 : decode cX0_init 19 = .ok (.aload_n 0, 1) := by decide +kernel
theorem dX0_init_20 : decode cX0_init 20 = .ok (.iload_n 3, 1) := by decide +kernel
theorem dX0_init_21 : decode cX0_init 21 = .ok (.iconst (-1), 1) := by decide +kernel
theorem dX0_init_22 : decode cX0_init 22 = .ok (.if_icmp .ne 7, 3) := by decide +kernel
theorem dX0_init_25 : decode cX0_init 25 = .ok (.iconst 0, 1) := by decide +kernel
theorem dX0_init_26 : decode cX0_init 26 = .ok (.goto 4, 3) := by decide +kernel
theorem dX0_init_29 : decode cX0_init 29 = .ok (.iconst 1, 1) := by decide +kernel
theorem dX0_init_30 : decode cX0_init 30 = .ok (.putfield 21, 3) := by decide +kernel
theorem dX0_init_33 : decode cX0_init 33 = .ok (.return_, 1) := by decide +kernel
theorem dX0_isRoute_0 : decode cX0_isRoute 0 = .ok (.aload_n 0, 1) := by decide +kernel
theorem dX0_isRoute_1 : decode cX0_isRoute 1 = .ok (.getfield 18, 3) := by decide +kernel
theorem dX0_isRoute_4 : decode cX0_isRoute 4 = .ok (.iconst (-1), 1) := by decide +kernel
theorem dX0_isRoute_5 : decode cX0_isRoute 5 = .ok (.if_icmp .eq 7, 3) := by decide +kernel
theorem dX0_isRoute_8 : decode cX0_isRoute 8 = .ok (.iconst 1, 1) := by decide +kernel
theorem dX0_isRoute_9 : decode cX0_isRoute 9 = .ok (.goto 4, 3) := by decide +kernel
theorem dX0_isRoute_12 : decode cX0_isRoute 12 = .ok (.iconst 0, 1) := by decide +kernel
theorem dX0_isRoute_13 : decode cX0_isRoute 13 = .ok (.ireturn, 1) := by decide +kernel
set_option maxRecDepth 20000 in
theorem ggX0_isBeginOf_X1_firstBits : GoodIn wsX0_isBeginOf wsX1_firstBits := goodIn_r _ [5] (by decide +kernel) (by decide +kernel)
set_option maxRecDepth 20000 in
theorem gX0_isBeginOf_X1_firstBits_n24 : GoodIn wsX0_isBeginOf (wsX1_firstBits) := ggX0_isBeginOf_X1_firstBits
theorem dX0_isBeginOf_0 : decode cX0_isBeginOf 0 = .ok (.iload_n 1, 1) := by decide +kernel
theorem dX0_isBeginOf_1 : decode cX0_isBeginOf 1 = .ok (.aload_n 0, 1) := by decide +kernel
theorem dX0_isBeginOf_2 : decode cX0_isBeginOf 2 = .ok (.getfield 15, 3) := by decide +kernel
theorem dX0_isBeginOf_5 : decode cX0_isBeginOf 5 = .ok (.invokestatic 24, 3) := by decide +kernel
theorem dX0_isBeginOf_8 : decode cX0_isBeginOf 8 = .ok (.aload_n 0, 1) := by decide +kernel
theorem dX0_isBeginOf_9 : decode cX0_isBeginOf 9 = .ok (.getfield 9, 3) := by decide +kernel
theorem dX0_isBeginOf_12 : decode cX0_isBeginOf 12 = .ok (.if_icmp .ne 7, 3) := by decide +kernel
theorem dX0_isBeginOf_15 : decode cX0_isBeginOf 15 = .ok (.iconst 1, 1) := by decide +kernel
theorem dX0_isBeginOf_16 : decode cX0_isBeginOf 16 = .ok (.goto 4, 3) := by decide +kernel
theorem dX0_isBeginOf_19 : decode cX0_isBeginOf 19 = .ok (.iconst 0, 1) := by decide +kernel
theorem dX0_isBeginOf_20 : decode cX0_isBeginOf 20 = .ok (.ireturn, 1) := by decide +kernel
theorem dX0_goesToOne_0 : decode cX0_goesToOne 0 = .ok (.aload_n 0, 1) := by decide +kernel
theorem dX0_goesToOne_1 : decode cX0_goesToOne 1 = .ok (.getfield 15, 3) := by decide +kernel
theorem dX0_goesToOne_4 : decode cX0_goesToOne 4 = .ok (.bipush 32, 2) := by decide +kernel
theorem dX0_goesToOne_6 : decode cX0_goesToOne 6 = .ok (.if_icmp .ge 22, 3) := by decide +kernel
theorem dX0_goesToOne_9 : decode cX0_goesToOne 9 = .ok (.iload_n 1, 1) := by decide +kernel
theorem dX0_goesToOne_10 : decode cX0_goesToOne 10 = .ok (.bipush 31, 2) := by decide +kernel
theorem dX0_goesToOne_12 : decode cX0_goesToOne 12 = .ok (.aload_n 0, 1) := by decide +kernel
theorem dX0_goesToOne_13 : decode cX0_goesToOne 13 = .ok (.getfield 15, 3) := by decide +kernel
theorem dX0_goesToOne_16 : decode cX0_goesToOne 16 = .ok (.isub, 1) := by decide +kernel
theorem dX0_goesToOne_17 : decode cX0_goesToOne 17 = .ok (.iushr, 1) := by decide +kernel
theorem dX0_goesToOne_18 : decode cX0_goesToOne 18 = .ok (.iconst 1, 1) := by decide +kernel
theorem dX0_goesToOne_19 : decode cX0_goesToOne 19 = .ok (.iand, 1) := by decide +kernel
theorem dX0_goesToOne_20 : decode cX0_goesToOne 20 = .ok (.iconst 1, 1) := by decide +kernel
theorem dX0_goesToOne_21 : decode cX0_goesToOne 21 = .ok (.if_icmp .ne 7, 3) := by decide +kernel
theorem dX0_goesToOne_24 : decode cX0_goesToOne 24 = .ok (.iconst 1, 1) := by decide +kernel
theorem dX0_goesToOne_25 : decode cX0_goesToOne 25 = .ok (.goto 4, 3) := by decide +kernel
theorem dX0_goesToOne_28 : decode cX0_goesToOne 28 = .ok (.iconst 0, 1) := by decide +kernel
theorem dX0_goesToOne_29 : decode cX0_goesToOne 29 = .ok (.ireturn, 1) := by decide +kernel
set_option maxRecDepth 20000 in
theorem ggX0_toward_X0_goesToOne : GoodIn wsX0_toward wsX0_goesToOne := goodIn_r _ [7, 8, 9, 10, 11, 12, 13, 14] (by decide +kernel) (by decide +kernel)
set_option maxRecDepth 20000 in
theorem gX0_toward_X0_goesToOne : GoodIn wsX0_toward (wsV RX0 28 RX0 yX0_goesToOne wsX0_goesToOne) := goodIn_app (goodIn_of _ (by decide +kernel)) ggX0_toward_X0_goesToOne
theorem dX0_toward_0 : decode cX0_toward 0 = .ok (.aload_n 0, 1) := by decide +kernel
theorem dX0_toward_1 : decode cX0_toward 1 = .ok (.iload_n 1, 1) := by decide +kernel
theorem dX0_toward_2 : decode cX0_toward 2 = .ok (.invokevirtual 28, 3) := by decide +kernel
theorem dX0_toward_5 : decode cX0_toward 5 = .ok (.ifCond .eq 10, 3) := by decide +kernel
theorem dX0_toward_8 : decode cX0_toward 8 = .ok (.aload_n 0, 1) := by decide +kernel
theorem dX0_toward_9 : decode cX0_toward 9 = .ok (.getfield 32, 3) := by decide +kernel
theorem dX0_toward_12 : decode cX0_toward 12 = .ok (.goto 7, 3) := by decide +kernel
theorem dX0_toward_15 : decode cX0_toward 15 = .ok (.aload_n 0, 1) := by decide +kernel
theorem dX0_toward_16 : decode cX0_toward 16 = .ok (.getfield 36, 3) := by decide +kernel
theorem dX0_toward_19 : decode cX0_toward 19 = .ok (.areturn, 1) := by decide +kernel
set_option maxRecDepth 20000 in
theorem ggX0_hang_X0_goesToOne : GoodIn wsX0_hang wsX0_goesToOne := goodIn_r _ [8, 9, 10, 11, 12, 13, 14, 15] (by decide +kernel) (by decide +kernel)
set_option maxRecDepth 20000 in
theorem gX0_hang_X0_goesToOne : GoodIn wsX0_hang (wsV RX0 28 RX0 yX0_goesToOne wsX0_goesToOne) := goodIn_app (goodIn_of _ (by decide +kernel)) ggX0_hang_X0_goesToOne
theorem dX0_hang_0 : decode cX0_hang 0 = .ok (.aload_n 0, 1) := by decide +kernel
theorem dX0_hang_1 : decode cX0_hang 1 = .ok (.aload_n 1, 1) := by decide +kernel
theorem dX0_hang_2 : decode cX0_hang 2 = .ok (.getfield 9, 3) := by decide +kernel
theorem dX0_hang_5 : decode cX0_hang 5 = .ok (.invokevirtual 28, 3) := by decide +kernel
theorem dX0_hang_8 : decode cX0_hang 8 = .ok (.ifCond .eq 11, 3) := by decide +kernel
theorem dX0_hang_11 : decode cX0_hang 11 = .ok (.aload_n 0, 1) := by decide +kernel
theorem dX0_hang_12 : decode cX0_hang 12 = .ok (.aload_n 1, 1) := by decide +kernel
theorem dX0_hang_13 : decode cX0_hang 13 = .ok (.putfield 32, 3) := by decide +kernel
theorem dX0_hang_16 : decode cX0_hang 16 = .ok (.goto 8, 3) := by decide +kernel
theorem dX0_hang_19 : decode cX0_hang 19 = .ok (.aload_n 0, 1) := by decide +kernel
theorem dX0_hang_20 : decode cX0_hang 20 = .ok (.aload_n 1, 1) := by decide +kernel
theorem dX0_hang_21 : decode cX0_hang 21 = .ok (.putfield 36, 3) := by decide +kernel
theorem dX0_hang_24 : decode cX0_hang 24 = .ok (.return_, 1) := by decide +kernel
theorem dX0_replace_0 : decode cX0_replace 0 = .ok (.aload_n 0, 1) := by decide +kernel
theorem dX0_replace_1 : decode cX0_replace 1 = .ok (.getfield 32, 3) := by decide +kernel
theorem dX0_replace_4 : decode cX0_replace 4 = .ok (.aload_n 1, 1) := by decide +kernel
theorem dX0_replace_5 : decode cX0_replace 5 = .ok (.if_acmp .ne 11, 3) := by decide +kernel
theorem dX0_replace_8 : decode cX0_replace 8 = .ok (.aload_n 0, 1) := by decide +kernel
theorem dX0_replace_9 : decode cX0_replace 9 = .ok (.aload_n 2, 1) := by decide +kernel
theorem dX0_replace_10 : decode cX0_replace 10 = .ok (.putfield 32, 3) := by decide +kernel
theorem dX0_replace_13 : decode cX0_replace 13 = .ok (.goto 8, 3) := by decide +kernel
theorem dX0_replace_16 : decode cX0_replace 16 = .ok (.aload_n 0, 1) := by decide +kernel
theorem dX0_replace_17 : decode cX0_replace 17 = .ok (.aload_n 2, 1) := by decide +kernel
theorem dX0_replace_18 : decode cX0_replace 18 = .ok (.putfield 36, 3) := by decide +kernel
theorem dX0_replace_21 : decode cX0_replace 21 = .ok (.return_, 1) := by decide +kernel
set_option maxRecDepth 20000 in
theorem ggX1_init_X0_init : GoodIn wsX1_init wsX0_init := goodIn_r _ [10, 11, 2, 3, 12, 13, 14, 15, 16, 17, 18, 19, 20, 21] (by decide +kernel) (by decide +kernel)
set_option maxRecDepth 20000 in
theorem gX1_init_X0_init_n11 : GoodIn wsX1_init (wsX0_init) := ggX1_init_X0_init
