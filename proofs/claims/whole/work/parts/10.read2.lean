/-! the answers of RouteTrie -/
def IOp (N : List Nat) (t : NT) (root : Nat) (k : Int32) (r : Option Nat) : Prop := (∀ a, r = some a → a ∈ N ∧ isR t a = true ∧ k = nI (lo N t a) ∧ lo N t a < tR t root) ∧ (r = none → k < 0 ∨ nI (tR t root) ≤ k)
def rtA (t : NT) (w : Int32) (a : Nat) : Int32 := if w = 0 then tB t a else if w = 1 then nI (tL t a) else if w = 2 then tH t a else 0
set_option maxHeartbeats 4000000 in
set_option maxRecDepth 100000 in
theorem c_X1_depth (l : Launch) (D : va_G) (cy : ClassId) (base : Nat) (f : AH) (q : Nat) (N : List Nat) (t : NT) (root : Nat) (cnt : Int32) (x : Int32) (hq : f q = some (trO root cnt)) (hT : TN f N t) (hst : ST N t root) : Met l yX1_depth wsX1_depth ({ frames := 2, cells := 0, slots := 0, locals := 42 }) (va_Pc [.ref q, .int x] (hp_B D cy base f)) (va_Qi (fun (r : Int32) (u : AH) => r = nI (N.countP (fun y => fb x (tL t y) == tB t y)) ∧ u = f) (hp_B D cy base) (hp_A base)) 0 0 (hp_A base) := by
  refine Met.ofW (cc := cX1_depth) (maxL := 4) (ret := (some .int)) (by decide) rfl ?_
  intro p e s m args below meth c s₁ B hml hv
  obtain ⟨rfl, hf, C0⟩ := hv
  have hx := B.exec
  have hb := B.bytes
  have hr := B.returns
  have hts := atoms_spec (ws := wsX1_depth) B.pre
  have hown : s.vm.findClass RX1 = some m.cls := findClass_of_methodNamed B.named
  have hlocks := B.notSynchronized
  have hin0 : ∀ w ∈ wsX00, w ∈ wsX1_depth := by decide +kernel
  have hin1 : ∀ w ∈ wsX10, w ∈ wsX1_depth := by decide +kernel
  have hS : va_S (hp_A base) s.heap s.heap [] := va_S.rf
  have hl := lv_entry ([.ref q, .int x]) (n := 4) (Nat.le_of_ble_eq_true rfl)
  rw [lg_entry_eq]
  generalize (lg_sl ([.ref q, .int x]) ++ List.replicate (4 - (lg_sl ([.ref q, .int x])).length) Slot.unset).toArray = ls at hl ⊢
  have hl : lv_has ls 4 [(0, .ref q), (1, .int x)] := hl
  have loop : ∀ (n ps : Nat) (at_ : Option Nat) (ls : Array Slot) (H : Heap) (locs : List Loc), 0 < n → (∀ a, at_ = some a → a ∈ N ∧ 34 ≤ tL t a + n) → ps + dpc N t x at_ = N.countP (fun y => fb x (tL t y) == tB t y) → hp_ok D base f H → va_S (hp_A base) s.heap H locs → lv_has ls 4 [(0, .ref q), (1, .int x), (2, .int (nI ps)), (3, va_rf at_)] → W p l e (headSpec wsX1_depth ({ frames := 2, cells := 0, slots := 0, locals := 42 } : Room)).room s m #[Value.ref q, Value.int x] below meth c H locs 0 0 (MQ below (va_Qi (fun (r : Int32) (u : AH) => r = nI (N.countP (fun y => fb x (tL t y) == tB t y)) ∧ u = f) (hp_B D cy base) (hp_A base)) #[Value.ref q, Value.int x] s 0 0 (hp_A base)) (F0 m 7 ls []) := by
    intro n
    induction n with
    | zero => intro _ _ _ _ _ h; exact absurd h (Nat.lt_irrefl 0)
    | succ n ih =>
      intro ps at_ ls H locs _ hA hI hf hS hl
      refine hp_aload_nq (r := at_) hx hb dX1_depth_7 rfl (lv_at hl 3 rfl) ?_
      refine hp_ifnullq (tgt := 31) (r := at_) hx hb dX1_depth_8 (by decide) (fun h8 => ?_) (fun x8 h8 => ?_)
      · rw [h8] at hl
        have hl : lv_has ls 4 [(0, .ref q), (1, .int x), (2, .int (nI ps)), (3, .null)] := hl
        refine lv_iload_n hx hb dX1_depth_31 rfl (lv_at hl 2 rfl) ?_
        exact hp_iret (v := nI ps) hx hb hr hlocks C0 hf hS (by first | exact Nat.le_refl _ | omega) (by first | exact Nat.le_refl _ | omega) dX1_depth_32 (⟨by rw [h8, dp_none] at hI; rw [← hI]; rfl, rfl⟩)
      · rw [h8] at hl
        have hl : lv_has ls 4 [(0, .ref q), (1, .int x), (2, .int (nI ps)), (3, .ref x8)] := hl
        obtain ⟨hx8, hm8⟩ := hA x8 h8
        refine lv_aload_n hx hb dX1_depth_11 rfl (lv_at hl 3 rfl) ?_
        refine lv_iload_n hx hb dX1_depth_12 rfl (lv_at hl 1 rfl) ?_
        refine hp_ki (hp_rVN (C := RX0) (As := [.int x]) (rest := []) ⟨hx, hb, hml, hown, hts⟩ C0 hf hS (c_X0_isBeginOf l D cy base f x8 (tB t x8) (nI (tL t x8)) (tH t x8) (nI (tR t x8)) (tZ t x8) (tO t x8) x (hT x8 hx8)) ⟨va_cnB (host := RX1) (index := 65) 1 hts gX1_depth_X0_isBeginOf_n65 rfl rfl rfl (C0.2.2 _ (by decide +kernel)) (hts (.initialized RX0) (by decide +kernel)) (by decide +kernel) ⟨Nat.le_of_ble_eq_true rfl, Nat.le_of_ble_eq_true rfl⟩, hts (.instanceMethod yX0_isBeginOf) (by decide +kernel), hts (.selects RX0 yX0_isBeginOf yX0_isBeginOf) (by decide +kernel)⟩ (hT x8 hx8) rfl rfl hl.1 rfl (Nat.le_of_ble_eq_true rfl) dX1_depth_13 ⟨Nat.le_of_ble_eq_true rfl, Nat.le_of_ble_eq_true rfl⟩) hS (fun r_1 u_1 H locs hq_1 hf hS => ?_)
        obtain ⟨hr_1, hu⟩ := hq_1
        rw [hu] at hf
        have hbg : ¬ r_1 = 0 ↔ ag (tB t x8) x (tL t x8) := by rw [← bg_iff (hst.2.2.1 x8 hx8)]; rw [hr_1]; split <;> simp_all
        refine lv_if_eq (tgt := 31) hx hb dX1_depth_16 (by decide) (fun h16 => ?_) (fun h16 => ?_)
        · refine lv_iload_n hx hb dX1_depth_31 rfl (lv_at hl 2 rfl) ?_
          exact hp_iret (v := nI ps) hx hb hr hlocks C0 hf hS (by first | exact Nat.le_refl _ | omega) (by first | exact Nat.le_refl _ | omega) dX1_depth_32 (⟨by rw [h8, dp_no hst hx8 ((not_congr hbg).mp (fun z => z h16))] at hI; rw [← hI]; rfl, rfl⟩)
        · refine lv_iinc (v := ((nI ps) + 1)) (lv' := [(2, .int ((nI ps) + 1)), (0, .ref q), (1, .int x), (3, .ref x8)]) hx hb dX1_depth_19 hl (k := 2) rfl rfl (by decide) rfl (fun ls hl => ?_)
          refine lv_aload_n hx hb dX1_depth_22 rfl (lv_at hl 3 rfl) ?_
          refine lv_iload_n hx hb dX1_depth_23 rfl (lv_at hl 2 rfl) ?_
          refine hp_kq (hp_rVN (C := RX0) (As := [.int x]) (rest := []) ⟨hx, hb, hml, hown, hts⟩ C0 hf hS (c_X0_toward l D cy base f x8 (tB t x8) (nI (tL t x8)) (tH t x8) (nI (tR t x8)) (tZ t x8) (tO t x8) x (hT x8 hx8)) ⟨va_cnB (host := RX1) (index := 69) 1 hts gX1_depth_X0_toward_n69 rfl rfl rfl (C0.2.2 _ (by decide +kernel)) (hts (.initialized RX0) (by decide +kernel)) (by decide +kernel) ⟨Nat.le_of_ble_eq_true rfl, Nat.le_of_ble_eq_true rfl⟩, hts (.instanceMethod yX0_toward) (by decide +kernel), hts (.selects RX0 yX0_toward yX0_toward) (by decide +kernel)⟩ (hT x8 hx8) rfl rfl hl.1 rfl (Nat.le_of_ble_eq_true rfl) dX1_depth_24 ⟨Nat.le_of_ble_eq_true rfl, Nat.le_of_ble_eq_true rfl⟩) hS (fun r_2 u_2 H locs hq_2 hf hS => ?_)
          obtain ⟨hr_2, hu⟩ := hq_2
          rw [hu] at hf
          have er_2 := tw_ch (hst.2.2.1 x8 hx8).1 hr_2
          refine hp_astore_nq (lv' := [(3, va_rf r_2), (2, .int ((nI ps) + 1)), (0, .ref q), (1, .int x)]) hx hb dX1_depth_27 rfl hl (by decide) rfl (fun ls hl => ?_)
          refine lv_goto (tgt := 7) hx hb dX1_depth_28 (by decide) ?_
          have h32 := (hst.2.2.1 x8 hx8).1
          have hag := hbg.mp h16
          exact ih (ps + 1) r_2 ls _ _ (by omega) (fun a e => by
            rw [er_2] at e
            obtain ⟨m1, m2, -, -⟩ := hst.2.2.2.2.1 x8 hx8 _ a e
            exact ⟨m1, by omega⟩) (by
            rw [h8, dp_step hst hx8 hag] at hI
            rw [er_2]; omega) hf hS (by
            rw [← nI_1]; exact (lv_sub hl [2, 3, 1, 0] rfl))
  refine lv_iconst (v := 0) hx hb dX1_depth_0 (by decide) ?_
  refine lv_istore_n (lv' := [(2, .int 0), (0, .ref q), (1, .int x)]) hx hb dX1_depth_1 rfl hl (by decide) rfl (fun ls hl => ?_)
  refine lv_aload_n hx hb dX1_depth_2 rfl (lv_at hl 1 rfl) ?_
  refine hp_get (ci := 1) (v := .ref root) (C := RX1) (T := TX1) (N := 2) hx hb hts hin1 hown C0 hf hq rfl 0 (by decide) (hts (.fieldLink RX1 14 "RouteTrie" "root" "LRouteTrie$Node;") (by decide +kernel)) (fun _ h9 => h9) rfl dX1_depth_3 ?_
  refine lv_astore_n (lv' := [(3, .ref root), (2, .int 0), (0, .ref q), (1, .int x)]) hx hb dX1_depth_6 rfl hl (by decide) rfl (fun ls hl => ?_)
  exact loop 34 0 (some root) ls _ _ (by omega) (fun a e => by cases e; exact ⟨hst.1.1, by omega⟩) (by rw [dp_root hst]; omega) hf hS (lv_sub hl [2, 3, 1, 0] rfl)
set_option maxHeartbeats 4000000 in
set_option maxRecDepth 100000 in
theorem c_X1_count (l : Launch) (D : va_G) (cy : ClassId) (base : Nat) (f : AH) (q : Nat) (N : List Nat) (t : NT) (root : Nat) (cnt : Int32) (hq : f q = some (trO root cnt)) (hT : TN f N t) (hst : ST N t root) : Met l yX1_count wsX1_count ({ frames := 0, cells := 0, slots := 0, locals := 0 }) (va_Pc [.ref q] (hp_B D cy base f)) (va_Qi (fun (r : Int32) (u : AH) => r = nI (tR t root) ∧ u = f) (hp_B D cy base) (hp_A base)) 0 0 (hp_A base) := by
  refine Met.ofW (cc := cX1_count) (maxL := 1) (ret := (some .int)) (by decide) rfl ?_
  intro p e s m args below meth c s₁ B hml hv
  obtain ⟨rfl, hf, C0⟩ := hv
  have hx := B.exec
  have hb := B.bytes
  have hr := B.returns
  have hts := atoms_spec (ws := wsX1_count) B.pre
  have hown : s.vm.findClass RX1 = some m.cls := findClass_of_methodNamed B.named
  have hlocks := B.notSynchronized
  have hin0 : ∀ w ∈ wsX00, w ∈ wsX1_count := by decide +kernel
  have hin1 : ∀ w ∈ wsX10, w ∈ wsX1_count := by decide +kernel
  have hS : va_S (hp_A base) s.heap s.heap [] := va_S.rf
  have hl := lv_entry ([.ref q]) (n := 1) (Nat.le_of_ble_eq_true rfl)
  rw [lg_entry_eq]
  generalize (lg_sl ([.ref q]) ++ List.replicate (1 - (lg_sl ([.ref q])).length) Slot.unset).toArray = ls at hl ⊢
  have hl : lv_has ls 1 [(0, .ref q)] := hl
  refine lv_aload_n hx hb dX1_count_0 rfl (lv_at hl 0 rfl) ?_
  refine hp_get (ci := 1) (v := .ref root) (C := RX1) (T := TX1) (N := 2) hx hb hts hin1 hown C0 hf hq rfl 0 (by decide) (hts (.fieldLink RX1 14 "RouteTrie" "root" "LRouteTrie$Node;") (by decide +kernel)) (fun _ h9 => h9) rfl dX1_count_1 ?_
  refine hp_getN (ci := 0) (v := .int (nI (tR t root))) (own := RX1) (ref := RX0) (host := RX1) (index := 25) (C := RX0) (T := TX0) (N := 6) hx hb hts hin0 hown C0 hf (hT root hst.1.1) rfl 3 (by decide) (by decide +kernel) (fun _ h9 => h9) rfl dX1_count_4 ?_
  exact hp_iret (v := nI (tR t root)) hx hb hr hlocks C0 hf hS (by first | exact Nat.le_refl _ | omega) (by first | exact Nat.le_refl _ | omega) dX1_count_7 (⟨rfl, rfl⟩)
set_option maxHeartbeats 4000000 in
set_option maxRecDepth 100000 in
theorem c_X1_nodes (l : Launch) (D : va_G) (cy : ClassId) (base : Nat) (f : AH) (q root : Nat) (cnt : Int32) (hq : f q = some (trO root cnt)) : Met l yX1_nodes wsX1_nodes ({ frames := 0, cells := 0, slots := 0, locals := 0 }) (va_Pc [.ref q] (hp_B D cy base f)) (va_Qi (fun (r : Int32) (u : AH) => r = cnt ∧ u = f) (hp_B D cy base) (hp_A base)) 0 0 (hp_A base) := by
  refine Met.ofW (cc := cX1_nodes) (maxL := 1) (ret := (some .int)) (by decide) rfl ?_
  intro p e s m args below meth c s₁ B hml hv
  obtain ⟨rfl, hf, C0⟩ := hv
  have hx := B.exec
  have hb := B.bytes
  have hr := B.returns
  have hts := atoms_spec (ws := wsX1_nodes) B.pre
  have hown : s.vm.findClass RX1 = some m.cls := findClass_of_methodNamed B.named
  have hlocks := B.notSynchronized
  have hin1 : ∀ w ∈ wsX10, w ∈ wsX1_nodes := by decide +kernel
  have hS : va_S (hp_A base) s.heap s.heap [] := va_S.rf
  have hl := lv_entry ([.ref q]) (n := 1) (Nat.le_of_ble_eq_true rfl)
  rw [lg_entry_eq]
  generalize (lg_sl ([.ref q]) ++ List.replicate (1 - (lg_sl ([.ref q])).length) Slot.unset).toArray = ls at hl ⊢
  have hl : lv_has ls 1 [(0, .ref q)] := hl
  refine lv_aload_n hx hb dX1_nodes_0 rfl (lv_at hl 0 rfl) ?_
  refine hp_get (ci := 1) (v := .int cnt) (C := RX1) (T := TX1) (N := 2) hx hb hts hin1 hown C0 hf hq rfl 1 (by decide) (hts (.fieldLink RX1 18 "RouteTrie" "nodeCount" "I") (by decide +kernel)) (fun _ h9 => h9) rfl dX1_nodes_1 ?_
  exact hp_iret (v := cnt) hx hb hr hlocks C0 hf hS (by first | exact Nat.le_refl _ | omega) (by first | exact Nat.le_refl _ | omega) dX1_nodes_4 (⟨rfl, rfl⟩)
set_option maxHeartbeats 4000000 in
set_option maxRecDepth 100000 in
theorem c_X1_lookup (l : Launch) (D : va_G) (cy : ClassId) (base : Nat) (f : AH) (q : Nat) (N : List Nat) (t : NT) (root : Nat) (cnt : Int32) (x : Int32) (hq : f q = some (trO root cnt)) (hT : TN f N t) (hst : ST N t root) : Met l yX1_lookup wsX1_lookup ({ frames := 3, cells := 0, slots := 0, locals := 65 }) (va_Pc [.ref q, .int x] (hp_B D cy base f)) (va_Qi (fun (r : Int32) (u : AH) => (∃ ro : Option Nat, LRp N t x ro ∧ r = ro.elim (-1) (tH t)) ∧ u = f) (hp_B D cy base) (hp_A base)) 0 0 (hp_A base) := by
  refine Met.ofW (cc := cX1_lookup) (maxL := 3) (ret := (some .int)) (by decide) rfl ?_
  intro p e s m args below meth c s₁ B hml hv
  obtain ⟨rfl, hf, C0⟩ := hv
  have hx := B.exec
  have hb := B.bytes
  have hr := B.returns
  have hts := atoms_spec (ws := wsX1_lookup) B.pre
  have hown : s.vm.findClass RX1 = some m.cls := findClass_of_methodNamed B.named
  have hlocks := B.notSynchronized
  have hin0 : ∀ w ∈ wsX00, w ∈ wsX1_lookup := by decide +kernel
  have hin1 : ∀ w ∈ wsX10, w ∈ wsX1_lookup := by decide +kernel
  have hS : va_S (hp_A base) s.heap s.heap [] := va_S.rf
  have hl := lv_entry ([.ref q, .int x]) (n := 3) (Nat.le_of_ble_eq_true rfl)
  rw [lg_entry_eq]
  generalize (lg_sl ([.ref q, .int x]) ++ List.replicate (3 - (lg_sl ([.ref q, .int x])).length) Slot.unset).toArray = ls at hl ⊢
  have hl : lv_has ls 3 [(0, .ref q), (1, .int x)] := hl
  refine lv_aload_n hx hb dX1_lookup_0 rfl (lv_at hl 0 rfl) ?_
  refine lv_iload_n hx hb dX1_lookup_1 rfl (lv_at hl 1 rfl) ?_
  refine hp_kq (hp_rV (C := RX1) (As := [.int x]) (rest := []) ⟨hx, hb, hml, hown, hts⟩ C0 hf hS (c_X1_longestRoute l D cy base f q N t root cnt x hq hT hst) (cwV 1 hts gX1_lookup_X1_longestRoute rfl rfl rfl (by decide +kernel) ⟨Nat.le_of_ble_eq_true rfl, Nat.le_of_ble_eq_true rfl⟩) hq rfl rfl hl.1 rfl (Nat.le_of_ble_eq_true rfl) dX1_lookup_2 ⟨Nat.le_of_ble_eq_true rfl, Nat.le_of_ble_eq_true rfl⟩) hS (fun r_1 u_1 H locs hq_1 hf hS => ?_)
  obtain ⟨hr_1, hu⟩ := hq_1
  rw [hu] at hf
  refine hp_astore_nq (lv' := [(2, va_rf r_1), (0, .ref q), (1, .int x)]) hx hb dX1_lookup_5 rfl hl (by decide) rfl (fun ls hl => ?_)
  refine hp_aload_nq (r := r_1) hx hb dX1_lookup_6 rfl (lv_at hl 0 rfl) ?_
  refine hp_ifnonnullq (tgt := 14) (r := r_1) hx hb dX1_lookup_7 (by decide) (fun x7 h7 => ?_) (fun h7 => ?_)
  · rw [h7] at hl
    have hl : lv_has ls 3 [(2, .ref x7), (0, .ref q), (1, .int x)] := hl
    obtain ⟨hxN, -⟩ := hr_1.1 x7 h7
    refine lv_aload_n hx hb dX1_lookup_14 rfl (lv_at hl 0 rfl) ?_
    refine hp_getN (ci := 0) (v := .int (tH t x7)) (own := RX1) (ref := RX0) (host := RX1) (index := 22) (C := RX0) (T := TX0) (N := 6) hx hb hts hin0 hown C0 hf (hT x7 hxN) rfl 2 (by decide) (by decide +kernel) (fun _ h9 => h9) rfl dX1_lookup_15 ?_
    exact hp_iret (v := tH t x7) hx hb hr hlocks C0 hf hS (by first | exact Nat.le_refl _ | omega) (by first | exact Nat.le_refl _ | omega) dX1_lookup_18 (⟨⟨some x7, by rw [← h7]; exact hr_1, rfl⟩, rfl⟩)
  · rw [h7] at hl
    have hl : lv_has ls 3 [(2, .null), (0, .ref q), (1, .int x)] := hl
    refine lv_iconst (v := (-1)) hx hb dX1_lookup_10 (by decide) ?_
    refine lv_goto (tgt := 18) hx hb dX1_lookup_11 (by decide) ?_
    exact hp_iret (v := (-1)) hx hb hr hlocks C0 hf hS (by first | exact Nat.le_refl _ | omega) (by first | exact Nat.le_refl _ | omega) dX1_lookup_18 (⟨⟨none, by rw [← h7]; exact hr_1, rfl⟩, rfl⟩)
set_option maxHeartbeats 4000000 in
set_option maxRecDepth 100000 in
theorem c_X1_lookupLen (l : Launch) (D : va_G) (cy : ClassId) (base : Nat) (f : AH) (q : Nat) (N : List Nat) (t : NT) (root : Nat) (cnt : Int32) (x : Int32) (hq : f q = some (trO root cnt)) (hT : TN f N t) (hst : ST N t root) : Met l yX1_lookupLen wsX1_lookupLen ({ frames := 3, cells := 0, slots := 0, locals := 65 }) (va_Pc [.ref q, .int x] (hp_B D cy base f)) (va_Qi (fun (r : Int32) (u : AH) => (∃ ro : Option Nat, LRp N t x ro ∧ r = ro.elim (-1) (fun a => nI (tL t a))) ∧ u = f) (hp_B D cy base) (hp_A base)) 0 0 (hp_A base) := by
  refine Met.ofW (cc := cX1_lookupLen) (maxL := 3) (ret := (some .int)) (by decide) rfl ?_
  intro p e s m args below meth c s₁ B hml hv
  obtain ⟨rfl, hf, C0⟩ := hv
  have hx := B.exec
  have hb := B.bytes
  have hr := B.returns
  have hts := atoms_spec (ws := wsX1_lookupLen) B.pre
  have hown : s.vm.findClass RX1 = some m.cls := findClass_of_methodNamed B.named
  have hlocks := B.notSynchronized
  have hin0 : ∀ w ∈ wsX00, w ∈ wsX1_lookupLen := by decide +kernel
  have hin1 : ∀ w ∈ wsX10, w ∈ wsX1_lookupLen := by decide +kernel
  have hS : va_S (hp_A base) s.heap s.heap [] := va_S.rf
  have hl := lv_entry ([.ref q, .int x]) (n := 3) (Nat.le_of_ble_eq_true rfl)
  rw [lg_entry_eq]
  generalize (lg_sl ([.ref q, .int x]) ++ List.replicate (3 - (lg_sl ([.ref q, .int x])).length) Slot.unset).toArray = ls at hl ⊢
  have hl : lv_has ls 3 [(0, .ref q), (1, .int x)] := hl
  refine lv_aload_n hx hb dX1_lookupLen_0 rfl (lv_at hl 0 rfl) ?_
  refine lv_iload_n hx hb dX1_lookupLen_1 rfl (lv_at hl 1 rfl) ?_
  refine hp_kq (hp_rV (C := RX1) (As := [.int x]) (rest := []) ⟨hx, hb, hml, hown, hts⟩ C0 hf hS (c_X1_longestRoute l D cy base f q N t root cnt x hq hT hst) (cwV 1 hts gX1_lookupLen_X1_longestRoute rfl rfl rfl (by decide +kernel) ⟨Nat.le_of_ble_eq_true rfl, Nat.le_of_ble_eq_true rfl⟩) hq rfl rfl hl.1 rfl (Nat.le_of_ble_eq_true rfl) dX1_lookupLen_2 ⟨Nat.le_of_ble_eq_true rfl, Nat.le_of_ble_eq_true rfl⟩) hS (fun r_1 u_1 H locs hq_1 hf hS => ?_)
  obtain ⟨hr_1, hu⟩ := hq_1
  rw [hu] at hf
  refine hp_astore_nq (lv' := [(2, va_rf r_1), (0, .ref q), (1, .int x)]) hx hb dX1_lookupLen_5 rfl hl (by decide) rfl (fun ls hl => ?_)
  refine hp_aload_nq (r := r_1) hx hb dX1_lookupLen_6 rfl (lv_at hl 0 rfl) ?_
  refine hp_ifnonnullq (tgt := 14) (r := r_1) hx hb dX1_lookupLen_7 (by decide) (fun x7 h7 => ?_) (fun h7 => ?_)
  · rw [h7] at hl
    have hl : lv_has ls 3 [(2, .ref x7), (0, .ref q), (1, .int x)] := hl
    obtain ⟨hxN, -⟩ := hr_1.1 x7 h7
    refine lv_aload_n hx hb dX1_lookupLen_14 rfl (lv_at hl 0 rfl) ?_
    refine hp_getN (ci := 0) (v := .int (nI (tL t x7))) (own := RX1) (ref := RX0) (host := RX1) (index := 53) (C := RX0) (T := TX0) (N := 6) hx hb hts hin0 hown C0 hf (hT x7 hxN) rfl 1 (by decide) (by decide +kernel) (fun _ h9 => h9) rfl dX1_lookupLen_15 ?_
    exact hp_iret (v := nI (tL t x7)) hx hb hr hlocks C0 hf hS (by first | exact Nat.le_refl _ | omega) (by first | exact Nat.le_refl _ | omega) dX1_lookupLen_18 (⟨⟨some x7, by rw [← h7]; exact hr_1, rfl⟩, rfl⟩)
  · rw [h7] at hl
    have hl : lv_has ls 3 [(2, .null), (0, .ref q), (1, .int x)] := hl
    refine lv_iconst (v := (-1)) hx hb dX1_lookupLen_10 (by decide) ?_
    refine lv_goto (tgt := 18) hx hb dX1_lookupLen_11 (by decide) ?_
    exact hp_iret (v := (-1)) hx hb hr hlocks C0 hf hS (by first | exact Nat.le_refl _ | omega) (by first | exact Nat.le_refl _ | omega) dX1_lookupLen_18 (⟨⟨none, by rw [← h7]; exact hr_1, rfl⟩, rfl⟩)
set_option maxHeartbeats 4000000 in
set_option maxRecDepth 100000 in
theorem c_X1_exact (l : Launch) (D : va_G) (cy : ClassId) (base : Nat) (f : AH) (q : Nat) (N : List Nat) (t : NT) (root : Nat) (cnt : Int32) (x n : Int32) (hq : f q = some (trO root cnt)) (hT : TN f N t) (hst : ST N t root) : Met l yX1_exact wsX1_exact ({ frames := 4, cells := 0, slots := 0, locals := 88 }) (va_Pc [.ref q, .int x, .int n] (hp_B D cy base f)) (va_Qi (fun (r : Int32) (u : AH) => (∃ ro : Option Nat, RAp N t x n ro ∧ r = ro.elim (-1) (tH t)) ∧ u = f) (hp_B D cy base) (hp_A base)) 0 0 (hp_A base) := by
  refine Met.ofW (cc := cX1_exact) (maxL := 4) (ret := (some .int)) (by decide) rfl ?_
  intro p e s m args below meth c s₁ B hml hv
  obtain ⟨rfl, hf, C0⟩ := hv
  have hx := B.exec
  have hb := B.bytes
  have hr := B.returns
  have hts := atoms_spec (ws := wsX1_exact) B.pre
  have hown : s.vm.findClass RX1 = some m.cls := findClass_of_methodNamed B.named
  have hlocks := B.notSynchronized
  have hin0 : ∀ w ∈ wsX00, w ∈ wsX1_exact := by decide +kernel
  have hin1 : ∀ w ∈ wsX10, w ∈ wsX1_exact := by decide +kernel
  have hS : va_S (hp_A base) s.heap s.heap [] := va_S.rf
  have hl := lv_entry ([.ref q, .int x, .int n]) (n := 4) (Nat.le_of_ble_eq_true rfl)
  rw [lg_entry_eq]
  generalize (lg_sl ([.ref q, .int x, .int n]) ++ List.replicate (4 - (lg_sl ([.ref q, .int x, .int n])).length) Slot.unset).toArray = ls at hl ⊢
  have hl : lv_has ls 4 [(0, .ref q), (1, .int x), (2, .int n)] := hl
  refine lv_aload_n hx hb dX1_exact_0 rfl (lv_at hl 0 rfl) ?_
  refine lv_iload_n hx hb dX1_exact_1 rfl (lv_at hl 1 rfl) ?_
  refine lv_iload_n hx hb dX1_exact_2 rfl (lv_at hl 2 rfl) ?_
  refine hp_kq (hp_rV (C := RX1) (As := [.int x, .int n]) (rest := []) ⟨hx, hb, hml, hown, hts⟩ C0 hf hS (c_X1_routeAt l D cy base f q N t root cnt x n hq hT hst) (cwV 2 hts gX1_exact_X1_routeAt rfl rfl rfl (by decide +kernel) ⟨Nat.le_of_ble_eq_true rfl, Nat.le_of_ble_eq_true rfl⟩) hq rfl rfl hl.1 rfl (Nat.le_of_ble_eq_true rfl) dX1_exact_3 ⟨Nat.le_of_ble_eq_true rfl, Nat.le_of_ble_eq_true rfl⟩) hS (fun r_1 u_1 H locs hq_1 hf hS => ?_)
  obtain ⟨hr_1, hu⟩ := hq_1
  rw [hu] at hf
  refine hp_astore_nq (lv' := [(3, va_rf r_1), (0, .ref q), (1, .int x), (2, .int n)]) hx hb dX1_exact_6 rfl hl (by decide) rfl (fun ls hl => ?_)
  refine hp_aload_nq (r := r_1) hx hb dX1_exact_7 rfl (lv_at hl 0 rfl) ?_
  refine hp_ifnonnullq (tgt := 15) (r := r_1) hx hb dX1_exact_8 (by decide) (fun x8 h8 => ?_) (fun h8 => ?_)
  · rw [h8] at hl
    have hl : lv_has ls 4 [(3, .ref x8), (0, .ref q), (1, .int x), (2, .int n)] := hl
    obtain ⟨hxN, -⟩ := hr_1.1 x8 h8
    refine lv_aload_n hx hb dX1_exact_15 rfl (lv_at hl 0 rfl) ?_
    refine hp_getN (ci := 0) (v := .int (tH t x8)) (own := RX1) (ref := RX0) (host := RX1) (index := 22) (C := RX0) (T := TX0) (N := 6) hx hb hts hin0 hown C0 hf (hT x8 hxN) rfl 2 (by decide) (by decide +kernel) (fun _ h9 => h9) rfl dX1_exact_16 ?_
    exact hp_iret (v := tH t x8) hx hb hr hlocks C0 hf hS (by first | exact Nat.le_refl _ | omega) (by first | exact Nat.le_refl _ | omega) dX1_exact_19 (⟨⟨some x8, by rw [← h8]; exact hr_1, rfl⟩, rfl⟩)
  · rw [h8] at hl
    have hl : lv_has ls 4 [(3, .null), (0, .ref q), (1, .int x), (2, .int n)] := hl
    refine lv_iconst (v := (-1)) hx hb dX1_exact_11 (by decide) ?_
    refine lv_goto (tgt := 19) hx hb dX1_exact_12 (by decide) ?_
    exact hp_iret (v := (-1)) hx hb hr hlocks C0 hf hS (by first | exact Nat.le_refl _ | omega) (by first | exact Nat.le_refl _ | omega) dX1_exact_19 (⟨⟨none, by rw [← h8]; exact hr_1, rfl⟩, rfl⟩)
set_option maxHeartbeats 4000000 in
set_option maxRecDepth 100000 in
theorem c_X1_under (l : Launch) (D : va_G) (cy : ClassId) (base : Nat) (f : AH) (q : Nat) (N : List Nat) (t : NT) (root : Nat) (cnt : Int32) (x n : Int32) (hq : f q = some (trO root cnt)) (hT : TN f N t) (hst : ST N t root) : Met l yX1_under wsX1_under ({ frames := 3, cells := 0, slots := 0, locals := 65 }) (va_Pc [.ref q, .int x, .int n] (hp_B D cy base f)) (va_Qi (fun (r : Int32) (u : AH) => (((¬ okP x n) ∧ r = -1) ∨ ∃ (k : Nat) (ro : Option Nat), n = nI k ∧ px x k ∧ TMp N t x k ro ∧ r = ro.elim 0 (fun a => nI (tR t a))) ∧ u = f) (hp_B D cy base) (hp_A base)) 0 0 (hp_A base) := by
  refine Met.ofW (cc := cX1_under) (maxL := 4) (ret := (some .int)) (by decide) rfl ?_
  intro p e s m args below meth c s₁ B hml hv
  obtain ⟨rfl, hf, C0⟩ := hv
  have hx := B.exec
  have hb := B.bytes
  have hr := B.returns
  have hts := atoms_spec (ws := wsX1_under) B.pre
  have hown : s.vm.findClass RX1 = some m.cls := findClass_of_methodNamed B.named
  have hlocks := B.notSynchronized
  have hin0 : ∀ w ∈ wsX00, w ∈ wsX1_under := by decide +kernel
  have hin1 : ∀ w ∈ wsX10, w ∈ wsX1_under := by decide +kernel
  have hS : va_S (hp_A base) s.heap s.heap [] := va_S.rf
  have hl := lv_entry ([.ref q, .int x, .int n]) (n := 4) (Nat.le_of_ble_eq_true rfl)
  rw [lg_entry_eq]
  generalize (lg_sl ([.ref q, .int x, .int n]) ++ List.replicate (4 - (lg_sl ([.ref q, .int x, .int n])).length) Slot.unset).toArray = ls at hl ⊢
  have hl : lv_has ls 4 [(0, .ref q), (1, .int x), (2, .int n)] := hl
  refine lv_iload_n hx hb dX1_under_0 rfl (lv_at hl 1 rfl) ?_
  refine lv_iload_n hx hb dX1_under_1 rfl (lv_at hl 2 rfl) ?_
  refine hp_ki (hp_rS (As := [.int x, .int n]) (rest := []) ⟨hx, hb, hml, hown, hts⟩ C0 hf hS (c_X1_isPrefix l D cy base f x n) (va_cwS 2 hts gX1_under_X1_isPrefix rfl rfl rfl (by decide +kernel) ⟨Nat.le_of_ble_eq_true rfl, Nat.le_of_ble_eq_true rfl⟩) rfl hl.1 rfl (Nat.le_of_ble_eq_true rfl) dX1_under_2 ⟨Nat.le_of_ble_eq_true rfl, Nat.le_of_ble_eq_true rfl⟩) hS (fun r_1 u_1 H locs hq_1 hf hS => ?_)
  obtain ⟨hr_1, hu⟩ := hq_1
  rw [hu] at hf
  have hpf := ite1 hr_1
  refine lv_if_ne (tgt := 10) hx hb dX1_under_5 (by decide) (fun h5 => ?_) (fun h5 => ?_)
  · refine lv_aload_n hx hb dX1_under_10 rfl (lv_at hl 0 rfl) ?_
    refine lv_iload_n hx hb dX1_under_11 rfl (lv_at hl 1 rfl) ?_
    refine lv_iload_n hx hb dX1_under_12 rfl (lv_at hl 2 rfl) ?_
    obtain ⟨k, rfl, hk⟩ := hpf.mp h5
    refine hp_kq (hp_rV (C := RX1) (As := [.int x, .int (nI k)]) (rest := []) ⟨hx, hb, hml, hown, hts⟩ C0 hf hS (c_X1_topmost l D cy base f q N t root cnt x k hq hT hst hk) (cwV 2 hts gX1_under_X1_topmost rfl rfl rfl (by decide +kernel) ⟨Nat.le_of_ble_eq_true rfl, Nat.le_of_ble_eq_true rfl⟩) hq rfl rfl hl.1 rfl (Nat.le_of_ble_eq_true rfl) dX1_under_13 ⟨Nat.le_of_ble_eq_true rfl, Nat.le_of_ble_eq_true rfl⟩) hS (fun r_2 u_2 H locs hq_2 hf hS => ?_)
    obtain ⟨hr_2, hu⟩ := hq_2
    rw [hu] at hf
    refine hp_astore_nq (lv' := [(3, va_rf r_2), (0, .ref q), (1, .int x), (2, .int (nI k))]) hx hb dX1_under_16 rfl hl (by decide) rfl (fun ls hl => ?_)
    refine hp_aload_nq (r := r_2) hx hb dX1_under_17 rfl (lv_at hl 0 rfl) ?_
    refine hp_ifnonnullq (tgt := 25) (r := r_2) hx hb dX1_under_18 (by decide) (fun x18 h18 => ?_) (fun h18 => ?_)
    · rw [h18] at hl
      have hl : lv_has ls 4 [(3, .ref x18), (0, .ref q), (1, .int x), (2, .int (nI k))] := hl
      obtain ⟨hxN, -⟩ := hr_2.1 x18 h18
      refine lv_aload_n hx hb dX1_under_25 rfl (lv_at hl 0 rfl) ?_
      refine hp_getN (ci := 0) (v := .int (nI (tR t x18))) (own := RX1) (ref := RX0) (host := RX1) (index := 25) (C := RX0) (T := TX0) (N := 6) hx hb hts hin0 hown C0 hf (hT x18 hxN) rfl 3 (by decide) (by decide +kernel) (fun _ h9 => h9) rfl dX1_under_26 ?_
      exact hp_iret (v := nI (tR t x18)) hx hb hr hlocks C0 hf hS (by first | exact Nat.le_refl _ | omega) (by first | exact Nat.le_refl _ | omega) dX1_under_29 (⟨Or.inr ⟨k, some x18, rfl, hk, by rw [← h18]; exact hr_2, rfl⟩, rfl⟩)
    · rw [h18] at hl
      have hl : lv_has ls 4 [(3, .null), (0, .ref q), (1, .int x), (2, .int (nI k))] := hl
      refine lv_iconst (v := 0) hx hb dX1_under_21 (by decide) ?_
      refine lv_goto (tgt := 29) hx hb dX1_under_22 (by decide) ?_
      exact hp_iret (v := 0) hx hb hr hlocks C0 hf hS (by first | exact Nat.le_refl _ | omega) (by first | exact Nat.le_refl _ | omega) dX1_under_29 (⟨Or.inr ⟨k, none, rfl, hk, by rw [← h18]; exact hr_2, rfl⟩, rfl⟩)
  · refine lv_iconst (v := (-1)) hx hb dX1_under_8 (by decide) ?_
    exact hp_iret (v := (-1)) hx hb hr hlocks C0 hf hS (by first | exact Nat.le_refl _ | omega) (by first | exact Nat.le_refl _ | omega) dX1_under_9 (⟨Or.inl ⟨(not_congr hpf).mp (fun z => z h5), rfl⟩, rfl⟩)
set_option maxHeartbeats 4000000 in
set_option maxRecDepth 100000 in
theorem c_X1_inOrder (l : Launch) (D : va_G) (cy : ClassId) (base : Nat) (f : AH) (q : Nat) (N : List Nat) (t : NT) (root : Nat) (cnt : Int32) (k : Int32) (hq : f q = some (trO root cnt)) (hT : TN f N t) (hst : ST N t root) (hrc : RC N t) (hbd : N.length < 2 ^ 30) : Met l yX1_inOrder wsX1_inOrder ({ frames := 1, cells := 0, slots := 0, locals := 20 }) (va_Pc [.ref q, .int k] (hp_B D cy base f)) (va_Qq (fun (r : Option Nat) (u : AH) => IOp N t root k r ∧ u = f) (hp_B D cy base) (hp_A base)) 0 0 (hp_A base) := by
  refine Met.ofW (cc := cX1_inOrder) (maxL := 5) (ret := (some (.object "RouteTrie$Node"))) (by decide) rfl ?_
  intro p e s m args below meth c s₁ B hml hv
  obtain ⟨rfl, hf, C0⟩ := hv
  have hx := B.exec
  have hb := B.bytes
  have hr := B.returns
  have hts := atoms_spec (ws := wsX1_inOrder) B.pre
  have hown : s.vm.findClass RX1 = some m.cls := findClass_of_methodNamed B.named
  have hlocks := B.notSynchronized
  have hin0 : ∀ w ∈ wsX00, w ∈ wsX1_inOrder := by decide +kernel
  have hin1 : ∀ w ∈ wsX10, w ∈ wsX1_inOrder := by decide +kernel
  have hS : va_S (hp_A base) s.heap s.heap [] := va_S.rf
  have hl := lv_entry ([.ref q, .int k]) (n := 5) (Nat.le_of_ble_eq_true rfl)
  rw [lg_entry_eq]
  generalize (lg_sl ([.ref q, .int k]) ++ List.replicate (5 - (lg_sl ([.ref q, .int k])).length) Slot.unset).toArray = ls at hl ⊢
  have hl : lv_has ls 5 [(0, .ref q), (1, .int k)] := hl
  have loop : ∀ (n j0 j a : Nat) (ls : Array Slot) (H : Heap) (locs : List Loc), k = nI j0 → a ∈ N → 34 ≤ tL t a + n → j < tR t a → lo N t a + j = j0 → j0 < tR t root → hp_ok D base f H → va_S (hp_A base) s.heap H locs → lv_has ls 5 [(0, .ref q), (1, .int k), (2, .int (nI j)), (3, .ref a)] → W p l e (headSpec wsX1_inOrder ({ frames := 1, cells := 0, slots := 0, locals := 20 } : Room)).room s m #[Value.ref q, Value.int k] below meth c H locs 0 0 (MQ below (va_Qq (fun (r : Option Nat) (u : AH) => IOp N t root k r ∧ u = f) (hp_B D cy base) (hp_A base)) #[Value.ref q, Value.int k] s 0 0 (hp_A base)) (F0 m 24 ls []) := by
    intro n
    induction n with
    | zero => intro _ _ a _ _ _ _ ha h; exact absurd h (by have := (hst.2.2.1 a ha).1; omega)
    | succ n ih =>
      intro j0 j a ls H locs ek ha hm hj hlo hj0 hf hS hl
      have hbn : ∀ c ∈ N, tR t c < 2 ^ 30 := fun c hc => by rw [hrc c hc]; exact Nat.lt_of_le_of_lt cnt_le hbd
      have hsp := io_split hst hrc ha
      have hja := hbn a ha
      refine lv_aload_n hx hb dX1_inOrder_24 rfl (lv_at hl 3 rfl) ?_
      refine lv_ifnull hx hb dX1_inOrder_25 ?_
      refine lv_aload_n hx hb dX1_inOrder_28 rfl (lv_at hl 3 rfl) ?_
      refine hp_ki (hp_rVN (C := RX0) (As := []) (rest := []) ⟨hx, hb, hml, hown, hts⟩ C0 hf hS (c_X0_isRoute l D cy base f a (tB t a) (nI (tL t a)) (tH t a) (nI (tR t a)) (tZ t a) (tO t a) (hT a ha)) ⟨va_cnB (host := RX1) (index := 87) 0 hts gX1_inOrder_X0_isRoute_n87 rfl rfl rfl (C0.2.2 _ (by decide +kernel)) (hts (.initialized RX0) (by decide +kernel)) (by decide +kernel) ⟨Nat.le_of_ble_eq_true rfl, Nat.le_of_ble_eq_true rfl⟩, hts (.instanceMethod yX0_isRoute) (by decide +kernel), hts (.selects RX0 yX0_isRoute yX0_isRoute) (by decide +kernel)⟩ (hT a ha) rfl rfl hl.1 rfl (Nat.le_of_ble_eq_true rfl) dX1_inOrder_29 ⟨Nat.le_of_ble_eq_true rfl, Nat.le_of_ble_eq_true rfl⟩) hS (fun r_1 u_1 H locs hq_1 hf hS => ?_)
      obtain ⟨hr_1, hu⟩ := hq_1
      rw [hu] at hf
      have hir : r_1 = 0 ↔ tH t a = -1 := by rw [hr_1]; split <;> simp_all
      refine lv_if_eq (tgt := 44) hx hb dX1_inOrder_32 (by decide) (fun h32 => ?_) (fun h32 => ?_)
      · have hs0 : slf t a = 0 := by unfold slf; rw [if_neg (by rw [isR_iff]; exact fun k => k (hir.mp h32))]
        obtain ⟨j1, ej1, hj1⟩ : ∃ j1, nI j = nI j1 ∧ j1 + slf t a = j := ⟨j, rfl, by omega⟩
        rw [ej1] at hl
        refine lv_aload_n hx hb dX1_inOrder_44 rfl (lv_at hl 3 rfl) ?_
        refine hp_getN (ci := 0) (v := va_rf (tZ t a)) (own := RX1) (ref := RX0) (host := RX1) (index := 28) (C := RX0) (T := TX0) (N := 6) hx hb hts hin0 hown C0 hf (hT a ha) rfl 4 (by decide) (by decide +kernel) (fun _ h9 => h9) rfl dX1_inOrder_45 ?_
        refine hp_ifnonnullq (tgt := 55) (r := tZ t a) hx hb dX1_inOrder_48 (by decide) (fun x48 h48 => ?_) (fun h48 => ?_)
        · obtain ⟨hzN, hzl, -, -⟩ := hst.2.2.2.2.1 a ha false x48 h48
          have hsz := sd_child hst hrc ha (d := false) (c := x48) h48
          have hzb := hbn x48 hzN
          have haz : f a = some (.inr (0, [.int (tB t a), .int (nI (tL t a)), .int (tH t a), .int (nI (tR t a)), .ref x48, va_rf (tO t a)])) := by rw [hT a ha]; show some (ndE (tB t a) (nI (tL t a)) (tH t a) (nI (tR t a)) (tZ t a) (tO t a)) = _; rw [h48]; rfl
          refine lv_aload_n hx hb dX1_inOrder_55 rfl (lv_at hl 3 rfl) ?_
          refine hp_getN (ci := 0) (v := .ref x48) (own := RX1) (ref := RX0) (host := RX1) (index := 28) (C := RX0) (T := TX0) (N := 6) hx hb hts hin0 hown C0 hf haz rfl 4 (by decide) (by decide +kernel) (fun _ h9 => h9) rfl dX1_inOrder_56 ?_
          refine hp_getN (ci := 0) (v := .int (nI (tR t x48))) (own := RX1) (ref := RX0) (host := RX1) (index := 25) (C := RX0) (T := TX0) (N := 6) hx hb hts hin0 hown C0 hf (hT x48 hzN) rfl 3 (by decide) (by decide +kernel) (fun _ h9 => h9) rfl dX1_inOrder_59 ?_
          refine lv_istore (lv' := [(4, .int (nI (tR t x48))), (0, .ref q), (1, .int k), (2, .int (nI j1)), (3, .ref a)]) hx hb dX1_inOrder_62 hl (by decide) rfl (fun ls hl => ?_)
          refine lv_iload_n hx hb dX1_inOrder_64 rfl (lv_at hl 3 rfl) ?_
          refine lv_iload hx hb dX1_inOrder_65 (lv_at hl 0 rfl) ?_
          refine lv_icmp_ge (tgt := 78) hx hb dX1_inOrder_67 (by decide) (fun h67 => ?_) (fun h67 => ?_)
          · refine lv_iload_n hx hb dX1_inOrder_78 rfl (lv_at hl 3 rfl) ?_
            refine lv_iload hx hb dX1_inOrder_79 (lv_at hl 0 rfl) ?_
            refine lv_isub hx hb dX1_inOrder_81 ?_
            refine lv_istore_n (lv' := [(2, .int ((nI j1) - (nI (tR t x48)))), (4, .int (nI (tR t x48))), (0, .ref q), (1, .int k), (3, .ref a)]) hx hb dX1_inOrder_82 rfl hl (by decide) rfl (fun ls hl => ?_)
            refine lv_aload_n hx hb dX1_inOrder_83 rfl (lv_at hl 4 rfl) ?_
            refine hp_getN (ci := 0) (v := va_rf (tO t a)) (own := RX1) (ref := RX0) (host := RX1) (index := 31) (C := RX0) (T := TX0) (N := 6) hx hb hts hin0 hown C0 hf haz rfl 5 (by decide) (by decide +kernel) (fun _ h9 => h9) rfl dX1_inOrder_84 ?_
            refine hp_astore_nq (lv' := [(3, va_rf (tO t a)), (2, .int ((nI j1) - (nI (tR t x48)))), (4, .int (nI (tR t x48))), (0, .ref q), (1, .int k)]) hx hb dX1_inOrder_87 rfl hl (by decide) rfl (fun ls hl => ?_)
            refine lv_goto (tgt := 24) hx hb dX1_inOrder_88 (by decide) ?_
            have hge : tR t x48 ≤ j1 := Nat.not_lt.mp (fun q => absurd h67 (nI_ge q (by omega)))
            have hj2 : nI j1 - nI (tR t x48) = nI (j1 - tR t x48) := pk_sub hge
            cases ho : ch t a true with
            | none => exact absurd (sd_none hst ha (d := true) ho) (by omega)
            | some o =>
              obtain ⟨hoN, hol, -, -⟩ := hst.2.2.2.2.1 a ha true o ho
              have hso := sd_child hst hrc ha (d := true) (c := o) ho
              have eo : tO t a = some o := ho
              rw [hj2, eo] at hl
              exact ih j0 (j1 - tR t x48) o ls _ _ ek hoN (by omega) (by omega) (by rw [lo_one hst ha ho]; omega) hj0 hf hS (lv_sub hl [3, 4, 1, 0] rfl)
          · refine lv_aload_n hx hb dX1_inOrder_70 rfl (lv_at hl 4 rfl) ?_
            refine hp_getN (ci := 0) (v := .ref x48) (own := RX1) (ref := RX0) (host := RX1) (index := 28) (C := RX0) (T := TX0) (N := 6) hx hb hts hin0 hown C0 hf haz rfl 4 (by decide) (by decide +kernel) (fun _ h9 => h9) rfl dX1_inOrder_71 ?_
            refine lv_astore_n (lv' := [(3, .ref x48), (4, .int (nI (tR t x48))), (0, .ref q), (1, .int k), (2, .int (nI j1))]) hx hb dX1_inOrder_74 rfl hl (by decide) rfl (fun ls hl => ?_)
            refine lv_goto (tgt := 88) hx hb dX1_inOrder_75 (by decide) ?_
            refine lv_goto (tgt := 24) hx hb dX1_inOrder_88 (by decide) ?_
            have hlt : j1 < tR t x48 := Nat.not_le.mp (fun q => h67 (nI_le q (by omega)))
            exact ih j0 j1 x48 ls _ _ ek hzN (by omega) hlt (by rw [lo_zero hst ha h48]; omega) hj0 hf hS (lv_sub hl [2, 3, 4, 0] rfl)
        · have hsz := sd_none hst ha (d := false) h48
          refine lv_iconst (v := 0) hx hb dX1_inOrder_51 (by decide) ?_
          refine lv_goto (tgt := 62) hx hb dX1_inOrder_52 (by decide) ?_
          refine lv_istore (lv' := [(4, .int 0), (0, .ref q), (1, .int k), (2, .int (nI j1)), (3, .ref a)]) hx hb dX1_inOrder_62 hl (by decide) rfl (fun ls hl => ?_)
          refine lv_iload_n hx hb dX1_inOrder_64 rfl (lv_at hl 3 rfl) ?_
          refine lv_iload hx hb dX1_inOrder_65 (lv_at hl 0 rfl) ?_
          refine lv_icmp_ge (tgt := 78) hx hb dX1_inOrder_67 (by decide) (fun h67 => ?_) (fun h67 => ?_)
          · refine lv_iload_n hx hb dX1_inOrder_78 rfl (lv_at hl 3 rfl) ?_
            refine lv_iload hx hb dX1_inOrder_79 (lv_at hl 0 rfl) ?_
            refine lv_isub hx hb dX1_inOrder_81 ?_
            refine lv_istore_n (lv' := [(2, .int ((nI j1) - 0)), (4, .int 0), (0, .ref q), (1, .int k), (3, .ref a)]) hx hb dX1_inOrder_82 rfl hl (by decide) rfl (fun ls hl => ?_)
            refine lv_aload_n hx hb dX1_inOrder_83 rfl (lv_at hl 4 rfl) ?_
            refine hp_getN (ci := 0) (v := va_rf (tO t a)) (own := RX1) (ref := RX0) (host := RX1) (index := 31) (C := RX0) (T := TX0) (N := 6) hx hb hts hin0 hown C0 hf (hT a ha) rfl 5 (by decide) (by decide +kernel) (fun _ h9 => h9) rfl dX1_inOrder_84 ?_
            refine hp_astore_nq (lv' := [(3, va_rf (tO t a)), (2, .int ((nI j1) - 0)), (4, .int 0), (0, .ref q), (1, .int k)]) hx hb dX1_inOrder_87 rfl hl (by decide) rfl (fun ls hl => ?_)
            refine lv_goto (tgt := 24) hx hb dX1_inOrder_88 (by decide) ?_
            have hj2 : nI j1 - 0 = nI j1 := by rw [show (0 : Int32) = nI 0 from rfl, pk_sub (Nat.zero_le _)]; rfl
            have hge : 0 ≤ j1 := Nat.zero_le _
            cases ho : ch t a true with
            | none => exact absurd (sd_none hst ha (d := true) ho) (by omega)
            | some o =>
              obtain ⟨hoN, hol, -, -⟩ := hst.2.2.2.2.1 a ha true o ho
              have hso := sd_child hst hrc ha (d := true) (c := o) ho
              have eo : tO t a = some o := ho
              rw [hj2, eo] at hl
              exact ih j0 j1 o ls _ _ ek hoN (by omega) (by omega) (by rw [lo_one hst ha ho]; omega) hj0 hf hS (lv_sub hl [3, 4, 1, 0] rfl)
          · refine lv_aload_n hx hb dX1_inOrder_70 rfl (lv_at hl 4 rfl) ?_
            refine hp_getN (ci := 0) (v := va_rf (tZ t a)) (own := RX1) (ref := RX0) (host := RX1) (index := 28) (C := RX0) (T := TX0) (N := 6) hx hb hts hin0 hown C0 hf (hT a ha) rfl 4 (by decide) (by decide +kernel) (fun _ h9 => h9) rfl dX1_inOrder_71 ?_
            refine hp_astore_nq (lv' := [(3, va_rf (tZ t a)), (4, .int 0), (0, .ref q), (1, .int k), (2, .int (nI j1))]) hx hb dX1_inOrder_74 rfl hl (by decide) rfl (fun ls hl => ?_)
            refine lv_goto (tgt := 88) hx hb dX1_inOrder_75 (by decide) ?_
            refine lv_goto (tgt := 24) hx hb dX1_inOrder_88 (by decide) ?_
            exact absurd h67 (by intro h; exact h (nI_pos' (n := j1) (by omega)))
      · refine lv_iload_n hx hb dX1_inOrder_35 rfl (lv_at hl 2 rfl) ?_
        refine lv_if_ne (tgt := 41) hx hb dX1_inOrder_36 (by decide) (fun h36 => ?_) (fun h36 => ?_)
        · have hjp : 0 < j := Nat.pos_of_ne_zero (fun e => h36 (by rw [e]; rfl))
          have hs0 : slf t a = 1 := by unfold slf; rw [if_pos (by rw [isR_iff]; exact (not_congr hir).mp h32)]
          refine lv_iinc (v := ((nI j) + (-1))) (lv' := [(2, .int ((nI j) + (-1))), (0, .ref q), (1, .int k), (3, .ref a)]) hx hb dX1_inOrder_41 hl (k := 2) rfl rfl (by decide) rfl (fun ls hl => ?_)
          obtain ⟨j1, ej1, hj1⟩ : ∃ j1, nI j + (-1) = nI j1 ∧ j1 + slf t a = j := ⟨j - 1, sb_m1 hjp, by omega⟩
          rw [ej1] at hl
          have hl : lv_has ls 5 [(2, .int (nI j1)), (0, .ref q), (1, .int k), (3, .ref a)] := hl
          refine lv_aload_n hx hb dX1_inOrder_44 rfl (lv_at hl 3 rfl) ?_
          refine hp_getN (ci := 0) (v := va_rf (tZ t a)) (own := RX1) (ref := RX0) (host := RX1) (index := 28) (C := RX0) (T := TX0) (N := 6) hx hb hts hin0 hown C0 hf (hT a ha) rfl 4 (by decide) (by decide +kernel) (fun _ h9 => h9) rfl dX1_inOrder_45 ?_
          refine hp_ifnonnullq (tgt := 55) (r := tZ t a) hx hb dX1_inOrder_48 (by decide) (fun x48 h48 => ?_) (fun h48 => ?_)
          · obtain ⟨hzN, hzl, -, -⟩ := hst.2.2.2.2.1 a ha false x48 h48
            have hsz := sd_child hst hrc ha (d := false) (c := x48) h48
            have hzb := hbn x48 hzN
            have haz : f a = some (.inr (0, [.int (tB t a), .int (nI (tL t a)), .int (tH t a), .int (nI (tR t a)), .ref x48, va_rf (tO t a)])) := by rw [hT a ha]; show some (ndE (tB t a) (nI (tL t a)) (tH t a) (nI (tR t a)) (tZ t a) (tO t a)) = _; rw [h48]; rfl
            refine lv_aload_n hx hb dX1_inOrder_55 rfl (lv_at hl 3 rfl) ?_
            refine hp_getN (ci := 0) (v := .ref x48) (own := RX1) (ref := RX0) (host := RX1) (index := 28) (C := RX0) (T := TX0) (N := 6) hx hb hts hin0 hown C0 hf haz rfl 4 (by decide) (by decide +kernel) (fun _ h9 => h9) rfl dX1_inOrder_56 ?_
            refine hp_getN (ci := 0) (v := .int (nI (tR t x48))) (own := RX1) (ref := RX0) (host := RX1) (index := 25) (C := RX0) (T := TX0) (N := 6) hx hb hts hin0 hown C0 hf (hT x48 hzN) rfl 3 (by decide) (by decide +kernel) (fun _ h9 => h9) rfl dX1_inOrder_59 ?_
            refine lv_istore (lv' := [(4, .int (nI (tR t x48))), (2, .int (nI j1)), (0, .ref q), (1, .int k), (3, .ref a)]) hx hb dX1_inOrder_62 hl (by decide) rfl (fun ls hl => ?_)
            refine lv_iload_n hx hb dX1_inOrder_64 rfl (lv_at hl 1 rfl) ?_
            refine lv_iload hx hb dX1_inOrder_65 (lv_at hl 0 rfl) ?_
            refine lv_icmp_ge (tgt := 78) hx hb dX1_inOrder_67 (by decide) (fun h67 => ?_) (fun h67 => ?_)
            · refine lv_iload_n hx hb dX1_inOrder_78 rfl (lv_at hl 1 rfl) ?_
              refine lv_iload hx hb dX1_inOrder_79 (lv_at hl 0 rfl) ?_
              refine lv_isub hx hb dX1_inOrder_81 ?_
              refine lv_istore_n (lv' := [(2, .int ((nI j1) - (nI (tR t x48)))), (4, .int (nI (tR t x48))), (0, .ref q), (1, .int k), (3, .ref a)]) hx hb dX1_inOrder_82 rfl hl (by decide) rfl (fun ls hl => ?_)
              refine lv_aload_n hx hb dX1_inOrder_83 rfl (lv_at hl 4 rfl) ?_
              refine hp_getN (ci := 0) (v := va_rf (tO t a)) (own := RX1) (ref := RX0) (host := RX1) (index := 31) (C := RX0) (T := TX0) (N := 6) hx hb hts hin0 hown C0 hf haz rfl 5 (by decide) (by decide +kernel) (fun _ h9 => h9) rfl dX1_inOrder_84 ?_
              refine hp_astore_nq (lv' := [(3, va_rf (tO t a)), (2, .int ((nI j1) - (nI (tR t x48)))), (4, .int (nI (tR t x48))), (0, .ref q), (1, .int k)]) hx hb dX1_inOrder_87 rfl hl (by decide) rfl (fun ls hl => ?_)
              refine lv_goto (tgt := 24) hx hb dX1_inOrder_88 (by decide) ?_
              have hge : tR t x48 ≤ j1 := Nat.not_lt.mp (fun q => absurd h67 (nI_ge q (by omega)))
              have hj2 : nI j1 - nI (tR t x48) = nI (j1 - tR t x48) := pk_sub hge
              cases ho : ch t a true with
              | none => exact absurd (sd_none hst ha (d := true) ho) (by omega)
              | some o =>
                obtain ⟨hoN, hol, -, -⟩ := hst.2.2.2.2.1 a ha true o ho
                have hso := sd_child hst hrc ha (d := true) (c := o) ho
                have eo : tO t a = some o := ho
                rw [hj2, eo] at hl
                exact ih j0 (j1 - tR t x48) o ls _ _ ek hoN (by omega) (by omega) (by rw [lo_one hst ha ho]; omega) hj0 hf hS (lv_sub hl [3, 4, 1, 0] rfl)
            · refine lv_aload_n hx hb dX1_inOrder_70 rfl (lv_at hl 4 rfl) ?_
              refine hp_getN (ci := 0) (v := .ref x48) (own := RX1) (ref := RX0) (host := RX1) (index := 28) (C := RX0) (T := TX0) (N := 6) hx hb hts hin0 hown C0 hf haz rfl 4 (by decide) (by decide +kernel) (fun _ h9 => h9) rfl dX1_inOrder_71 ?_
              refine lv_astore_n (lv' := [(3, .ref x48), (4, .int (nI (tR t x48))), (2, .int (nI j1)), (0, .ref q), (1, .int k)]) hx hb dX1_inOrder_74 rfl hl (by decide) rfl (fun ls hl => ?_)
              refine lv_goto (tgt := 88) hx hb dX1_inOrder_75 (by decide) ?_
              refine lv_goto (tgt := 24) hx hb dX1_inOrder_88 (by decide) ?_
              have hlt : j1 < tR t x48 := Nat.not_le.mp (fun q => h67 (nI_le q (by omega)))
              exact ih j0 j1 x48 ls _ _ ek hzN (by omega) hlt (by rw [lo_zero hst ha h48]; omega) hj0 hf hS (lv_sub hl [3, 4, 2, 0] rfl)
          · have hsz := sd_none hst ha (d := false) h48
            refine lv_iconst (v := 0) hx hb dX1_inOrder_51 (by decide) ?_
            refine lv_goto (tgt := 62) hx hb dX1_inOrder_52 (by decide) ?_
            refine lv_istore (lv' := [(4, .int 0), (2, .int (nI j1)), (0, .ref q), (1, .int k), (3, .ref a)]) hx hb dX1_inOrder_62 hl (by decide) rfl (fun ls hl => ?_)
            refine lv_iload_n hx hb dX1_inOrder_64 rfl (lv_at hl 1 rfl) ?_
            refine lv_iload hx hb dX1_inOrder_65 (lv_at hl 0 rfl) ?_
            refine lv_icmp_ge (tgt := 78) hx hb dX1_inOrder_67 (by decide) (fun h67 => ?_) (fun h67 => ?_)
            · refine lv_iload_n hx hb dX1_inOrder_78 rfl (lv_at hl 1 rfl) ?_
              refine lv_iload hx hb dX1_inOrder_79 (lv_at hl 0 rfl) ?_
              refine lv_isub hx hb dX1_inOrder_81 ?_
              refine lv_istore_n (lv' := [(2, .int ((nI j1) - 0)), (4, .int 0), (0, .ref q), (1, .int k), (3, .ref a)]) hx hb dX1_inOrder_82 rfl hl (by decide) rfl (fun ls hl => ?_)
              refine lv_aload_n hx hb dX1_inOrder_83 rfl (lv_at hl 4 rfl) ?_
              refine hp_getN (ci := 0) (v := va_rf (tO t a)) (own := RX1) (ref := RX0) (host := RX1) (index := 31) (C := RX0) (T := TX0) (N := 6) hx hb hts hin0 hown C0 hf (hT a ha) rfl 5 (by decide) (by decide +kernel) (fun _ h9 => h9) rfl dX1_inOrder_84 ?_
              refine hp_astore_nq (lv' := [(3, va_rf (tO t a)), (2, .int ((nI j1) - 0)), (4, .int 0), (0, .ref q), (1, .int k)]) hx hb dX1_inOrder_87 rfl hl (by decide) rfl (fun ls hl => ?_)
              refine lv_goto (tgt := 24) hx hb dX1_inOrder_88 (by decide) ?_
              have hj2 : nI j1 - 0 = nI j1 := by rw [show (0 : Int32) = nI 0 from rfl, pk_sub (Nat.zero_le _)]; rfl
              have hge : 0 ≤ j1 := Nat.zero_le _
              cases ho : ch t a true with
              | none => exact absurd (sd_none hst ha (d := true) ho) (by omega)
              | some o =>
                obtain ⟨hoN, hol, -, -⟩ := hst.2.2.2.2.1 a ha true o ho
                have hso := sd_child hst hrc ha (d := true) (c := o) ho
                have eo : tO t a = some o := ho
                rw [hj2, eo] at hl
                exact ih j0 j1 o ls _ _ ek hoN (by omega) (by omega) (by rw [lo_one hst ha ho]; omega) hj0 hf hS (lv_sub hl [3, 4, 1, 0] rfl)
            · refine lv_aload_n hx hb dX1_inOrder_70 rfl (lv_at hl 4 rfl) ?_
              refine hp_getN (ci := 0) (v := va_rf (tZ t a)) (own := RX1) (ref := RX0) (host := RX1) (index := 28) (C := RX0) (T := TX0) (N := 6) hx hb hts hin0 hown C0 hf (hT a ha) rfl 4 (by decide) (by decide +kernel) (fun _ h9 => h9) rfl dX1_inOrder_71 ?_
              refine hp_astore_nq (lv' := [(3, va_rf (tZ t a)), (4, .int 0), (2, .int (nI j1)), (0, .ref q), (1, .int k)]) hx hb dX1_inOrder_74 rfl hl (by decide) rfl (fun ls hl => ?_)
              refine lv_goto (tgt := 88) hx hb dX1_inOrder_75 (by decide) ?_
              refine lv_goto (tgt := 24) hx hb dX1_inOrder_88 (by decide) ?_
              exact absurd h67 (by intro h; exact h (nI_pos' (n := j1) (by omega)))
        · refine lv_aload_n hx hb dX1_inOrder_39 rfl (lv_at hl 3 rfl) ?_
          exact hp_aret (r := some a) hx hb hr hlocks C0 hf hS (by first | exact Nat.le_refl _ | omega) (by first | exact Nat.le_refl _ | omega) dX1_inOrder_40 (⟨⟨fun b e => by cases e; exact ⟨ha, by rw [isR_iff]; exact (not_congr hir).mp h32, by rw [ek, ← hlo, show j = 0 from (nI_eq (b := 0) (by omega) (by omega)).mp h36]; rfl, by omega⟩, fun e => by cases e⟩, rfl⟩)
  refine lv_iload_n hx hb dX1_inOrder_0 rfl (lv_at hl 1 rfl) ?_
  refine lv_if_lt (tgt := 15) hx hb dX1_inOrder_1 (by decide) (fun h1 => ?_) (fun h1 => ?_)
  · refine lv_null hx hb dX1_inOrder_15 ?_
    exact hp_aret (r := none) hx hb hr hlocks C0 hf hS (by first | exact Nat.le_refl _ | omega) (by first | exact Nat.le_refl _ | omega) dX1_inOrder_16 (⟨⟨fun a e => (by cases e), fun _ => Or.inl h1⟩, rfl⟩)
  · refine lv_iload_n hx hb dX1_inOrder_4 rfl (lv_at hl 1 rfl) ?_
    refine lv_aload_n hx hb dX1_inOrder_5 rfl (lv_at hl 0 rfl) ?_
    refine hp_get (ci := 1) (v := .ref root) (C := RX1) (T := TX1) (N := 2) hx hb hts hin1 hown C0 hf hq rfl 0 (by decide) (hts (.fieldLink RX1 14 "RouteTrie" "root" "LRouteTrie$Node;") (by decide +kernel)) (fun _ h9 => h9) rfl dX1_inOrder_6 ?_
    refine hp_getN (ci := 0) (v := .int (nI (tR t root))) (own := RX1) (ref := RX0) (host := RX1) (index := 25) (C := RX0) (T := TX0) (N := 6) hx hb hts hin0 hown C0 hf (hT root hst.1.1) rfl 3 (by decide) (by decide +kernel) (fun _ h9 => h9) rfl dX1_inOrder_9 ?_
    refine lv_icmp_lt (tgt := 17) hx hb dX1_inOrder_12 (by decide) (fun h12 => ?_) (fun h12 => ?_)
    · refine lv_iload_n hx hb dX1_inOrder_17 rfl (lv_at hl 1 rfl) ?_
      refine lv_istore_n (lv' := [(2, .int k), (0, .ref q), (1, .int k)]) hx hb dX1_inOrder_18 rfl hl (by decide) rfl (fun ls hl => ?_)
      refine lv_aload_n hx hb dX1_inOrder_19 rfl (lv_at hl 1 rfl) ?_
      refine hp_get (ci := 1) (v := .ref root) (C := RX1) (T := TX1) (N := 2) hx hb hts hin1 hown C0 hf hq rfl 0 (by decide) (hts (.fieldLink RX1 14 "RouteTrie" "root" "LRouteTrie$Node;") (by decide +kernel)) (fun _ h9 => h9) rfl dX1_inOrder_20 ?_
      refine lv_astore_n (lv' := [(3, .ref root), (2, .int k), (0, .ref q), (1, .int k)]) hx hb dX1_inOrder_23 rfl hl (by decide) rfl (fun ls hl => ?_)
      have hrt : tR t root < 2 ^ 30 := by rw [hrc root hst.1.1]; exact Nat.lt_of_le_of_lt cnt_le hbd
      obtain ⟨j, hj, rfl⟩ := nI_of h1
      have hjr : j < tR t root := (nI_ltI (by omega) (by omega)).mp h12
      exact loop 34 j j root ls _ _ rfl hst.1.1 (by omega) hjr (by rw [lo_root hst]; omega) hjr hf hS (lv_sub hl [2, 3, 1, 0] rfl)
    · refine lv_null hx hb dX1_inOrder_15 ?_
      exact hp_aret (r := none) hx hb hr hlocks C0 hf hS (by first | exact Nat.le_refl _ | omega) (by first | exact Nat.le_refl _ | omega) dX1_inOrder_16 (⟨⟨fun a e => (by cases e), fun _ => Or.inr (Int32.not_lt.mp h12)⟩, rfl⟩)
set_option maxHeartbeats 4000000 in
set_option maxRecDepth 100000 in
theorem c_X1_route (l : Launch) (D : va_G) (cy : ClassId) (base : Nat) (f : AH) (q : Nat) (N : List Nat) (t : NT) (root : Nat) (cnt : Int32) (k w : Int32) (hq : f q = some (trO root cnt)) (hT : TN f N t) (hst : ST N t root) (hrc : RC N t) (hbd : N.length < 2 ^ 30) : Met l yX1_route wsX1_route ({ frames := 2, cells := 0, slots := 0, locals := 44 }) (va_Pc [.ref q, .int k, .int w] (hp_B D cy base f)) (va_Qi (fun (r : Int32) (u : AH) => (∃ ro : Option Nat, IOp N t root k ro ∧ r = ro.elim 0 (rtA t w)) ∧ u = f) (hp_B D cy base) (hp_A base)) 0 0 (hp_A base) := by
  refine Met.ofW (cc := cX1_route) (maxL := 4) (ret := (some .int)) (by decide) rfl ?_
  intro p e s m args below meth c s₁ B hml hv
  obtain ⟨rfl, hf, C0⟩ := hv
  have hx := B.exec
  have hb := B.bytes
  have hr := B.returns
  have hts := atoms_spec (ws := wsX1_route) B.pre
  have hown : s.vm.findClass RX1 = some m.cls := findClass_of_methodNamed B.named
  have hlocks := B.notSynchronized
  have hin0 : ∀ w ∈ wsX00, w ∈ wsX1_route := by decide +kernel
  have hin1 : ∀ w ∈ wsX10, w ∈ wsX1_route := by decide +kernel
  have hS : va_S (hp_A base) s.heap s.heap [] := va_S.rf
  have hl := lv_entry ([.ref q, .int k, .int w]) (n := 4) (Nat.le_of_ble_eq_true rfl)
  rw [lg_entry_eq]
  generalize (lg_sl ([.ref q, .int k, .int w]) ++ List.replicate (4 - (lg_sl ([.ref q, .int k, .int w])).length) Slot.unset).toArray = ls at hl ⊢
  have hl : lv_has ls 4 [(0, .ref q), (1, .int k), (2, .int w)] := hl
  refine lv_aload_n hx hb dX1_route_0 rfl (lv_at hl 0 rfl) ?_
  refine lv_iload_n hx hb dX1_route_1 rfl (lv_at hl 1 rfl) ?_
  refine hp_kq (hp_rV (C := RX1) (As := [.int k]) (rest := []) ⟨hx, hb, hml, hown, hts⟩ C0 hf hS (c_X1_inOrder l D cy base f q N t root cnt k hq hT hst hrc hbd) (cwV 1 hts gX1_route_X1_inOrder rfl rfl rfl (by decide +kernel) ⟨Nat.le_of_ble_eq_true rfl, Nat.le_of_ble_eq_true rfl⟩) hq rfl rfl hl.1 rfl (Nat.le_of_ble_eq_true rfl) dX1_route_2 ⟨Nat.le_of_ble_eq_true rfl, Nat.le_of_ble_eq_true rfl⟩) hS (fun r_1 u_1 H locs hq_1 hf hS => ?_)
  obtain ⟨hr_1, hu⟩ := hq_1
  rw [hu] at hf
  refine hp_astore_nq (lv' := [(3, va_rf r_1), (0, .ref q), (1, .int k), (2, .int w)]) hx hb dX1_route_5 rfl hl (by decide) rfl (fun ls hl => ?_)
  refine hp_aload_nq (r := r_1) hx hb dX1_route_6 rfl (lv_at hl 0 rfl) ?_
  refine hp_ifnonnullq (tgt := 12) (r := r_1) hx hb dX1_route_7 (by decide) (fun x7 h7 => ?_) (fun h7 => ?_)
  · rw [h7] at hl
    have hl : lv_has ls 4 [(3, .ref x7), (0, .ref q), (1, .int k), (2, .int w)] := hl
    obtain ⟨hxN, -⟩ := hr_1.1 x7 h7
    refine lv_iload_n hx hb dX1_route_12 rfl (lv_at hl 3 rfl) ?_
    by_cases hw0 : w = 0
    · refine lv_tableIn (tgt := 40) (off := 27) hx hb dX1_route_13 (by rw [hw0]; decide) (by rw [hw0]; decide) (by rw [hw0]; decide) (by decide) ?_
      refine lv_aload_n hx hb dX1_route_40 rfl (lv_at hl 0 rfl) ?_
      refine hp_getN (ci := 0) (v := .int (tB t x7)) (own := RX1) (ref := RX0) (host := RX1) (index := 62) (C := RX0) (T := TX0) (N := 6) hx hb hts hin0 hown C0 hf (hT x7 hxN) rfl 0 (by decide) (by decide +kernel) (fun _ h9 => h9) rfl dX1_route_41 ?_
      exact hp_iret (v := tB t x7) hx hb hr hlocks C0 hf hS (by first | exact Nat.le_refl _ | omega) (by first | exact Nat.le_refl _ | omega) dX1_route_44 (⟨⟨some x7, by rw [← h7]; exact hr_1, by show _ = rtA t w x7; rw [rtA, if_pos hw0]⟩, rfl⟩)
    by_cases hw1 : w = 1
    · refine lv_tableIn (tgt := 45) (off := 32) hx hb dX1_route_13 (by rw [hw1]; decide) (by rw [hw1]; decide) (by rw [hw1]; decide) (by decide) ?_
      refine lv_aload_n hx hb dX1_route_45 rfl (lv_at hl 0 rfl) ?_
      refine hp_getN (ci := 0) (v := .int (nI (tL t x7))) (own := RX1) (ref := RX0) (host := RX1) (index := 53) (C := RX0) (T := TX0) (N := 6) hx hb hts hin0 hown C0 hf (hT x7 hxN) rfl 1 (by decide) (by decide +kernel) (fun _ h9 => h9) rfl dX1_route_46 ?_
      exact hp_iret (v := nI (tL t x7)) hx hb hr hlocks C0 hf hS (by first | exact Nat.le_refl _ | omega) (by first | exact Nat.le_refl _ | omega) dX1_route_49 (⟨⟨some x7, by rw [← h7]; exact hr_1, by show _ = rtA t w x7; rw [rtA, if_neg hw0, if_pos hw1]⟩, rfl⟩)
    by_cases hw2 : w = 2
    · refine lv_tableIn (tgt := 50) (off := 37) hx hb dX1_route_13 (by rw [hw2]; decide) (by rw [hw2]; decide) (by rw [hw2]; decide) (by decide) ?_
      refine lv_aload_n hx hb dX1_route_50 rfl (lv_at hl 0 rfl) ?_
      refine hp_getN (ci := 0) (v := .int (tH t x7)) (own := RX1) (ref := RX0) (host := RX1) (index := 22) (C := RX0) (T := TX0) (N := 6) hx hb hts hin0 hown C0 hf (hT x7 hxN) rfl 2 (by decide) (by decide +kernel) (fun _ h9 => h9) rfl dX1_route_51 ?_
      exact hp_iret (v := tH t x7) hx hb hr hlocks C0 hf hS (by first | exact Nat.le_refl _ | omega) (by first | exact Nat.le_refl _ | omega) dX1_route_54 (⟨⟨some x7, by rw [← h7]; exact hr_1, by show _ = rtA t w x7; rw [rtA, if_neg hw0, if_neg hw1, if_pos hw2]⟩, rfl⟩)
    refine lv_tableOut (tgt := 55) hx hb dX1_route_13 (by rcases (show w.toInt < 0 ∨ 2 < w.toInt ∨ w.toInt = 0 ∨ w.toInt = 1 ∨ w.toInt = 2 by omega) with q | q | q | q | q; exact Or.inl q; exact Or.inr q; exact absurd (Int32.toInt_inj.mp (q.trans (by decide))) hw0; exact absurd (Int32.toInt_inj.mp (q.trans (by decide))) hw1; exact absurd (Int32.toInt_inj.mp (q.trans (by decide))) hw2) (by decide) ?_
    refine lv_iconst (v := 0) hx hb dX1_route_55 (by decide) ?_
    exact hp_iret (v := 0) hx hb hr hlocks C0 hf hS (by first | exact Nat.le_refl _ | omega) (by first | exact Nat.le_refl _ | omega) dX1_route_56 (⟨⟨some x7, by rw [← h7]; exact hr_1, by show _ = rtA t w x7; rw [rtA, if_neg hw0, if_neg hw1, if_neg hw2]⟩, rfl⟩)
  · rw [h7] at hl
    have hl : lv_has ls 4 [(3, .null), (0, .ref q), (1, .int k), (2, .int w)] := hl
    refine lv_iconst (v := 0) hx hb dX1_route_10 (by decide) ?_
    exact hp_iret (v := 0) hx hb hr hlocks C0 hf hS (by first | exact Nat.le_refl _ | omega) (by first | exact Nat.le_refl _ | omega) dX1_route_11 (⟨⟨none, by rw [← h7]; exact hr_1, rfl⟩, rfl⟩)
