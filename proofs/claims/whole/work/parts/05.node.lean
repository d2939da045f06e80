/-! the node's own methods, cell by cell -/
theorem va_rf_cat (r : Option Nat) : (va_rf r).category = 1 := by cases r <;> rfl
theorem hp_dif {f : AH} {a b : Nat} {x y : va_E} (h1 : f b = some x) (h2 : f a = some y) (h : x ≠ y) : b ≠ a := fun e => by subst e; exact h (Option.some.inj (h1.symm.trans h2))
def fbI (x n : Int32) : Int32 := if n = 0 then 0 else x &&& ((-1) <<< ((32 - n) &&& 31))
def g1I (n x : Int32) : Prop := ¬ 32 ≤ n ∧ ((x.toUInt32 >>> ((31 - n).toUInt32 &&& Int32.toUInt32 31)).toInt32 &&& 1) = 1
abbrev ndE (b n h r : Int32) (z o : Option Nat) : va_E := .inr (0, [.int b, .int n, .int h, .int r, va_rf z, va_rf o])
set_option maxHeartbeats 4000000 in
set_option maxRecDepth 100000 in
theorem c_X1_firstBits (l : Launch) (D : va_G) (cy : ClassId) (base : Nat) (f : AH) (x n : Int32)  : Met l yX1_firstBits wsX1_firstBits ({ frames := 0, cells := 0, slots := 0, locals := 0 }) (va_Pc [.int x, .int n] (hp_B D cy base f)) (va_Qi (fun (r : Int32) (u : AH) => r = fbI x n ∧ u = f) (hp_B D cy base) (hp_A base)) 0 0 (hp_A base) := by
  refine Met.ofW (cc := cX1_firstBits) (maxL := 2) (ret := (some .int)) (by decide) rfl ?_
  intro p e s m args below meth c s₁ B hml hv
  obtain ⟨rfl, hf, C0⟩ := hv
  have hx := B.exec
  have hb := B.bytes
  have hr := B.returns
  have hts := atoms_spec (ws := wsX1_firstBits) B.pre
  have hown : s.vm.findClass RX1 = some m.cls := findClass_of_methodNamed B.named
  have hlocks := B.notSynchronized
  have hS : va_S (hp_A base) s.heap s.heap [] := va_S.rf
  have hl := lv_entry ([.int x, .int n]) (n := 2) (Nat.le_of_ble_eq_true rfl)
  rw [lg_entry_eq]
  generalize (lg_sl ([.int x, .int n]) ++ List.replicate (2 - (lg_sl ([.int x, .int n])).length) Slot.unset).toArray = ls at hl ⊢
  have hl : lv_has ls 2 [(0, .int x), (1, .int n)] := hl
  refine lv_iload_n hx hb dX1_firstBits_0 rfl (lv_at hl 1 rfl) ?_
  refine lv_if_ne (tgt := 8) hx hb dX1_firstBits_1 (by decide) (fun h1 => ?_) (fun h1 => ?_)
  · refine lv_iload_n hx hb dX1_firstBits_8 rfl (lv_at hl 0 rfl) ?_
    refine lv_iconst (v := (-1)) hx hb dX1_firstBits_9 (by decide) ?_
    refine lv_bipush (v := 32) hx hb dX1_firstBits_10 (by decide) ?_
    refine lv_iload_n hx hb dX1_firstBits_12 rfl (lv_at hl 1 rfl) ?_
    refine lv_isub hx hb dX1_firstBits_13 ?_
    refine lv_ishl hx hb dX1_firstBits_14 ?_
    refine lv_iand hx hb dX1_firstBits_15 ?_
    exact hp_iret (v := (x &&& ((-1) <<< ((32 - n) &&& 31)))) hx hb hr hlocks C0 hf hS (by first | exact Nat.le_refl _ | omega) (by first | exact Nat.le_refl _ | omega) dX1_firstBits_16 (⟨by rw [fbI, if_neg h1], rfl⟩)
  · refine lv_iconst (v := 0) hx hb dX1_firstBits_4 (by decide) ?_
    refine lv_goto (tgt := 16) hx hb dX1_firstBits_5 (by decide) ?_
    exact hp_iret (v := 0) hx hb hr hlocks C0 hf hS (by first | exact Nat.le_refl _ | omega) (by first | exact Nat.le_refl _ | omega) dX1_firstBits_16 (⟨by rw [fbI, if_pos h1], rfl⟩)
set_option maxHeartbeats 4000000 in
set_option maxRecDepth 100000 in
theorem c_X0_isRoute (l : Launch) (D : va_G) (cy : ClassId) (base : Nat) (f : AH) (a : Nat) (b n h r0 : Int32) (z o : Option Nat) (ha : f a = some (ndE b n h r0 z o)) : Met l yX0_isRoute wsX0_isRoute ({ frames := 0, cells := 0, slots := 0, locals := 0 }) (va_Pc [.ref a] (hp_B D cy base f)) (va_Qi (fun (r : Int32) (u : AH) => r = (if h = -1 then 0 else 1) ∧ u = f) (hp_B D cy base) (hp_A base)) 0 0 (hp_A base) := by
  refine Met.ofW (cc := cX0_isRoute) (maxL := 1) (ret := (some .boolean)) (by decide) rfl ?_
  intro p e s m args below meth c s₁ B hml hv
  obtain ⟨rfl, hf, C0⟩ := hv
  have hx := B.exec
  have hb := B.bytes
  have hr := B.returns
  have hts := atoms_spec (ws := wsX0_isRoute) B.pre
  have hown : s.vm.findClass RX0 = some m.cls := findClass_of_methodNamed B.named
  have hlocks := B.notSynchronized
  have hin0 : ∀ w ∈ wsX00, w ∈ wsX0_isRoute := by decide +kernel
  have hS : va_S (hp_A base) s.heap s.heap [] := va_S.rf
  have hl := lv_entry ([.ref a]) (n := 1) (Nat.le_of_ble_eq_true rfl)
  rw [lg_entry_eq]
  generalize (lg_sl ([.ref a]) ++ List.replicate (1 - (lg_sl ([.ref a])).length) Slot.unset).toArray = ls at hl ⊢
  have hl : lv_has ls 1 [(0, .ref a)] := hl
  refine lv_aload_n hx hb dX0_isRoute_0 rfl (lv_at hl 0 rfl) ?_
  refine hp_get (ci := 0) (v := .int h) (C := RX0) (T := TX0) (N := 6) hx hb hts hin0 hown C0 hf ha rfl 2 (by decide) (hts (.fieldLink RX0 18 "RouteTrie$Node" "hop" "I") (by decide +kernel)) (fun _ h9 => h9) rfl dX0_isRoute_1 ?_
  refine lv_iconst (v := (-1)) hx hb dX0_isRoute_4 (by decide) ?_
  refine lv_icmp_eq (tgt := 12) hx hb dX0_isRoute_5 (by decide) (fun h5 => ?_) (fun h5 => ?_)
  · refine lv_iconst (v := 0) hx hb dX0_isRoute_12 (by decide) ?_
    exact hp_zret (v := 0) hx hb hr hlocks C0 hf hS (by first | exact Nat.le_refl _ | omega) (by first | exact Nat.le_refl _ | omega) dX0_isRoute_13 (by decide) (⟨by rw [if_pos h5], rfl⟩)
  · refine lv_iconst (v := 1) hx hb dX0_isRoute_8 (by decide) ?_
    refine lv_goto (tgt := 13) hx hb dX0_isRoute_9 (by decide) ?_
    exact hp_zret (v := 1) hx hb hr hlocks C0 hf hS (by first | exact Nat.le_refl _ | omega) (by first | exact Nat.le_refl _ | omega) dX0_isRoute_13 (by decide) (⟨by rw [if_neg h5], rfl⟩)
set_option maxHeartbeats 4000000 in
set_option maxRecDepth 100000 in
theorem c_X0_isBeginOf (l : Launch) (D : va_G) (cy : ClassId) (base : Nat) (f : AH) (a : Nat) (b n h r0 : Int32) (z o : Option Nat) (x : Int32) (ha : f a = some (ndE b n h r0 z o)) : Met l yX0_isBeginOf wsX0_isBeginOf ({ frames := 1, cells := 0, slots := 0, locals := 21 }) (va_Pc [.ref a, .int x] (hp_B D cy base f)) (va_Qi (fun (r : Int32) (u : AH) => (r = if fbI x n = b then 1 else 0) ∧ u = f) (hp_B D cy base) (hp_A base)) 0 0 (hp_A base) := by
  refine Met.ofW (cc := cX0_isBeginOf) (maxL := 2) (ret := (some .boolean)) (by decide) rfl ?_
  intro p e s m args below meth c s₁ B hml hv
  obtain ⟨rfl, hf, C0⟩ := hv
  have hx := B.exec
  have hb := B.bytes
  have hr := B.returns
  have hts := atoms_spec (ws := wsX0_isBeginOf) B.pre
  have hown : s.vm.findClass RX0 = some m.cls := findClass_of_methodNamed B.named
  have hlocks := B.notSynchronized
  have hin0 : ∀ w ∈ wsX00, w ∈ wsX0_isBeginOf := by decide +kernel
  have hS : va_S (hp_A base) s.heap s.heap [] := va_S.rf
  have hl := lv_entry ([.ref a, .int x]) (n := 2) (Nat.le_of_ble_eq_true rfl)
  rw [lg_entry_eq]
  generalize (lg_sl ([.ref a, .int x]) ++ List.replicate (2 - (lg_sl ([.ref a, .int x])).length) Slot.unset).toArray = ls at hl ⊢
  have hl : lv_has ls 2 [(0, .ref a), (1, .int x)] := hl
  refine lv_iload_n hx hb dX0_isBeginOf_0 rfl (lv_at hl 1 rfl) ?_
  refine lv_aload_n hx hb dX0_isBeginOf_1 rfl (lv_at hl 0 rfl) ?_
  refine hp_get (ci := 0) (v := .int n) (C := RX0) (T := TX0) (N := 6) hx hb hts hin0 hown C0 hf ha rfl 1 (by decide) (hts (.fieldLink RX0 15 "RouteTrie$Node" "len" "I") (by decide +kernel)) (fun _ h9 => h9) rfl dX0_isBeginOf_2 ?_
  refine hp_ki (hp_rSN (As := [.int x, .int n]) (rest := []) ⟨hx, hb, hml, hown, hts⟩ C0 hf hS (c_X1_firstBits l D cy base f x n) ⟨va_cnB (host := RX1) (index := 24) 2 hts gX0_isBeginOf_X1_firstBits_n24 rfl rfl rfl (C0.2.2 _ (by decide +kernel)) (hts (.initialized RX1) (by decide +kernel)) (by decide +kernel) ⟨Nat.le_of_ble_eq_true rfl, Nat.le_of_ble_eq_true rfl⟩, hts (.static yX1_firstBits) (by decide +kernel), trivial⟩ rfl hl.1 rfl (Nat.le_of_ble_eq_true rfl) dX0_isBeginOf_5 ⟨Nat.le_of_ble_eq_true rfl, Nat.le_of_ble_eq_true rfl⟩) hS (fun r_1 u_1 H locs hq_1 hf hS => ?_)
  obtain ⟨rfl, hu⟩ := hq_1
  rw [hu] at hf
  refine lv_aload_n hx hb dX0_isBeginOf_8 rfl (lv_at hl 0 rfl) ?_
  refine hp_get (ci := 0) (v := .int b) (C := RX0) (T := TX0) (N := 6) hx hb hts hin0 hown C0 hf ha rfl 0 (by decide) (hts (.fieldLink RX0 9 "RouteTrie$Node" "bits" "I") (by decide +kernel)) (fun _ h9 => h9) rfl dX0_isBeginOf_9 ?_
  refine lv_icmp_ne (tgt := 19) hx hb dX0_isBeginOf_12 (by decide) (fun h12 => ?_) (fun h12 => ?_)
  · refine lv_iconst (v := 0) hx hb dX0_isBeginOf_19 (by decide) ?_
    exact hp_zret (v := 0) hx hb hr hlocks C0 hf hS (by first | exact Nat.le_refl _ | omega) (by first | exact Nat.le_refl _ | omega) dX0_isBeginOf_20 (by decide) (⟨by rw [if_neg h12], rfl⟩)
  · refine lv_iconst (v := 1) hx hb dX0_isBeginOf_15 (by decide) ?_
    refine lv_goto (tgt := 20) hx hb dX0_isBeginOf_16 (by decide) ?_
    exact hp_zret (v := 1) hx hb hr hlocks C0 hf hS (by first | exact Nat.le_refl _ | omega) (by first | exact Nat.le_refl _ | omega) dX0_isBeginOf_20 (by decide) (⟨by rw [if_pos h12], rfl⟩)
set_option maxHeartbeats 4000000 in
set_option maxRecDepth 100000 in
theorem c_X0_goesToOne (l : Launch) (D : va_G) (cy : ClassId) (base : Nat) (f : AH) (a : Nat) (b n h r0 : Int32) (z o : Option Nat) (x : Int32) (ha : f a = some (ndE b n h r0 z o)) : Met l yX0_goesToOne wsX0_goesToOne ({ frames := 0, cells := 0, slots := 0, locals := 0 }) (va_Pc [.ref a, .int x] (hp_B D cy base f)) (va_Qi (fun (r : Int32) (u : AH) => ((r = 1 ∧ g1I n x) ∨ (r = 0 ∧ ¬ g1I n x)) ∧ u = f) (hp_B D cy base) (hp_A base)) 0 0 (hp_A base) := by
  refine Met.ofW (cc := cX0_goesToOne) (maxL := 2) (ret := (some .boolean)) (by decide) rfl ?_
  intro p e s m args below meth c s₁ B hml hv
  obtain ⟨rfl, hf, C0⟩ := hv
  have hx := B.exec
  have hb := B.bytes
  have hr := B.returns
  have hts := atoms_spec (ws := wsX0_goesToOne) B.pre
  have hown : s.vm.findClass RX0 = some m.cls := findClass_of_methodNamed B.named
  have hlocks := B.notSynchronized
  have hin0 : ∀ w ∈ wsX00, w ∈ wsX0_goesToOne := by decide +kernel
  have hS : va_S (hp_A base) s.heap s.heap [] := va_S.rf
  have hl := lv_entry ([.ref a, .int x]) (n := 2) (Nat.le_of_ble_eq_true rfl)
  rw [lg_entry_eq]
  generalize (lg_sl ([.ref a, .int x]) ++ List.replicate (2 - (lg_sl ([.ref a, .int x])).length) Slot.unset).toArray = ls at hl ⊢
  have hl : lv_has ls 2 [(0, .ref a), (1, .int x)] := hl
  refine lv_aload_n hx hb dX0_goesToOne_0 rfl (lv_at hl 0 rfl) ?_
  refine hp_get (ci := 0) (v := .int n) (C := RX0) (T := TX0) (N := 6) hx hb hts hin0 hown C0 hf ha rfl 1 (by decide) (hts (.fieldLink RX0 15 "RouteTrie$Node" "len" "I") (by decide +kernel)) (fun _ h9 => h9) rfl dX0_goesToOne_1 ?_
  refine lv_bipush (v := 32) hx hb dX0_goesToOne_4 (by decide) ?_
  refine lv_icmp_ge (tgt := 28) hx hb dX0_goesToOne_6 (by decide) (fun h6 => ?_) (fun h6 => ?_)
  · refine lv_iconst (v := 0) hx hb dX0_goesToOne_28 (by decide) ?_
    exact hp_zret (v := 0) hx hb hr hlocks C0 hf hS (by first | exact Nat.le_refl _ | omega) (by first | exact Nat.le_refl _ | omega) dX0_goesToOne_29 (by decide) (⟨Or.inr ⟨rfl, fun h => h.1 h6⟩, rfl⟩)
  · refine lv_iload_n hx hb dX0_goesToOne_9 rfl (lv_at hl 1 rfl) ?_
    refine lv_bipush (v := 31) hx hb dX0_goesToOne_10 (by decide) ?_
    refine lv_aload_n hx hb dX0_goesToOne_12 rfl (lv_at hl 0 rfl) ?_
    refine hp_get (ci := 0) (v := .int n) (C := RX0) (T := TX0) (N := 6) hx hb hts hin0 hown C0 hf ha rfl 1 (by decide) (hts (.fieldLink RX0 15 "RouteTrie$Node" "len" "I") (by decide +kernel)) (fun _ h9 => h9) rfl dX0_goesToOne_13 ?_
    refine lv_isub hx hb dX0_goesToOne_16 ?_
    refine lv_iushr hx hb dX0_goesToOne_17 rfl ?_
    refine lv_iconst (v := 1) hx hb dX0_goesToOne_18 (by decide) ?_
    refine lv_iand hx hb dX0_goesToOne_19 ?_
    refine lv_iconst (v := 1) hx hb dX0_goesToOne_20 (by decide) ?_
    refine lv_icmp_ne (tgt := 28) hx hb dX0_goesToOne_21 (by decide) (fun h21 => ?_) (fun h21 => ?_)
    · refine lv_iconst (v := 0) hx hb dX0_goesToOne_28 (by decide) ?_
      exact hp_zret (v := 0) hx hb hr hlocks C0 hf hS (by first | exact Nat.le_refl _ | omega) (by first | exact Nat.le_refl _ | omega) dX0_goesToOne_29 (by decide) (⟨Or.inr ⟨rfl, fun h => h21 h.2⟩, rfl⟩)
    · refine lv_iconst (v := 1) hx hb dX0_goesToOne_24 (by decide) ?_
      refine lv_goto (tgt := 29) hx hb dX0_goesToOne_25 (by decide) ?_
      exact hp_zret (v := 1) hx hb hr hlocks C0 hf hS (by first | exact Nat.le_refl _ | omega) (by first | exact Nat.le_refl _ | omega) dX0_goesToOne_29 (by decide) (⟨Or.inl ⟨rfl, h6, h21⟩, rfl⟩)
set_option maxHeartbeats 4000000 in
set_option maxRecDepth 100000 in
theorem c_X0_toward (l : Launch) (D : va_G) (cy : ClassId) (base : Nat) (f : AH) (a : Nat) (b n h r0 : Int32) (z o : Option Nat) (x : Int32) (ha : f a = some (ndE b n h r0 z o)) : Met l yX0_toward wsX0_toward ({ frames := 1, cells := 0, slots := 0, locals := 21 }) (va_Pc [.ref a, .int x] (hp_B D cy base f)) (va_Qq (fun (r : Option Nat) (u : AH) => ((g1I n x ∧ r = o) ∨ (¬ g1I n x ∧ r = z)) ∧ u = f) (hp_B D cy base) (hp_A base)) 0 0 (hp_A base) := by
  refine Met.ofW (cc := cX0_toward) (maxL := 2) (ret := (some (.object "RouteTrie$Node"))) (by decide) rfl ?_
  intro p e s m args below meth c s₁ B hml hv
  obtain ⟨rfl, hf, C0⟩ := hv
  have hx := B.exec
  have hb := B.bytes
  have hr := B.returns
  have hts := atoms_spec (ws := wsX0_toward) B.pre
  have hown : s.vm.findClass RX0 = some m.cls := findClass_of_methodNamed B.named
  have hlocks := B.notSynchronized
  have hin0 : ∀ w ∈ wsX00, w ∈ wsX0_toward := by decide +kernel
  have hS : va_S (hp_A base) s.heap s.heap [] := va_S.rf
  have hl := lv_entry ([.ref a, .int x]) (n := 2) (Nat.le_of_ble_eq_true rfl)
  rw [lg_entry_eq]
  generalize (lg_sl ([.ref a, .int x]) ++ List.replicate (2 - (lg_sl ([.ref a, .int x])).length) Slot.unset).toArray = ls at hl ⊢
  have hl : lv_has ls 2 [(0, .ref a), (1, .int x)] := hl
  refine lv_aload_n hx hb dX0_toward_0 rfl (lv_at hl 0 rfl) ?_
  refine lv_iload_n hx hb dX0_toward_1 rfl (lv_at hl 1 rfl) ?_
  refine hp_ki (hp_rV (C := RX0) (As := [.int x]) (rest := []) ⟨hx, hb, hml, hown, hts⟩ C0 hf hS (c_X0_goesToOne l D cy base f a b n h r0 z o x ha) (cwV 1 hts gX0_toward_X0_goesToOne rfl rfl rfl (by decide +kernel) ⟨Nat.le_of_ble_eq_true rfl, Nat.le_of_ble_eq_true rfl⟩) ha rfl rfl hl.1 rfl (Nat.le_of_ble_eq_true rfl) dX0_toward_2 ⟨Nat.le_of_ble_eq_true rfl, Nat.le_of_ble_eq_true rfl⟩) hS (fun r_1 u_1 H locs hq_1 hf hS => ?_)
  obtain ⟨hg, hu⟩ := hq_1
  rw [hu] at hf
  refine lv_if_eq (tgt := 15) hx hb dX0_toward_5 (by decide) (fun h5 => ?_) (fun h5 => ?_)
  · refine lv_aload_n hx hb dX0_toward_15 rfl (lv_at hl 0 rfl) ?_
    refine hp_get (ci := 0) (v := va_rf z) (C := RX0) (T := TX0) (N := 6) hx hb hts hin0 hown C0 hf ha rfl 4 (by decide) (hts (.fieldLink RX0 36 "RouteTrie$Node" "zero" "LRouteTrie$Node;") (by decide +kernel)) (fun _ h9 => h9) rfl dX0_toward_16 ?_
    exact hp_aret (r := z) hx hb hr hlocks C0 hf hS (by first | exact Nat.le_refl _ | omega) (by first | exact Nat.le_refl _ | omega) dX0_toward_19 (⟨hg.elim (fun h => absurd h5 (by rw [h.1]; decide)) (fun h => Or.inr ⟨h.2, rfl⟩), rfl⟩)
  · refine lv_aload_n hx hb dX0_toward_8 rfl (lv_at hl 0 rfl) ?_
    refine hp_get (ci := 0) (v := va_rf o) (C := RX0) (T := TX0) (N := 6) hx hb hts hin0 hown C0 hf ha rfl 5 (by decide) (hts (.fieldLink RX0 32 "RouteTrie$Node" "one" "LRouteTrie$Node;") (by decide +kernel)) (fun _ h9 => h9) rfl dX0_toward_9 ?_
    refine lv_goto (tgt := 19) hx hb dX0_toward_12 (by decide) ?_
    exact hp_aret (r := o) hx hb hr hlocks C0 hf hS (by first | exact Nat.le_refl _ | omega) (by first | exact Nat.le_refl _ | omega) dX0_toward_19 (⟨hg.elim (fun h => Or.inl ⟨h.2, rfl⟩) (fun h => absurd h.1 h5), rfl⟩)
set_option maxHeartbeats 4000000 in
set_option maxRecDepth 100000 in
theorem c_X0_hang (l : Launch) (D : va_G) (cy : ClassId) (base : Nat) (f : AH) (a : Nat) (b n h r0 : Int32) (z o : Option Nat) (a2 : Nat) (b2 n2 h2 r2 : Int32) (z2 o2 : Option Nat) (ha : f a = some (ndE b n h r0 z o)) (ha2 : f a2 = some (ndE b2 n2 h2 r2 z2 o2)) : Met l yX0_hang wsX0_hang ({ frames := 1, cells := 0, slots := 0, locals := 21 }) (va_Pc [.ref a, .ref a2] (hp_B D cy base f)) (va_Qv (fun (u : AH) => ((g1I n b2 ∧ u = va_up f a (some (ndE b n h r0 z (some a2)))) ∨ (¬ g1I n b2 ∧ u = va_up f a (some (ndE b n h r0 (some a2) o))))) (hp_B D cy base) (hp_A base)) 0 0 (hp_A base) := by
  refine Met.ofW (cc := cX0_hang) (maxL := 2) (ret := none) (by decide) rfl ?_
  intro p e s m args below meth c s₁ B hml hv
  obtain ⟨rfl, hf, C0⟩ := hv
  have hx := B.exec
  have hb := B.bytes
  have hr := B.returns
  have hts := atoms_spec (ws := wsX0_hang) B.pre
  have hown : s.vm.findClass RX0 = some m.cls := findClass_of_methodNamed B.named
  have hlocks := B.notSynchronized
  have hin0 : ∀ w ∈ wsX00, w ∈ wsX0_hang := by decide +kernel
  have hS : va_S (hp_A base) s.heap s.heap [] := va_S.rf
  have hl := lv_entry ([.ref a, .ref a2]) (n := 2) (Nat.le_of_ble_eq_true rfl)
  rw [lg_entry_eq]
  generalize (lg_sl ([.ref a, .ref a2]) ++ List.replicate (2 - (lg_sl ([.ref a, .ref a2])).length) Slot.unset).toArray = ls at hl ⊢
  have hl : lv_has ls 2 [(0, .ref a), (1, .ref a2)] := hl
  refine lv_aload_n hx hb dX0_hang_0 rfl (lv_at hl 0 rfl) ?_
  refine lv_aload_n hx hb dX0_hang_1 rfl (lv_at hl 1 rfl) ?_
  refine hp_get (ci := 0) (v := .int b2) (C := RX0) (T := TX0) (N := 6) hx hb hts hin0 hown C0 hf ha2 rfl 0 (by decide) (hts (.fieldLink RX0 9 "RouteTrie$Node" "bits" "I") (by decide +kernel)) (fun _ h9 => h9) rfl dX0_hang_2 ?_
  refine hp_ki (hp_rV (C := RX0) (As := [.int b2]) (rest := []) ⟨hx, hb, hml, hown, hts⟩ C0 hf hS (c_X0_goesToOne l D cy base f a b n h r0 z o b2 ha) (cwV 1 hts gX0_hang_X0_goesToOne rfl rfl rfl (by decide +kernel) ⟨Nat.le_of_ble_eq_true rfl, Nat.le_of_ble_eq_true rfl⟩) ha rfl rfl hl.1 rfl (Nat.le_of_ble_eq_true rfl) dX0_hang_5 ⟨Nat.le_of_ble_eq_true rfl, Nat.le_of_ble_eq_true rfl⟩) hS (fun r_1 u_1 H locs hq_1 hf hS => ?_)
  obtain ⟨hg, hu⟩ := hq_1
  rw [hu] at hf
  refine lv_if_eq (tgt := 19) hx hb dX0_hang_8 (by decide) (fun h8 => ?_) (fun h8 => ?_)
  · refine lv_aload_n hx hb dX0_hang_19 rfl (lv_at hl 0 rfl) ?_
    refine lv_aload_n hx hb dX0_hang_20 rfl (lv_at hl 1 rfl) ?_
    refine hp_put (ci := 0) (v := .ref a2) (C := RX0) (T := TX0) (N := 6) hx hb hts hin0 tyX0 tyX0_ok nmX0 hown C0 hf hS ha rfl 4 (by decide) (hts (.fieldLink RX0 36 "RouteTrie$Node" "zero" "LRouteTrie$Node;") (by decide +kernel)) (fun _ h9 => h9) rfl rfl rfl (Nat.le_of_ble_eq_true rfl) dX0_hang_21 (fun f_2 H locs ef_2 hf hS => ?_)
    have hc_2 : f_2 a = some (.inr (0, [.int b, .int n, .int h, .int r0, .ref a2, va_rf o])) := by rw [ef_2]; exact va_up_self _ _ _
    exact hp_vret hx hb hr hlocks C0 hf hS (by first | exact Nat.le_refl _ | omega) (by first | exact Nat.le_refl _ | omega) dX0_hang_24 (Or.inr ⟨hg.elim (fun h => absurd h8 (by rw [h.1]; decide)) (fun h => h.2), ef_2⟩)
  · refine lv_aload_n hx hb dX0_hang_11 rfl (lv_at hl 0 rfl) ?_
    refine lv_aload_n hx hb dX0_hang_12 rfl (lv_at hl 1 rfl) ?_
    refine hp_put (ci := 0) (v := .ref a2) (C := RX0) (T := TX0) (N := 6) hx hb hts hin0 tyX0 tyX0_ok nmX0 hown C0 hf hS ha rfl 5 (by decide) (hts (.fieldLink RX0 32 "RouteTrie$Node" "one" "LRouteTrie$Node;") (by decide +kernel)) (fun _ h9 => h9) rfl rfl rfl (Nat.le_of_ble_eq_true rfl) dX0_hang_13 (fun f_3 H locs ef_3 hf hS => ?_)
    have hc_3 : f_3 a = some (.inr (0, [.int b, .int n, .int h, .int r0, va_rf z, .ref a2])) := by rw [ef_3]; exact va_up_self _ _ _
    refine lv_goto (tgt := 24) hx hb dX0_hang_16 (by decide) ?_
    exact hp_vret hx hb hr hlocks C0 hf hS (by first | exact Nat.le_refl _ | omega) (by first | exact Nat.le_refl _ | omega) dX0_hang_24 (Or.inl ⟨hg.elim (fun h => h.2) (fun h => absurd h.1 h8), ef_3⟩)
set_option maxHeartbeats 4000000 in
set_option maxRecDepth 100000 in
theorem c_X0_replace_none (l : Launch) (D : va_G) (cy : ClassId) (base : Nat) (f : AH) (a : Nat) (b n h r0 : Int32) (z o : Option Nat) (a2 : Nat) (ha : f a = some (ndE b n h r0 z o)) : Met l yX0_replace wsX0_replace ({ frames := 0, cells := 0, slots := 0, locals := 0 }) (va_Pc [.ref a, .ref a2, .null] (hp_B D cy base f)) (va_Qv (fun (u : AH) => ((o = some a2 ∧ u = va_up f a (some (ndE b n h r0 z none))) ∨ (¬ o = some a2 ∧ u = va_up f a (some (ndE b n h r0 none o))))) (hp_B D cy base) (hp_A base)) 0 0 (hp_A base) := by
  refine Met.ofW (cc := cX0_replace) (maxL := 3) (ret := none) (by decide) rfl ?_
  intro p e s m args below meth c s₁ B hml hv
  obtain ⟨rfl, hf, C0⟩ := hv
  have hx := B.exec
  have hb := B.bytes
  have hr := B.returns
  have hts := atoms_spec (ws := wsX0_replace) B.pre
  have hown : s.vm.findClass RX0 = some m.cls := findClass_of_methodNamed B.named
  have hlocks := B.notSynchronized
  have hin0 : ∀ w ∈ wsX00, w ∈ wsX0_replace := by decide +kernel
  have hS : va_S (hp_A base) s.heap s.heap [] := va_S.rf
  have hl := lv_entry ([.ref a, .ref a2, .null]) (n := 3) (Nat.le_of_ble_eq_true rfl)
  rw [lg_entry_eq]
  generalize (lg_sl ([.ref a, .ref a2, .null]) ++ List.replicate (3 - (lg_sl ([.ref a, .ref a2, .null])).length) Slot.unset).toArray = ls at hl ⊢
  have hl : lv_has ls 3 [(0, .ref a), (1, .ref a2), (2, .null)] := hl
  refine lv_aload_n hx hb dX0_replace_0 rfl (lv_at hl 0 rfl) ?_
  refine hp_get (ci := 0) (v := va_rf o) (C := RX0) (T := TX0) (N := 6) hx hb hts hin0 hown C0 hf ha rfl 5 (by decide) (hts (.fieldLink RX0 32 "RouteTrie$Node" "one" "LRouteTrie$Node;") (by decide +kernel)) (fun _ h9 => h9) rfl dX0_replace_1 ?_
  refine lv_aload_n hx hb dX0_replace_4 rfl (lv_at hl 1 rfl) ?_
  refine lv_acmp_ne (rx := o) (ry := some a2) (tgt := 16) hx hb dX0_replace_5 (by decide) (fun h5 => ?_) (fun h5 => ?_)
  · refine lv_aload_n hx hb dX0_replace_16 rfl (lv_at hl 0 rfl) ?_
    refine lv_aload_nN hx hb dX0_replace_17 rfl (lv_at hl 2 rfl) ?_
    refine hp_put (ci := 0) (v := .null) (C := RX0) (T := TX0) (N := 6) hx hb hts hin0 tyX0 tyX0_ok nmX0 hown C0 hf hS ha rfl 4 (by decide) (hts (.fieldLink RX0 36 "RouteTrie$Node" "zero" "LRouteTrie$Node;") (by decide +kernel)) (fun _ h9 => h9) rfl rfl rfl (Nat.le_of_ble_eq_true rfl) dX0_replace_18 (fun f_1 H locs ef_1 hf hS => ?_)
    have hc_1 : f_1 a = some (.inr (0, [.int b, .int n, .int h, .int r0, .null, va_rf o])) := by rw [ef_1]; exact va_up_self _ _ _
    exact hp_vret hx hb hr hlocks C0 hf hS (by first | exact Nat.le_refl _ | omega) (by first | exact Nat.le_refl _ | omega) dX0_replace_21 (Or.inr ⟨h5, ef_1⟩)
  · refine lv_aload_n hx hb dX0_replace_8 rfl (lv_at hl 0 rfl) ?_
    refine lv_aload_nN hx hb dX0_replace_9 rfl (lv_at hl 2 rfl) ?_
    refine hp_put (ci := 0) (v := .null) (C := RX0) (T := TX0) (N := 6) hx hb hts hin0 tyX0 tyX0_ok nmX0 hown C0 hf hS ha rfl 5 (by decide) (hts (.fieldLink RX0 32 "RouteTrie$Node" "one" "LRouteTrie$Node;") (by decide +kernel)) (fun _ h9 => h9) rfl rfl rfl (Nat.le_of_ble_eq_true rfl) dX0_replace_10 (fun f_2 H locs ef_2 hf hS => ?_)
    have hc_2 : f_2 a = some (.inr (0, [.int b, .int n, .int h, .int r0, va_rf z, .null])) := by rw [ef_2]; exact va_up_self _ _ _
    refine lv_goto (tgt := 21) hx hb dX0_replace_13 (by decide) ?_
    exact hp_vret hx hb hr hlocks C0 hf hS (by first | exact Nat.le_refl _ | omega) (by first | exact Nat.le_refl _ | omega) dX0_replace_21 (Or.inl ⟨h5, ef_2⟩)
set_option maxHeartbeats 4000000 in
set_option maxRecDepth 100000 in
theorem c_X0_replace_some (l : Launch) (D : va_G) (cy : ClassId) (base : Nat) (f : AH) (a : Nat) (b n h r0 : Int32) (z o : Option Nat) (a2 : Nat) (a3 : Nat) (ha : f a = some (ndE b n h r0 z o)) : Met l yX0_replace wsX0_replace ({ frames := 0, cells := 0, slots := 0, locals := 0 }) (va_Pc [.ref a, .ref a2, .ref a3] (hp_B D cy base f)) (va_Qv (fun (u : AH) => ((o = some a2 ∧ u = va_up f a (some (ndE b n h r0 z (some a3)))) ∨ (¬ o = some a2 ∧ u = va_up f a (some (ndE b n h r0 (some a3) o))))) (hp_B D cy base) (hp_A base)) 0 0 (hp_A base) := by
  refine Met.ofW (cc := cX0_replace) (maxL := 3) (ret := none) (by decide) rfl ?_
  intro p e s m args below meth c s₁ B hml hv
  obtain ⟨rfl, hf, C0⟩ := hv
  have hx := B.exec
  have hb := B.bytes
  have hr := B.returns
  have hts := atoms_spec (ws := wsX0_replace) B.pre
  have hown : s.vm.findClass RX0 = some m.cls := findClass_of_methodNamed B.named
  have hlocks := B.notSynchronized
  have hin0 : ∀ w ∈ wsX00, w ∈ wsX0_replace := by decide +kernel
  have hS : va_S (hp_A base) s.heap s.heap [] := va_S.rf
  have hl := lv_entry ([.ref a, .ref a2, .ref a3]) (n := 3) (Nat.le_of_ble_eq_true rfl)
  rw [lg_entry_eq]
  generalize (lg_sl ([.ref a, .ref a2, .ref a3]) ++ List.replicate (3 - (lg_sl ([.ref a, .ref a2, .ref a3])).length) Slot.unset).toArray = ls at hl ⊢
  have hl : lv_has ls 3 [(0, .ref a), (1, .ref a2), (2, .ref a3)] := hl
  refine lv_aload_n hx hb dX0_replace_0 rfl (lv_at hl 0 rfl) ?_
  refine hp_get (ci := 0) (v := va_rf o) (C := RX0) (T := TX0) (N := 6) hx hb hts hin0 hown C0 hf ha rfl 5 (by decide) (hts (.fieldLink RX0 32 "RouteTrie$Node" "one" "LRouteTrie$Node;") (by decide +kernel)) (fun _ h9 => h9) rfl dX0_replace_1 ?_
  refine lv_aload_n hx hb dX0_replace_4 rfl (lv_at hl 1 rfl) ?_
  refine lv_acmp_ne (rx := o) (ry := some a2) (tgt := 16) hx hb dX0_replace_5 (by decide) (fun h5 => ?_) (fun h5 => ?_)
  · refine lv_aload_n hx hb dX0_replace_16 rfl (lv_at hl 0 rfl) ?_
    refine lv_aload_n hx hb dX0_replace_17 rfl (lv_at hl 2 rfl) ?_
    refine hp_put (ci := 0) (v := .ref a3) (C := RX0) (T := TX0) (N := 6) hx hb hts hin0 tyX0 tyX0_ok nmX0 hown C0 hf hS ha rfl 4 (by decide) (hts (.fieldLink RX0 36 "RouteTrie$Node" "zero" "LRouteTrie$Node;") (by decide +kernel)) (fun _ h9 => h9) rfl rfl rfl (Nat.le_of_ble_eq_true rfl) dX0_replace_18 (fun f_1 H locs ef_1 hf hS => ?_)
    have hc_1 : f_1 a = some (.inr (0, [.int b, .int n, .int h, .int r0, .ref a3, va_rf o])) := by rw [ef_1]; exact va_up_self _ _ _
    exact hp_vret hx hb hr hlocks C0 hf hS (by first | exact Nat.le_refl _ | omega) (by first | exact Nat.le_refl _ | omega) dX0_replace_21 (Or.inr ⟨h5, ef_1⟩)
  · refine lv_aload_n hx hb dX0_replace_8 rfl (lv_at hl 0 rfl) ?_
    refine lv_aload_n hx hb dX0_replace_9 rfl (lv_at hl 2 rfl) ?_
    refine hp_put (ci := 0) (v := .ref a3) (C := RX0) (T := TX0) (N := 6) hx hb hts hin0 tyX0 tyX0_ok nmX0 hown C0 hf hS ha rfl 5 (by decide) (hts (.fieldLink RX0 32 "RouteTrie$Node" "one" "LRouteTrie$Node;") (by decide +kernel)) (fun _ h9 => h9) rfl rfl rfl (Nat.le_of_ble_eq_true rfl) dX0_replace_10 (fun f_2 H locs ef_2 hf hS => ?_)
    have hc_2 : f_2 a = some (.inr (0, [.int b, .int n, .int h, .int r0, va_rf z, .ref a3])) := by rw [ef_2]; exact va_up_self _ _ _
    refine lv_goto (tgt := 21) hx hb dX0_replace_13 (by decide) ?_
    exact hp_vret hx hb hr hlocks C0 hf hS (by first | exact Nat.le_refl _ | omega) (by first | exact Nat.le_refl _ | omega) dX0_replace_21 (Or.inl ⟨h5, ef_2⟩)
set_option maxHeartbeats 4000000 in
set_option maxRecDepth 100000 in
theorem c_X0_init (l : Launch) (D : va_G) (cy : ClassId) (base : Nat) (f : AH) (a : Nat) (b n h : Int32) (ha : f a = some (.inr (0, [.int 0, .int 0, .int 0, .int 0, .null, .null]))) : Met l yX0_init wsX0_init ({ frames := 1, cells := 0, slots := 0, locals := 12 }) (va_Pc [.ref a, .int b, .int n, .int h] (hp_B D cy base f)) (va_Qv (fun (u : AH) => u = va_up f a (some (ndE b n h (if h = -1 then 0 else 1) none none))) (hp_B D cy base) (hp_A base)) 0 0 (hp_A base) := by
  refine Met.ofW (cc := cX0_init) (maxL := 4) (ret := none) (by decide) rfl ?_
  intro p e s m args below meth c s₁ B hml hv
  obtain ⟨rfl, hf, C0⟩ := hv
  have hx := B.exec
  have hb := B.bytes
  have hr := B.returns
  have hts := atoms_spec (ws := wsX0_init) B.pre
  have hown : s.vm.findClass RX0 = some m.cls := findClass_of_methodNamed B.named
  have hlocks := B.notSynchronized
  have hin : meth.name = "<init>" := (name_of_methodNamed B.named B.method).1
  have hin0 : ∀ w ∈ wsX00, w ∈ wsX0_init := by decide +kernel
  have hS : va_S (hp_A base) s.heap s.heap [] := va_S.rf
  have hl := lv_entry ([.ref a, .int b, .int n, .int h]) (n := 4) (Nat.le_of_ble_eq_true rfl)
  rw [lg_entry_eq]
  generalize (lg_sl ([.ref a, .int b, .int n, .int h]) ++ List.replicate (4 - (lg_sl ([.ref a, .int b, .int n, .int h])).length) Slot.unset).toArray = ls at hl ⊢
  have hl : lv_has ls 4 [(0, .ref a), (1, .int b), (2, .int n), (3, .int h)] := hl
  refine lv_aload_n hx hb dX0_init_0 rfl (lv_at hl 0 rfl) ?_
  refine W.objInit hx hb hown (hts (.methodLink RX0 3 objectInit) (by decide +kernel)) (hts (.instanceMethod objectInit) (by decide +kernel)) (hts (.code objectInit ⟨#[0xb1]⟩ 1 none) (by decide +kernel)) rfl (by rw [hml]; exact hl.1) rfl dX0_init_1 (Nat.le_of_ble_eq_true rfl) (Nat.le_of_ble_eq_true rfl) ?_
  refine W.eq (g2 := F0 m 4 ls []) rfl ?_
  refine lv_aload_n hx hb dX0_init_4 rfl (lv_at hl 0 rfl) ?_
  refine lv_iload_n hx hb dX0_init_5 rfl (lv_at hl 1 rfl) ?_
  refine hp_putF (ci := 0) (v := .int b) (C := RX0) (T := TX0) (N := 6) hx hb hts hin0 tyX0 tyX0_ok nmX0 hown C0 hf hS ha rfl 0 (by decide) (hts (.fieldLink RX0 9 "RouteTrie$Node" "bits" "I") (by decide +kernel)) (fun _ h9 => h9) rfl hin rfl rfl rfl (Nat.le_of_ble_eq_true rfl) dX0_init_6 (fun f_1 H locs ef_1 hf hS => ?_)
  have hc_1 : f_1 a = some (.inr (0, [.int b, .int 0, .int 0, .int 0, .null, .null])) := by rw [ef_1]; exact va_up_self _ _ _
  refine lv_aload_n hx hb dX0_init_9 rfl (lv_at hl 0 rfl) ?_
  refine lv_iload_n hx hb dX0_init_10 rfl (lv_at hl 2 rfl) ?_
  refine hp_putF (ci := 0) (v := .int n) (C := RX0) (T := TX0) (N := 6) hx hb hts hin0 tyX0 tyX0_ok nmX0 hown C0 hf hS hc_1 rfl 1 (by decide) (hts (.fieldLink RX0 15 "RouteTrie$Node" "len" "I") (by decide +kernel)) (fun _ h9 => h9) rfl hin rfl rfl rfl (Nat.le_of_ble_eq_true rfl) dX0_init_11 (fun f_2 H locs ef_2 hf hS => ?_)
  have hc_2 : f_2 a = some (.inr (0, [.int b, .int n, .int 0, .int 0, .null, .null])) := by rw [ef_2]; exact va_up_self _ _ _
  refine lv_aload_n hx hb dX0_init_14 rfl (lv_at hl 0 rfl) ?_
  refine lv_iload_n hx hb dX0_init_15 rfl (lv_at hl 3 rfl) ?_
  refine hp_put (ci := 0) (v := .int h) (C := RX0) (T := TX0) (N := 6) hx hb hts hin0 tyX0 tyX0_ok nmX0 hown C0 hf hS hc_2 rfl 2 (by decide) (hts (.fieldLink RX0 18 "RouteTrie$Node" "hop" "I") (by decide +kernel)) (fun _ h9 => h9) rfl rfl rfl (Nat.le_of_ble_eq_true rfl) dX0_init_16 (fun f_3 H locs ef_3 hf hS => ?_)
  have hc_3 : f_3 a = some (.inr (0, [.int b, .int n, .int h, .int 0, .null, .null])) := by rw [ef_3]; exact va_up_self _ _ _
  refine lv_aload_n hx hb dX0_init_19 rfl (lv_at hl 0 rfl) ?_
  refine lv_iload_n hx hb dX0_init_20 rfl (lv_at hl 3 rfl) ?_
  refine lv_iconst (v := (-1)) hx hb dX0_init_21 (by decide) ?_
  refine lv_icmp_ne (tgt := 29) hx hb dX0_init_22 (by decide) (fun h22 => ?_) (fun h22 => ?_)
  · refine lv_iconst (v := 1) hx hb dX0_init_29 (by decide) ?_
    refine hp_put (ci := 0) (v := .int 1) (C := RX0) (T := TX0) (N := 6) hx hb hts hin0 tyX0 tyX0_ok nmX0 hown C0 hf hS hc_3 rfl 3 (by decide) (hts (.fieldLink RX0 21 "RouteTrie$Node" "routes" "I") (by decide +kernel)) (fun _ h9 => h9) rfl rfl rfl (Nat.le_of_ble_eq_true rfl) dX0_init_30 (fun f_4 H locs ef_4 hf hS => ?_)
    have hc_4 : f_4 a = some (.inr (0, [.int b, .int n, .int h, .int 1, .null, .null])) := by rw [ef_4]; exact va_up_self _ _ _
    exact hp_vret hx hb hr hlocks C0 hf hS (by first | exact Nat.le_refl _ | omega) (by first | exact Nat.le_refl _ | omega) dX0_init_33 (by rw [ef_4, ef_3, ef_2, ef_1, bx_uu, bx_uu, bx_uu]; simp only [if_neg h22]; rfl)
  · refine lv_iconst (v := 0) hx hb dX0_init_25 (by decide) ?_
    refine lv_goto (tgt := 30) hx hb dX0_init_26 (by decide) ?_
    refine hp_put (ci := 0) (v := .int 0) (C := RX0) (T := TX0) (N := 6) hx hb hts hin0 tyX0 tyX0_ok nmX0 hown C0 hf hS hc_3 rfl 3 (by decide) (hts (.fieldLink RX0 21 "RouteTrie$Node" "routes" "I") (by decide +kernel)) (fun _ h9 => h9) rfl rfl rfl (Nat.le_of_ble_eq_true rfl) dX0_init_30 (fun f_5 H locs ef_5 hf hS => ?_)
    have hc_5 : f_5 a = some (.inr (0, [.int b, .int n, .int h, .int 0, .null, .null])) := by rw [ef_5]; exact va_up_self _ _ _
    exact hp_vret hx hb hr hlocks C0 hf hS (by first | exact Nat.le_refl _ | omega) (by first | exact Nat.le_refl _ | omega) dX0_init_33 (by rw [ef_5, ef_3, ef_2, ef_1, bx_uu, bx_uu, bx_uu]; simp only [if_pos h22]; rfl)
