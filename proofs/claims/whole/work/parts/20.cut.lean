/-! dropIfIdle, cut, remove -/
set_option maxHeartbeats 4000000 in
set_option maxRecDepth 100000 in
theorem c_X1_drop_0n (l : Launch) (D : va_G) (cy : ClassId) (base : Nat) (f : AH) (q : Nat)  : Met l yX1_dropIfIdle wsX1_dropIfIdle ({ frames := 1, cells := 0, slots := 0, locals := 22 }) (va_Pc [.ref q, .null, .null] (hp_B D cy base f)) (va_Qv (fun (u : AH) => u = f) (hp_B D cy base) (hp_A base)) 0 0 (hp_A base) := by
  refine Met.ofW (cc := cX1_dropIfIdle) (maxL := 3) (ret := none) (by decide) rfl ?_
  intro p e s m args below meth c s₁ B hml hv
  obtain ⟨rfl, hf, C0⟩ := hv
  have hx := B.exec
  have hb := B.bytes
  have hr := B.returns
  have hts := atoms_spec (ws := wsX1_dropIfIdle) B.pre
  have hown : s.vm.findClass RX1 = some m.cls := findClass_of_methodNamed B.named
  have hlocks := B.notSynchronized
  have hS : va_S (hp_A base) s.heap s.heap [] := va_S.rf
  have hl := lv_entry ([.ref q, .null, .null]) (n := 3) (Nat.le_of_ble_eq_true rfl)
  rw [lg_entry_eq]
  generalize (lg_sl ([.ref q, .null, .null]) ++ List.replicate (3 - (lg_sl ([.ref q, .null, .null])).length) Slot.unset).toArray = ls at hl ⊢
  have hl : lv_has ls 3 [(0, .ref q), (1, .null), (2, .null)] := hl
  refine lv_aload_nN hx hb dX1_dropIfIdle_0 rfl (lv_at hl 1 rfl) ?_
  refine lv_ifnullN (tgt := 15) hx hb dX1_dropIfIdle_1 (by decide) ?_
  exact hp_vret hx hb hr hlocks C0 hf hS (by first | exact Nat.le_refl _ | omega) (by first | exact Nat.le_refl _ | omega) dX1_dropIfIdle_15 (rfl)
set_option maxHeartbeats 4000000 in
set_option maxRecDepth 100000 in
theorem c_X1_drop_0s (l : Launch) (D : va_G) (cy : ClassId) (base : Nat) (f : AH) (q g : Nat)  : Met l yX1_dropIfIdle wsX1_dropIfIdle ({ frames := 1, cells := 0, slots := 0, locals := 22 }) (va_Pc [.ref q, .null, .ref g] (hp_B D cy base f)) (va_Qv (fun (u : AH) => u = f) (hp_B D cy base) (hp_A base)) 0 0 (hp_A base) := by
  refine Met.ofW (cc := cX1_dropIfIdle) (maxL := 3) (ret := none) (by decide) rfl ?_
  intro p e s m args below meth c s₁ B hml hv
  obtain ⟨rfl, hf, C0⟩ := hv
  have hx := B.exec
  have hb := B.bytes
  have hr := B.returns
  have hts := atoms_spec (ws := wsX1_dropIfIdle) B.pre
  have hown : s.vm.findClass RX1 = some m.cls := findClass_of_methodNamed B.named
  have hlocks := B.notSynchronized
  have hS : va_S (hp_A base) s.heap s.heap [] := va_S.rf
  have hl := lv_entry ([.ref q, .null, .ref g]) (n := 3) (Nat.le_of_ble_eq_true rfl)
  rw [lg_entry_eq]
  generalize (lg_sl ([.ref q, .null, .ref g]) ++ List.replicate (3 - (lg_sl ([.ref q, .null, .ref g])).length) Slot.unset).toArray = ls at hl ⊢
  have hl : lv_has ls 3 [(0, .ref q), (1, .null), (2, .ref g)] := hl
  refine lv_aload_nN hx hb dX1_dropIfIdle_0 rfl (lv_at hl 1 rfl) ?_
  refine lv_ifnullN (tgt := 15) hx hb dX1_dropIfIdle_1 (by decide) ?_
  exact hp_vret hx hb hr hlocks C0 hf hS (by first | exact Nat.le_refl _ | omega) (by first | exact Nat.le_refl _ | omega) dX1_dropIfIdle_15 (rfl)
set_option maxHeartbeats 4000000 in
set_option maxRecDepth 100000 in
theorem c_X1_drop (l : Launch) (D : va_G) (cy : ClassId) (base : Nat) (f : AH) (q root : Nat) (cnt : Int32) (p1 : Nat) (pb0 pn ph pr : Int32) (pz po : Option Nat) (g : Nat) (gb gn gh gr : Int32) (gz go : Option Nat) (hq : f q = some (trO root cnt)) (hp1 : f p1 = some (ndE pb0 pn ph pr pz po)) (hg : f g = some (ndE gb gn gh gr gz go)) (hne : p1 ≠ g) : Met l yX1_dropIfIdle wsX1_dropIfIdle ({ frames := 1, cells := 0, slots := 0, locals := 22 }) (va_Pc [.ref q, .ref p1, .ref g] (hp_B D cy base f)) (va_Qv (fun (u : AH) => DRp f q root cnt p1 pb0 pn ph pr pz po g gh gz go u) (hp_B D cy base) (hp_A base)) 0 0 (hp_A base) := by
  refine Met.ofW (cc := cX1_dropIfIdle) (maxL := 3) (ret := none) (by decide) rfl ?_
  intro p e s m args below meth c s₁ B hml hv
  obtain ⟨rfl, hf, C0⟩ := hv
  have hx := B.exec
  have hb := B.bytes
  have hr := B.returns
  have hts := atoms_spec (ws := wsX1_dropIfIdle) B.pre
  have hown : s.vm.findClass RX1 = some m.cls := findClass_of_methodNamed B.named
  have hlocks := B.notSynchronized
  have hin0 : ∀ w ∈ wsX00, w ∈ wsX1_dropIfIdle := by decide +kernel
  have hin1 : ∀ w ∈ wsX10, w ∈ wsX1_dropIfIdle := by decide +kernel
  have hS : va_S (hp_A base) s.heap s.heap [] := va_S.rf
  have hl := lv_entry ([.ref q, .ref p1, .ref g]) (n := 3) (Nat.le_of_ble_eq_true rfl)
  rw [lg_entry_eq]
  generalize (lg_sl ([.ref q, .ref p1, .ref g]) ++ List.replicate (3 - (lg_sl ([.ref q, .ref p1, .ref g])).length) Slot.unset).toArray = ls at hl ⊢
  have hl : lv_has ls 3 [(0, .ref q), (1, .ref p1), (2, .ref g)] := hl
  refine lv_aload_n hx hb dX1_dropIfIdle_0 rfl (lv_at hl 1 rfl) ?_
  refine lv_ifnull hx hb dX1_dropIfIdle_1 ?_
  refine lv_aload_n hx hb dX1_dropIfIdle_4 rfl (lv_at hl 2 rfl) ?_
  refine lv_ifnull hx hb dX1_dropIfIdle_5 ?_
  refine lv_aload_n hx hb dX1_dropIfIdle_8 rfl (lv_at hl 2 rfl) ?_
  refine hp_ki (hp_rVN (C := RX0) (As := []) (rest := []) ⟨hx, hb, hml, hown, hts⟩ C0 hf hS (c_X0_isRoute l D cy base f g gb gn gh gr gz go hg) ⟨va_cnB (host := RX1) (index := 87) 0 hts gX1_dropIfIdle_X0_isRoute_n87 rfl rfl rfl (C0.2.2 _ (by decide +kernel)) (hts (.initialized RX0) (by decide +kernel)) (by decide +kernel) ⟨Nat.le_of_ble_eq_true rfl, Nat.le_of_ble_eq_true rfl⟩, hts (.instanceMethod yX0_isRoute) (by decide +kernel), hts (.selects RX0 yX0_isRoute yX0_isRoute) (by decide +kernel)⟩ hg rfl rfl hl.1 rfl (Nat.le_of_ble_eq_true rfl) dX1_dropIfIdle_9 ⟨Nat.le_of_ble_eq_true rfl, Nat.le_of_ble_eq_true rfl⟩) hS (fun r_1 u_1 H locs hq_1 hf hS => ?_)
  obtain ⟨hr_1, hu⟩ := hq_1
  rw [hu] at hf
  have hir : r_1 = 0 ↔ gh = -1 := by rw [hr_1]; split <;> simp_all
  refine lv_if_eq (tgt := 16) hx hb dX1_dropIfIdle_12 (by decide) (fun h12 => ?_) (fun h12 => ?_)
  · refine lv_aload_n hx hb dX1_dropIfIdle_16 rfl (lv_at hl 2 rfl) ?_
    refine hp_getN (ci := 0) (v := va_rf gz) (own := RX1) (ref := RX0) (host := RX1) (index := 28) (C := RX0) (T := TX0) (N := 6) hx hb hts hin0 hown C0 hf hg rfl 4 (by decide) (by decide +kernel) (fun _ h9 => h9) rfl dX1_dropIfIdle_17 ?_
    refine hp_ifnullq (tgt := 31) (r := gz) hx hb dX1_dropIfIdle_20 (by decide) (fun h20 => ?_) (fun x20 h20 => ?_)
    · subst h20
      refine lv_aload_n hx hb dX1_dropIfIdle_31 rfl (lv_at hl 1 rfl) ?_
      refine lv_aload_n hx hb dX1_dropIfIdle_32 rfl (lv_at hl 2 rfl) ?_
      refine lv_aload_n hx hb dX1_dropIfIdle_33 rfl (lv_at hl 2 rfl) ?_
      refine hp_getN (ci := 0) (v := .null) (own := RX1) (ref := RX0) (host := RX1) (index := 28) (C := RX0) (T := TX0) (N := 6) hx hb hts hin0 hown C0 hf hg rfl 4 (by decide) (by decide +kernel) (fun _ h9 => h9) rfl dX1_dropIfIdle_34 ?_
      refine lv_ifnullN (tgt := 47) hx hb dX1_dropIfIdle_37 (by decide) ?_
      refine lv_aload_n hx hb dX1_dropIfIdle_47 rfl (lv_at hl 2 rfl) ?_
      refine hp_getN (ci := 0) (v := va_rf go) (own := RX1) (ref := RX0) (host := RX1) (index := 31) (C := RX0) (T := TX0) (N := 6) hx hb hts hin0 hown C0 hf hg rfl 5 (by decide) (by decide +kernel) (fun _ h9 => h9) rfl dX1_dropIfIdle_48 ?_
      rcases go with _ | o1
      · refine hp_kv (hp_rVN (C := RX0) (As := [.ref g, .null]) (rest := []) ⟨hx, hb, hml, hown, hts⟩ C0 hf hS (c_X0_replace_none l D cy base f p1 pb0 pn ph pr pz po g hp1) ⟨va_cnB (host := RX1) (index := 110) 2 hts gX1_dropIfIdle_X0_replace_n110 rfl rfl rfl (C0.2.2 _ (by decide +kernel)) (hts (.initialized RX0) (by decide +kernel)) (by decide +kernel) ⟨Nat.le_of_ble_eq_true rfl, Nat.le_of_ble_eq_true rfl⟩, hts (.instanceMethod yX0_replace) (by decide +kernel), hts (.selects RX0 yX0_replace yX0_replace) (by decide +kernel)⟩ hp1 rfl rfl hl.1 rfl (Nat.le_of_ble_eq_true rfl) dX1_dropIfIdle_51 ⟨Nat.le_of_ble_eq_true rfl, Nat.le_of_ble_eq_true rfl⟩) hS (fun u_2 H locs hq_2 hf hS => ?_)
        rcases hq_2 with ⟨dr, er⟩ | ⟨dr, er⟩
        · have npq : p1 ≠ q := hp_dif hp1 hq (by simp)
          have kq : u_2 q = some (trO root cnt) := by rw [er, va_up_ne _ _ (Ne.symm npq)]; exact hq
          refine lv_aload_n hx hb dX1_dropIfIdle_54 rfl (lv_at hl 0 rfl) ?_
          refine lv_dup hx hb dX1_dropIfIdle_55 rfl ?_
          refine hp_get (ci := 1) (v := .int cnt) (C := RX1) (T := TX1) (N := 2) hx hb hts hin1 hown C0 hf kq rfl 1 (by decide) (hts (.fieldLink RX1 18 "RouteTrie" "nodeCount" "I") (by decide +kernel)) (fun _ h9 => h9) rfl dX1_dropIfIdle_56 ?_
          refine lv_iconst (v := 1) hx hb dX1_dropIfIdle_59 (by decide) ?_
          refine lv_isub hx hb dX1_dropIfIdle_60 ?_
          refine hp_put (ci := 1) (v := .int (cnt - 1)) (C := RX1) (T := TX1) (N := 2) hx hb hts hin1 tyX1 tyX1_ok nmX1 hown C0 hf hS kq rfl 1 (by decide) (hts (.fieldLink RX1 18 "RouteTrie" "nodeCount" "I") (by decide +kernel)) (fun _ h9 => h9) rfl rfl rfl (Nat.le_of_ble_eq_true rfl) dX1_dropIfIdle_61 (fun f_3 H locs ef_3 hf hS => ?_)
          have hc_3 : f_3 q = some (.inr (1, [.ref root, .int (cnt - 1)])) := by rw [ef_3]; exact va_up_self _ _ _
          exact hp_vret hx hb hr hlocks C0 hf hS (by first | exact Nat.le_refl _ | omega) (by first | exact Nat.le_refl _ | omega) dX1_dropIfIdle_64 (Or.inr ⟨hir.mp h12, Or.inl rfl, Or.inl ⟨dr, by rw [ef_3, er]; rfl⟩⟩)
        · have npq : p1 ≠ q := hp_dif hp1 hq (by simp)
          have kq : u_2 q = some (trO root cnt) := by rw [er, va_up_ne _ _ (Ne.symm npq)]; exact hq
          refine lv_aload_n hx hb dX1_dropIfIdle_54 rfl (lv_at hl 0 rfl) ?_
          refine lv_dup hx hb dX1_dropIfIdle_55 rfl ?_
          refine hp_get (ci := 1) (v := .int cnt) (C := RX1) (T := TX1) (N := 2) hx hb hts hin1 hown C0 hf kq rfl 1 (by decide) (hts (.fieldLink RX1 18 "RouteTrie" "nodeCount" "I") (by decide +kernel)) (fun _ h9 => h9) rfl dX1_dropIfIdle_56 ?_
          refine lv_iconst (v := 1) hx hb dX1_dropIfIdle_59 (by decide) ?_
          refine lv_isub hx hb dX1_dropIfIdle_60 ?_
          refine hp_put (ci := 1) (v := .int (cnt - 1)) (C := RX1) (T := TX1) (N := 2) hx hb hts hin1 tyX1 tyX1_ok nmX1 hown C0 hf hS kq rfl 1 (by decide) (hts (.fieldLink RX1 18 "RouteTrie" "nodeCount" "I") (by decide +kernel)) (fun _ h9 => h9) rfl rfl rfl (Nat.le_of_ble_eq_true rfl) dX1_dropIfIdle_61 (fun f_4 H locs ef_4 hf hS => ?_)
          have hc_4 : f_4 q = some (.inr (1, [.ref root, .int (cnt - 1)])) := by rw [ef_4]; exact va_up_self _ _ _
          exact hp_vret hx hb hr hlocks C0 hf hS (by first | exact Nat.le_refl _ | omega) (by first | exact Nat.le_refl _ | omega) dX1_dropIfIdle_64 (Or.inr ⟨hir.mp h12, Or.inl rfl, Or.inr ⟨dr, by rw [ef_4, er]; rfl⟩⟩)
      · refine hp_kv (hp_rVN (C := RX0) (As := [.ref g, .ref o1]) (rest := []) ⟨hx, hb, hml, hown, hts⟩ C0 hf hS (c_X0_replace_some l D cy base f p1 pb0 pn ph pr pz po g o1 hp1) ⟨va_cnB (host := RX1) (index := 110) 2 hts gX1_dropIfIdle_X0_replace_n110 rfl rfl rfl (C0.2.2 _ (by decide +kernel)) (hts (.initialized RX0) (by decide +kernel)) (by decide +kernel) ⟨Nat.le_of_ble_eq_true rfl, Nat.le_of_ble_eq_true rfl⟩, hts (.instanceMethod yX0_replace) (by decide +kernel), hts (.selects RX0 yX0_replace yX0_replace) (by decide +kernel)⟩ hp1 rfl rfl hl.1 rfl (Nat.le_of_ble_eq_true rfl) dX1_dropIfIdle_51 ⟨Nat.le_of_ble_eq_true rfl, Nat.le_of_ble_eq_true rfl⟩) hS (fun u_5 H locs hq_5 hf hS => ?_)
        rcases hq_5 with ⟨dr, er⟩ | ⟨dr, er⟩
        · have npq : p1 ≠ q := hp_dif hp1 hq (by simp)
          have kq : u_5 q = some (trO root cnt) := by rw [er, va_up_ne _ _ (Ne.symm npq)]; exact hq
          refine lv_aload_n hx hb dX1_dropIfIdle_54 rfl (lv_at hl 0 rfl) ?_
          refine lv_dup hx hb dX1_dropIfIdle_55 rfl ?_
          refine hp_get (ci := 1) (v := .int cnt) (C := RX1) (T := TX1) (N := 2) hx hb hts hin1 hown C0 hf kq rfl 1 (by decide) (hts (.fieldLink RX1 18 "RouteTrie" "nodeCount" "I") (by decide +kernel)) (fun _ h9 => h9) rfl dX1_dropIfIdle_56 ?_
          refine lv_iconst (v := 1) hx hb dX1_dropIfIdle_59 (by decide) ?_
          refine lv_isub hx hb dX1_dropIfIdle_60 ?_
          refine hp_put (ci := 1) (v := .int (cnt - 1)) (C := RX1) (T := TX1) (N := 2) hx hb hts hin1 tyX1 tyX1_ok nmX1 hown C0 hf hS kq rfl 1 (by decide) (hts (.fieldLink RX1 18 "RouteTrie" "nodeCount" "I") (by decide +kernel)) (fun _ h9 => h9) rfl rfl rfl (Nat.le_of_ble_eq_true rfl) dX1_dropIfIdle_61 (fun f_6 H locs ef_6 hf hS => ?_)
          have hc_6 : f_6 q = some (.inr (1, [.ref root, .int (cnt - 1)])) := by rw [ef_6]; exact va_up_self _ _ _
          exact hp_vret hx hb hr hlocks C0 hf hS (by first | exact Nat.le_refl _ | omega) (by first | exact Nat.le_refl _ | omega) dX1_dropIfIdle_64 (Or.inr ⟨hir.mp h12, Or.inl rfl, Or.inl ⟨dr, by rw [ef_6, er]; rfl⟩⟩)
        · have npq : p1 ≠ q := hp_dif hp1 hq (by simp)
          have kq : u_5 q = some (trO root cnt) := by rw [er, va_up_ne _ _ (Ne.symm npq)]; exact hq
          refine lv_aload_n hx hb dX1_dropIfIdle_54 rfl (lv_at hl 0 rfl) ?_
          refine lv_dup hx hb dX1_dropIfIdle_55 rfl ?_
          refine hp_get (ci := 1) (v := .int cnt) (C := RX1) (T := TX1) (N := 2) hx hb hts hin1 hown C0 hf kq rfl 1 (by decide) (hts (.fieldLink RX1 18 "RouteTrie" "nodeCount" "I") (by decide +kernel)) (fun _ h9 => h9) rfl dX1_dropIfIdle_56 ?_
          refine lv_iconst (v := 1) hx hb dX1_dropIfIdle_59 (by decide) ?_
          refine lv_isub hx hb dX1_dropIfIdle_60 ?_
          refine hp_put (ci := 1) (v := .int (cnt - 1)) (C := RX1) (T := TX1) (N := 2) hx hb hts hin1 tyX1 tyX1_ok nmX1 hown C0 hf hS kq rfl 1 (by decide) (hts (.fieldLink RX1 18 "RouteTrie" "nodeCount" "I") (by decide +kernel)) (fun _ h9 => h9) rfl rfl rfl (Nat.le_of_ble_eq_true rfl) dX1_dropIfIdle_61 (fun f_7 H locs ef_7 hf hS => ?_)
          have hc_7 : f_7 q = some (.inr (1, [.ref root, .int (cnt - 1)])) := by rw [ef_7]; exact va_up_self _ _ _
          exact hp_vret hx hb hr hlocks C0 hf hS (by first | exact Nat.le_refl _ | omega) (by first | exact Nat.le_refl _ | omega) dX1_dropIfIdle_64 (Or.inr ⟨hir.mp h12, Or.inl rfl, Or.inr ⟨dr, by rw [ef_7, er]; rfl⟩⟩)
    · subst h20
      refine lv_aload_n hx hb dX1_dropIfIdle_23 rfl (lv_at hl 2 rfl) ?_
      refine hp_getN (ci := 0) (v := va_rf go) (own := RX1) (ref := RX0) (host := RX1) (index := 31) (C := RX0) (T := TX0) (N := 6) hx hb hts hin0 hown C0 hf hg rfl 5 (by decide) (by decide +kernel) (fun _ h9 => h9) rfl dX1_dropIfIdle_24 ?_
      refine hp_ifnullq (tgt := 31) (r := go) hx hb dX1_dropIfIdle_27 (by decide) (fun h27 => ?_) (fun x27 h27 => ?_)
      · subst h27
        refine lv_aload_n hx hb dX1_dropIfIdle_31 rfl (lv_at hl 1 rfl) ?_
        refine lv_aload_n hx hb dX1_dropIfIdle_32 rfl (lv_at hl 2 rfl) ?_
        refine lv_aload_n hx hb dX1_dropIfIdle_33 rfl (lv_at hl 2 rfl) ?_
        refine hp_getN (ci := 0) (v := .ref x20) (own := RX1) (ref := RX0) (host := RX1) (index := 28) (C := RX0) (T := TX0) (N := 6) hx hb hts hin0 hown C0 hf hg rfl 4 (by decide) (by decide +kernel) (fun _ h9 => h9) rfl dX1_dropIfIdle_34 ?_
        refine lv_ifnull hx hb dX1_dropIfIdle_37 ?_
        refine lv_aload_n hx hb dX1_dropIfIdle_40 rfl (lv_at hl 2 rfl) ?_
        refine hp_getN (ci := 0) (v := .ref x20) (own := RX1) (ref := RX0) (host := RX1) (index := 28) (C := RX0) (T := TX0) (N := 6) hx hb hts hin0 hown C0 hf hg rfl 4 (by decide) (by decide +kernel) (fun _ h9 => h9) rfl dX1_dropIfIdle_41 ?_
        refine lv_goto (tgt := 51) hx hb dX1_dropIfIdle_44 (by decide) ?_
        refine hp_kv (hp_rVN (C := RX0) (As := [.ref g, .ref x20]) (rest := []) ⟨hx, hb, hml, hown, hts⟩ C0 hf hS (c_X0_replace_some l D cy base f p1 pb0 pn ph pr pz po g x20 hp1) ⟨va_cnB (host := RX1) (index := 110) 2 hts gX1_dropIfIdle_X0_replace_n110 rfl rfl rfl (C0.2.2 _ (by decide +kernel)) (hts (.initialized RX0) (by decide +kernel)) (by decide +kernel) ⟨Nat.le_of_ble_eq_true rfl, Nat.le_of_ble_eq_true rfl⟩, hts (.instanceMethod yX0_replace) (by decide +kernel), hts (.selects RX0 yX0_replace yX0_replace) (by decide +kernel)⟩ hp1 rfl rfl hl.1 rfl (Nat.le_of_ble_eq_true rfl) dX1_dropIfIdle_51 ⟨Nat.le_of_ble_eq_true rfl, Nat.le_of_ble_eq_true rfl⟩) hS (fun u_8 H locs hq_8 hf hS => ?_)
        rcases hq_8 with ⟨dr, er⟩ | ⟨dr, er⟩
        · have npq : p1 ≠ q := hp_dif hp1 hq (by simp)
          have kq : u_8 q = some (trO root cnt) := by rw [er, va_up_ne _ _ (Ne.symm npq)]; exact hq
          refine lv_aload_n hx hb dX1_dropIfIdle_54 rfl (lv_at hl 0 rfl) ?_
          refine lv_dup hx hb dX1_dropIfIdle_55 rfl ?_
          refine hp_get (ci := 1) (v := .int cnt) (C := RX1) (T := TX1) (N := 2) hx hb hts hin1 hown C0 hf kq rfl 1 (by decide) (hts (.fieldLink RX1 18 "RouteTrie" "nodeCount" "I") (by decide +kernel)) (fun _ h9 => h9) rfl dX1_dropIfIdle_56 ?_
          refine lv_iconst (v := 1) hx hb dX1_dropIfIdle_59 (by decide) ?_
          refine lv_isub hx hb dX1_dropIfIdle_60 ?_
          refine hp_put (ci := 1) (v := .int (cnt - 1)) (C := RX1) (T := TX1) (N := 2) hx hb hts hin1 tyX1 tyX1_ok nmX1 hown C0 hf hS kq rfl 1 (by decide) (hts (.fieldLink RX1 18 "RouteTrie" "nodeCount" "I") (by decide +kernel)) (fun _ h9 => h9) rfl rfl rfl (Nat.le_of_ble_eq_true rfl) dX1_dropIfIdle_61 (fun f_9 H locs ef_9 hf hS => ?_)
          have hc_9 : f_9 q = some (.inr (1, [.ref root, .int (cnt - 1)])) := by rw [ef_9]; exact va_up_self _ _ _
          exact hp_vret hx hb hr hlocks C0 hf hS (by first | exact Nat.le_refl _ | omega) (by first | exact Nat.le_refl _ | omega) dX1_dropIfIdle_64 (Or.inr ⟨hir.mp h12, Or.inr rfl, Or.inl ⟨dr, by rw [ef_9, er]; rfl⟩⟩)
        · have npq : p1 ≠ q := hp_dif hp1 hq (by simp)
          have kq : u_8 q = some (trO root cnt) := by rw [er, va_up_ne _ _ (Ne.symm npq)]; exact hq
          refine lv_aload_n hx hb dX1_dropIfIdle_54 rfl (lv_at hl 0 rfl) ?_
          refine lv_dup hx hb dX1_dropIfIdle_55 rfl ?_
          refine hp_get (ci := 1) (v := .int cnt) (C := RX1) (T := TX1) (N := 2) hx hb hts hin1 hown C0 hf kq rfl 1 (by decide) (hts (.fieldLink RX1 18 "RouteTrie" "nodeCount" "I") (by decide +kernel)) (fun _ h9 => h9) rfl dX1_dropIfIdle_56 ?_
          refine lv_iconst (v := 1) hx hb dX1_dropIfIdle_59 (by decide) ?_
          refine lv_isub hx hb dX1_dropIfIdle_60 ?_
          refine hp_put (ci := 1) (v := .int (cnt - 1)) (C := RX1) (T := TX1) (N := 2) hx hb hts hin1 tyX1 tyX1_ok nmX1 hown C0 hf hS kq rfl 1 (by decide) (hts (.fieldLink RX1 18 "RouteTrie" "nodeCount" "I") (by decide +kernel)) (fun _ h9 => h9) rfl rfl rfl (Nat.le_of_ble_eq_true rfl) dX1_dropIfIdle_61 (fun f_10 H locs ef_10 hf hS => ?_)
          have hc_10 : f_10 q = some (.inr (1, [.ref root, .int (cnt - 1)])) := by rw [ef_10]; exact va_up_self _ _ _
          exact hp_vret hx hb hr hlocks C0 hf hS (by first | exact Nat.le_refl _ | omega) (by first | exact Nat.le_refl _ | omega) dX1_dropIfIdle_64 (Or.inr ⟨hir.mp h12, Or.inr rfl, Or.inr ⟨dr, by rw [ef_10, er]; rfl⟩⟩)
      · subst h27
        exact hp_vret hx hb hr hlocks C0 hf hS (by first | exact Nat.le_refl _ | omega) (by first | exact Nat.le_refl _ | omega) dX1_dropIfIdle_30 (Or.inl ⟨Or.inr ⟨by simp, by simp⟩, rfl⟩)
  · exact hp_vret hx hb hr hlocks C0 hf hS (by first | exact Nat.le_refl _ | omega) (by first | exact Nat.le_refl _ | omega) dX1_dropIfIdle_15 (Or.inl ⟨Or.inl ((not_congr hir).mp h12), rfl⟩)
set_option maxHeartbeats 4000000 in
set_option maxRecDepth 100000 in
theorem c_X1_cut (l : Launch) (D : va_G) (cy : ClassId) (base : Nat) (f : AH) (q : Nat) (N : List Nat) (t : NT) (root g : Nat) (hq : f q = some (trO root (nI N.length))) (hT : TN f N t) (hC : CI N t root) (hgN : g ∈ N) (hgR : isR t g = true) : Met l yX1_cut wsX1_cut ({ frames := 2, cells := 0, slots := 0, locals := 44 }) (va_Pc [.ref q, .ref g] (hp_B D cy base f)) (va_Qv (fun (u : AH) => CP f q N t root g u) (hp_B D cy base) (hp_A base)) 0 0 (hp_A base) := by
  refine Met.ofW (cc := cX1_cut) (maxL := 5) (ret := none) (by decide) rfl ?_
  intro p e s m args below meth c s₁ B hml hv
  obtain ⟨rfl, hf, C0⟩ := hv
  have hx := B.exec
  have hb := B.bytes
  have hr := B.returns
  have hts := atoms_spec (ws := wsX1_cut) B.pre
  have hown : s.vm.findClass RX1 = some m.cls := findClass_of_methodNamed B.named
  have hlocks := B.notSynchronized
  have hin0 : ∀ w ∈ wsX00, w ∈ wsX1_cut := by decide +kernel
  have hin1 : ∀ w ∈ wsX10, w ∈ wsX1_cut := by decide +kernel
  have hS : va_S (hp_A base) s.heap s.heap [] := va_S.rf
  have hl := lv_entry ([.ref q, .ref g]) (n := 5) (Nat.le_of_ble_eq_true rfl)
  rw [lg_entry_eq]
  generalize (lg_sl ([.ref q, .ref g]) ++ List.replicate (5 - (lg_sl ([.ref q, .ref g])).length) Slot.unset).toArray = ls at hl ⊢
  have hl : lv_has ls 5 [(0, .ref q), (1, .ref g)] := hl
  have hst := hC.1
  have loop : ∀ (n a : Nat) (pp gp : Option Nat) (fc : AH) (ls : Array Slot) (H : Heap) (locs : List Loc), a ∈ N → 34 ≤ tL t a + n → tL t a ≤ tL t g → ag (tB t a) (tB t g) (tL t a) → ((a = root ∧ pp = none ∧ gp = none) ∨ ∃ (p0 : Nat) (d : Bool), p0 ∈ N ∧ pp = some p0 ∧ ch t p0 d = some a ∧ ((p0 = root ∧ gp = none) ∨ ∃ (g2 : Nat) (d2 : Bool), g2 ∈ N ∧ gp = some g2 ∧ ch t g2 d2 = some p0)) → fc q = some (trO root (nI N.length)) → TN fc N (dcr t (tB t g) (tL t a)) → FR f fc N q → hp_ok D base fc H → va_S (hp_A base) s.heap H locs → lv_has ls 5 [(0, .ref q), (1, .ref g), (2, va_rf gp), (3, va_rf pp), (4, .ref a)] → W p l e (headSpec wsX1_cut ({ frames := 2, cells := 0, slots := 0, locals := 44 } : Room)).room s m #[Value.ref q, Value.ref g] below meth c H locs 0 0 (MQ below (va_Qv (fun (u : AH) => CP f q N t root g u) (hp_B D cy base) (hp_A base)) #[Value.ref q, Value.ref g] s 0 0 (hp_A base)) (F0 m 10 ls []) := by
    intro n
    induction n with
    | zero => intro a _ _ _ _ _ _ ha z; exact absurd z (by have := (hst.2.2.1 a ha).1; omega)
    | succ n ih =>
      intro a pp gp fc ls H locs ha hm hle hag hPR hqc hTc hFc hf hS hl
      have pa := hst.2.2.1 a ha
      have pg := hst.2.2.1 g hgN
      have hqN := q_notin hqc hTc
      have hca : fc a = some (ndo (t a)) := by rw [hTc a ha, dcr_ge (Nat.le_refl _)]
      have hcg : fc g = some (ndo (t g)) := by rw [hTc g hgN, dcr_ge hle]
      have hra : 0 < tR t a := rout_pos hC.2.1 ha hgN hgR ((pb_iff pa).mpr ⟨hle, hag⟩)
      have hrg : 0 < tR t g := rout_pos hC.2.1 hgN hgN hgR ((pb_iff pg).mpr ⟨Nat.le_refl _, ag_rf⟩)
      refine lv_aload hx hb dX1_cut_10 (lv_at hl 4 rfl) ?_
      refine lv_ifnull hx hb dX1_cut_12 ?_
      refine lv_aload hx hb dX1_cut_15 (lv_at hl 4 rfl) ?_
      refine lv_aload_n hx hb dX1_cut_17 rfl (lv_at hl 1 rfl) ?_
      refine lv_acmp_eq (rx := some a) (ry := some g) (tgt := 51) hx hb dX1_cut_18 (by decide) (fun h18 => ?_) (fun h18 => ?_)
      · have eag : a = g := Option.some.inj h18
        subst eag
        refine lv_aload_n hx hb dX1_cut_51 rfl (lv_at hl 1 rfl) ?_
        refine lv_dup hx hb dX1_cut_52 rfl ?_
        refine hp_getN (ci := 0) (v := .int (nI (tR t a))) (own := RX1) (ref := RX0) (host := RX1) (index := 25) (C := RX0) (T := TX0) (N := 6) hx hb hts hin0 hown C0 hf hca rfl 3 (by decide) (by decide +kernel) (fun _ h9 => h9) rfl dX1_cut_53 ?_
        refine lv_iconst (v := 1) hx hb dX1_cut_56 (by decide) ?_
        refine lv_isub hx hb dX1_cut_57 ?_
        refine hp_putN (ci := 0) (v := .int ((nI (tR t a)) - 1)) (own := RX1) (ref := RX0) (host := RX1) (index := 25) (C := RX0) (T := TX0) (N := 6) hx hb hts hin0 tyX0 tyX0_ok nmX0 hown C0 hf hS hca rfl 3 (by decide) (by decide +kernel) (fun _ h9 => h9) rfl rfl rfl (Nat.le_of_ble_eq_true rfl) dX1_cut_58 (fun f_1 H locs ef_1 hf hS => ?_)
        have hc_1 : f_1 a = some (.inr (0, [.int (tB t a), .int (nI (tL t a)), .int (tH t a), .int ((nI (tR t a)) - 1), va_rf (tZ t a), va_rf (tO t a)])) := by rw [ef_1]; exact va_up_self _ _ _
        have hc_1_q : f_1 q = some (.inr (1, [.ref root, .int (nI N.length)])) := by rw [ef_1, va_up_ne _ _ (hp_dif hqc hca (by simp))]; exact hqc
        refine lv_aload_n hx hb dX1_cut_61 rfl (lv_at hl 1 rfl) ?_
        refine lv_iconst (v := (-1)) hx hb dX1_cut_62 (by decide) ?_
        refine hp_putN (ci := 0) (v := .int (-1)) (own := RX1) (ref := RX0) (host := RX1) (index := 22) (C := RX0) (T := TX0) (N := 6) hx hb hts hin0 tyX0 tyX0_ok nmX0 hown C0 hf hS hc_1 rfl 2 (by decide) (by decide +kernel) (fun _ h9 => h9) rfl rfl rfl (Nat.le_of_ble_eq_true rfl) dX1_cut_63 (fun f_2 H locs ef_2 hf hS => ?_)
        have hc_2 : f_2 a = some (.inr (0, [.int (tB t a), .int (nI (tL t a)), .int (-1), .int ((nI (tR t a)) - 1), va_rf (tZ t a), va_rf (tO t a)])) := by rw [ef_2]; exact va_up_self _ _ _
        have hc_2_q : f_2 q = some (.inr (1, [.ref root, .int (nI N.length)])) := by rw [ef_2, va_up_ne _ _ (hp_dif hc_1_q hc_1 (by simp))]; exact hc_1_q
        obtain ⟨t1, et⟩ : ∃ t1 : NT, t1 = fun y => if y = a then (tB t a, tL t a, (-1 : Int32), tR t a - 1, tZ t a, tO t a) else dcr t (tB t a) (tL t a) y := ⟨_, rfl⟩
        have h1 := cut_T1 (t' := t1) hC ha hgR (fun y _ => by rw [et])
        have t1a : t1 a = (tB t a, tL t a, (-1 : Int32), tR t a - 1, tZ t a, tO t a) := by rw [et]; simp
        have hT1 : TN f_2 N t1 := fun y hy => by
          by_cases e : y = a
          · rw [e, hc_2, t1a, show (1 : Int32) = nI 1 from rfl, pk_sub (by omega)]
          · rw [ef_2, va_up_ne _ _ e, ef_1, va_up_ne _ _ e, et]; simp only [e, if_false]; exact hTc y hy
        have hF1 : FR f f_2 N q := fun b v g1 g2 g3 => by
          have e : b ≠ a := fun e => g2 (e ▸ ha)
          rw [ef_2, va_up_ne _ _ e, ef_1, va_up_ne _ _ e]; exact hFc b v g1 g2 g3
        have hq1 := hc_2_q
        have ech : ∀ y ∈ N, ∀ d, ch t1 y d = ch t y d := fun y hy d => by
          unfold ch; rw [et]; simp only [tO, tZ]
          by_cases e : y = a
          · subst e; simp
          · simp only [e, if_false]; rw [show (dcr t (tB t a) (tL t a) y).2.2.2.2.2 = tO t y from dcr_O t _ _ y, show (dcr t (tB t a) (tL t a) y).2.2.2.2.1 = tZ t y from dcr_Z t _ _ y]
        rcases hPR with ⟨m1, rfl, rfl⟩ | ⟨p0, d, m1, rfl, m3, ⟨m4, rfl⟩ | ⟨g2, d2, m4, rfl, m5⟩⟩
        · have hl : lv_has ls 5 [(0, .ref q), (1, .ref a), (2, .null), (3, .null), (4, .ref a)] := hl
          refine lv_aload_n hx hb dX1_cut_66 rfl (lv_at hl 0 rfl) ?_
          refine lv_aload_nN hx hb dX1_cut_67 rfl (lv_at hl 3 rfl) ?_
          refine lv_aload_n hx hb dX1_cut_68 rfl (lv_at hl 1 rfl) ?_
          refine hp_kv (hp_rV (C := RX1) (As := [.null, .ref a]) (rest := []) ⟨hx, hb, hml, hown, hts⟩ C0 hf hS (c_X1_drop_0s l D cy base f_2 q a) (cwV 2 hts gX1_cut_X1_dropIfIdle rfl rfl rfl (by decide +kernel) ⟨Nat.le_of_ble_eq_true rfl, Nat.le_of_ble_eq_true rfl⟩) hq1 rfl rfl hl.1 rfl (Nat.le_of_ble_eq_true rfl) dX1_cut_69 ⟨Nat.le_of_ble_eq_true rfl, Nat.le_of_ble_eq_true rfl⟩) hS (fun u_3 H locs hq_3 hf hS => ?_)
          rw [hq_3] at hf
          refine lv_aload_n hx hb dX1_cut_72 rfl (lv_at hl 0 rfl) ?_
          refine lv_aload_nN hx hb dX1_cut_73 rfl (lv_at hl 2 rfl) ?_
          refine lv_aload_nN hx hb dX1_cut_74 rfl (lv_at hl 3 rfl) ?_
          refine hp_kv (hp_rV (C := RX1) (As := [.null, .null]) (rest := []) ⟨hx, hb, hml, hown, hts⟩ C0 hf hS (c_X1_drop_0n l D cy base f_2 q) (cwV 2 hts gX1_cut_X1_dropIfIdle rfl rfl rfl (by decide +kernel) ⟨Nat.le_of_ble_eq_true rfl, Nat.le_of_ble_eq_true rfl⟩) hq1 rfl rfl hl.1 rfl (Nat.le_of_ble_eq_true rfl) dX1_cut_75 ⟨Nat.le_of_ble_eq_true rfl, Nat.le_of_ble_eq_true rfl⟩) hS (fun u_4 H locs hq_4 hf hS => ?_)
          have kend := cut_R (u := u_4) hq1 hT1 h1 hF1 m1 hq_4
          exact hp_vret hx hb hr hlocks C0 hf hS (by first | exact Nat.le_refl _ | omega) (by first | exact Nat.le_refl _ | omega) dX1_cut_78 (kend)
        · have hl : lv_has ls 5 [(0, .ref q), (1, .ref a), (2, .null), (3, .ref p0), (4, .ref a)] := hl
          have c1 : ch t1 p0 d = some a := by rw [ech p0 m1]; exact m3
          have npa : p0 ≠ a := fun e => by have := (hst.2.2.2.2.1 p0 m1 d a m3).2.1; rw [e] at this; omega
          refine lv_aload_n hx hb dX1_cut_66 rfl (lv_at hl 0 rfl) ?_
          refine lv_aload_n hx hb dX1_cut_67 rfl (lv_at hl 3 rfl) ?_
          refine lv_aload_n hx hb dX1_cut_68 rfl (lv_at hl 1 rfl) ?_
          refine hp_kv (hp_rV (C := RX1) (As := [.ref p0, .ref a]) (rest := []) ⟨hx, hb, hml, hown, hts⟩ C0 hf hS (c_X1_drop l D cy base f_2 q root (nI N.length) p0 (tB t1 p0) (nI (tL t1 p0)) (tH t1 p0) (nI (tR t1 p0)) (tZ t1 p0) (tO t1 p0) a (tB t1 a) (nI (tL t1 a)) (tH t1 a) (nI (tR t1 a)) (tZ t1 a) (tO t1 a) hq1 (hT1 p0 m1) (hT1 a ha) npa) (cwV 2 hts gX1_cut_X1_dropIfIdle rfl rfl rfl (by decide +kernel) ⟨Nat.le_of_ble_eq_true rfl, Nat.le_of_ble_eq_true rfl⟩) hq1 rfl rfl hl.1 rfl (Nat.le_of_ble_eq_true rfl) dX1_cut_69 ⟨Nat.le_of_ble_eq_true rfl, Nat.le_of_ble_eq_true rfl⟩) hS (fun u_5 H locs hq_5 hf hS => ?_)
          have hqx : ∃ cq : Int32, u_5 q = some (trO root cq) := by
            rcases drop_heap h1.1 h1.2.1 hq1 hT1 ha (fun e => by have := (hst.2.2.2.2.1 p0 m1 d a m3).2.1; rw [e, hst.1.2] at this; omega) m1 c1 hq_5 with ⟨-, z⟩ | ⟨-, t2, -, -, -, -, -, z, -⟩
            · rw [z]; exact ⟨_, hq1⟩
            · exact ⟨_, z⟩
          obtain ⟨cq, hqx⟩ := hqx
          refine lv_aload_n hx hb dX1_cut_72 rfl (lv_at hl 0 rfl) ?_
          refine lv_aload_nN hx hb dX1_cut_73 rfl (lv_at hl 2 rfl) ?_
          refine lv_aload_n hx hb dX1_cut_74 rfl (lv_at hl 3 rfl) ?_
          refine hp_kv (hp_rV (C := RX1) (As := [.null, .ref p0]) (rest := []) ⟨hx, hb, hml, hown, hts⟩ C0 hf hS (c_X1_drop_0s l D cy base u_5 q p0) (cwV 2 hts gX1_cut_X1_dropIfIdle rfl rfl rfl (by decide +kernel) ⟨Nat.le_of_ble_eq_true rfl, Nat.le_of_ble_eq_true rfl⟩) hqx rfl rfl hl.1 rfl (Nat.le_of_ble_eq_true rfl) dX1_cut_75 ⟨Nat.le_of_ble_eq_true rfl, Nat.le_of_ble_eq_true rfl⟩) hS (fun u_6 H locs hq_6 hf hS => ?_)
          have kend := cut_P (u := u_6) hq1 hT1 h1 hF1 ha m1 c1 hq_5 (Or.inl ⟨m4, hq_6⟩)
          exact hp_vret hx hb hr hlocks C0 hf hS (by first | exact Nat.le_refl _ | omega) (by first | exact Nat.le_refl _ | omega) dX1_cut_78 (kend)
        · have hl : lv_has ls 5 [(0, .ref q), (1, .ref a), (2, .ref g2), (3, .ref p0), (4, .ref a)] := hl
          have c1 : ch t1 p0 d = some a := by rw [ech p0 m1]; exact m3
          have c2 : ch t1 g2 d2 = some p0 := by rw [ech g2 m4]; exact m5
          have npa : p0 ≠ a := fun e => by have := (hst.2.2.2.2.1 p0 m1 d a m3).2.1; rw [e] at this; omega
          have ngp : g2 ≠ p0 := fun e => by have := (hst.2.2.2.2.1 g2 m4 d2 p0 m5).2.1; rw [e] at this; omega
          refine lv_aload_n hx hb dX1_cut_66 rfl (lv_at hl 0 rfl) ?_
          refine lv_aload_n hx hb dX1_cut_67 rfl (lv_at hl 3 rfl) ?_
          refine lv_aload_n hx hb dX1_cut_68 rfl (lv_at hl 1 rfl) ?_
          refine hp_kv (hp_rV (C := RX1) (As := [.ref p0, .ref a]) (rest := []) ⟨hx, hb, hml, hown, hts⟩ C0 hf hS (c_X1_drop l D cy base f_2 q root (nI N.length) p0 (tB t1 p0) (nI (tL t1 p0)) (tH t1 p0) (nI (tR t1 p0)) (tZ t1 p0) (tO t1 p0) a (tB t1 a) (nI (tL t1 a)) (tH t1 a) (nI (tR t1 a)) (tZ t1 a) (tO t1 a) hq1 (hT1 p0 m1) (hT1 a ha) npa) (cwV 2 hts gX1_cut_X1_dropIfIdle rfl rfl rfl (by decide +kernel) ⟨Nat.le_of_ble_eq_true rfl, Nat.le_of_ble_eq_true rfl⟩) hq1 rfl rfl hl.1 rfl (Nat.le_of_ble_eq_true rfl) dX1_cut_69 ⟨Nat.le_of_ble_eq_true rfl, Nat.le_of_ble_eq_true rfl⟩) hS (fun u_7 H locs hq_7 hf hS => ?_)
          have hqx : ∃ cq : Int32, u_7 q = some (trO root cq) := by
            rcases drop_heap h1.1 h1.2.1 hq1 hT1 ha (fun e => by have := (hst.2.2.2.2.1 p0 m1 d a m3).2.1; rw [e, hst.1.2] at this; omega) m1 c1 hq_7 with ⟨-, z⟩ | ⟨-, t2, -, -, -, -, -, z, -⟩
            · rw [z]; exact ⟨_, hq1⟩
            · exact ⟨_, z⟩
          obtain ⟨cq, hqx⟩ := hqx
          refine lv_aload_n hx hb dX1_cut_72 rfl (lv_at hl 0 rfl) ?_
          refine lv_aload_n hx hb dX1_cut_73 rfl (lv_at hl 2 rfl) ?_
          refine lv_aload_n hx hb dX1_cut_74 rfl (lv_at hl 3 rfl) ?_
          obtain ⟨M, tm, hqM, hTM, hgM, hpM⟩ : ∃ (M : List Nat) (tm : NT), u_7 q = some (trO root (nI M.length)) ∧ TN u_7 M tm ∧ g2 ∈ M ∧ p0 ∈ M := by
            rcases drop_heap h1.1 h1.2.1 hq1 hT1 ha (fun e => by have := (hst.2.2.2.2.1 p0 m1 d a m3).2.1; rw [e, hst.1.2] at this; omega) m1 c1 hq_7 with ⟨-, z⟩ | ⟨-, t2, -, -, -, -, z2, z, -⟩
            · rw [z]; exact ⟨N, t1, hq1, hT1, m4, m1⟩
            · have nga : g2 ≠ a := fun e => by have k1 := (hst.2.2.2.2.1 p0 m1 d a m3).2.1; have k2 := (hst.2.2.2.2.1 g2 m4 d2 p0 m5).2.1; rw [e] at k2; omega
              exact ⟨N.erase a, t2, z, z2, hst.2.1.mem_erase_iff.mpr ⟨nga, m4⟩, hst.2.1.mem_erase_iff.mpr ⟨npa, m1⟩⟩
          refine hp_kv (hp_rV (C := RX1) (As := [.ref g2, .ref p0]) (rest := []) ⟨hx, hb, hml, hown, hts⟩ C0 hf hS (c_X1_drop l D cy base u_7 q root (nI M.length) g2 (tB tm g2) (nI (tL tm g2)) (tH tm g2) (nI (tR tm g2)) (tZ tm g2) (tO tm g2) p0 (tB tm p0) (nI (tL tm p0)) (tH tm p0) (nI (tR tm p0)) (tZ tm p0) (tO tm p0) hqM (hTM g2 hgM) (hTM p0 hpM) ngp) (cwV 2 hts gX1_cut_X1_dropIfIdle rfl rfl rfl (by decide +kernel) ⟨Nat.le_of_ble_eq_true rfl, Nat.le_of_ble_eq_true rfl⟩) hqM rfl rfl hl.1 rfl (Nat.le_of_ble_eq_true rfl) dX1_cut_75 ⟨Nat.le_of_ble_eq_true rfl, Nat.le_of_ble_eq_true rfl⟩) hS (fun u_8 H locs hq_8 hf hS => ?_)
          have kend := cut_P (u := u_8) hq1 hT1 h1 hF1 ha m1 c1 hq_7 (Or.inr ⟨g2, d2, m4, c2, fun M2 t2 z1 z2 z3 z4 => by
            have e1 : nI M2.length = nI M.length := by have := z1.symm.trans hqM; simp [trO] at this; exact this
            have e3 : ∀ y, y ∈ M → y ∈ M2 → ndo (t2 y) = ndo (tm y) := fun y k1 k2 => Option.some.inj ((z2 y k2).symm.trans (hTM y k1))
            have k1 := e3 g2 hgM z3
            have k2 := e3 p0 hpM z4
            simp only [ndo, ndE, Sum.inr.injEq, Prod.mk.injEq, List.cons.injEq, Value.int.injEq, and_true, true_and] at k1 k2
            have rfi : ∀ {x y : Option Nat}, va_rf x = va_rf y → x = y := fun {x y} k => by cases x <;> cases y <;> simp [va_rf] at k ⊢; exact k
            have D := hq_8
            show DRp _ _ _ _ _ _ _ _ _ _ _ _ _ _ _ _
            simp only [tB, tL, tH, tR, tZ, tO]
            rw [e1, k1.1, k1.2.1, k1.2.2.1, k1.2.2.2.1, rfi k1.2.2.2.2.1, rfi k1.2.2.2.2.2, k2.2.2.1, rfi k2.2.2.2.2.1, rfi k2.2.2.2.2.2]
            simpa only [tB, tL, tH, tR, tZ, tO] using D⟩)
          exact hp_vret hx hb hr hlocks C0 hf hS (by first | exact Nat.le_refl _ | omega) (by first | exact Nat.le_refl _ | omega) dX1_cut_78 (kend)
      · have nag : a ≠ g := fun e => h18 (by rw [e])
        have hlt : tL t a < tL t g := by
          rcases Nat.lt_or_ge (tL t a) (tL t g) with z | z
          · exact z
          · exact absurd (hst.2.2.2.1 a ha g hgN (by omega) hag) nag
        refine lv_aload hx hb dX1_cut_21 (lv_at hl 4 rfl) ?_
        refine lv_dup hx hb dX1_cut_23 rfl ?_
        refine hp_getN (ci := 0) (v := .int (nI (tR t a))) (own := RX1) (ref := RX0) (host := RX1) (index := 25) (C := RX0) (T := TX0) (N := 6) hx hb hts hin0 hown C0 hf hca rfl 3 (by decide) (by decide +kernel) (fun _ h9 => h9) rfl dX1_cut_24 ?_
        refine lv_iconst (v := 1) hx hb dX1_cut_27 (by decide) ?_
        refine lv_isub hx hb dX1_cut_28 ?_
        refine hp_putN (ci := 0) (v := .int ((nI (tR t a)) - 1)) (own := RX1) (ref := RX0) (host := RX1) (index := 25) (C := RX0) (T := TX0) (N := 6) hx hb hts hin0 tyX0 tyX0_ok nmX0 hown C0 hf hS hca rfl 3 (by decide) (by decide +kernel) (fun _ h9 => h9) rfl rfl rfl (Nat.le_of_ble_eq_true rfl) dX1_cut_29 (fun f_9 H locs ef_9 hf hS => ?_)
        have hc_9 : f_9 a = some (.inr (0, [.int (tB t a), .int (nI (tL t a)), .int (tH t a), .int ((nI (tR t a)) - 1), va_rf (tZ t a), va_rf (tO t a)])) := by rw [ef_9]; exact va_up_self _ _ _
        have hc_9_q : f_9 q = some (.inr (1, [.ref root, .int (nI N.length)])) := by rw [ef_9, va_up_ne _ _ (hp_dif hqc hca (by simp))]; exact hqc
        have hc_9_g : f_9 g = some (.inr (0, [.int (tB t g), .int (nI (tL t g)), .int (tH t g), .int (nI (tR t g)), va_rf (tZ t g), va_rf (tO t g)])) := by rw [ef_9, va_up_ne _ _ (Ne.symm nag)]; exact hcg
        refine hp_aload_nq (r := pp) hx hb dX1_cut_32 rfl (lv_at hl 3 rfl) ?_
        refine hp_astore_nq (lv' := [(2, va_rf pp), (0, .ref q), (1, .ref g), (3, va_rf pp), (4, .ref a)]) hx hb dX1_cut_33 rfl hl (by decide) rfl (fun ls hl => ?_)
        refine lv_aload hx hb dX1_cut_34 (lv_at hl 4 rfl) ?_
        refine lv_astore_n (i := 3) (lv' := [(3, .ref a), (2, va_rf pp), (0, .ref q), (1, .ref g), (4, .ref a)]) hx hb dX1_cut_36 rfl hl (by decide) (by simp [List.filter, va_rf_cat]) (fun ls hl => ?_)
        refine lv_aload hx hb dX1_cut_37 (lv_at hl 4 rfl) ?_
        refine lv_aload_n hx hb dX1_cut_39 rfl (lv_at hl 3 rfl) ?_
        refine hp_getN (ci := 0) (v := .int (tB t g)) (own := RX1) (ref := RX0) (host := RX1) (index := 62) (C := RX0) (T := TX0) (N := 6) hx hb hts hin0 hown C0 hf hc_9_g rfl 0 (by decide) (by decide +kernel) (fun _ h9 => h9) rfl dX1_cut_40 ?_
        refine hp_kq (hp_rVN (C := RX0) (As := [.int (tB t g)]) (rest := []) ⟨hx, hb, hml, hown, hts⟩ C0 hf hS (c_X0_toward l D cy base f_9 a (tB t a) (nI (tL t a)) (tH t a) ((nI (tR t a)) - 1) (tZ t a) (tO t a) (tB t g) hc_9) ⟨va_cnB (host := RX1) (index := 69) 1 hts gX1_cut_X0_toward_n69 rfl rfl rfl (C0.2.2 _ (by decide +kernel)) (hts (.initialized RX0) (by decide +kernel)) (by decide +kernel) ⟨Nat.le_of_ble_eq_true rfl, Nat.le_of_ble_eq_true rfl⟩, hts (.instanceMethod yX0_toward) (by decide +kernel), hts (.selects RX0 yX0_toward yX0_toward) (by decide +kernel)⟩ hc_9 rfl rfl hl.1 rfl (Nat.le_of_ble_eq_true rfl) dX1_cut_43 ⟨Nat.le_of_ble_eq_true rfl, Nat.le_of_ble_eq_true rfl⟩) hS (fun r_10 u_10 H locs hq_10 hf hS => ?_)
        obtain ⟨hr_10, hu⟩ := hq_10
        rw [hu] at hf
        have er_10 := tw_ch pa.1 hr_10
        refine hp_astoreq (lv' := [(4, va_rf r_10), (3, .ref a), (2, va_rf pp), (0, .ref q), (1, .ref g)]) hx hb dX1_cut_46 hl (by decide) rfl (fun ls hl => ?_)
        refine lv_goto (tgt := 10) hx hb dX1_cut_48 (by decide) ?_
        obtain ⟨c2, k1, k2, k3⟩ := hst.2.2.2.2.2 a ha g hgN hlt hag
        obtain ⟨c2N, c2l, -, -⟩ := hst.2.2.2.2.1 a ha _ c2 k1
        rw [k1] at er_10
        rw [er_10] at hl
        have hT1 : TN f_9 N (dcr t (tB t g) (tL t c2)) := fun y hy => by
          by_cases e : y = a
          · rw [e, hc_9, dcr_self pa hag c2l, show (1 : Int32) = nI 1 from rfl, pk_sub (by omega)]; rfl
          · rw [ef_9, va_up_ne _ _ e, dcr_step hst ha hag k1 hy e]; exact hTc y hy
        have hF1 : FR f f_9 N q := fun b v g1 g2 g3 => by
          have e : b ≠ a := fun e => g2 (e ▸ ha)
          rw [ef_9, va_up_ne _ _ e]; exact hFc b v g1 g2 g3
        exact ih c2 (some a) pp f_9 ls _ _ c2N (by omega) k2 k3 (Or.inr ⟨a, _, ha, rfl, k1, by
          rcases hPR with ⟨e1, e2, -⟩ | ⟨p0, d, m1, m2, m3, -⟩
          · exact Or.inl ⟨e1, e2⟩
          · exact Or.inr ⟨p0, d, m1, m2, m3⟩⟩) hc_9_q hT1 hF1 hf hS (lv_sub hl [3, 4, 2, 1, 0] rfl)
  refine lv_null hx hb dX1_cut_0 ?_
  refine lv_astore_nN (lv' := [(2, .null), (0, .ref q), (1, .ref g)]) hx hb dX1_cut_1 rfl hl (by decide) rfl (fun ls hl => ?_)
  refine lv_null hx hb dX1_cut_2 ?_
  refine lv_astore_nN (lv' := [(3, .null), (2, .null), (0, .ref q), (1, .ref g)]) hx hb dX1_cut_3 rfl hl (by decide) rfl (fun ls hl => ?_)
  refine lv_aload_n hx hb dX1_cut_4 rfl (lv_at hl 2 rfl) ?_
  refine hp_get (ci := 1) (v := .ref root) (C := RX1) (T := TX1) (N := 2) hx hb hts hin1 hown C0 hf hq rfl 0 (by decide) (hts (.fieldLink RX1 14 "RouteTrie" "root" "LRouteTrie$Node;") (by decide +kernel)) (fun _ h9 => h9) rfl dX1_cut_5 ?_
  refine lv_astore (lv' := [(4, .ref root), (3, .null), (2, .null), (0, .ref q), (1, .ref g)]) hx hb dX1_cut_8 hl (by decide) rfl (fun ls hl => ?_)
  exact loop 34 root none none f ls _ _ hst.1.1 (by omega) (by rw [hst.1.2]; omega) (by rw [hst.1.2]; exact ag_0) (Or.inl ⟨rfl, rfl, rfl⟩) hq (fun y hy => by rw [dcr_ge (by rw [hst.1.2]; omega)]; exact hT y hy) (fun b v k1 _ _ => k1) hf hS (lv_sub hl [3, 4, 2, 1, 0] rfl)
set_option maxHeartbeats 4000000 in
set_option maxRecDepth 100000 in
theorem c_X1_remove (l : Launch) (D : va_G) (cy : ClassId) (base : Nat) (f : AH) (q : Nat) (N : List Nat) (t : NT) (root : Nat) (x n : Int32) (hq : f q = some (trO root (nI N.length))) (hT : TN f N t) (hC : CI N t root) : Met l yX1_remove wsX1_remove ({ frames := 4, cells := 0, slots := 0, locals := 88 }) (va_Pc [.ref q, .int x, .int n] (hp_B D cy base f)) (va_Qi (fun (r : Int32) (u : AH) => (∃ a ∈ N, n = nI (tL t a) ∧ tB t a = x ∧ isR t a = true ∧ r = 1 ∧ CP f q N t root a u) ∨ ((∀ a ∈ N, isR t a = true → n = nI (tL t a) → ¬ tB t a = x) ∧ r = 0 ∧ u = f)) (hp_B D cy base) (hp_A base)) 0 0 (hp_A base) := by
  refine Met.ofW (cc := cX1_remove) (maxL := 4) (ret := (some .boolean)) (by decide) rfl ?_
  intro p e s m args below meth c s₁ B hml hv
  obtain ⟨rfl, hf, C0⟩ := hv
  have hx := B.exec
  have hb := B.bytes
  have hr := B.returns
  have hts := atoms_spec (ws := wsX1_remove) B.pre
  have hown : s.vm.findClass RX1 = some m.cls := findClass_of_methodNamed B.named
  have hlocks := B.notSynchronized
  have hin0 : ∀ w ∈ wsX00, w ∈ wsX1_remove := by decide +kernel
  have hin1 : ∀ w ∈ wsX10, w ∈ wsX1_remove := by decide +kernel
  have hS : va_S (hp_A base) s.heap s.heap [] := va_S.rf
  have hl := lv_entry ([.ref q, .int x, .int n]) (n := 4) (Nat.le_of_ble_eq_true rfl)
  rw [lg_entry_eq]
  generalize (lg_sl ([.ref q, .int x, .int n]) ++ List.replicate (4 - (lg_sl ([.ref q, .int x, .int n])).length) Slot.unset).toArray = ls at hl ⊢
  have hl : lv_has ls 4 [(0, .ref q), (1, .int x), (2, .int n)] := hl
  have hst := hC.1
  refine lv_aload_n hx hb dX1_remove_0 rfl (lv_at hl 0 rfl) ?_
  refine lv_iload_n hx hb dX1_remove_1 rfl (lv_at hl 1 rfl) ?_
  refine lv_iload_n hx hb dX1_remove_2 rfl (lv_at hl 2 rfl) ?_
  refine hp_kq (hp_rV (C := RX1) (As := [.int x, .int n]) (rest := []) ⟨hx, hb, hml, hown, hts⟩ C0 hf hS (c_X1_routeAt l D cy base f q N t root (nI N.length) x n hq hT hst) (cwV 2 hts gX1_remove_X1_routeAt rfl rfl rfl (by decide +kernel) ⟨Nat.le_of_ble_eq_true rfl, Nat.le_of_ble_eq_true rfl⟩) hq rfl rfl hl.1 rfl (Nat.le_of_ble_eq_true rfl) dX1_remove_3 ⟨Nat.le_of_ble_eq_true rfl, Nat.le_of_ble_eq_true rfl⟩) hS (fun r_1 u_1 H locs hq_1 hf hS => ?_)
  obtain ⟨hr_1, hu⟩ := hq_1
  rw [hu] at hf
  refine hp_astore_nq (lv' := [(3, va_rf r_1), (0, .ref q), (1, .int x), (2, .int n)]) hx hb dX1_remove_6 rfl hl (by decide) rfl (fun ls hl => ?_)
  refine hp_aload_nq (r := r_1) hx hb dX1_remove_7 rfl (lv_at hl 0 rfl) ?_
  refine hp_ifnonnullq (tgt := 13) (r := r_1) hx hb dX1_remove_8 (by decide) (fun x8 h8 => ?_) (fun h8 => ?_)
  · rw [h8] at hl
    have hl : lv_has ls 4 [(3, .ref x8), (0, .ref q), (1, .int x), (2, .int n)] := hl
    obtain ⟨hxN, hxn, hxb, hxh⟩ := hr_1.1 x8 h8
    refine lv_aload_n hx hb dX1_remove_13 rfl (lv_at hl 1 rfl) ?_
    refine lv_aload_n hx hb dX1_remove_14 rfl (lv_at hl 0 rfl) ?_
    refine hp_kv (hp_rV (C := RX1) (As := [.ref x8]) (rest := []) ⟨hx, hb, hml, hown, hts⟩ C0 hf hS (c_X1_cut l D cy base f q N t root x8 hq hT hC hxN (isR_iff.mpr hxh)) (cwV 1 hts gX1_remove_X1_cut rfl rfl rfl (by decide +kernel) ⟨Nat.le_of_ble_eq_true rfl, Nat.le_of_ble_eq_true rfl⟩) hq rfl rfl hl.1 rfl (Nat.le_of_ble_eq_true rfl) dX1_remove_15 ⟨Nat.le_of_ble_eq_true rfl, Nat.le_of_ble_eq_true rfl⟩) hS (fun u_2 H locs hq_2 hf hS => ?_)
    have hg := hq_2
    refine lv_iconst (v := 1) hx hb dX1_remove_18 (by decide) ?_
    exact hp_zret (v := 1) hx hb hr hlocks C0 hf hS (by first | exact Nat.le_refl _ | omega) (by first | exact Nat.le_refl _ | omega) dX1_remove_19 (by decide) (Or.inl ⟨x8, hxN, hxn, hxb, isR_iff.mpr hxh, rfl, hg⟩)
  · rw [h8] at hl
    have hl : lv_has ls 4 [(3, .null), (0, .ref q), (1, .int x), (2, .int n)] := hl
    refine lv_iconst (v := 0) hx hb dX1_remove_11 (by decide) ?_
    exact hp_zret (v := 0) hx hb hr hlocks C0 hf hS (by first | exact Nat.le_refl _ | omega) (by first | exact Nat.le_refl _ | omega) dX1_remove_12 (by decide) (Or.inr ⟨fun a ha g1 g2 => hr_1.2 h8 a ha (isR_iff.mp g1) g2, rfl, rfl⟩)
