/-! insert, init, the constructor -/
def INp (f : AH) (q : Nat) (N : List Nat) (t : NT) (root : Nat) (x n h r : Int32) (u : AH) : Prop := (((¬ okP x n) ∨ h < 0) ∧ r = -1 ∧ u = f) ∨ ((¬ h < 0) ∧ ∃ k : Nat, n = nI k ∧ px x k ∧ ((∃ a ∈ N, tL t a = k ∧ tB t a = x ∧ isR t a = true ∧ r = 0 ∧ u = va_up f a (some (ndo (sethop (t a) h)))) ∨ ((∀ a ∈ N, isR t a = true → tL t a = k → ¬ tB t a = x) ∧ ((500 ≤ tR t root ∧ r = -2 ∧ u = f) ∨ (tR t root < 500 ∧ r = 1 ∧ GP f q N t root (x, k, h) u)))))
set_option maxHeartbeats 4000000 in
set_option maxRecDepth 100000 in
theorem c_X1_insert (l : Launch) (D : va_G) (cy : ClassId) (base : Nat) (f : AH) (q : Nat) (N : List Nat) (t : NT) (root : Nat) (x n h : Int32) (hq : f q = some (trO root (nI N.length))) (hT : TN f N t) (hC : CI N t root) (hbd : N.length < 2 ^ 30) : Met l yX1_insert wsX1_insert ({ frames := 6, cells := 2, slots := 12, locals := 107 }) (va_Pc [.ref q, .int x, .int n, .int h] (hp_B D cy base f)) (va_Qi (fun (r : Int32) (u : AH) => INp f q N t root x n h r u) (hp_B D cy base) (hp_A base)) 2 12 (hp_A base) := by
  refine Met.ofW (cc := cX1_insert) (maxL := 5) (ret := (some .int)) (by decide) rfl ?_
  intro p e s m args below meth c s₁ B hml hv
  obtain ⟨rfl, hf, C0⟩ := hv
  have hx := B.exec
  have hb := B.bytes
  have hr := B.returns
  have hts := atoms_spec (ws := wsX1_insert) B.pre
  have hown : s.vm.findClass RX1 = some m.cls := findClass_of_methodNamed B.named
  have hlocks := B.notSynchronized
  have hin0 : ∀ w ∈ wsX00, w ∈ wsX1_insert := by decide +kernel
  have hin1 : ∀ w ∈ wsX10, w ∈ wsX1_insert := by decide +kernel
  have hS : va_S (hp_A base) s.heap s.heap [] := va_S.rf
  have hl := lv_entry ([.ref q, .int x, .int n, .int h]) (n := 5) (Nat.le_of_ble_eq_true rfl)
  rw [lg_entry_eq]
  generalize (lg_sl ([.ref q, .int x, .int n, .int h]) ++ List.replicate (5 - (lg_sl ([.ref q, .int x, .int n, .int h])).length) Slot.unset).toArray = ls at hl ⊢
  have hl : lv_has ls 5 [(0, .ref q), (1, .int x), (2, .int n), (3, .int h)] := hl
  have hst := hC.1
  refine lv_iload_n hx hb dX1_insert_0 rfl (lv_at hl 1 rfl) ?_
  refine lv_iload_n hx hb dX1_insert_1 rfl (lv_at hl 2 rfl) ?_
  refine hp_ki (hp_rS (As := [.int x, .int n]) (rest := []) ⟨hx, hb, hml, hown, hts⟩ C0 hf hS (c_X1_isPrefix l D cy base f x n) (va_cwS 2 hts gX1_insert_X1_isPrefix rfl rfl rfl (by decide +kernel) ⟨Nat.le_of_ble_eq_true rfl, Nat.le_of_ble_eq_true rfl⟩) rfl hl.1 rfl (Nat.le_of_ble_eq_true rfl) dX1_insert_2 ⟨Nat.le_of_ble_eq_true rfl, Nat.le_of_ble_eq_true rfl⟩) hS (fun r_1 u_1 H locs hq_1 hf hS => ?_)
  obtain ⟨hr_1, hu⟩ := hq_1
  rw [hu] at hf
  have hpf := ite1 hr_1
  refine lv_if_eq (tgt := 12) hx hb dX1_insert_5 (by decide) (fun h5 => ?_) (fun h5 => ?_)
  · refine lv_iconst (v := (-1)) hx hb dX1_insert_12 (by decide) ?_
    exact hp_iret (v := (-1)) hx hb hr hlocks C0 hf hS (by first | exact Nat.le_refl _ | omega) (by first | exact Nat.le_refl _ | omega) dX1_insert_13 (Or.inl ⟨Or.inl ((not_congr hpf).mp (fun z => z h5)), rfl, rfl⟩)
  · refine lv_iload_n hx hb dX1_insert_8 rfl (lv_at hl 3 rfl) ?_
    refine lv_if_ge (tgt := 14) hx hb dX1_insert_9 (by decide) (fun h9 => ?_) (fun h9 => ?_)
    · refine lv_aload_n hx hb dX1_insert_14 rfl (lv_at hl 0 rfl) ?_
      refine lv_iload_n hx hb dX1_insert_15 rfl (lv_at hl 1 rfl) ?_
      refine lv_iload_n hx hb dX1_insert_16 rfl (lv_at hl 2 rfl) ?_
      refine hp_kq (hp_rV (C := RX1) (As := [.int x, .int n]) (rest := []) ⟨hx, hb, hml, hown, hts⟩ C0 hf hS (c_X1_routeAt l D cy base f q N t root (nI N.length) x n hq hT hst) (cwV 2 hts gX1_insert_X1_routeAt rfl rfl rfl (by decide +kernel) ⟨Nat.le_of_ble_eq_true rfl, Nat.le_of_ble_eq_true rfl⟩) hq rfl rfl hl.1 rfl (Nat.le_of_ble_eq_true rfl) dX1_insert_17 ⟨Nat.le_of_ble_eq_true rfl, Nat.le_of_ble_eq_true rfl⟩) hS (fun r_2 u_2 H locs hq_2 hf hS => ?_)
      obtain ⟨hr_2, hu⟩ := hq_2
      rw [hu] at hf
      refine hp_astoreq (lv' := [(4, va_rf r_2), (0, .ref q), (1, .int x), (2, .int n), (3, .int h)]) hx hb dX1_insert_20 hl (by decide) rfl (fun ls hl => ?_)
      refine hp_aloadq (r := r_2) hx hb dX1_insert_22 (lv_at hl 0 rfl) ?_
      refine hp_ifnullq (tgt := 35) (r := r_2) hx hb dX1_insert_24 (by decide) (fun h24 => ?_) (fun x24 h24 => ?_)
      · rw [h24] at hl
        have hl : lv_has ls 5 [(4, .null), (0, .ref q), (1, .int x), (2, .int n), (3, .int h)] := hl
        obtain ⟨k, rfl, hk⟩ := hpf.mp h5
        have k32 := hk.1
        have hno : ∀ a ∈ N, isR t a = true → tL t a = k → ¬ tB t a = x := fun a ha g1 g2 => hr_2.2 h24 a ha (isR_iff.mp g1) (by rw [g2])
        have hrt : tR t root < 2 ^ 30 := by rw [hC.2.1 root hst.1.1]; exact Nat.lt_of_le_of_lt cnt_le hbd
        refine lv_aload_n hx hb dX1_insert_35 rfl (lv_at hl 1 rfl) ?_
        refine hp_get (ci := 1) (v := .ref root) (C := RX1) (T := TX1) (N := 2) hx hb hts hin1 hown C0 hf hq rfl 0 (by decide) (hts (.fieldLink RX1 14 "RouteTrie" "root" "LRouteTrie$Node;") (by decide +kernel)) (fun _ h9 => h9) rfl dX1_insert_36 ?_
        refine hp_getN (ci := 0) (v := .int (nI (tR t root))) (own := RX1) (ref := RX0) (host := RX1) (index := 25) (C := RX0) (T := TX0) (N := 6) hx hb hts hin0 hown C0 hf (hT root hst.1.1) rfl 3 (by decide) (by decide +kernel) (fun _ h9 => h9) rfl dX1_insert_39 ?_
        refine lv_sipush (v := 500) hx hb dX1_insert_42 (by decide) ?_
        refine lv_icmp_lt (tgt := 51) hx hb dX1_insert_45 (by decide) (fun h45 => ?_) (fun h45 => ?_)
        · refine lv_aload_n hx hb dX1_insert_51 rfl (lv_at hl 1 rfl) ?_
          refine lv_iload_n hx hb dX1_insert_52 rfl (lv_at hl 2 rfl) ?_
          refine lv_iload_n hx hb dX1_insert_53 rfl (lv_at hl 3 rfl) ?_
          refine lv_iload_n hx hb dX1_insert_54 rfl (lv_at hl 4 rfl) ?_
          have hnn : ¬ h = -1 := fun e => by rw [e] at h9; exact absurd h9 (by decide)
          have hlt : tR t root < 500 := (nI_ltI (b := 500) (by omega) (by omega)).mp h45
          refine hp_kv (hp_rV (C := RX1) (As := [.int x, .int (nI k), .int h]) (rest := []) ⟨hx, hb, hml, hown, hts⟩ C0 hf hS (c_X1_grow l D cy base f q N t root x k h hq hT hC hk hnn (fun b hb g1 g2 => by cases hh : isR t b with | false => rfl | true => exact absurd g2 (hno b hb hh g1))) (cwV 3 hts gX1_insert_X1_grow rfl rfl rfl (by decide +kernel) ⟨Nat.le_of_ble_eq_true rfl, Nat.le_of_ble_eq_true rfl⟩) hq rfl rfl hl.1 rfl (Nat.le_of_ble_eq_true rfl) dX1_insert_55 ⟨Nat.le_of_ble_eq_true rfl, Nat.le_of_ble_eq_true rfl⟩) hS (fun u_3 H locs hq_3 hf hS => ?_)
          have hg := hq_3
          refine lv_iconst (v := 1) hx hb dX1_insert_58 (by decide) ?_
          exact hp_iret (v := 1) hx hb hr hlocks C0 hf hS (by first | exact Nat.le_refl _ | omega) (by first | exact Nat.le_refl _ | omega) dX1_insert_59 (Or.inr ⟨(Int32.not_lt.mpr h9), k, rfl, hk, Or.inr ⟨hno, Or.inr ⟨hlt, rfl, hg⟩⟩⟩)
        · refine lv_bipush (v := (-2)) hx hb dX1_insert_48 (by decide) ?_
          exact hp_iret (v := (-2)) hx hb hr hlocks C0 hf hS (by first | exact Nat.le_refl _ | omega) (by first | exact Nat.le_refl _ | omega) dX1_insert_50 (Or.inr ⟨(Int32.not_lt.mpr h9), k, rfl, hk, Or.inr ⟨hno, Or.inl ⟨Nat.not_lt.mp (fun z => h45 ((nI_ltI (b := 500) (by omega) (by omega)).mpr z)), rfl, rfl⟩⟩⟩)
      · rw [h24] at hl
        have hl : lv_has ls 5 [(4, .ref x24), (0, .ref q), (1, .int x), (2, .int n), (3, .int h)] := hl
        obtain ⟨hxN, hxn, hxb, hxh⟩ := hr_2.1 x24 h24
        refine lv_aload hx hb dX1_insert_27 (lv_at hl 0 rfl) ?_
        refine lv_iload_n hx hb dX1_insert_29 rfl (lv_at hl 4 rfl) ?_
        refine hp_putN (ci := 0) (v := .int h) (own := RX1) (ref := RX0) (host := RX1) (index := 22) (C := RX0) (T := TX0) (N := 6) hx hb hts hin0 tyX0 tyX0_ok nmX0 hown C0 hf hS (hT x24 hxN) rfl 2 (by decide) (by decide +kernel) (fun _ h9 => h9) rfl rfl rfl (Nat.le_of_ble_eq_true rfl) dX1_insert_30 (fun f_4 H locs ef_4 hf hS => ?_)
        have hc_4 : f_4 x24 = some (.inr (0, [.int (tB t x24), .int (nI (tL t x24)), .int h, .int (nI (tR t x24)), va_rf (tZ t x24), va_rf (tO t x24)])) := by rw [ef_4]; exact va_up_self _ _ _
        have hc_4_q : f_4 q = some (.inr (1, [.ref root, .int (nI N.length)])) := by rw [ef_4, va_up_ne _ _ (hp_dif hq (hT x24 hxN) (by simp))]; exact hq
        refine lv_iconst (v := 0) hx hb dX1_insert_33 (by decide) ?_
        exact hp_iret (v := 0) hx hb hr hlocks C0 hf hS (by first | exact Nat.le_refl _ | omega) (by first | exact Nat.le_refl _ | omega) dX1_insert_34 (Or.inr ⟨(Int32.not_lt.mpr h9), by obtain ⟨k, e, hk⟩ := hpf.mp h5; exact ⟨k, e, hk, Or.inl ⟨x24, hxN, ((nI_eq (by have := hk.1; omega) (by have := (hst.2.2.1 x24 hxN).1; omega)).mp (e.symm.trans hxn)).symm, hxb, isR_iff.mpr hxh, rfl, ef_4⟩⟩⟩)
    · refine lv_iconst (v := (-1)) hx hb dX1_insert_12 (by decide) ?_
      exact hp_iret (v := (-1)) hx hb hr hlocks C0 hf hS (by first | exact Nat.le_refl _ | omega) (by first | exact Nat.le_refl _ | omega) dX1_insert_13 (Or.inl ⟨Or.inr (Int32.not_le.mp h9), rfl, rfl⟩)
set_option maxHeartbeats 4000000 in
set_option maxRecDepth 100000 in
theorem c_X1_init_ (l : Launch) (D : va_G) (cy : ClassId) (base : Nat) (f : AH) (q : Nat) (N : List Nat) (t : NT) (root : Nat) (cnt : Int32) (hq : f q = some (trO root cnt)) (hT : TN f N t) (hrN : root ∈ N) : Met l yX1_init_ wsX1_init_ ({ frames := 0, cells := 0, slots := 0, locals := 0 }) (va_Pc [.ref q] (hp_B D cy base f)) (va_Qv (fun (u : AH) => u q = some (trO root 1) ∧ u root = some (ndE (tB t root) (nI (tL t root)) (-1) 0 none none) ∧ FR f u N q) (hp_B D cy base) (hp_A base)) 0 0 (hp_A base) := by
  refine Met.ofW (cc := cX1_init_) (maxL := 1) (ret := none) (by decide) rfl ?_
  intro p e s m args below meth c s₁ B hml hv
  obtain ⟨rfl, hf, C0⟩ := hv
  have hx := B.exec
  have hb := B.bytes
  have hr := B.returns
  have hts := atoms_spec (ws := wsX1_init_) B.pre
  have hown : s.vm.findClass RX1 = some m.cls := findClass_of_methodNamed B.named
  have hlocks := B.notSynchronized
  have hin0 : ∀ w ∈ wsX00, w ∈ wsX1_init_ := by decide +kernel
  have hin1 : ∀ w ∈ wsX10, w ∈ wsX1_init_ := by decide +kernel
  have hS : va_S (hp_A base) s.heap s.heap [] := va_S.rf
  have hl := lv_entry ([.ref q]) (n := 1) (Nat.le_of_ble_eq_true rfl)
  rw [lg_entry_eq]
  generalize (lg_sl ([.ref q]) ++ List.replicate (1 - (lg_sl ([.ref q])).length) Slot.unset).toArray = ls at hl ⊢
  have hl : lv_has ls 1 [(0, .ref q)] := hl
  refine lv_aload_n hx hb dX1_init__0 rfl (lv_at hl 0 rfl) ?_
  refine hp_get (ci := 1) (v := .ref root) (C := RX1) (T := TX1) (N := 2) hx hb hts hin1 hown C0 hf hq rfl 0 (by decide) (hts (.fieldLink RX1 14 "RouteTrie" "root" "LRouteTrie$Node;") (by decide +kernel)) (fun _ h9 => h9) rfl dX1_init__1 ?_
  refine lv_iconst (v := (-1)) hx hb dX1_init__4 (by decide) ?_
  refine hp_putN (ci := 0) (v := .int (-1)) (own := RX1) (ref := RX0) (host := RX1) (index := 22) (C := RX0) (T := TX0) (N := 6) hx hb hts hin0 tyX0 tyX0_ok nmX0 hown C0 hf hS (hT root hrN) rfl 2 (by decide) (by decide +kernel) (fun _ h9 => h9) rfl rfl rfl (Nat.le_of_ble_eq_true rfl) dX1_init__5 (fun f_1 H locs ef_1 hf hS => ?_)
  have hc_1 : f_1 root = some (.inr (0, [.int (tB t root), .int (nI (tL t root)), .int (-1), .int (nI (tR t root)), va_rf (tZ t root), va_rf (tO t root)])) := by rw [ef_1]; exact va_up_self _ _ _
  have hc_1_q : f_1 q = some (.inr (1, [.ref root, .int cnt])) := by rw [ef_1, va_up_ne _ _ (hp_dif hq (hT root hrN) (by simp))]; exact hq
  refine lv_aload_n hx hb dX1_init__8 rfl (lv_at hl 0 rfl) ?_
  refine hp_get (ci := 1) (v := .ref root) (C := RX1) (T := TX1) (N := 2) hx hb hts hin1 hown C0 hf hc_1_q rfl 0 (by decide) (hts (.fieldLink RX1 14 "RouteTrie" "root" "LRouteTrie$Node;") (by decide +kernel)) (fun _ h9 => h9) rfl dX1_init__9 ?_
  refine lv_iconst (v := 0) hx hb dX1_init__12 (by decide) ?_
  refine hp_putN (ci := 0) (v := .int 0) (own := RX1) (ref := RX0) (host := RX1) (index := 25) (C := RX0) (T := TX0) (N := 6) hx hb hts hin0 tyX0 tyX0_ok nmX0 hown C0 hf hS hc_1 rfl 3 (by decide) (by decide +kernel) (fun _ h9 => h9) rfl rfl rfl (Nat.le_of_ble_eq_true rfl) dX1_init__13 (fun f_2 H locs ef_2 hf hS => ?_)
  have hc_2 : f_2 root = some (.inr (0, [.int (tB t root), .int (nI (tL t root)), .int (-1), .int 0, va_rf (tZ t root), va_rf (tO t root)])) := by rw [ef_2]; exact va_up_self _ _ _
  have hc_2_q : f_2 q = some (.inr (1, [.ref root, .int cnt])) := by rw [ef_2, va_up_ne _ _ (hp_dif hc_1_q hc_1 (by simp))]; exact hc_1_q
  refine lv_aload_n hx hb dX1_init__16 rfl (lv_at hl 0 rfl) ?_
  refine hp_get (ci := 1) (v := .ref root) (C := RX1) (T := TX1) (N := 2) hx hb hts hin1 hown C0 hf hc_2_q rfl 0 (by decide) (hts (.fieldLink RX1 14 "RouteTrie" "root" "LRouteTrie$Node;") (by decide +kernel)) (fun _ h9 => h9) rfl dX1_init__17 ?_
  refine lv_null hx hb dX1_init__20 ?_
  refine hp_putN (ci := 0) (v := .null) (own := RX1) (ref := RX0) (host := RX1) (index := 28) (C := RX0) (T := TX0) (N := 6) hx hb hts hin0 tyX0 tyX0_ok nmX0 hown C0 hf hS hc_2 rfl 4 (by decide) (by decide +kernel) (fun _ h9 => h9) rfl rfl rfl (Nat.le_of_ble_eq_true rfl) dX1_init__21 (fun f_3 H locs ef_3 hf hS => ?_)
  have hc_3 : f_3 root = some (.inr (0, [.int (tB t root), .int (nI (tL t root)), .int (-1), .int 0, .null, va_rf (tO t root)])) := by rw [ef_3]; exact va_up_self _ _ _
  have hc_3_q : f_3 q = some (.inr (1, [.ref root, .int cnt])) := by rw [ef_3, va_up_ne _ _ (hp_dif hc_2_q hc_2 (by simp))]; exact hc_2_q
  refine lv_aload_n hx hb dX1_init__24 rfl (lv_at hl 0 rfl) ?_
  refine hp_get (ci := 1) (v := .ref root) (C := RX1) (T := TX1) (N := 2) hx hb hts hin1 hown C0 hf hc_3_q rfl 0 (by decide) (hts (.fieldLink RX1 14 "RouteTrie" "root" "LRouteTrie$Node;") (by decide +kernel)) (fun _ h9 => h9) rfl dX1_init__25 ?_
  refine lv_null hx hb dX1_init__28 ?_
  refine hp_putN (ci := 0) (v := .null) (own := RX1) (ref := RX0) (host := RX1) (index := 31) (C := RX0) (T := TX0) (N := 6) hx hb hts hin0 tyX0 tyX0_ok nmX0 hown C0 hf hS hc_3 rfl 5 (by decide) (by decide +kernel) (fun _ h9 => h9) rfl rfl rfl (Nat.le_of_ble_eq_true rfl) dX1_init__29 (fun f_4 H locs ef_4 hf hS => ?_)
  have hc_4 : f_4 root = some (.inr (0, [.int (tB t root), .int (nI (tL t root)), .int (-1), .int 0, .null, .null])) := by rw [ef_4]; exact va_up_self _ _ _
  have hc_4_q : f_4 q = some (.inr (1, [.ref root, .int cnt])) := by rw [ef_4, va_up_ne _ _ (hp_dif hc_3_q hc_3 (by simp))]; exact hc_3_q
  refine lv_aload_n hx hb dX1_init__32 rfl (lv_at hl 0 rfl) ?_
  refine lv_iconst (v := 1) hx hb dX1_init__33 (by decide) ?_
  refine hp_put (ci := 1) (v := .int 1) (C := RX1) (T := TX1) (N := 2) hx hb hts hin1 tyX1 tyX1_ok nmX1 hown C0 hf hS hc_4_q rfl 1 (by decide) (hts (.fieldLink RX1 18 "RouteTrie" "nodeCount" "I") (by decide +kernel)) (fun _ h9 => h9) rfl rfl rfl (Nat.le_of_ble_eq_true rfl) dX1_init__34 (fun f_5 H locs ef_5 hf hS => ?_)
  have hc_5 : f_5 q = some (.inr (1, [.ref root, .int 1])) := by rw [ef_5]; exact va_up_self _ _ _
  have hc_5_root : f_5 root = some (.inr (0, [.int (tB t root), .int (nI (tL t root)), .int (-1), .int 0, .null, .null])) := by rw [ef_5, va_up_ne _ _ (hp_dif hc_4 hc_4_q (by simp))]; exact hc_4
  have nq : root ≠ q := hp_dif (hT root hrN) hq (by simp)
  exact hp_vret hx hb hr hlocks C0 hf hS (by first | exact Nat.le_refl _ | omega) (by first | exact Nat.le_refl _ | omega) dX1_init__37 (⟨hc_5, hc_5_root, fun b v k1 k2 k3 => by have nr : b ≠ root := fun e => k2 (e ▸ hrN); rw [ef_5, va_up_ne _ _ k3, ef_4, va_up_ne _ _ nr, ef_3, va_up_ne _ _ nr, ef_2, va_up_ne _ _ nr, ef_1, va_up_ne _ _ nr]; exact k1⟩)
set_option maxHeartbeats 4000000 in
set_option maxRecDepth 100000 in
theorem c_X1_init (l : Launch) (D : va_G) (cy : ClassId) (base : Nat) (f : AH) (q : Nat) (hq : f q = some (.inr (1, [.null, .int 0]))) : Met l yX1_init wsX1_init ({ frames := 2, cells := 1, slots := 6, locals := 35 }) (va_Pc [.ref q] (hp_B D cy base f)) (va_Qv (fun (u : AH) => ∃ root : Nat, f root = none ∧ root ≠ q ∧ u = va_up (va_up f root (some (ndE 0 0 (-1) 0 none none))) q (some (trO root 1))) (hp_B D cy base) (hp_A base)) 1 6 (hp_A base) := by
  refine Met.ofW (cc := cX1_init) (maxL := 1) (ret := none) (by decide) rfl ?_
  intro p e s m args below meth c s₁ B hml hv
  obtain ⟨rfl, hf, C0⟩ := hv
  have hx := B.exec
  have hb := B.bytes
  have hr := B.returns
  have hts := atoms_spec (ws := wsX1_init) B.pre
  have hown : s.vm.findClass RX1 = some m.cls := findClass_of_methodNamed B.named
  have hlocks := B.notSynchronized
  have hin : meth.name = "<init>" := (name_of_methodNamed B.named B.method).1
  have hin0 : ∀ w ∈ wsX00, w ∈ wsX1_init := by decide +kernel
  have hin1 : ∀ w ∈ wsX10, w ∈ wsX1_init := by decide +kernel
  have hS : va_S (hp_A base) s.heap s.heap [] := va_S.rf
  have hl := lv_entry ([.ref q]) (n := 1) (Nat.le_of_ble_eq_true rfl)
  rw [lg_entry_eq]
  generalize (lg_sl ([.ref q]) ++ List.replicate (1 - (lg_sl ([.ref q])).length) Slot.unset).toArray = ls at hl ⊢
  have hl : lv_has ls 1 [(0, .ref q)] := hl
  refine lv_aload_n hx hb dX1_init_0 rfl (lv_at hl 0 rfl) ?_
  refine W.objInit hx hb hown (hts (.methodLink RX1 1 objectInit) (by decide +kernel)) (hts (.instanceMethod objectInit) (by decide +kernel)) (hts (.code objectInit ⟨#[0xb1]⟩ 1 none) (by decide +kernel)) rfl (by rw [hml]; exact hl.1) rfl dX1_init_1 (Nat.le_of_ble_eq_true rfl) (Nat.le_of_ble_eq_true rfl) ?_
  refine W.eq (g2 := F0 m 4 ls []) rfl ?_
  refine lv_aload_n hx hb dX1_init_4 rfl (lv_at hl 0 rfl) ?_
  refine hp_new (ci := 0) (fs := [.int 0, .int 0, .int 0, .int 0, .null, .null]) (C := RX0) (T := TX0) (N := 6) hx hb hts hin0 tyX0 tyX0_ok hown (hts (.classLink RX1 7 RX0) (by decide +kernel)) (hts (.instantiable RX0 6) (by decide +kernel)) (hts (.initialized RX0) (by decide +kernel)) C0 hf hS C0.1 rfl (fun j hj => by rcases (show j = 0 ∨ j = 1 ∨ j = 2 ∨ j = 3 ∨ j = 4 ∨ j = 5 by omega) with rfl | rfl | rfl | rfl | rfl | rfl <;> rfl) (Nat.le_of_ble_eq_true rfl) (Nat.le_of_ble_eq_true rfl) dX1_init_5 (fun a f_1 H hfr ef_1 hf hS => ?_)
  have ha : f_1 a = some (.inr (0, [.int 0, .int 0, .int 0, .int 0, .null, .null])) := by rw [ef_1]; exact va_up_self _ _ _
  have hne : a ≠ q := fun e => by rw [e, hq] at hfr; cases hfr
  refine lv_dup hx hb dX1_init_8 rfl ?_
  refine lv_iconst (v := 0) hx hb dX1_init_9 (by decide) ?_
  refine lv_iconst (v := 0) hx hb dX1_init_10 (by decide) ?_
  refine lv_iconst (v := (-1)) hx hb dX1_init_11 (by decide) ?_
  refine hp_kv (hp_rIN (As := [.int 0, .int 0, .int (-1)]) (rest := [.ref a, .ref q]) ⟨hx, hb, hml, hown, hts⟩ C0 hf hS (c_X0_init l D cy base f_1 a 0 0 (-1) ha) ⟨va_cnB (host := RX1) (index := 11) 3 hts gX1_init_X0_init_n11 rfl rfl rfl (C0.2.2 _ (by decide +kernel)) (hts (.initialized RX0) (by decide +kernel)) (by decide +kernel) ⟨Nat.le_of_ble_eq_true rfl, Nat.le_of_ble_eq_true rfl⟩, rfl, hts (.instanceMethod yX0_init) (by decide +kernel)⟩ rfl hl.1 rfl (Nat.le_of_ble_eq_true rfl) dX1_init_12 ⟨Nat.le_of_ble_eq_true rfl, Nat.le_of_ble_eq_true rfl⟩) hS (fun u_2 H locs hq_2 hf hS => ?_)
  rw [ef_1, bx_uu] at hq_2
  rw [if_pos rfl] at hq_2
  have kq : u_2 q = some (.inr (1, [.null, .int 0])) := by rw [hq_2, va_up_ne _ _ (Ne.symm hne)]; exact hq
  refine hp_putF (ci := 1) (v := .ref a) (C := RX1) (T := TX1) (N := 2) hx hb hts hin1 tyX1 tyX1_ok nmX1 hown C0 hf hS kq rfl 0 (by decide) (hts (.fieldLink RX1 14 "RouteTrie" "root" "LRouteTrie$Node;") (by decide +kernel)) (fun _ h9 => h9) rfl hin rfl rfl rfl (Nat.le_of_ble_eq_true rfl) dX1_init_15 (fun f_3 H locs ef_3 hf hS => ?_)
  have hc_3 : f_3 q = some (.inr (1, [.ref a, .int 0])) := by rw [ef_3]; exact va_up_self _ _ _
  refine lv_aload_n hx hb dX1_init_18 rfl (lv_at hl 0 rfl) ?_
  refine lv_iconst (v := 1) hx hb dX1_init_19 (by decide) ?_
  refine hp_put (ci := 1) (v := .int 1) (C := RX1) (T := TX1) (N := 2) hx hb hts hin1 tyX1 tyX1_ok nmX1 hown C0 hf hS hc_3 rfl 1 (by decide) (hts (.fieldLink RX1 18 "RouteTrie" "nodeCount" "I") (by decide +kernel)) (fun _ h9 => h9) rfl rfl rfl (Nat.le_of_ble_eq_true rfl) dX1_init_20 (fun f_4 H locs ef_4 hf hS => ?_)
  have hc_4 : f_4 q = some (.inr (1, [.ref a, .int 1])) := by rw [ef_4]; exact va_up_self _ _ _
  exact hp_vret hx hb hr hlocks C0 hf hS (by first | exact Nat.le_refl _ | omega) (by first | exact Nat.le_refl _ | omega) dX1_init_23 (⟨a, hfr, hne, by rw [ef_4, ef_3, bx_uu, hq_2]; rfl⟩)
