/-! grow, insert, init -/
set_option maxHeartbeats 4000000 in
set_option maxRecDepth 100000 in
theorem c_X1_grow (l : Launch) (D : va_G) (cy : ClassId) (base : Nat) (f : AH) (q : Nat) (N : List Nat) (t : NT) (root : Nat) (x : Int32) (k0 : Nat) (h : Int32) (hq : f q = some (trO root (nI N.length))) (hT : TN f N t) (hC : CI N t root) (hx0 : px x k0) (hh : ¬ h = -1) (hno : ∀ b ∈ N, tL t b = k0 → tB t b = x → isR t b = false) : Met l yX1_grow wsX1_grow ({ frames := 5, cells := 2, slots := 12, locals := 82 }) (va_Pc [.ref q, .int x, .int (nI k0), .int h] (hp_B D cy base f)) (va_Qv (fun (u : AH) => GP f q N t root (x, k0, h) u) (hp_B D cy base) (hp_A base)) 2 12 (hp_A base) := by
  refine Met.ofW (cc := cX1_grow) (maxL := 6) (ret := none) (by decide) rfl ?_
  intro p e s m args below meth c s₁ B hml hv
  obtain ⟨rfl, hf, C0⟩ := hv
  have hx := B.exec
  have hb := B.bytes
  have hr := B.returns
  have hts := atoms_spec (ws := wsX1_grow) B.pre
  have hown : s.vm.findClass RX1 = some m.cls := findClass_of_methodNamed B.named
  have hlocks := B.notSynchronized
  have hin0 : ∀ w ∈ wsX00, w ∈ wsX1_grow := by decide +kernel
  have hin1 : ∀ w ∈ wsX10, w ∈ wsX1_grow := by decide +kernel
  have hS : va_S (hp_A base) s.heap s.heap [] := va_S.rf
  have hl := lv_entry ([.ref q, .int x, .int (nI k0), .int h]) (n := 6) (Nat.le_of_ble_eq_true rfl)
  rw [lg_entry_eq]
  generalize (lg_sl ([.ref q, .int x, .int (nI k0), .int h]) ++ List.replicate (6 - (lg_sl ([.ref q, .int x, .int (nI k0), .int h])).length) Slot.unset).toArray = ls at hl ⊢
  have hl : lv_has ls 6 [(0, .ref q), (1, .int x), (2, .int (nI k0)), (3, .int h)] := hl
  have hst := hC.1
  have loop : ∀ (n a : Nat) (nxt : Option Nat) (fc : AH) (ls : Array Slot) (H : Heap) (locs : List Loc), a ∈ N → 34 ≤ tL t a + n → ag (tB t a) x (tL t a) → tL t a ≤ k0 → nxt = ch t a (bi x (tL t a)) → fc q = some (trO root (nI N.length)) → TN fc N (inc t x (tL t a)) → FR f fc N q → hp_ok D base fc H → va_S (hp_A base) s.heap H locs → lv_has ls 6 [(0, .ref q), (1, .int x), (2, .int (nI k0)), (3, .int h), (4, .ref a), (5, va_rf nxt)] → W p l e (headSpec wsX1_grow ({ frames := 5, cells := 2, slots := 12, locals := 82 } : Room)).room s m #[Value.ref q, Value.int x, Value.int (nI k0), Value.int h] below meth c H locs 0 0 (MQ below (va_Qv (fun (u : AH) => GP f q N t root (x, k0, h) u) (hp_B D cy base) (hp_A base)) #[Value.ref q, Value.int x, Value.int (nI k0), Value.int h] s 2 12 (hp_A base)) (F0 m 25 ls []) := by
    intro n
    induction n with
    | zero => intro a _ _ _ _ _ ha g; exact absurd g (by have := (hst.2.2.1 a ha).1; omega)
    | succ n ih =>
      intro a nxt fc ls H locs ha hm hax hal hnx hqc hTc hFc hf hS hl
      have pa := hst.2.2.1 a ha
      have k32 := hx0.1
      have hca : fc a = some (ndE (tB t a) (nI (tL t a)) (tH t a) (nI (tR t a + 1)) (tZ t a) (tO t a)) := by rw [hTc a ha, inc_self pa hax]; rfl
      have naq : a ≠ q := hp_dif hca hqc (by simp)
      refine hp_aloadq (r := nxt) hx hb dX1_grow_25 (lv_at hl 5 rfl) ?_
      refine hp_ifnullq (tgt := 74) (r := nxt) hx hb dX1_grow_27 (by decide) (fun h27 => ?_) (fun x27 h27 => ?_)
      · rw [h27] at hl
        have hl : lv_has ls 6 [(0, .ref q), (1, .int x), (2, .int (nI k0)), (3, .int h), (4, .ref a), (5, .null)] := hl
        have hend : ∀ c, ch t a (bi x (tL t a)) = some c → ¬ (tL t c ≤ k0 ∧ ag (tB t c) x (tL t c)) := fun c g => by rw [← hnx, h27] at g; cases g
        refine lv_aload hx hb dX1_grow_74 (lv_at hl 4 rfl) ?_
        refine hp_getN (ci := 0) (v := .int (nI (tL t a))) (own := RX1) (ref := RX0) (host := RX1) (index := 53) (C := RX0) (T := TX0) (N := 6) hx hb hts hin0 hown C0 hf hca rfl 1 (by decide) (by decide +kernel) (fun _ h9 => h9) rfl dX1_grow_76 ?_
        refine lv_iload_n hx hb dX1_grow_79 rfl (lv_at hl 2 rfl) ?_
        refine lv_icmp_ne (tgt := 92) hx hb dX1_grow_80 (by decide) (fun h80 => ?_) (fun h80 => ?_)
        · have halt : tL t a < k0 := Nat.lt_of_le_of_ne hal (fun e => h80 (by rw [e]))
          refine lv_aload hx hb dX1_grow_92 (lv_at hl 4 rfl) ?_
          refine lv_aload_n hx hb dX1_grow_94 rfl (lv_at hl 0 rfl) ?_
          refine lv_aloadN hx hb dX1_grow_95 (lv_at hl 5 rfl) ?_
          refine lv_aload_n hx hb dX1_grow_97 rfl (lv_at hl 0 rfl) ?_
          refine lv_iload_n hx hb dX1_grow_98 rfl (lv_at hl 1 rfl) ?_
          refine lv_iload_n hx hb dX1_grow_99 rfl (lv_at hl 2 rfl) ?_
          refine lv_iload_n hx hb dX1_grow_100 rfl (lv_at hl 3 rfl) ?_
          refine hp_kq (hp_rV (C := RX1) (As := [.int x, .int (nI k0), .int h]) (rest := [.null, .ref q, .ref a]) ⟨hx, hb, hml, hown, hts⟩ C0 hf hS (c_X1_newNode l D cy base fc q root (nI N.length) x (nI k0) h hqc) (cwV 3 hts gX1_grow_X1_newNode rfl rfl rfl (by decide +kernel) ⟨Nat.le_of_ble_eq_true rfl, Nat.le_of_ble_eq_true rfl⟩) hqc rfl rfl hl.1 rfl (Nat.le_of_ble_eq_true rfl) dX1_grow_101 ⟨Nat.le_of_ble_eq_true rfl, Nat.le_of_ble_eq_true rfl⟩) hS (fun r_1 u_1 H locs hq_1 hf hS => ?_)
          obtain ⟨fr, rfl, hfr0, hfrq, hu⟩ := hq_1
          have nfa : fr ≠ a := fun e => by rw [e, hca] at hfr0; cases hfr0
          have kq : u_1 q = some (trO root (nI N.length + 1)) := by rw [hu, va_up_ne _ _ (Ne.symm hfrq)]; exact va_up_self _ _ _
          have ka : u_1 a = some (ndE (tB t a) (nI (tL t a)) (tH t a) (nI (tR t a + 1)) (tZ t a) (tO t a)) := by rw [hu, va_up_ne _ _ (Ne.symm nfa), va_up_ne _ _ naq]; exact hca
          have kfr : u_1 fr = some (ndE x (nI k0) h (if h = -1 then 0 else 1) none none) := by rw [hu]; exact va_up_self _ _ _
          rw [if_neg hh] at kfr
          have ha32 : tL t a < 32 := by omega
          refine hp_kq (hp_rV (C := RX1) (As := [.null, .ref fr]) (rest := [.ref a]) ⟨hx, hb, hml, hown, hts⟩ C0 hf hS (c_X1_joined_none l D cy base u_1 q fr) (cwV 2 hts gX1_grow_X1_joined rfl rfl rfl (by decide +kernel) ⟨Nat.le_of_ble_eq_true rfl, Nat.le_of_ble_eq_true rfl⟩) kq rfl rfl hl.1 rfl (Nat.le_of_ble_eq_true rfl) dX1_grow_104 ⟨Nat.le_of_ble_eq_true rfl, Nat.le_of_ble_eq_true rfl⟩) hS (fun r_2 u_2 H locs hq_2 hf hS => ?_)
          obtain ⟨rfl, hu2⟩ := hq_2
          rw [hu2] at hf
          refine hp_kv (hp_rVN (C := RX0) (As := [.ref fr]) (rest := []) ⟨hx, hb, hml, hown, hts⟩ C0 hf hS (c_X0_hang l D cy base u_1 a (tB t a) (nI (tL t a)) (tH t a) (nI (tR t a + 1)) (tZ t a) (tO t a) fr x (nI k0) h 1 none none ka kfr) ⟨va_cnB (host := RX1) (index := 99) 1 hts gX1_grow_X0_hang_n99 rfl rfl rfl (C0.2.2 _ (by decide +kernel)) (hts (.initialized RX0) (by decide +kernel)) (by decide +kernel) ⟨Nat.le_of_ble_eq_true rfl, Nat.le_of_ble_eq_true rfl⟩, hts (.instanceMethod yX0_hang) (by decide +kernel), hts (.selects RX0 yX0_hang yX0_hang) (by decide +kernel)⟩ ka rfl rfl hl.1 rfl (Nat.le_of_ble_eq_true rfl) dX1_grow_107 ⟨Nat.le_of_ble_eq_true rfl, Nat.le_of_ble_eq_true rfl⟩) hS (fun u_3 H locs hq_3 hf hS => ?_)
          rcases hq_3 with ⟨dz, ez⟩ | ⟨dz, ez⟩
          · rw [g1_n ha32] at dz
            have kend := fin_BC (u := u_3) (fr := fr) (rr := 1) (zz := none) (oo := none) hC ha hax halt hx0 hh hend hqc hTc hFc hfr0 (by rw [ez, va_up_ne _ _ nfa]; exact kfr) (by rw [ez, va_up_self, if_pos dz, if_pos dz]) (by rw [ez, va_up_ne _ _ (Ne.symm naq)]; exact kq) (fun b n1 n2 n3 => by rw [ez, va_up_ne _ _ n2, hu, va_up_ne _ _ n1, va_up_ne _ _ n3]) (Or.inl ⟨by rw [← hnx]; exact h27, rfl, rfl, rfl⟩)
            exact hp_vret hx hb hr hlocks C0 hf hS (by first | exact Nat.le_refl _ | omega) (by first | exact Nat.le_refl _ | omega) dX1_grow_110 (kend)
          · rw [g1_n ha32] at dz
            have kend := fin_BC (u := u_3) (fr := fr) (rr := 1) (zz := none) (oo := none) hC ha hax halt hx0 hh hend hqc hTc hFc hfr0 (by rw [ez, va_up_ne _ _ nfa]; exact kfr) (by rw [ez, va_up_self, if_neg dz, if_neg dz]) (by rw [ez, va_up_ne _ _ (Ne.symm naq)]; exact kq) (fun b n1 n2 n3 => by rw [ez, va_up_ne _ _ n2, hu, va_up_ne _ _ n1, va_up_ne _ _ n3]) (Or.inl ⟨by rw [← hnx]; exact h27, rfl, rfl, rfl⟩)
            exact hp_vret hx hb hr hlocks C0 hf hS (by first | exact Nat.le_refl _ | omega) (by first | exact Nat.le_refl _ | omega) dX1_grow_110 (kend)
        · have hale : tL t a = k0 := (nI_eq (by omega) (by omega)).mp h80
          refine lv_aload hx hb dX1_grow_83 (lv_at hl 4 rfl) ?_
          refine lv_iload_n hx hb dX1_grow_85 rfl (lv_at hl 3 rfl) ?_
          refine hp_putN (ci := 0) (v := .int h) (own := RX1) (ref := RX0) (host := RX1) (index := 22) (C := RX0) (T := TX0) (N := 6) hx hb hts hin0 tyX0 tyX0_ok nmX0 hown C0 hf hS hca rfl 2 (by decide) (by decide +kernel) (fun _ h9 => h9) rfl rfl rfl (Nat.le_of_ble_eq_true rfl) dX1_grow_86 (fun f_4 H locs ef_4 hf hS => ?_)
          have hc_4 : f_4 a = some (.inr (0, [.int (tB t a), .int (nI (tL t a)), .int h, .int (nI (tR t a + 1)), va_rf (tZ t a), va_rf (tO t a)])) := by rw [ef_4]; exact va_up_self _ _ _
          have hc_4_q : f_4 q = some (.inr (1, [.ref root, .int (nI N.length)])) := by rw [ef_4, va_up_ne _ _ (hp_dif hqc hca (by simp))]; exact hqc
          refine lv_goto (tgt := 110) hx hb dX1_grow_89 (by decide) ?_
          exact hp_vret hx hb hr hlocks C0 hf hS (by first | exact Nat.le_refl _ | omega) (by first | exact Nat.le_refl _ | omega) dX1_grow_110 (fin_A hC ha hax hale hx0 hh hno hqc hTc hFc ef_4)
      · rw [h27] at hl
        have hl : lv_has ls 6 [(0, .ref q), (1, .int x), (2, .int (nI k0)), (3, .int h), (4, .ref a), (5, .ref x27)] := hl
        have hch : ch t a (bi x (tL t a)) = some x27 := by rw [← hnx]; exact h27
        obtain ⟨hcN, hcl, -, -⟩ := hst.2.2.2.2.1 a ha _ x27 hch
        have pc := hst.2.2.1 x27 hcN
        have hcc : fc x27 = some (ndo (t x27)) := by rw [hTc x27 hcN, inc_gt hcl]
        have nca : x27 ≠ a := fun e => by rw [e] at hcl; omega
        have hc32 := pc.1
        refine lv_aload hx hb dX1_grow_30 (lv_at hl 5 rfl) ?_
        refine hp_getN (ci := 0) (v := .int (nI (tL t x27))) (own := RX1) (ref := RX0) (host := RX1) (index := 53) (C := RX0) (T := TX0) (N := 6) hx hb hts hin0 hown C0 hf hcc rfl 1 (by decide) (by decide +kernel) (fun _ h9 => h9) rfl dX1_grow_32 ?_
        refine lv_iload_n hx hb dX1_grow_35 rfl (lv_at hl 2 rfl) ?_
        refine lv_icmp_gt (tgt := 74) hx hb dX1_grow_36 (by decide) (fun h36 => ?_) (fun h36 => ?_)
        · have hend : ∀ c, ch t a (bi x (tL t a)) = some c → ¬ (tL t c ≤ k0 ∧ ag (tB t c) x (tL t c)) := fun c g k => by rw [hch] at g; cases g; exact absurd ((nI_ltI (by omega) (by omega)).mp h36) (by omega)
          refine lv_aload hx hb dX1_grow_74 (lv_at hl 4 rfl) ?_
          refine hp_getN (ci := 0) (v := .int (nI (tL t a))) (own := RX1) (ref := RX0) (host := RX1) (index := 53) (C := RX0) (T := TX0) (N := 6) hx hb hts hin0 hown C0 hf hca rfl 1 (by decide) (by decide +kernel) (fun _ h9 => h9) rfl dX1_grow_76 ?_
          refine lv_iload_n hx hb dX1_grow_79 rfl (lv_at hl 2 rfl) ?_
          refine lv_icmp_ne (tgt := 92) hx hb dX1_grow_80 (by decide) (fun h80 => ?_) (fun h80 => ?_)
          · have halt : tL t a < k0 := Nat.lt_of_le_of_ne hal (fun e => h80 (by rw [e]))
            refine lv_aload hx hb dX1_grow_92 (lv_at hl 4 rfl) ?_
            refine lv_aload_n hx hb dX1_grow_94 rfl (lv_at hl 0 rfl) ?_
            refine lv_aload hx hb dX1_grow_95 (lv_at hl 5 rfl) ?_
            refine lv_aload_n hx hb dX1_grow_97 rfl (lv_at hl 0 rfl) ?_
            refine lv_iload_n hx hb dX1_grow_98 rfl (lv_at hl 1 rfl) ?_
            refine lv_iload_n hx hb dX1_grow_99 rfl (lv_at hl 2 rfl) ?_
            refine lv_iload_n hx hb dX1_grow_100 rfl (lv_at hl 3 rfl) ?_
            refine hp_kq (hp_rV (C := RX1) (As := [.int x, .int (nI k0), .int h]) (rest := [.ref x27, .ref q, .ref a]) ⟨hx, hb, hml, hown, hts⟩ C0 hf hS (c_X1_newNode l D cy base fc q root (nI N.length) x (nI k0) h hqc) (cwV 3 hts gX1_grow_X1_newNode rfl rfl rfl (by decide +kernel) ⟨Nat.le_of_ble_eq_true rfl, Nat.le_of_ble_eq_true rfl⟩) hqc rfl rfl hl.1 rfl (Nat.le_of_ble_eq_true rfl) dX1_grow_101 ⟨Nat.le_of_ble_eq_true rfl, Nat.le_of_ble_eq_true rfl⟩) hS (fun r_5 u_5 H locs hq_5 hf hS => ?_)
            obtain ⟨fr, rfl, hfr0, hfrq, hu⟩ := hq_5
            have nfa : fr ≠ a := fun e => by rw [e, hca] at hfr0; cases hfr0
            have kq : u_5 q = some (trO root (nI N.length + 1)) := by rw [hu, va_up_ne _ _ (Ne.symm hfrq)]; exact va_up_self _ _ _
            have ka : u_5 a = some (ndE (tB t a) (nI (tL t a)) (tH t a) (nI (tR t a + 1)) (tZ t a) (tO t a)) := by rw [hu, va_up_ne _ _ (Ne.symm nfa), va_up_ne _ _ naq]; exact hca
            have kfr : u_5 fr = some (ndE x (nI k0) h (if h = -1 then 0 else 1) none none) := by rw [hu]; exact va_up_self _ _ _
            rw [if_neg hh] at kfr
            have nfc : fr ≠ x27 := fun e => by rw [e, hcc] at hfr0; cases hfr0
            have ncq : x27 ≠ q := hp_dif hcc hqc (by simp)
            have kc : u_5 x27 = some (ndo (t x27)) := by rw [hu, va_up_ne _ _ (Ne.symm nfc), va_up_ne _ _ ncq]; exact hcc
            have ha32 : tL t a < 32 := by omega
            refine hp_kq (hp_rV (C := RX1) (As := [.ref x27, .ref fr]) (rest := [.ref a]) ⟨hx, hb, hml, hown, hts⟩ C0 hf hS (c_X1_joined_some l D cy base u_5 q root (nI N.length + 1) x27 (tB t x27) (tL t x27) (tH t x27) (tR t x27) (tZ t x27) (tO t x27) fr x k0 h 1 kq kc kfr (Ne.symm nfc) hc32 hx0 (hend x27 hch)) (cwV 2 hts gX1_grow_X1_joined rfl rfl rfl (by decide +kernel) ⟨Nat.le_of_ble_eq_true rfl, Nat.le_of_ble_eq_true rfl⟩) kq rfl rfl hl.1 rfl (Nat.le_of_ble_eq_true rfl) dX1_grow_104 ⟨Nat.le_of_ble_eq_true rfl, Nat.le_of_ble_eq_true rfl⟩) hS (fun r_6 u_6 H locs hq_6 hf hS => ?_)
            rcases hq_6 with ⟨⟨j1, j2⟩, rfl, eu⟩ | ⟨k, g, j1, j2, j3, j4, rfl, hg0, hgq, eu⟩
            · have ka2 : u_6 a = some (ndE (tB t a) (nI (tL t a)) (tH t a) (nI (tR t a + 1)) (tZ t a) (tO t a)) := by rw [eu, va_up_ne _ _ (Ne.symm nfa)]; exact ka
              have kf2 : u_6 fr = some (ndE x (nI k0) h (nI (tR t x27 + 1)) (if bi (tB t x27) k0 = true then none else some x27) (if bi (tB t x27) k0 = true then some x27 else none)) := by rw [eu]; exact va_up_self _ _ _
              refine hp_kv (hp_rVN (C := RX0) (As := [.ref fr]) (rest := []) ⟨hx, hb, hml, hown, hts⟩ C0 hf hS (c_X0_hang l D cy base u_6 a (tB t a) (nI (tL t a)) (tH t a) (nI (tR t a + 1)) (tZ t a) (tO t a) fr x (nI k0) h (nI (tR t x27 + 1)) (if bi (tB t x27) k0 = true then none else some x27) (if bi (tB t x27) k0 = true then some x27 else none) ka2 kf2) ⟨va_cnB (host := RX1) (index := 99) 1 hts gX1_grow_X0_hang_n99 rfl rfl rfl (C0.2.2 _ (by decide +kernel)) (hts (.initialized RX0) (by decide +kernel)) (by decide +kernel) ⟨Nat.le_of_ble_eq_true rfl, Nat.le_of_ble_eq_true rfl⟩, hts (.instanceMethod yX0_hang) (by decide +kernel), hts (.selects RX0 yX0_hang yX0_hang) (by decide +kernel)⟩ ka2 rfl rfl hl.1 rfl (Nat.le_of_ble_eq_true rfl) dX1_grow_107 ⟨Nat.le_of_ble_eq_true rfl, Nat.le_of_ble_eq_true rfl⟩) hS (fun u_7 H locs hq_7 hf hS => ?_)
              rcases hq_7 with ⟨dz, ez⟩ | ⟨dz, ez⟩
              · rw [g1_n ha32] at dz
                have kend := fin_BC (u := u_7) (fr := fr) (rr := tR t x27 + 1) (zz := if bi (tB t x27) k0 = true then none else some x27) (oo := if bi (tB t x27) k0 = true then some x27 else none) hC ha hax halt hx0 hh hend hqc hTc hFc hfr0 (by rw [ez, va_up_ne _ _ nfa]; exact kf2) (by rw [ez, va_up_self, if_pos dz, if_pos dz]) (by rw [ez, va_up_ne _ _ (Ne.symm naq), eu, va_up_ne _ _ (Ne.symm hfrq)]; exact kq) (fun b n1 n2 n3 => by rw [ez, va_up_ne _ _ n2, eu, va_up_ne _ _ n1, hu, va_up_ne _ _ n1, va_up_ne _ _ n3]) (Or.inr ⟨x27, hch, j1, j2, rfl, rfl, rfl⟩)
                exact hp_vret hx hb hr hlocks C0 hf hS (by first | exact Nat.le_refl _ | omega) (by first | exact Nat.le_refl _ | omega) dX1_grow_110 (kend)
              · rw [g1_n ha32] at dz
                have kend := fin_BC (u := u_7) (fr := fr) (rr := tR t x27 + 1) (zz := if bi (tB t x27) k0 = true then none else some x27) (oo := if bi (tB t x27) k0 = true then some x27 else none) hC ha hax halt hx0 hh hend hqc hTc hFc hfr0 (by rw [ez, va_up_ne _ _ nfa]; exact kf2) (by rw [ez, va_up_self, if_neg dz, if_neg dz]) (by rw [ez, va_up_ne _ _ (Ne.symm naq), eu, va_up_ne _ _ (Ne.symm hfrq)]; exact kq) (fun b n1 n2 n3 => by rw [ez, va_up_ne _ _ n2, eu, va_up_ne _ _ n1, hu, va_up_ne _ _ n1, va_up_ne _ _ n3]) (Or.inr ⟨x27, hch, j1, j2, rfl, rfl, rfl⟩)
                exact hp_vret hx hb hr hlocks C0 hf hS (by first | exact Nat.le_refl _ | omega) (by first | exact Nat.le_refl _ | omega) dX1_grow_110 (kend)
            · have nga : g ≠ a := fun e => by rw [e, ka] at hg0; cases hg0
              have ngf : fr ≠ g := fun e => by rw [← e, kfr] at hg0; cases hg0
              have hgc : fc g = none := by rw [hu, va_up_ne _ _ (Ne.symm ngf), va_up_ne _ _ hgq] at hg0; exact hg0
              have ka2 : u_6 a = some (ndE (tB t a) (nI (tL t a)) (tH t a) (nI (tR t a + 1)) (tZ t a) (tO t a)) := by rw [eu, va_up_ne _ _ (Ne.symm nga), va_up_ne _ _ naq]; exact ka
              have kg2 : u_6 g = some (ndE (fb x k) (nI k) (-1) (nI (tR t x27 + 1)) (if bi x k = true then some x27 else some fr) (if bi x k = true then some fr else some x27)) := by rw [eu]; exact va_up_self _ _ _
              have hak : tL t a < k := by
                obtain ⟨-, -, c3, c4⟩ := hst.2.2.2.2.1 a ha _ x27 hch
                rcases Nat.lt_trichotomy (tL t a) k with z | z | z
                · exact z
                · exact absurd (by rw [← z]; exact c4) j4
                · exact absurd ((c3 k z).symm.trans (hax k z)) j4
              have hbk : bi (fb x k) (tL t a) = bi x (tL t a) := fb_ag (by omega) _ hak
              refine hp_kv (hp_rVN (C := RX0) (As := [.ref g]) (rest := []) ⟨hx, hb, hml, hown, hts⟩ C0 hf hS (c_X0_hang l D cy base u_6 a (tB t a) (nI (tL t a)) (tH t a) (nI (tR t a + 1)) (tZ t a) (tO t a) g (fb x k) (nI k) (-1) (nI (tR t x27 + 1)) (if bi x k = true then some x27 else some fr) (if bi x k = true then some fr else some x27) ka2 kg2) ⟨va_cnB (host := RX1) (index := 99) 1 hts gX1_grow_X0_hang_n99 rfl rfl rfl (C0.2.2 _ (by decide +kernel)) (hts (.initialized RX0) (by decide +kernel)) (by decide +kernel) ⟨Nat.le_of_ble_eq_true rfl, Nat.le_of_ble_eq_true rfl⟩, hts (.instanceMethod yX0_hang) (by decide +kernel), hts (.selects RX0 yX0_hang yX0_hang) (by decide +kernel)⟩ ka2 rfl rfl hl.1 rfl (Nat.le_of_ble_eq_true rfl) dX1_grow_107 ⟨Nat.le_of_ble_eq_true rfl, Nat.le_of_ble_eq_true rfl⟩) hS (fun u_8 H locs hq_8 hf hS => ?_)
              rcases hq_8 with ⟨dz, ez⟩ | ⟨dz, ez⟩
              · rw [g1_n ha32, hbk] at dz
                have kend := fin_D (u := u_8) (fr := fr) (g := g) (c := x27) (k := k) hC ha hax halt hx0 hh hend hqc hTc hFc hfr0 hgc ngf hch j1 j2 j3 j4 (by rw [ez, va_up_ne _ _ nfa, eu, va_up_ne _ _ ngf, va_up_ne _ _ hfrq]; exact kfr) (by rw [ez, va_up_ne _ _ nga]; exact kg2) (by rw [ez, va_up_self, if_pos dz, if_pos dz]) (by rw [ez, va_up_ne _ _ (Ne.symm naq), eu, va_up_ne _ _ (Ne.symm hgq)]; exact va_up_self _ _ _) (fun b n1 n2 n3 n4 => by rw [ez, va_up_ne _ _ n3, eu, va_up_ne _ _ n2, va_up_ne _ _ n4, hu, va_up_ne _ _ n1, va_up_ne _ _ n4])
                exact hp_vret hx hb hr hlocks C0 hf hS (by first | exact Nat.le_refl _ | omega) (by first | exact Nat.le_refl _ | omega) dX1_grow_110 (kend)
              · rw [g1_n ha32, hbk] at dz
                have kend := fin_D (u := u_8) (fr := fr) (g := g) (c := x27) (k := k) hC ha hax halt hx0 hh hend hqc hTc hFc hfr0 hgc ngf hch j1 j2 j3 j4 (by rw [ez, va_up_ne _ _ nfa, eu, va_up_ne _ _ ngf, va_up_ne _ _ hfrq]; exact kfr) (by rw [ez, va_up_ne _ _ nga]; exact kg2) (by rw [ez, va_up_self, if_neg dz, if_neg dz]) (by rw [ez, va_up_ne _ _ (Ne.symm naq), eu, va_up_ne _ _ (Ne.symm hgq)]; exact va_up_self _ _ _) (fun b n1 n2 n3 n4 => by rw [ez, va_up_ne _ _ n3, eu, va_up_ne _ _ n2, va_up_ne _ _ n4, hu, va_up_ne _ _ n1, va_up_ne _ _ n4])
                exact hp_vret hx hb hr hlocks C0 hf hS (by first | exact Nat.le_refl _ | omega) (by first | exact Nat.le_refl _ | omega) dX1_grow_110 (kend)
          · have hale : tL t a = k0 := (nI_eq (by omega) (by omega)).mp h80
            refine lv_aload hx hb dX1_grow_83 (lv_at hl 4 rfl) ?_
            refine lv_iload_n hx hb dX1_grow_85 rfl (lv_at hl 3 rfl) ?_
            refine hp_putN (ci := 0) (v := .int h) (own := RX1) (ref := RX0) (host := RX1) (index := 22) (C := RX0) (T := TX0) (N := 6) hx hb hts hin0 tyX0 tyX0_ok nmX0 hown C0 hf hS hca rfl 2 (by decide) (by decide +kernel) (fun _ h9 => h9) rfl rfl rfl (Nat.le_of_ble_eq_true rfl) dX1_grow_86 (fun f_9 H locs ef_9 hf hS => ?_)
            have hc_9 : f_9 a = some (.inr (0, [.int (tB t a), .int (nI (tL t a)), .int h, .int (nI (tR t a + 1)), va_rf (tZ t a), va_rf (tO t a)])) := by rw [ef_9]; exact va_up_self _ _ _
            have hc_9_q : f_9 q = some (.inr (1, [.ref root, .int (nI N.length)])) := by rw [ef_9, va_up_ne _ _ (hp_dif hqc hca (by simp))]; exact hqc
            have hc_9_x27 : f_9 x27 = some (.inr (0, [.int (tB t x27), .int (nI (tL t x27)), .int (tH t x27), .int (nI (tR t x27)), va_rf (tZ t x27), va_rf (tO t x27)])) := by rw [ef_9, va_up_ne _ _ nca]; exact hcc
            refine lv_goto (tgt := 110) hx hb dX1_grow_89 (by decide) ?_
            exact hp_vret hx hb hr hlocks C0 hf hS (by first | exact Nat.le_refl _ | omega) (by first | exact Nat.le_refl _ | omega) dX1_grow_110 (fin_A hC ha hax hale hx0 hh hno hqc hTc hFc ef_9)
        · refine lv_aload hx hb dX1_grow_39 (lv_at hl 5 rfl) ?_
          refine lv_iload_n hx hb dX1_grow_41 rfl (lv_at hl 1 rfl) ?_
          refine hp_ki (hp_rVN (C := RX0) (As := [.int x]) (rest := []) ⟨hx, hb, hml, hown, hts⟩ C0 hf hS (c_X0_isBeginOf l D cy base fc x27 (tB t x27) (nI (tL t x27)) (tH t x27) (nI (tR t x27)) (tZ t x27) (tO t x27) x hcc) ⟨va_cnB (host := RX1) (index := 65) 1 hts gX1_grow_X0_isBeginOf_n65 rfl rfl rfl (C0.2.2 _ (by decide +kernel)) (hts (.initialized RX0) (by decide +kernel)) (by decide +kernel) ⟨Nat.le_of_ble_eq_true rfl, Nat.le_of_ble_eq_true rfl⟩, hts (.instanceMethod yX0_isBeginOf) (by decide +kernel), hts (.selects RX0 yX0_isBeginOf yX0_isBeginOf) (by decide +kernel)⟩ hcc rfl rfl hl.1 rfl (Nat.le_of_ble_eq_true rfl) dX1_grow_42 ⟨Nat.le_of_ble_eq_true rfl, Nat.le_of_ble_eq_true rfl⟩) hS (fun r_10 u_10 H locs hq_10 hf hS => ?_)
          obtain ⟨hr_10, hu⟩ := hq_10
          rw [hu] at hf
          have hbg : ¬ r_10 = 0 ↔ ag (tB t x27) x (tL t x27) := by rw [← bg_iff pc]; rw [hr_10]; split <;> simp_all
          refine lv_if_eq (tgt := 74) hx hb dX1_grow_45 (by decide) (fun h45 => ?_) (fun h45 => ?_)
          · have hend : ∀ c, ch t a (bi x (tL t a)) = some c → ¬ (tL t c ≤ k0 ∧ ag (tB t c) x (tL t c)) := fun c g k => by rw [hch] at g; cases g; exact ((not_congr hbg).mp (fun z => z h45)) k.2
            refine lv_aload hx hb dX1_grow_74 (lv_at hl 4 rfl) ?_
            refine hp_getN (ci := 0) (v := .int (nI (tL t a))) (own := RX1) (ref := RX0) (host := RX1) (index := 53) (C := RX0) (T := TX0) (N := 6) hx hb hts hin0 hown C0 hf hca rfl 1 (by decide) (by decide +kernel) (fun _ h9 => h9) rfl dX1_grow_76 ?_
            refine lv_iload_n hx hb dX1_grow_79 rfl (lv_at hl 2 rfl) ?_
            refine lv_icmp_ne (tgt := 92) hx hb dX1_grow_80 (by decide) (fun h80 => ?_) (fun h80 => ?_)
            · have halt : tL t a < k0 := Nat.lt_of_le_of_ne hal (fun e => h80 (by rw [e]))
              refine lv_aload hx hb dX1_grow_92 (lv_at hl 4 rfl) ?_
              refine lv_aload_n hx hb dX1_grow_94 rfl (lv_at hl 0 rfl) ?_
              refine lv_aload hx hb dX1_grow_95 (lv_at hl 5 rfl) ?_
              refine lv_aload_n hx hb dX1_grow_97 rfl (lv_at hl 0 rfl) ?_
              refine lv_iload_n hx hb dX1_grow_98 rfl (lv_at hl 1 rfl) ?_
              refine lv_iload_n hx hb dX1_grow_99 rfl (lv_at hl 2 rfl) ?_
              refine lv_iload_n hx hb dX1_grow_100 rfl (lv_at hl 3 rfl) ?_
              refine hp_kq (hp_rV (C := RX1) (As := [.int x, .int (nI k0), .int h]) (rest := [.ref x27, .ref q, .ref a]) ⟨hx, hb, hml, hown, hts⟩ C0 hf hS (c_X1_newNode l D cy base fc q root (nI N.length) x (nI k0) h hqc) (cwV 3 hts gX1_grow_X1_newNode rfl rfl rfl (by decide +kernel) ⟨Nat.le_of_ble_eq_true rfl, Nat.le_of_ble_eq_true rfl⟩) hqc rfl rfl hl.1 rfl (Nat.le_of_ble_eq_true rfl) dX1_grow_101 ⟨Nat.le_of_ble_eq_true rfl, Nat.le_of_ble_eq_true rfl⟩) hS (fun r_11 u_11 H locs hq_11 hf hS => ?_)
              obtain ⟨fr, rfl, hfr0, hfrq, hu⟩ := hq_11
              have nfa : fr ≠ a := fun e => by rw [e, hca] at hfr0; cases hfr0
              have kq : u_11 q = some (trO root (nI N.length + 1)) := by rw [hu, va_up_ne _ _ (Ne.symm hfrq)]; exact va_up_self _ _ _
              have ka : u_11 a = some (ndE (tB t a) (nI (tL t a)) (tH t a) (nI (tR t a + 1)) (tZ t a) (tO t a)) := by rw [hu, va_up_ne _ _ (Ne.symm nfa), va_up_ne _ _ naq]; exact hca
              have kfr : u_11 fr = some (ndE x (nI k0) h (if h = -1 then 0 else 1) none none) := by rw [hu]; exact va_up_self _ _ _
              rw [if_neg hh] at kfr
              have nfc : fr ≠ x27 := fun e => by rw [e, hcc] at hfr0; cases hfr0
              have ncq : x27 ≠ q := hp_dif hcc hqc (by simp)
              have kc : u_11 x27 = some (ndo (t x27)) := by rw [hu, va_up_ne _ _ (Ne.symm nfc), va_up_ne _ _ ncq]; exact hcc
              have ha32 : tL t a < 32 := by omega
              refine hp_kq (hp_rV (C := RX1) (As := [.ref x27, .ref fr]) (rest := [.ref a]) ⟨hx, hb, hml, hown, hts⟩ C0 hf hS (c_X1_joined_some l D cy base u_11 q root (nI N.length + 1) x27 (tB t x27) (tL t x27) (tH t x27) (tR t x27) (tZ t x27) (tO t x27) fr x k0 h 1 kq kc kfr (Ne.symm nfc) hc32 hx0 (hend x27 hch)) (cwV 2 hts gX1_grow_X1_joined rfl rfl rfl (by decide +kernel) ⟨Nat.le_of_ble_eq_true rfl, Nat.le_of_ble_eq_true rfl⟩) kq rfl rfl hl.1 rfl (Nat.le_of_ble_eq_true rfl) dX1_grow_104 ⟨Nat.le_of_ble_eq_true rfl, Nat.le_of_ble_eq_true rfl⟩) hS (fun r_12 u_12 H locs hq_12 hf hS => ?_)
              rcases hq_12 with ⟨⟨j1, j2⟩, rfl, eu⟩ | ⟨k, g, j1, j2, j3, j4, rfl, hg0, hgq, eu⟩
              · have ka2 : u_12 a = some (ndE (tB t a) (nI (tL t a)) (tH t a) (nI (tR t a + 1)) (tZ t a) (tO t a)) := by rw [eu, va_up_ne _ _ (Ne.symm nfa)]; exact ka
                have kf2 : u_12 fr = some (ndE x (nI k0) h (nI (tR t x27 + 1)) (if bi (tB t x27) k0 = true then none else some x27) (if bi (tB t x27) k0 = true then some x27 else none)) := by rw [eu]; exact va_up_self _ _ _
                refine hp_kv (hp_rVN (C := RX0) (As := [.ref fr]) (rest := []) ⟨hx, hb, hml, hown, hts⟩ C0 hf hS (c_X0_hang l D cy base u_12 a (tB t a) (nI (tL t a)) (tH t a) (nI (tR t a + 1)) (tZ t a) (tO t a) fr x (nI k0) h (nI (tR t x27 + 1)) (if bi (tB t x27) k0 = true then none else some x27) (if bi (tB t x27) k0 = true then some x27 else none) ka2 kf2) ⟨va_cnB (host := RX1) (index := 99) 1 hts gX1_grow_X0_hang_n99 rfl rfl rfl (C0.2.2 _ (by decide +kernel)) (hts (.initialized RX0) (by decide +kernel)) (by decide +kernel) ⟨Nat.le_of_ble_eq_true rfl, Nat.le_of_ble_eq_true rfl⟩, hts (.instanceMethod yX0_hang) (by decide +kernel), hts (.selects RX0 yX0_hang yX0_hang) (by decide +kernel)⟩ ka2 rfl rfl hl.1 rfl (Nat.le_of_ble_eq_true rfl) dX1_grow_107 ⟨Nat.le_of_ble_eq_true rfl, Nat.le_of_ble_eq_true rfl⟩) hS (fun u_13 H locs hq_13 hf hS => ?_)
                rcases hq_13 with ⟨dz, ez⟩ | ⟨dz, ez⟩
                · rw [g1_n ha32] at dz
                  have kend := fin_BC (u := u_13) (fr := fr) (rr := tR t x27 + 1) (zz := if bi (tB t x27) k0 = true then none else some x27) (oo := if bi (tB t x27) k0 = true then some x27 else none) hC ha hax halt hx0 hh hend hqc hTc hFc hfr0 (by rw [ez, va_up_ne _ _ nfa]; exact kf2) (by rw [ez, va_up_self, if_pos dz, if_pos dz]) (by rw [ez, va_up_ne _ _ (Ne.symm naq), eu, va_up_ne _ _ (Ne.symm hfrq)]; exact kq) (fun b n1 n2 n3 => by rw [ez, va_up_ne _ _ n2, eu, va_up_ne _ _ n1, hu, va_up_ne _ _ n1, va_up_ne _ _ n3]) (Or.inr ⟨x27, hch, j1, j2, rfl, rfl, rfl⟩)
                  exact hp_vret hx hb hr hlocks C0 hf hS (by first | exact Nat.le_refl _ | omega) (by first | exact Nat.le_refl _ | omega) dX1_grow_110 (kend)
                · rw [g1_n ha32] at dz
                  have kend := fin_BC (u := u_13) (fr := fr) (rr := tR t x27 + 1) (zz := if bi (tB t x27) k0 = true then none else some x27) (oo := if bi (tB t x27) k0 = true then some x27 else none) hC ha hax halt hx0 hh hend hqc hTc hFc hfr0 (by rw [ez, va_up_ne _ _ nfa]; exact kf2) (by rw [ez, va_up_self, if_neg dz, if_neg dz]) (by rw [ez, va_up_ne _ _ (Ne.symm naq), eu, va_up_ne _ _ (Ne.symm hfrq)]; exact kq) (fun b n1 n2 n3 => by rw [ez, va_up_ne _ _ n2, eu, va_up_ne _ _ n1, hu, va_up_ne _ _ n1, va_up_ne _ _ n3]) (Or.inr ⟨x27, hch, j1, j2, rfl, rfl, rfl⟩)
                  exact hp_vret hx hb hr hlocks C0 hf hS (by first | exact Nat.le_refl _ | omega) (by first | exact Nat.le_refl _ | omega) dX1_grow_110 (kend)
              · have nga : g ≠ a := fun e => by rw [e, ka] at hg0; cases hg0
                have ngf : fr ≠ g := fun e => by rw [← e, kfr] at hg0; cases hg0
                have hgc : fc g = none := by rw [hu, va_up_ne _ _ (Ne.symm ngf), va_up_ne _ _ hgq] at hg0; exact hg0
                have ka2 : u_12 a = some (ndE (tB t a) (nI (tL t a)) (tH t a) (nI (tR t a + 1)) (tZ t a) (tO t a)) := by rw [eu, va_up_ne _ _ (Ne.symm nga), va_up_ne _ _ naq]; exact ka
                have kg2 : u_12 g = some (ndE (fb x k) (nI k) (-1) (nI (tR t x27 + 1)) (if bi x k = true then some x27 else some fr) (if bi x k = true then some fr else some x27)) := by rw [eu]; exact va_up_self _ _ _
                have hak : tL t a < k := by
                  obtain ⟨-, -, c3, c4⟩ := hst.2.2.2.2.1 a ha _ x27 hch
                  rcases Nat.lt_trichotomy (tL t a) k with z | z | z
                  · exact z
                  · exact absurd (by rw [← z]; exact c4) j4
                  · exact absurd ((c3 k z).symm.trans (hax k z)) j4
                have hbk : bi (fb x k) (tL t a) = bi x (tL t a) := fb_ag (by omega) _ hak
                refine hp_kv (hp_rVN (C := RX0) (As := [.ref g]) (rest := []) ⟨hx, hb, hml, hown, hts⟩ C0 hf hS (c_X0_hang l D cy base u_12 a (tB t a) (nI (tL t a)) (tH t a) (nI (tR t a + 1)) (tZ t a) (tO t a) g (fb x k) (nI k) (-1) (nI (tR t x27 + 1)) (if bi x k = true then some x27 else some fr) (if bi x k = true then some fr else some x27) ka2 kg2) ⟨va_cnB (host := RX1) (index := 99) 1 hts gX1_grow_X0_hang_n99 rfl rfl rfl (C0.2.2 _ (by decide +kernel)) (hts (.initialized RX0) (by decide +kernel)) (by decide +kernel) ⟨Nat.le_of_ble_eq_true rfl, Nat.le_of_ble_eq_true rfl⟩, hts (.instanceMethod yX0_hang) (by decide +kernel), hts (.selects RX0 yX0_hang yX0_hang) (by decide +kernel)⟩ ka2 rfl rfl hl.1 rfl (Nat.le_of_ble_eq_true rfl) dX1_grow_107 ⟨Nat.le_of_ble_eq_true rfl, Nat.le_of_ble_eq_true rfl⟩) hS (fun u_14 H locs hq_14 hf hS => ?_)
                rcases hq_14 with ⟨dz, ez⟩ | ⟨dz, ez⟩
                · rw [g1_n ha32, hbk] at dz
                  have kend := fin_D (u := u_14) (fr := fr) (g := g) (c := x27) (k := k) hC ha hax halt hx0 hh hend hqc hTc hFc hfr0 hgc ngf hch j1 j2 j3 j4 (by rw [ez, va_up_ne _ _ nfa, eu, va_up_ne _ _ ngf, va_up_ne _ _ hfrq]; exact kfr) (by rw [ez, va_up_ne _ _ nga]; exact kg2) (by rw [ez, va_up_self, if_pos dz, if_pos dz]) (by rw [ez, va_up_ne _ _ (Ne.symm naq), eu, va_up_ne _ _ (Ne.symm hgq)]; exact va_up_self _ _ _) (fun b n1 n2 n3 n4 => by rw [ez, va_up_ne _ _ n3, eu, va_up_ne _ _ n2, va_up_ne _ _ n4, hu, va_up_ne _ _ n1, va_up_ne _ _ n4])
                  exact hp_vret hx hb hr hlocks C0 hf hS (by first | exact Nat.le_refl _ | omega) (by first | exact Nat.le_refl _ | omega) dX1_grow_110 (kend)
                · rw [g1_n ha32, hbk] at dz
                  have kend := fin_D (u := u_14) (fr := fr) (g := g) (c := x27) (k := k) hC ha hax halt hx0 hh hend hqc hTc hFc hfr0 hgc ngf hch j1 j2 j3 j4 (by rw [ez, va_up_ne _ _ nfa, eu, va_up_ne _ _ ngf, va_up_ne _ _ hfrq]; exact kfr) (by rw [ez, va_up_ne _ _ nga]; exact kg2) (by rw [ez, va_up_self, if_neg dz, if_neg dz]) (by rw [ez, va_up_ne _ _ (Ne.symm naq), eu, va_up_ne _ _ (Ne.symm hgq)]; exact va_up_self _ _ _) (fun b n1 n2 n3 n4 => by rw [ez, va_up_ne _ _ n3, eu, va_up_ne _ _ n2, va_up_ne _ _ n4, hu, va_up_ne _ _ n1, va_up_ne _ _ n4])
                  exact hp_vret hx hb hr hlocks C0 hf hS (by first | exact Nat.le_refl _ | omega) (by first | exact Nat.le_refl _ | omega) dX1_grow_110 (kend)
            · have hale : tL t a = k0 := (nI_eq (by omega) (by omega)).mp h80
              refine lv_aload hx hb dX1_grow_83 (lv_at hl 4 rfl) ?_
              refine lv_iload_n hx hb dX1_grow_85 rfl (lv_at hl 3 rfl) ?_
              refine hp_putN (ci := 0) (v := .int h) (own := RX1) (ref := RX0) (host := RX1) (index := 22) (C := RX0) (T := TX0) (N := 6) hx hb hts hin0 tyX0 tyX0_ok nmX0 hown C0 hf hS hca rfl 2 (by decide) (by decide +kernel) (fun _ h9 => h9) rfl rfl rfl (Nat.le_of_ble_eq_true rfl) dX1_grow_86 (fun f_15 H locs ef_15 hf hS => ?_)
              have hc_15 : f_15 a = some (.inr (0, [.int (tB t a), .int (nI (tL t a)), .int h, .int (nI (tR t a + 1)), va_rf (tZ t a), va_rf (tO t a)])) := by rw [ef_15]; exact va_up_self _ _ _
              have hc_15_q : f_15 q = some (.inr (1, [.ref root, .int (nI N.length)])) := by rw [ef_15, va_up_ne _ _ (hp_dif hqc hca (by simp))]; exact hqc
              have hc_15_x27 : f_15 x27 = some (.inr (0, [.int (tB t x27), .int (nI (tL t x27)), .int (tH t x27), .int (nI (tR t x27)), va_rf (tZ t x27), va_rf (tO t x27)])) := by rw [ef_15, va_up_ne _ _ nca]; exact hcc
              refine lv_goto (tgt := 110) hx hb dX1_grow_89 (by decide) ?_
              exact hp_vret hx hb hr hlocks C0 hf hS (by first | exact Nat.le_refl _ | omega) (by first | exact Nat.le_refl _ | omega) dX1_grow_110 (fin_A hC ha hax hale hx0 hh hno hqc hTc hFc ef_15)
          · refine lv_aload hx hb dX1_grow_48 (lv_at hl 5 rfl) ?_
            refine lv_astore (lv' := [(4, .ref x27), (0, .ref q), (1, .int x), (2, .int (nI k0)), (3, .int h), (5, .ref x27)]) hx hb dX1_grow_50 hl (by decide) rfl (fun ls hl => ?_)
            refine lv_aload hx hb dX1_grow_52 (lv_at hl 0 rfl) ?_
            refine lv_iload_n hx hb dX1_grow_54 rfl (lv_at hl 2 rfl) ?_
            refine hp_kq (hp_rVN (C := RX0) (As := [.int x]) (rest := []) ⟨hx, hb, hml, hown, hts⟩ C0 hf hS (c_X0_toward l D cy base fc x27 (tB t x27) (nI (tL t x27)) (tH t x27) (nI (tR t x27)) (tZ t x27) (tO t x27) x hcc) ⟨va_cnB (host := RX1) (index := 69) 1 hts gX1_grow_X0_toward_n69 rfl rfl rfl (C0.2.2 _ (by decide +kernel)) (hts (.initialized RX0) (by decide +kernel)) (by decide +kernel) ⟨Nat.le_of_ble_eq_true rfl, Nat.le_of_ble_eq_true rfl⟩, hts (.instanceMethod yX0_toward) (by decide +kernel), hts (.selects RX0 yX0_toward yX0_toward) (by decide +kernel)⟩ hcc rfl rfl hl.1 rfl (Nat.le_of_ble_eq_true rfl) dX1_grow_55 ⟨Nat.le_of_ble_eq_true rfl, Nat.le_of_ble_eq_true rfl⟩) hS (fun r_16 u_16 H locs hq_16 hf hS => ?_)
            obtain ⟨hr_16, hu⟩ := hq_16
            rw [hu] at hf
            have er_16 := tw_ch (hst.2.2.1 x27 hcN).1 hr_16
            refine hp_astoreq (lv' := [(5, va_rf r_16), (4, .ref x27), (0, .ref q), (1, .int x), (2, .int (nI k0)), (3, .int h)]) hx hb dX1_grow_58 hl (by decide) rfl (fun ls hl => ?_)
            refine lv_aload hx hb dX1_grow_60 (lv_at hl 1 rfl) ?_
            refine lv_dup hx hb dX1_grow_62 rfl ?_
            refine hp_getN (ci := 0) (v := .int (nI (tR t x27))) (own := RX1) (ref := RX0) (host := RX1) (index := 25) (C := RX0) (T := TX0) (N := 6) hx hb hts hin0 hown C0 hf hcc rfl 3 (by decide) (by decide +kernel) (fun _ h9 => h9) rfl dX1_grow_63 ?_
            refine lv_iconst (v := 1) hx hb dX1_grow_66 (by decide) ?_
            refine lv_iadd hx hb dX1_grow_67 ?_
            refine hp_putN (ci := 0) (v := .int ((nI (tR t x27)) + 1)) (own := RX1) (ref := RX0) (host := RX1) (index := 25) (C := RX0) (T := TX0) (N := 6) hx hb hts hin0 tyX0 tyX0_ok nmX0 hown C0 hf hS hcc rfl 3 (by decide) (by decide +kernel) (fun _ h9 => h9) rfl rfl rfl (Nat.le_of_ble_eq_true rfl) dX1_grow_68 (fun f_17 H locs ef_17 hf hS => ?_)
            have hc_17 : f_17 x27 = some (.inr (0, [.int (tB t x27), .int (nI (tL t x27)), .int (tH t x27), .int ((nI (tR t x27)) + 1), va_rf (tZ t x27), va_rf (tO t x27)])) := by rw [ef_17]; exact va_up_self _ _ _
            have hc_17_q : f_17 q = some (.inr (1, [.ref root, .int (nI N.length)])) := by rw [ef_17, va_up_ne _ _ (hp_dif hqc hcc (by simp))]; exact hqc
            have hc_17_a : f_17 a = some (.inr (0, [.int (tB t a), .int (nI (tL t a)), .int (tH t a), .int (nI (tR t a + 1)), va_rf (tZ t a), va_rf (tO t a)])) := by rw [ef_17, va_up_ne _ _ (Ne.symm nca)]; exact hca
            refine lv_goto (tgt := 25) hx hb dX1_grow_71 (by decide) ?_
            have hcx := hbg.mp h45
            have hcl2 : tL t x27 ≤ k0 := Nat.not_lt.mp (fun z => h36 ((nI_ltI (by omega) (by omega)).mpr z))
            have hT1 : TN f_17 N (inc t x (tL t x27)) := fun y hy => by
              by_cases e : y = x27
              · rw [e, hc_17, inc_self pc hcx, nI_1]; rfl
              · rw [ef_17, va_up_ne _ _ e, inc_step hst ha hax hch hcx hy e]; exact hTc y hy
            have hF1 : FR f f_17 N q := fun b v k1 k2 k3 => by
              have e : b ≠ x27 := fun e => k2 (e ▸ hcN)
              rw [ef_17, va_up_ne _ _ e]; exact hFc b v k1 k2 k3
            exact ih x27 r_16 f_17 ls _ _ hcN (by omega) hcx hcl2 er_16 hc_17_q hT1 hF1 hf hS (lv_sub hl [2, 3, 4, 5, 1, 0] rfl)
  refine lv_aload_n hx hb dX1_grow_0 rfl (lv_at hl 0 rfl) ?_
  refine hp_get (ci := 1) (v := .ref root) (C := RX1) (T := TX1) (N := 2) hx hb hts hin1 hown C0 hf hq rfl 0 (by decide) (hts (.fieldLink RX1 14 "RouteTrie" "root" "LRouteTrie$Node;") (by decide +kernel)) (fun _ h9 => h9) rfl dX1_grow_1 ?_
  refine lv_astore (lv' := [(4, .ref root), (0, .ref q), (1, .int x), (2, .int (nI k0)), (3, .int h)]) hx hb dX1_grow_4 hl (by decide) rfl (fun ls hl => ?_)
  refine lv_aload hx hb dX1_grow_6 (lv_at hl 0 rfl) ?_
  refine lv_iload_n hx hb dX1_grow_8 rfl (lv_at hl 2 rfl) ?_
  refine hp_kq (hp_rVN (C := RX0) (As := [.int x]) (rest := []) ⟨hx, hb, hml, hown, hts⟩ C0 hf hS (c_X0_toward l D cy base f root (tB t root) (nI (tL t root)) (tH t root) (nI (tR t root)) (tZ t root) (tO t root) x (hT root hst.1.1)) ⟨va_cnB (host := RX1) (index := 69) 1 hts gX1_grow_X0_toward_n69 rfl rfl rfl (C0.2.2 _ (by decide +kernel)) (hts (.initialized RX0) (by decide +kernel)) (by decide +kernel) ⟨Nat.le_of_ble_eq_true rfl, Nat.le_of_ble_eq_true rfl⟩, hts (.instanceMethod yX0_toward) (by decide +kernel), hts (.selects RX0 yX0_toward yX0_toward) (by decide +kernel)⟩ (hT root hst.1.1) rfl rfl hl.1 rfl (Nat.le_of_ble_eq_true rfl) dX1_grow_9 ⟨Nat.le_of_ble_eq_true rfl, Nat.le_of_ble_eq_true rfl⟩) hS (fun r_1 u_1 H locs hq_1 hf hS => ?_)
  obtain ⟨hr_1, hu⟩ := hq_1
  rw [hu] at hf
  have er_1 := tw_ch (hst.2.2.1 root hst.1.1).1 hr_1
  refine hp_astoreq (lv' := [(5, va_rf r_1), (4, .ref root), (0, .ref q), (1, .int x), (2, .int (nI k0)), (3, .int h)]) hx hb dX1_grow_12 hl (by decide) rfl (fun ls hl => ?_)
  refine lv_aload hx hb dX1_grow_14 (lv_at hl 1 rfl) ?_
  refine lv_dup hx hb dX1_grow_16 rfl ?_
  refine hp_getN (ci := 0) (v := .int (nI (tR t root))) (own := RX1) (ref := RX0) (host := RX1) (index := 25) (C := RX0) (T := TX0) (N := 6) hx hb hts hin0 hown C0 hf (hT root hst.1.1) rfl 3 (by decide) (by decide +kernel) (fun _ h9 => h9) rfl dX1_grow_17 ?_
  refine lv_iconst (v := 1) hx hb dX1_grow_20 (by decide) ?_
  refine lv_iadd hx hb dX1_grow_21 ?_
  refine hp_putN (ci := 0) (v := .int ((nI (tR t root)) + 1)) (own := RX1) (ref := RX0) (host := RX1) (index := 25) (C := RX0) (T := TX0) (N := 6) hx hb hts hin0 tyX0 tyX0_ok nmX0 hown C0 hf hS (hT root hst.1.1) rfl 3 (by decide) (by decide +kernel) (fun _ h9 => h9) rfl rfl rfl (Nat.le_of_ble_eq_true rfl) dX1_grow_22 (fun f_2 H locs ef_2 hf hS => ?_)
  have hc_2 : f_2 root = some (.inr (0, [.int (tB t root), .int (nI (tL t root)), .int (tH t root), .int ((nI (tR t root)) + 1), va_rf (tZ t root), va_rf (tO t root)])) := by rw [ef_2]; exact va_up_self _ _ _
  have hc_2_q : f_2 q = some (.inr (1, [.ref root, .int (nI N.length)])) := by rw [ef_2, va_up_ne _ _ (hp_dif hq (hT root hst.1.1) (by simp))]; exact hq
  have hag0 : ag (tB t root) x (tL t root) := by rw [hst.1.2]; exact ag_0
  have hT1 : TN f_2 N (inc t x (tL t root)) := fun y hy => by
    by_cases e : y = root
    · rw [e, hc_2, inc_self (hst.2.2.1 root hst.1.1) hag0, nI_1]; rfl
    · rw [ef_2, va_up_ne _ _ e, hT y hy]
      congr 2
      unfold inc
      rw [if_neg]
      rw [Bool.and_eq_true, decide_eq_true_eq]
      intro g
      exact e (hst.2.2.2.1 y hy root hst.1.1 (by rw [hst.1.2] at g ⊢; omega) (by rw [show tL t y = 0 by rw [hst.1.2] at g; omega]; exact ag_0))
  have hF1 : FR f f_2 N q := fun b v k1 k2 k3 => by
    have e : b ≠ root := fun e => k2 (e ▸ hst.1.1)
    rw [ef_2, va_up_ne _ _ e]; exact k1
  exact loop 34 root r_1 f_2 ls _ _ hst.1.1 (by omega) hag0 (by rw [hst.1.2]; omega) er_1 hc_2_q hT1 hF1 hf hS (lv_sub hl [2, 3, 4, 5, 1, 0] rfl)
