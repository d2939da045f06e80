/-! the state of RouteTrie, and its reading methods -/
abbrev ndo (x : NR) : va_E := ndE x.1 (nI x.2.1) x.2.2.1 (nI x.2.2.2.1) x.2.2.2.2.1 x.2.2.2.2.2
def TN (f : AH) (N : List Nat) (t : NT) : Prop := ∀ a ∈ N, f a = some (ndo (t a))
abbrev trO (root : Nat) (cnt : Int32) : va_E := .inr (1, [.ref root, .int cnt])
def okP (x n : Int32) : Prop := ∃ k : Nat, n = nI k ∧ px x k
def TMp (N : List Nat) (t : NT) (x : Int32) (k : Nat) (r : Option Nat) : Prop := (∀ a, r = some a → a ∈ N ∧ k ≤ tL t a ∧ ag x (tB t a) k ∧ ∀ y ∈ N, k ≤ tL t y → ag x (tB t y) k → tL t a ≤ tL t y ∧ ag (tB t a) (tB t y) (tL t a)) ∧ (r = none → ∀ y ∈ N, k ≤ tL t y → ¬ ag x (tB t y) k)
def RAp (N : List Nat) (t : NT) (x n : Int32) (r : Option Nat) : Prop := (∀ a, r = some a → a ∈ N ∧ n = nI (tL t a) ∧ tB t a = x ∧ ¬ tH t a = -1) ∧ (r = none → ∀ a ∈ N, ¬ tH t a = -1 → n = nI (tL t a) → ¬ tB t a = x)
def LRp (N : List Nat) (t : NT) (x : Int32) (r : Option Nat) : Prop := (∀ a, r = some a → a ∈ N ∧ ag (tB t a) x (tL t a) ∧ ¬ tH t a = -1 ∧ ∀ y ∈ N, ag (tB t y) x (tL t y) → ¬ tH t y = -1 → tL t y ≤ tL t a) ∧ (r = none → ∀ y ∈ N, ag (tB t y) x (tL t y) → tH t y = -1)
theorem tw_ch {t : NT} {a : Nat} {x : Int32} {r : Option Nat} (hl : tL t a ≤ 32) (h : (g1I (nI (tL t a)) x ∧ r = tO t a) ∨ (¬ g1I (nI (tL t a)) x ∧ r = tZ t a)) : r = ch t a (bi x (tL t a)) := by
  rw [g1_bi hl] at h
  unfold ch
  rcases h with ⟨h1, h2⟩ | ⟨h1, h2⟩
  · rw [if_pos h1.2]; exact h2
  · rcases Nat.lt_or_ge (tL t a) 32 with q | q
    · rw [if_neg (fun k => h1 ⟨q, k⟩)]; exact h2
    · rw [bi_big q, if_neg (by decide)]; exact h2
theorem bg_iff {t : NT} {a : Nat} {x : Int32} (h : px (tB t a) (tL t a)) : fbI x (nI (tL t a)) = tB t a ↔ ag (tB t a) x (tL t a) := by rw [fbI_fb]; exact px_fb h
theorem ite1 {p : Prop} {r : Int32} (h : (r = 1 ∧ p) ∨ (r = 0 ∧ ¬ p)) : (¬ r = 0 ↔ p) := by
  rcases h with ⟨h1, h2⟩ | ⟨h1, h2⟩
  · rw [h1]; exact ⟨fun _ => h2, fun _ => by decide⟩
  · rw [h1]; exact ⟨fun k => absurd rfl k, fun k => absurd k h2⟩
set_option maxHeartbeats 4000000 in
set_option maxRecDepth 100000 in
theorem c_X1_isPrefix (l : Launch) (D : va_G) (cy : ClassId) (base : Nat) (f : AH) (x n : Int32)  : Met l yX1_isPrefix wsX1_isPrefix ({ frames := 1, cells := 0, slots := 0, locals := 21 }) (va_Pc [.int x, .int n] (hp_B D cy base f)) (va_Qi (fun (r : Int32) (u : AH) => ((r = 1 ∧ okP x n) ∨ (r = 0 ∧ ¬ okP x n)) ∧ u = f) (hp_B D cy base) (hp_A base)) 0 0 (hp_A base) := by
  refine Met.ofW (cc := cX1_isPrefix) (maxL := 2) (ret := (some .boolean)) (by decide) rfl ?_
  intro p e s m args below meth c s₁ B hml hv
  obtain ⟨rfl, hf, C0⟩ := hv
  have hx := B.exec
  have hb := B.bytes
  have hr := B.returns
  have hts := atoms_spec (ws := wsX1_isPrefix) B.pre
  have hown : s.vm.findClass RX1 = some m.cls := findClass_of_methodNamed B.named
  have hlocks := B.notSynchronized
  have hS : va_S (hp_A base) s.heap s.heap [] := va_S.rf
  have hl := lv_entry ([.int x, .int n]) (n := 2) (Nat.le_of_ble_eq_true rfl)
  rw [lg_entry_eq]
  generalize (lg_sl ([.int x, .int n]) ++ List.replicate (2 - (lg_sl ([.int x, .int n])).length) Slot.unset).toArray = ls at hl ⊢
  have hl : lv_has ls 2 [(0, .int x), (1, .int n)] := hl
  refine lv_iload_n hx hb dX1_isPrefix_0 rfl (lv_at hl 1 rfl) ?_
  refine lv_if_lt (tgt := 23) hx hb dX1_isPrefix_1 (by decide) (fun h1 => ?_) (fun h1 => ?_)
  · refine lv_iconst (v := 0) hx hb dX1_isPrefix_23 (by decide) ?_
    exact hp_zret (v := 0) hx hb hr hlocks C0 hf hS (by first | exact Nat.le_refl _ | omega) (by first | exact Nat.le_refl _ | omega) dX1_isPrefix_24 (by decide) (⟨Or.inr ⟨rfl, fun ⟨k, e, hk⟩ => nI_pos (by have := hk.1; omega) (e ▸ h1)⟩, rfl⟩)
  · refine lv_iload_n hx hb dX1_isPrefix_4 rfl (lv_at hl 1 rfl) ?_
    refine lv_bipush (v := 32) hx hb dX1_isPrefix_5 (by decide) ?_
    refine lv_icmp_gt (tgt := 23) hx hb dX1_isPrefix_7 (by decide) (fun h7 => ?_) (fun h7 => ?_)
    · refine lv_iconst (v := 0) hx hb dX1_isPrefix_23 (by decide) ?_
      exact hp_zret (v := 0) hx hb hr hlocks C0 hf hS (by first | exact Nat.le_refl _ | omega) (by first | exact Nat.le_refl _ | omega) dX1_isPrefix_24 (by decide) (⟨Or.inr ⟨rfl, fun ⟨k, e, hk⟩ => absurd h7 (by rw [e]; exact nI_nlt (a := 32) hk.1 (by omega))⟩, rfl⟩)
    · refine lv_iload_n hx hb dX1_isPrefix_10 rfl (lv_at hl 0 rfl) ?_
      refine lv_iload_n hx hb dX1_isPrefix_11 rfl (lv_at hl 1 rfl) ?_
      refine hp_ki (hp_rS (As := [.int x, .int n]) (rest := []) ⟨hx, hb, hml, hown, hts⟩ C0 hf hS (c_X1_firstBits l D cy base f x n) (va_cwS 2 hts gX1_isPrefix_X1_firstBits rfl rfl rfl (by decide +kernel) ⟨Nat.le_of_ble_eq_true rfl, Nat.le_of_ble_eq_true rfl⟩) rfl hl.1 rfl (Nat.le_of_ble_eq_true rfl) dX1_isPrefix_12 ⟨Nat.le_of_ble_eq_true rfl, Nat.le_of_ble_eq_true rfl⟩) hS (fun r_1 u_1 H locs hq_1 hf hS => ?_)
      obtain ⟨rfl, hu⟩ := hq_1
      rw [hu] at hf
      refine lv_iload_n hx hb dX1_isPrefix_15 rfl (lv_at hl 0 rfl) ?_
      refine lv_icmp_ne (tgt := 23) hx hb dX1_isPrefix_16 (by decide) (fun h16 => ?_) (fun h16 => ?_)
      · refine lv_iconst (v := 0) hx hb dX1_isPrefix_23 (by decide) ?_
        exact hp_zret (v := 0) hx hb hr hlocks C0 hf hS (by first | exact Nat.le_refl _ | omega) (by first | exact Nat.le_refl _ | omega) dX1_isPrefix_24 (by decide) (⟨Or.inr ⟨rfl, fun ⟨k, e, hk⟩ => h16 (by rw [e, fbI_fb]; exact hk.2)⟩, rfl⟩)
      · refine lv_iconst (v := 1) hx hb dX1_isPrefix_19 (by decide) ?_
        refine lv_goto (tgt := 24) hx hb dX1_isPrefix_20 (by decide) ?_
        exact hp_zret (v := 1) hx hb hr hlocks C0 hf hS (by first | exact Nat.le_refl _ | omega) (by first | exact Nat.le_refl _ | omega) dX1_isPrefix_24 (by decide) (⟨Or.inl ⟨rfl, by obtain ⟨j, hj, e⟩ := nI_of2 (M := 32) (n := 32) rfl h1 (Int32.not_lt.mp h7); exact ⟨j, e, hj, by rw [← fbI_fb, ← e]; exact h16⟩⟩, rfl⟩)
set_option maxHeartbeats 4000000 in
set_option maxRecDepth 100000 in
theorem c_X1_topmost (l : Launch) (D : va_G) (cy : ClassId) (base : Nat) (f : AH) (q : Nat) (N : List Nat) (t : NT) (root : Nat) (cnt : Int32) (x : Int32) (k : Nat) (hq : f q = some (trO root cnt)) (hT : TN f N t) (hst : ST N t root) (hk : px x k) : Met l yX1_topmost wsX1_topmost ({ frames := 2, cells := 0, slots := 0, locals := 42 }) (va_Pc [.ref q, .int x, .int (nI k)] (hp_B D cy base f)) (va_Qq (fun (r : Option Nat) (u : AH) => TMp N t x k r ∧ u = f) (hp_B D cy base) (hp_A base)) 0 0 (hp_A base) := by
  refine Met.ofW (cc := cX1_topmost) (maxL := 4) (ret := (some (.object "RouteTrie$Node"))) (by decide) rfl ?_
  intro p e s m args below meth c s₁ B hml hv
  obtain ⟨rfl, hf, C0⟩ := hv
  have hx := B.exec
  have hb := B.bytes
  have hr := B.returns
  have hts := atoms_spec (ws := wsX1_topmost) B.pre
  have hown : s.vm.findClass RX1 = some m.cls := findClass_of_methodNamed B.named
  have hlocks := B.notSynchronized
  have hin0 : ∀ w ∈ wsX00, w ∈ wsX1_topmost := by decide +kernel
  have hin1 : ∀ w ∈ wsX10, w ∈ wsX1_topmost := by decide +kernel
  have hS : va_S (hp_A base) s.heap s.heap [] := va_S.rf
  have hl := lv_entry ([.ref q, .int x, .int (nI k)]) (n := 4) (Nat.le_of_ble_eq_true rfl)
  rw [lg_entry_eq]
  generalize (lg_sl ([.ref q, .int x, .int (nI k)]) ++ List.replicate (4 - (lg_sl ([.ref q, .int x, .int (nI k)])).length) Slot.unset).toArray = ls at hl ⊢
  have hl : lv_has ls 4 [(0, .ref q), (1, .int x), (2, .int (nI k))] := hl
  have loop : ∀ (n : Nat) (at_ : Option Nat) (ls : Array Slot) (H : Heap) (locs : List Loc), 0 < n → (∀ a, at_ = some a → a ∈ N ∧ 34 ≤ tL t a + n) → (∀ y ∈ N, k ≤ tL t y → ag x (tB t y) k → ∃ a, at_ = some a ∧ tL t a ≤ tL t y ∧ ag (tB t a) (tB t y) (tL t a)) → hp_ok D base f H → va_S (hp_A base) s.heap H locs → lv_has ls 4 [(0, .ref q), (1, .int x), (2, .int (nI k)), (3, va_rf at_)] → W p l e (headSpec wsX1_topmost ({ frames := 2, cells := 0, slots := 0, locals := 42 } : Room)).room s m #[Value.ref q, Value.int x, Value.int (nI k)] below meth c H locs 0 0 (MQ below (va_Qq (fun (r : Option Nat) (u : AH) => TMp N t x k r ∧ u = f) (hp_B D cy base) (hp_A base)) #[Value.ref q, Value.int x, Value.int (nI k)] s 0 0 (hp_A base)) (F0 m 5 ls []) := by
    intro n
    induction n with
    | zero => intro _ _ _ _ h; exact absurd h (Nat.lt_irrefl 0)
    | succ n ih =>
      intro at_ ls H locs _ hA hI hf hS hl
      refine hp_aload_nq (r := at_) hx hb dX1_topmost_5 rfl (lv_at hl 3 rfl) ?_
      refine hp_ifnullq (tgt := 26) (r := at_) hx hb dX1_topmost_6 (by decide) (fun h6 => ?_) (fun x6 h6 => ?_)
      · rw [h6] at hl
        have hl : lv_has ls 4 [(0, .ref q), (1, .int x), (2, .int (nI k)), (3, .null)] := hl
        refine lv_aload_nN hx hb dX1_topmost_26 rfl (lv_at hl 3 rfl) ?_
        refine lv_ifnullN (tgt := 46) hx hb dX1_topmost_27 (by decide) ?_
        refine lv_null hx hb dX1_topmost_46 ?_
        exact hp_aret (r := none) hx hb hr hlocks C0 hf hS (by first | exact Nat.le_refl _ | omega) (by first | exact Nat.le_refl _ | omega) dX1_topmost_47 (⟨⟨fun a e => (by cases e), fun _ y hy g1 g2 => by obtain ⟨a, m1, -⟩ := hI y hy g1 g2; rw [h6] at m1; cases m1⟩, rfl⟩)
      · rw [h6] at hl
        have hl : lv_has ls 4 [(0, .ref q), (1, .int x), (2, .int (nI k)), (3, .ref x6)] := hl
        obtain ⟨hx6, hm6⟩ := hA x6 h6
        refine lv_aload_n hx hb dX1_topmost_9 rfl (lv_at hl 3 rfl) ?_
        refine hp_getN (ci := 0) (v := .int (nI (tL t x6))) (own := RX1) (ref := RX0) (host := RX1) (index := 53) (C := RX0) (T := TX0) (N := 6) hx hb hts hin0 hown C0 hf (hT x6 hx6) rfl 1 (by decide) (by decide +kernel) (fun _ h9 => h9) rfl dX1_topmost_10 ?_
        refine lv_iload_n hx hb dX1_topmost_13 rfl (lv_at hl 2 rfl) ?_
        refine lv_icmp_ge (tgt := 26) hx hb dX1_topmost_14 (by decide) (fun h14 => ?_) (fun h14 => ?_)
        · refine lv_aload_n hx hb dX1_topmost_26 rfl (lv_at hl 3 rfl) ?_
          refine lv_ifnull hx hb dX1_topmost_27 ?_
          refine lv_aload_n hx hb dX1_topmost_30 rfl (lv_at hl 3 rfl) ?_
          refine hp_getN (ci := 0) (v := .int (tB t x6)) (own := RX1) (ref := RX0) (host := RX1) (index := 62) (C := RX0) (T := TX0) (N := 6) hx hb hts hin0 hown C0 hf (hT x6 hx6) rfl 0 (by decide) (by decide +kernel) (fun _ h9 => h9) rfl dX1_topmost_31 ?_
          refine lv_iload_n hx hb dX1_topmost_34 rfl (lv_at hl 2 rfl) ?_
          refine hp_ki (hp_rS (As := [.int (tB t x6), .int (nI k)]) (rest := []) ⟨hx, hb, hml, hown, hts⟩ C0 hf hS (c_X1_firstBits l D cy base f (tB t x6) (nI k)) (va_cwS 2 hts gX1_topmost_X1_firstBits rfl rfl rfl (by decide +kernel) ⟨Nat.le_of_ble_eq_true rfl, Nat.le_of_ble_eq_true rfl⟩) rfl hl.1 rfl (Nat.le_of_ble_eq_true rfl) dX1_topmost_35 ⟨Nat.le_of_ble_eq_true rfl, Nat.le_of_ble_eq_true rfl⟩) hS (fun r_1 u_1 H locs hq_1 hf hS => ?_)
          obtain ⟨rfl, hu⟩ := hq_1
          rw [hu] at hf
          refine lv_iload_n hx hb dX1_topmost_38 rfl (lv_at hl 1 rfl) ?_
          refine lv_icmp_ne (tgt := 46) hx hb dX1_topmost_39 (by decide) (fun h39 => ?_) (fun h39 => ?_)
          · refine lv_null hx hb dX1_topmost_46 ?_
            have hge : k ≤ tL t x6 := by have := (hst.2.2.1 x6 hx6).1; exact Nat.not_lt.mp (fun q => absurd h14 (nI_ge q (by have := hk.1; omega)))
            exact hp_aret (r := none) hx hb hr hlocks C0 hf hS (by first | exact Nat.le_refl _ | omega) (by first | exact Nat.le_refl _ | omega) dX1_topmost_47 (⟨⟨fun a e => (by cases e), fun _ y hy g1 g2 => by obtain ⟨a, m1, m2, m3⟩ := hI y hy g1 g2; rw [h6] at m1; cases m1; exact h39 (by rw [fbI_fb]; exact (px_fb hk).mpr (ag_tr g2 (ag_sy (ag_mono m3 hge))))⟩, rfl⟩)
          · refine lv_aload_n hx hb dX1_topmost_42 rfl (lv_at hl 3 rfl) ?_
            refine lv_goto (tgt := 47) hx hb dX1_topmost_43 (by decide) ?_
            have hge : k ≤ tL t x6 := by have := (hst.2.2.1 x6 hx6).1; exact Nat.not_lt.mp (fun q => absurd h14 (nI_ge q (by have := hk.1; omega)))
            exact hp_aret (r := some x6) hx hb hr hlocks C0 hf hS (by first | exact Nat.le_refl _ | omega) (by first | exact Nat.le_refl _ | omega) dX1_topmost_47 (⟨⟨fun a e => by cases e; exact ⟨hx6, hge, (px_fb hk).mp (by rw [← fbI_fb]; exact h39), fun y hy g1 g2 => by obtain ⟨a, m1, m2, m3⟩ := hI y hy g1 g2; rw [h6] at m1; cases m1; exact ⟨m2, m3⟩⟩, fun e => by cases e⟩, rfl⟩)
        · refine lv_aload_n hx hb dX1_topmost_17 rfl (lv_at hl 3 rfl) ?_
          refine lv_iload_n hx hb dX1_topmost_18 rfl (lv_at hl 1 rfl) ?_
          refine hp_kq (hp_rVN (C := RX0) (As := [.int x]) (rest := []) ⟨hx, hb, hml, hown, hts⟩ C0 hf hS (c_X0_toward l D cy base f x6 (tB t x6) (nI (tL t x6)) (tH t x6) (nI (tR t x6)) (tZ t x6) (tO t x6) x (hT x6 hx6)) ⟨va_cnB (host := RX1) (index := 69) 1 hts gX1_topmost_X0_toward_n69 rfl rfl rfl (C0.2.2 _ (by decide +kernel)) (hts (.initialized RX0) (by decide +kernel)) (by decide +kernel) ⟨Nat.le_of_ble_eq_true rfl, Nat.le_of_ble_eq_true rfl⟩, hts (.instanceMethod yX0_toward) (by decide +kernel), hts (.selects RX0 yX0_toward yX0_toward) (by decide +kernel)⟩ (hT x6 hx6) rfl rfl hl.1 rfl (Nat.le_of_ble_eq_true rfl) dX1_topmost_19 ⟨Nat.le_of_ble_eq_true rfl, Nat.le_of_ble_eq_true rfl⟩) hS (fun r_2 u_2 H locs hq_2 hf hS => ?_)
          obtain ⟨hr_2, hu⟩ := hq_2
          rw [hu] at hf
          have er_2 := tw_ch (hst.2.2.1 x6 hx6).1 hr_2
          refine hp_astore_nq (lv' := [(3, va_rf r_2), (0, .ref q), (1, .int x), (2, .int (nI k))]) hx hb dX1_topmost_22 rfl hl (by decide) rfl (fun ls hl => ?_)
          refine lv_goto (tgt := 5) hx hb dX1_topmost_23 (by decide) ?_
          have hlt : tL t x6 < k := by have := (hst.2.2.1 x6 hx6).1; have := hk.1; exact Nat.not_le.mp (fun q => h14 (nI_le q (by omega)))
          have h32 := (hst.2.2.1 x6 hx6).1
          refine ih r_2 ls _ _ (by omega) (fun a e => ?_) (fun y hy g1 g2 => ?_) hf hS (lv_sub hl [1, 2, 3, 0] rfl)
          · rw [er_2] at e
            obtain ⟨m1, m2, -, -⟩ := hst.2.2.2.2.1 x6 hx6 _ a e
            exact ⟨m1, by omega⟩
          · obtain ⟨a, m1, m2, m3⟩ := hI y hy g1 g2
            have m4 : a = x6 := Option.some.inj (m1.symm.trans h6)
            subst m4
            obtain ⟨c2, k1, k2, k3⟩ := hst.2.2.2.2.2 a hx6 y hy (by omega) m3
            refine ⟨c2, ?_, k2, k3⟩
            rw [er_2, g2 _ hlt]
            exact k1
  refine lv_aload_n hx hb dX1_topmost_0 rfl (lv_at hl 0 rfl) ?_
  refine hp_get (ci := 1) (v := .ref root) (C := RX1) (T := TX1) (N := 2) hx hb hts hin1 hown C0 hf hq rfl 0 (by decide) (hts (.fieldLink RX1 14 "RouteTrie" "root" "LRouteTrie$Node;") (by decide +kernel)) (fun _ h9 => h9) rfl dX1_topmost_1 ?_
  refine lv_astore_n (lv' := [(3, .ref root), (0, .ref q), (1, .int x), (2, .int (nI k))]) hx hb dX1_topmost_4 rfl hl (by decide) rfl (fun ls hl => ?_)
  exact loop 34 (some root) ls _ _ (by omega) (fun a e => by cases e; exact ⟨hst.1.1, by omega⟩) (fun y hy _ _ => ⟨root, rfl, by rw [hst.1.2]; omega, by rw [hst.1.2]; exact ag_0⟩) hf hS (lv_sub hl [1, 2, 3, 0] rfl)
set_option maxHeartbeats 4000000 in
set_option maxRecDepth 100000 in
theorem c_X1_routeAt (l : Launch) (D : va_G) (cy : ClassId) (base : Nat) (f : AH) (q : Nat) (N : List Nat) (t : NT) (root : Nat) (cnt : Int32) (x n : Int32) (hq : f q = some (trO root cnt)) (hT : TN f N t) (hst : ST N t root) : Met l yX1_routeAt wsX1_routeAt ({ frames := 3, cells := 0, slots := 0, locals := 65 }) (va_Pc [.ref q, .int x, .int n] (hp_B D cy base f)) (va_Qq (fun (r : Option Nat) (u : AH) => RAp N t x n r ∧ u = f) (hp_B D cy base) (hp_A base)) 0 0 (hp_A base) := by
  refine Met.ofW (cc := cX1_routeAt) (maxL := 4) (ret := (some (.object "RouteTrie$Node"))) (by decide) rfl ?_
  intro p e s m args below meth c s₁ B hml hv
  obtain ⟨rfl, hf, C0⟩ := hv
  have hx := B.exec
  have hb := B.bytes
  have hr := B.returns
  have hts := atoms_spec (ws := wsX1_routeAt) B.pre
  have hown : s.vm.findClass RX1 = some m.cls := findClass_of_methodNamed B.named
  have hlocks := B.notSynchronized
  have hin0 : ∀ w ∈ wsX00, w ∈ wsX1_routeAt := by decide +kernel
  have hin1 : ∀ w ∈ wsX10, w ∈ wsX1_routeAt := by decide +kernel
  have hS : va_S (hp_A base) s.heap s.heap [] := va_S.rf
  have hl := lv_entry ([.ref q, .int x, .int n]) (n := 4) (Nat.le_of_ble_eq_true rfl)
  rw [lg_entry_eq]
  generalize (lg_sl ([.ref q, .int x, .int n]) ++ List.replicate (4 - (lg_sl ([.ref q, .int x, .int n])).length) Slot.unset).toArray = ls at hl ⊢
  have hl : lv_has ls 4 [(0, .ref q), (1, .int x), (2, .int n)] := hl
  refine lv_iload_n hx hb dX1_routeAt_0 rfl (lv_at hl 1 rfl) ?_
  refine lv_iload_n hx hb dX1_routeAt_1 rfl (lv_at hl 2 rfl) ?_
  refine hp_ki (hp_rS (As := [.int x, .int n]) (rest := []) ⟨hx, hb, hml, hown, hts⟩ C0 hf hS (c_X1_isPrefix l D cy base f x n) (va_cwS 2 hts gX1_routeAt_X1_isPrefix rfl rfl rfl (by decide +kernel) ⟨Nat.le_of_ble_eq_true rfl, Nat.le_of_ble_eq_true rfl⟩) rfl hl.1 rfl (Nat.le_of_ble_eq_true rfl) dX1_routeAt_2 ⟨Nat.le_of_ble_eq_true rfl, Nat.le_of_ble_eq_true rfl⟩) hS (fun r_1 u_1 H locs hq_1 hf hS => ?_)
  obtain ⟨hr_1, hu⟩ := hq_1
  rw [hu] at hf
  have hpf := ite1 hr_1
  refine lv_if_ne (tgt := 10) hx hb dX1_routeAt_5 (by decide) (fun h5 => ?_) (fun h5 => ?_)
  · refine lv_aload_n hx hb dX1_routeAt_10 rfl (lv_at hl 0 rfl) ?_
    refine lv_iload_n hx hb dX1_routeAt_11 rfl (lv_at hl 1 rfl) ?_
    refine lv_iload_n hx hb dX1_routeAt_12 rfl (lv_at hl 2 rfl) ?_
    obtain ⟨k, rfl, hk⟩ := hpf.mp h5
    refine hp_kq (hp_rV (C := RX1) (As := [.int x, .int (nI k)]) (rest := []) ⟨hx, hb, hml, hown, hts⟩ C0 hf hS (c_X1_topmost l D cy base f q N t root cnt x k hq hT hst hk) (cwV 2 hts gX1_routeAt_X1_topmost rfl rfl rfl (by decide +kernel) ⟨Nat.le_of_ble_eq_true rfl, Nat.le_of_ble_eq_true rfl⟩) hq rfl rfl hl.1 rfl (Nat.le_of_ble_eq_true rfl) dX1_routeAt_13 ⟨Nat.le_of_ble_eq_true rfl, Nat.le_of_ble_eq_true rfl⟩) hS (fun r_2 u_2 H locs hq_2 hf hS => ?_)
    obtain ⟨hr_2, hu⟩ := hq_2
    rw [hu] at hf
    refine hp_astore_nq (lv' := [(3, va_rf r_2), (0, .ref q), (1, .int x), (2, .int (nI k))]) hx hb dX1_routeAt_16 rfl hl (by decide) rfl (fun ls hl => ?_)
    refine hp_aload_nq (r := r_2) hx hb dX1_routeAt_17 rfl (lv_at hl 0 rfl) ?_
    refine hp_ifnullq (tgt := 40) (r := r_2) hx hb dX1_routeAt_18 (by decide) (fun h18 => ?_) (fun x18 h18 => ?_)
    · rw [h18] at hl
      have hl : lv_has ls 4 [(3, .null), (0, .ref q), (1, .int x), (2, .int (nI k))] := hl
      refine lv_null hx hb dX1_routeAt_40 ?_
      exact hp_aret (r := none) hx hb hr hlocks C0 hf hS (by first | exact Nat.le_refl _ | omega) (by first | exact Nat.le_refl _ | omega) dX1_routeAt_41 (⟨⟨fun a e => (by cases e), fun _ a ha g1 g2 g3 => hr_2.2 h18 a ha (by rw [nI_eq (by have := hk.1; omega) (by have := (hst.2.2.1 a ha).1; omega)] at g2; omega) (by rw [g3]; exact ag_rf)⟩, rfl⟩)
    · rw [h18] at hl
      have hl : lv_has ls 4 [(3, .ref x18), (0, .ref q), (1, .int x), (2, .int (nI k))] := hl
      obtain ⟨hxN, hxl, hxa, hxm⟩ := hr_2.1 x18 h18
      refine lv_aload_n hx hb dX1_routeAt_21 rfl (lv_at hl 0 rfl) ?_
      refine hp_getN (ci := 0) (v := .int (nI (tL t x18))) (own := RX1) (ref := RX0) (host := RX1) (index := 53) (C := RX0) (T := TX0) (N := 6) hx hb hts hin0 hown C0 hf (hT x18 hxN) rfl 1 (by decide) (by decide +kernel) (fun _ h9 => h9) rfl dX1_routeAt_22 ?_
      refine lv_iload_n hx hb dX1_routeAt_25 rfl (lv_at hl 3 rfl) ?_
      refine lv_icmp_ne (tgt := 40) hx hb dX1_routeAt_26 (by decide) (fun h26 => ?_) (fun h26 => ?_)
      · refine lv_null hx hb dX1_routeAt_40 ?_
        have hl32 := (hst.2.2.1 x18 hxN).1
        have hk32 := hk.1
        exact hp_aret (r := none) hx hb hr hlocks C0 hf hS (by first | exact Nat.le_refl _ | omega) (by first | exact Nat.le_refl _ | omega) dX1_routeAt_41 (⟨⟨fun a e => (by cases e), fun _ a ha g1 g2 g3 => by rw [nI_eq (by omega) (by have := (hst.2.2.1 a ha).1; omega)] at g2; obtain ⟨m1, m2⟩ := hxm a ha (by omega) (by rw [g3]; exact ag_rf); exact h26 (by rw [show tL t x18 = k by omega])⟩, rfl⟩)
      · refine lv_aload_n hx hb dX1_routeAt_29 rfl (lv_at hl 0 rfl) ?_
        refine hp_ki (hp_rVN (C := RX0) (As := []) (rest := []) ⟨hx, hb, hml, hown, hts⟩ C0 hf hS (c_X0_isRoute l D cy base f x18 (tB t x18) (nI (tL t x18)) (tH t x18) (nI (tR t x18)) (tZ t x18) (tO t x18) (hT x18 hxN)) ⟨va_cnB (host := RX1) (index := 87) 0 hts gX1_routeAt_X0_isRoute_n87 rfl rfl rfl (C0.2.2 _ (by decide +kernel)) (hts (.initialized RX0) (by decide +kernel)) (by decide +kernel) ⟨Nat.le_of_ble_eq_true rfl, Nat.le_of_ble_eq_true rfl⟩, hts (.instanceMethod yX0_isRoute) (by decide +kernel), hts (.selects RX0 yX0_isRoute yX0_isRoute) (by decide +kernel)⟩ (hT x18 hxN) rfl rfl hl.1 rfl (Nat.le_of_ble_eq_true rfl) dX1_routeAt_30 ⟨Nat.le_of_ble_eq_true rfl, Nat.le_of_ble_eq_true rfl⟩) hS (fun r_3 u_3 H locs hq_3 hf hS => ?_)
        obtain ⟨hr_3, hu⟩ := hq_3
        rw [hu] at hf
        have hir : r_3 = 0 ↔ tH t x18 = -1 := by rw [hr_3]; split <;> simp_all
        refine lv_if_eq (tgt := 40) hx hb dX1_routeAt_33 (by decide) (fun h33 => ?_) (fun h33 => ?_)
        · refine lv_null hx hb dX1_routeAt_40 ?_
          have hl32 := (hst.2.2.1 x18 hxN).1
          have hk32 := hk.1
          rw [nI_eq (by omega) (by omega)] at h26
          have hxb : tB t x18 = x := (px_inj hk (h26 ▸ hst.2.2.1 x18 hxN) hxa).symm
          exact hp_aret (r := none) hx hb hr hlocks C0 hf hS (by first | exact Nat.le_refl _ | omega) (by first | exact Nat.le_refl _ | omega) dX1_routeAt_41 (⟨⟨fun a e => (by cases e), fun _ a ha g1 g2 g3 => by rw [nI_eq (by omega) (by have := (hst.2.2.1 a ha).1; omega)] at g2; have e := hst.2.2.2.1 x18 hxN a ha (by omega) (by rw [hxb, g3]; exact ag_rf); subst e; exact g1 (hir.mp h33)⟩, rfl⟩)
        · refine lv_aload_n hx hb dX1_routeAt_36 rfl (lv_at hl 0 rfl) ?_
          refine lv_goto (tgt := 41) hx hb dX1_routeAt_37 (by decide) ?_
          have hl32 := (hst.2.2.1 x18 hxN).1
          have hk32 := hk.1
          rw [nI_eq (by omega) (by omega)] at h26
          have hxb : tB t x18 = x := (px_inj hk (h26 ▸ hst.2.2.1 x18 hxN) hxa).symm
          exact hp_aret (r := some x18) hx hb hr hlocks C0 hf hS (by first | exact Nat.le_refl _ | omega) (by first | exact Nat.le_refl _ | omega) dX1_routeAt_41 (⟨⟨fun a e => by cases e; exact ⟨hxN, by rw [h26], hxb, (not_congr hir).mp h33⟩, fun e => by cases e⟩, rfl⟩)
  · refine lv_null hx hb dX1_routeAt_8 ?_
    exact hp_aret (r := none) hx hb hr hlocks C0 hf hS (by first | exact Nat.le_refl _ | omega) (by first | exact Nat.le_refl _ | omega) dX1_routeAt_9 (⟨⟨fun a e => (by cases e), fun _ a ha g1 g2 g3 => ((not_congr hpf).mp (fun z => z h5)) ⟨tL t a, g2, g3 ▸ hst.2.2.1 a ha⟩⟩, rfl⟩)
set_option maxHeartbeats 4000000 in
set_option maxRecDepth 100000 in
theorem c_X1_longestRoute (l : Launch) (D : va_G) (cy : ClassId) (base : Nat) (f : AH) (q : Nat) (N : List Nat) (t : NT) (root : Nat) (cnt : Int32) (x : Int32) (hq : f q = some (trO root cnt)) (hT : TN f N t) (hst : ST N t root) : Met l yX1_longestRoute wsX1_longestRoute ({ frames := 2, cells := 0, slots := 0, locals := 42 }) (va_Pc [.ref q, .int x] (hp_B D cy base f)) (va_Qq (fun (r : Option Nat) (u : AH) => LRp N t x r ∧ u = f) (hp_B D cy base) (hp_A base)) 0 0 (hp_A base) := by
  refine Met.ofW (cc := cX1_longestRoute) (maxL := 4) (ret := (some (.object "RouteTrie$Node"))) (by decide) rfl ?_
  intro p e s m args below meth c s₁ B hml hv
  obtain ⟨rfl, hf, C0⟩ := hv
  have hx := B.exec
  have hb := B.bytes
  have hr := B.returns
  have hts := atoms_spec (ws := wsX1_longestRoute) B.pre
  have hown : s.vm.findClass RX1 = some m.cls := findClass_of_methodNamed B.named
  have hlocks := B.notSynchronized
  have hin0 : ∀ w ∈ wsX00, w ∈ wsX1_longestRoute := by decide +kernel
  have hin1 : ∀ w ∈ wsX10, w ∈ wsX1_longestRoute := by decide +kernel
  have hS : va_S (hp_A base) s.heap s.heap [] := va_S.rf
  have hl := lv_entry ([.ref q, .int x]) (n := 4) (Nat.le_of_ble_eq_true rfl)
  rw [lg_entry_eq]
  generalize (lg_sl ([.ref q, .int x]) ++ List.replicate (4 - (lg_sl ([.ref q, .int x])).length) Slot.unset).toArray = ls at hl ⊢
  have hl : lv_has ls 4 [(0, .ref q), (1, .int x)] := hl
  have loop : ∀ (n : Nat) (bs at_ : Option Nat) (ls : Array Slot) (H : Heap) (locs : List Loc), 0 < n → (∀ a, at_ = some a → a ∈ N ∧ 34 ≤ tL t a + n) → (∀ b, bs = some b → b ∈ N ∧ ag (tB t b) x (tL t b) ∧ (¬ tH t b = -1) ∧ ∀ a, at_ = some a → tL t b < tL t a) → (∀ y ∈ N, ag (tB t y) x (tL t y) → (∃ a, at_ = some a ∧ tL t a ≤ tL t y ∧ ag (tB t a) x (tL t a)) ∨ tH t y = -1 ∨ ∃ b, bs = some b ∧ tL t y ≤ tL t b) → hp_ok D base f H → va_S (hp_A base) s.heap H locs → lv_has ls 4 [(0, .ref q), (1, .int x), (2, va_rf bs), (3, va_rf at_)] → W p l e (headSpec wsX1_longestRoute ({ frames := 2, cells := 0, slots := 0, locals := 42 } : Room)).room s m #[Value.ref q, Value.int x] below meth c H locs 0 0 (MQ below (va_Qq (fun (r : Option Nat) (u : AH) => LRp N t x r ∧ u = f) (hp_B D cy base) (hp_A base)) #[Value.ref q, Value.int x] s 0 0 (hp_A base)) (F0 m 7 ls []) := by
    intro n
    induction n with
    | zero => intro _ _ _ _ _ h; exact absurd h (Nat.lt_irrefl 0)
    | succ n ih =>
      intro bs at_ ls H locs _ hA hB hI hf hS hl
      refine hp_aload_nq (r := at_) hx hb dX1_longestRoute_7 rfl (lv_at hl 3 rfl) ?_
      refine hp_ifnullq (tgt := 37) (r := at_) hx hb dX1_longestRoute_8 (by decide) (fun h8 => ?_) (fun x8 h8 => ?_)
      · rw [h8] at hl
        have hl : lv_has ls 4 [(0, .ref q), (1, .int x), (2, va_rf bs), (3, .null)] := hl
        refine hp_aload_nq (r := bs) hx hb dX1_longestRoute_37 rfl (lv_at hl 2 rfl) ?_
        exact hp_aret (r := bs) hx hb hr hlocks C0 hf hS (by first | exact Nat.le_refl _ | omega) (by first | exact Nat.le_refl _ | omega) dX1_longestRoute_38 (⟨⟨fun a e => ⟨(hB a e).1, (hB a e).2.1, (hB a e).2.2.1, fun y hy g1 g2 => by
            rcases hI y hy g1 with m | m | ⟨b, m1, m2⟩
            · obtain ⟨a', m1, m2, m3⟩ := m; rw [h8] at m1; cases m1
            · exact absurd m g2
            · rw [e] at m1; cases m1; exact m2⟩, fun e y hy g1 => by
            rcases hI y hy g1 with m | m | ⟨b, m1, m2⟩
            · obtain ⟨a', m1, m2, m3⟩ := m; rw [h8] at m1; cases m1
            · exact m
            · rw [e] at m1; cases m1⟩, rfl⟩)
      · rw [h8] at hl
        have hl : lv_has ls 4 [(0, .ref q), (1, .int x), (2, va_rf bs), (3, .ref x8)] := hl
        obtain ⟨hx8, hm8⟩ := hA x8 h8
        refine lv_aload_n hx hb dX1_longestRoute_11 rfl (lv_at hl 3 rfl) ?_
        refine lv_iload_n hx hb dX1_longestRoute_12 rfl (lv_at hl 1 rfl) ?_
        refine hp_ki (hp_rVN (C := RX0) (As := [.int x]) (rest := []) ⟨hx, hb, hml, hown, hts⟩ C0 hf hS (c_X0_isBeginOf l D cy base f x8 (tB t x8) (nI (tL t x8)) (tH t x8) (nI (tR t x8)) (tZ t x8) (tO t x8) x (hT x8 hx8)) ⟨va_cnB (host := RX1) (index := 65) 1 hts gX1_longestRoute_X0_isBeginOf_n65 rfl rfl rfl (C0.2.2 _ (by decide +kernel)) (hts (.initialized RX0) (by decide +kernel)) (by decide +kernel) ⟨Nat.le_of_ble_eq_true rfl, Nat.le_of_ble_eq_true rfl⟩, hts (.instanceMethod yX0_isBeginOf) (by decide +kernel), hts (.selects RX0 yX0_isBeginOf yX0_isBeginOf) (by decide +kernel)⟩ (hT x8 hx8) rfl rfl hl.1 rfl (Nat.le_of_ble_eq_true rfl) dX1_longestRoute_13 ⟨Nat.le_of_ble_eq_true rfl, Nat.le_of_ble_eq_true rfl⟩) hS (fun r_1 u_1 H locs hq_1 hf hS => ?_)
        obtain ⟨hr_1, hu⟩ := hq_1
        rw [hu] at hf
        have hbg : ¬ r_1 = 0 ↔ ag (tB t x8) x (tL t x8) := by rw [← bg_iff (hst.2.2.1 x8 hx8)]; rw [hr_1]; split <;> simp_all
        refine lv_if_eq (tgt := 37) hx hb dX1_longestRoute_16 (by decide) (fun h16 => ?_) (fun h16 => ?_)
        · refine hp_aload_nq (r := bs) hx hb dX1_longestRoute_37 rfl (lv_at hl 2 rfl) ?_
          exact hp_aret (r := bs) hx hb hr hlocks C0 hf hS (by first | exact Nat.le_refl _ | omega) (by first | exact Nat.le_refl _ | omega) dX1_longestRoute_38 (⟨⟨fun a e => ⟨(hB a e).1, (hB a e).2.1, (hB a e).2.2.1, fun y hy g1 g2 => by
              rcases hI y hy g1 with m | m | ⟨b, m1, m2⟩
              · obtain ⟨a', m1, m2, m3⟩ := m; rw [h8] at m1; cases m1; exact absurd m3 ((not_congr hbg).mp (fun z => z h16))
              · exact absurd m g2
              · rw [e] at m1; cases m1; exact m2⟩, fun e y hy g1 => by
              rcases hI y hy g1 with m | m | ⟨b, m1, m2⟩
              · obtain ⟨a', m1, m2, m3⟩ := m; rw [h8] at m1; cases m1; exact absurd m3 ((not_congr hbg).mp (fun z => z h16))
              · exact m
              · rw [e] at m1; cases m1⟩, rfl⟩)
        · refine lv_aload_n hx hb dX1_longestRoute_19 rfl (lv_at hl 3 rfl) ?_
          refine hp_ki (hp_rVN (C := RX0) (As := []) (rest := []) ⟨hx, hb, hml, hown, hts⟩ C0 hf hS (c_X0_isRoute l D cy base f x8 (tB t x8) (nI (tL t x8)) (tH t x8) (nI (tR t x8)) (tZ t x8) (tO t x8) (hT x8 hx8)) ⟨va_cnB (host := RX1) (index := 87) 0 hts gX1_longestRoute_X0_isRoute_n87 rfl rfl rfl (C0.2.2 _ (by decide +kernel)) (hts (.initialized RX0) (by decide +kernel)) (by decide +kernel) ⟨Nat.le_of_ble_eq_true rfl, Nat.le_of_ble_eq_true rfl⟩, hts (.instanceMethod yX0_isRoute) (by decide +kernel), hts (.selects RX0 yX0_isRoute yX0_isRoute) (by decide +kernel)⟩ (hT x8 hx8) rfl rfl hl.1 rfl (Nat.le_of_ble_eq_true rfl) dX1_longestRoute_20 ⟨Nat.le_of_ble_eq_true rfl, Nat.le_of_ble_eq_true rfl⟩) hS (fun r_2 u_2 H locs hq_2 hf hS => ?_)
          obtain ⟨hr_2, hu⟩ := hq_2
          rw [hu] at hf
          have hir : r_2 = 0 ↔ tH t x8 = -1 := by rw [hr_2]; split <;> simp_all
          refine lv_if_eq (tgt := 28) hx hb dX1_longestRoute_23 (by decide) (fun h23 => ?_) (fun h23 => ?_)
          · refine lv_aload_n hx hb dX1_longestRoute_28 rfl (lv_at hl 3 rfl) ?_
            refine lv_iload_n hx hb dX1_longestRoute_29 rfl (lv_at hl 1 rfl) ?_
            refine hp_kq (hp_rVN (C := RX0) (As := [.int x]) (rest := []) ⟨hx, hb, hml, hown, hts⟩ C0 hf hS (c_X0_toward l D cy base f x8 (tB t x8) (nI (tL t x8)) (tH t x8) (nI (tR t x8)) (tZ t x8) (tO t x8) x (hT x8 hx8)) ⟨va_cnB (host := RX1) (index := 69) 1 hts gX1_longestRoute_X0_toward_n69 rfl rfl rfl (C0.2.2 _ (by decide +kernel)) (hts (.initialized RX0) (by decide +kernel)) (by decide +kernel) ⟨Nat.le_of_ble_eq_true rfl, Nat.le_of_ble_eq_true rfl⟩, hts (.instanceMethod yX0_toward) (by decide +kernel), hts (.selects RX0 yX0_toward yX0_toward) (by decide +kernel)⟩ (hT x8 hx8) rfl rfl hl.1 rfl (Nat.le_of_ble_eq_true rfl) dX1_longestRoute_30 ⟨Nat.le_of_ble_eq_true rfl, Nat.le_of_ble_eq_true rfl⟩) hS (fun r_3 u_3 H locs hq_3 hf hS => ?_)
            obtain ⟨hr_3, hu⟩ := hq_3
            rw [hu] at hf
            have er_3 := tw_ch (hst.2.2.1 x8 hx8).1 hr_3
            refine hp_astore_nq (i := 3) (lv' := [(3, va_rf r_3), (0, .ref q), (1, .int x), (2, va_rf bs)]) hx hb dX1_longestRoute_33 rfl hl (by decide) (by simp [List.filter, va_rf_cat]) (fun ls hl => ?_)
            refine lv_goto (tgt := 7) hx hb dX1_longestRoute_34 (by decide) ?_
            have h32 := (hst.2.2.1 x8 hx8).1
            have hag := hbg.mp h16
            have hsuc : ∀ a, r_3 = some a → a ∈ N ∧ tL t x8 < tL t a := fun a e => by
              rw [er_3] at e
              obtain ⟨m1, m2, -, -⟩ := hst.2.2.2.2.1 x8 hx8 _ a e
              exact ⟨m1, m2⟩
            have hcv : ∀ y ∈ N, ag (tB t y) x (tL t y) → tL t x8 < tL t y → ∃ a, r_3 = some a ∧ tL t a ≤ tL t y ∧ ag (tB t a) x (tL t a) := fun y hy g1 g2 => by
              rw [er_3]
              exact st_step hst hx8 hag hy g1 g2
            exact ih bs r_3 ls _ _ (by omega) (fun a e => ⟨(hsuc a e).1, by have := (hsuc a e).2; omega⟩) (fun b e => ⟨(hB b e).1, (hB b e).2.1, (hB b e).2.2.1, fun a e2 => by have := (hsuc a e2).2; have := (hB b e).2.2.2 x8 h8; omega⟩) (fun y hy g1 => by
              rcases hI y hy g1 with ⟨a, m1, m2, m3⟩ | m | m
              · rw [h8] at m1; cases m1
                rcases Nat.lt_or_ge (tL t x8) (tL t y) with k | k
                · exact Or.inl (hcv y hy g1 k)
                · have e := hst.2.2.2.1 x8 hx8 y hy (by omega) (ag_tr hag (ag_sy (by rw [show tL t x8 = tL t y by omega]; exact g1)))
                  exact Or.inr (Or.inl (by rw [← e]; exact hir.mp h23))
              · exact Or.inr (Or.inl m)
              · exact Or.inr (Or.inr m)) hf hS (lv_sub hl [1, 2, 3, 0] rfl)
          · refine lv_aload_n hx hb dX1_longestRoute_26 rfl (lv_at hl 3 rfl) ?_
            refine lv_astore_n (lv' := [(2, .ref x8), (0, .ref q), (1, .int x), (3, .ref x8)]) hx hb dX1_longestRoute_27 rfl hl (by decide) rfl (fun ls hl => ?_)
            refine lv_aload_n hx hb dX1_longestRoute_28 rfl (lv_at hl 3 rfl) ?_
            refine lv_iload_n hx hb dX1_longestRoute_29 rfl (lv_at hl 2 rfl) ?_
            refine hp_kq (hp_rVN (C := RX0) (As := [.int x]) (rest := []) ⟨hx, hb, hml, hown, hts⟩ C0 hf hS (c_X0_toward l D cy base f x8 (tB t x8) (nI (tL t x8)) (tH t x8) (nI (tR t x8)) (tZ t x8) (tO t x8) x (hT x8 hx8)) ⟨va_cnB (host := RX1) (index := 69) 1 hts gX1_longestRoute_X0_toward_n69 rfl rfl rfl (C0.2.2 _ (by decide +kernel)) (hts (.initialized RX0) (by decide +kernel)) (by decide +kernel) ⟨Nat.le_of_ble_eq_true rfl, Nat.le_of_ble_eq_true rfl⟩, hts (.instanceMethod yX0_toward) (by decide +kernel), hts (.selects RX0 yX0_toward yX0_toward) (by decide +kernel)⟩ (hT x8 hx8) rfl rfl hl.1 rfl (Nat.le_of_ble_eq_true rfl) dX1_longestRoute_30 ⟨Nat.le_of_ble_eq_true rfl, Nat.le_of_ble_eq_true rfl⟩) hS (fun r_4 u_4 H locs hq_4 hf hS => ?_)
            obtain ⟨hr_4, hu⟩ := hq_4
            rw [hu] at hf
            have er_4 := tw_ch (hst.2.2.1 x8 hx8).1 hr_4
            refine hp_astore_nq (lv' := [(3, va_rf r_4), (2, .ref x8), (0, .ref q), (1, .int x)]) hx hb dX1_longestRoute_33 rfl hl (by decide) rfl (fun ls hl => ?_)
            refine lv_goto (tgt := 7) hx hb dX1_longestRoute_34 (by decide) ?_
            have h32 := (hst.2.2.1 x8 hx8).1
            have hag := hbg.mp h16
            have hsuc : ∀ a, r_4 = some a → a ∈ N ∧ tL t x8 < tL t a := fun a e => by
              rw [er_4] at e
              obtain ⟨m1, m2, -, -⟩ := hst.2.2.2.2.1 x8 hx8 _ a e
              exact ⟨m1, m2⟩
            have hcv : ∀ y ∈ N, ag (tB t y) x (tL t y) → tL t x8 < tL t y → ∃ a, r_4 = some a ∧ tL t a ≤ tL t y ∧ ag (tB t a) x (tL t a) := fun y hy g1 g2 => by
              rw [er_4]
              exact st_step hst hx8 hag hy g1 g2
            exact ih (some x8) r_4 ls _ _ (by omega) (fun a e => ⟨(hsuc a e).1, by have := (hsuc a e).2; omega⟩) (fun b e => by cases e; exact ⟨hx8, hag, (not_congr hir).mp h23, fun a e2 => (hsuc a e2).2⟩) (fun y hy g1 => by
              rcases Nat.lt_or_ge (tL t x8) (tL t y) with k | k
              · exact Or.inl (hcv y hy g1 k)
              · exact Or.inr (Or.inr ⟨x8, rfl, k⟩)) hf hS (lv_sub hl [2, 3, 1, 0] rfl)
  refine lv_null hx hb dX1_longestRoute_0 ?_
  refine lv_astore_nN (lv' := [(2, .null), (0, .ref q), (1, .int x)]) hx hb dX1_longestRoute_1 rfl hl (by decide) rfl (fun ls hl => ?_)
  refine lv_aload_n hx hb dX1_longestRoute_2 rfl (lv_at hl 1 rfl) ?_
  refine hp_get (ci := 1) (v := .ref root) (C := RX1) (T := TX1) (N := 2) hx hb hts hin1 hown C0 hf hq rfl 0 (by decide) (hts (.fieldLink RX1 14 "RouteTrie" "root" "LRouteTrie$Node;") (by decide +kernel)) (fun _ h9 => h9) rfl dX1_longestRoute_3 ?_
  refine lv_astore_n (lv' := [(3, .ref root), (2, .null), (0, .ref q), (1, .int x)]) hx hb dX1_longestRoute_6 rfl hl (by decide) rfl (fun ls hl => ?_)
  exact loop 34 none (some root) ls _ _ (by omega) (fun a e => by cases e; exact ⟨hst.1.1, by omega⟩) (fun b e => (by cases e)) (fun y hy _ => Or.inl ⟨root, rfl, by rw [hst.1.2]; omega, by rw [hst.1.2]; exact ag_0⟩) hf hS (lv_sub hl [2, 3, 1, 0] rfl)
