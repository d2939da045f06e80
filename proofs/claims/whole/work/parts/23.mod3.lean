/-! the reference's nodes -/
def FM3 (f u : AH) (a b c : Nat) : Prop := ∀ x, x ≠ a → x ≠ b → x ≠ c → u x = f x
def ADp (cy : ClassId) (f : AH) (qm ab al ah nb nl : Nat) (cd sz : Int32) (k : Nat) (NB NL : Nat → Int32) (x l0 : Int32) (u : AH) : Prop :=
  ((l0 = 0 ∨ ∃ j, j < k ∧ NB j = x ∧ NL j = l0) ∧ u = f) ∨ ((¬ l0 = 0) ∧ (∀ j, j < k → ¬ (NB j = x ∧ NL j = l0)) ∧ u qm = some (mdO cd ab al ah sz nb nl (nI (k + 1))) ∧ u nb = some (arO cy 1000 (upd NB k x)) ∧ u nl = some (arO cy 1000 (upd NL k l0)) ∧ FM3 f u qm nb nl)
def NDp (k : Nat) (NB NL : Nat → Int32) (P : Int32 → Int32 → Prop) : Prop := (∀ i j, i < j → j < k → ¬ (NB i = NB j ∧ NL i = NL j)) ∧ ∀ y m, (∃ j, j < k ∧ NB j = y ∧ NL j = m) ↔ ((¬ m = 0) ∧ P y m)
theorem nd_0 {NB NL : Nat → Int32} : NDp 0 NB NL (fun _ _ => False) := ⟨fun i j _ h => absurd h (by omega), fun y m => ⟨fun ⟨j, h, _⟩ => absurd h (by omega), fun h => h.2.elim⟩⟩
theorem nd_congr {k : Nat} {NB NL : Nat → Int32} {P Q : Int32 → Int32 → Prop} (h : NDp k NB NL P) (e : ∀ y m, P y m ↔ Q y m) : NDp k NB NL Q := ⟨h.1, fun y m => by rw [h.2 y m, e y m]⟩
theorem nd_add {cy : ClassId} {f u : AH} {qm ab al ah nb nl k : Nat} {cd sz x l0 : Int32} {NB NL : Nat → Int32} {P : Int32 → Int32 → Prop} (h : NDp k NB NL P) (hm : f qm = some (mdO cd ab al ah sz nb nl (nI k))) (hNB : f nb = some (arO cy 1000 NB)) (hNL : f nl = some (arO cy 1000 NL)) (a : ADp cy f qm ab al ah nb nl cd sz k NB NL x l0 u) :
    ∃ (k' : Nat) (NB' NL' : Nat → Int32), k' ≤ k + 1 ∧ NDp k' NB' NL' (fun y m => P y m ∨ (y = x ∧ m = l0)) ∧ u qm = some (mdO cd ab al ah sz nb nl (nI k')) ∧ u nb = some (arO cy 1000 NB') ∧ u nl = some (arO cy 1000 NL') ∧ FM3 f u qm nb nl := by
  rcases a with ⟨a1, rfl⟩ | ⟨a1, a2, a3, a4, a5, a6⟩
  · refine ⟨k, NB, NL, by omega, ⟨h.1, fun y m => ?_⟩, hm, hNB, hNL, fun _ _ _ _ => rfl⟩
    rw [h.2 y m]
    refine ⟨fun g => ⟨g.1, Or.inl g.2⟩, fun ⟨g1, g2⟩ => ⟨g1, ?_⟩⟩
    rcases g2 with g2 | ⟨g2, g3⟩
    · exact g2
    · rcases a1 with a1 | ⟨j, b1, b2, b3⟩
      · exact absurd (g3.trans a1) g1
      · exact ((h.2 y m).mp ⟨j, b1, b2.trans g2.symm, b3.trans g3.symm⟩).2
  · refine ⟨k + 1, upd NB k x, upd NL k l0, by omega, ⟨fun i j hi hj => ?_, fun y m => ?_⟩, a3, a4, a5, a6⟩
    · by_cases e : j = k
      · subst e
        rw [pk_us, pk_us, pk_un (by omega), pk_un (by omega)]
        exact a2 i hi
      · rw [pk_un e, pk_un e, pk_un (by omega), pk_un (by omega)]
        exact h.1 i j hi (by omega)
    · constructor
      · intro ⟨j, hj, g1, g2⟩
        by_cases e : j = k
        · subst e
          rw [pk_us] at g1 g2
          exact ⟨by rw [← g2]; exact a1, Or.inr ⟨g1.symm, g2.symm⟩⟩
        · rw [pk_un e] at g1 g2
          obtain ⟨q1, q2⟩ := (h.2 y m).mp ⟨j, by omega, g1, g2⟩
          exact ⟨q1, Or.inl q2⟩
      · intro ⟨g1, g2⟩
        rcases g2 with g2 | ⟨g2, g3⟩
        · obtain ⟨j, hj, q1, q2⟩ := (h.2 y m).mpr ⟨g1, g2⟩
          exact ⟨j, by omega, by rw [pk_un (by omega)]; exact q1, by rw [pk_un (by omega)]; exact q2⟩
        · exact ⟨k, by omega, by rw [pk_us]; exact g2.symm, by rw [pk_us]; exact g3.symm⟩
def CMp (B : Nat → Int32) (lam : Nat → Nat) (i k : Nat) : Prop := k ≤ lam i ∧ k ≤ lam (i - 1) ∧ ag (B i) (B (i - 1)) k ∧ (k < lam i → k < lam (i - 1) → ¬ bi (B i) k = bi (B (i - 1)) k)
def PPa (n : Nat) (B L : Nat → Int32) (y m : Int32) : Prop := ∃ i, i < n ∧ B i = y ∧ L i = m
def PPb (n : Nat) (B : Nat → Int32) (lam : Nat → Nat) (y m : Int32) : Prop := ∃ i k, 0 < i ∧ i < n ∧ CMp B lam i k ∧ y = fb (B i) k ∧ m = nI k
theorem cm_uniq {B : Nat → Int32} {lam : Nat → Nat} {i k k' : Nat} (h : CMp B lam i k) (h' : CMp B lam i k') : k = k' := by
  obtain ⟨a1, a2, a3, a4⟩ := h
  obtain ⟨b1, b2, b3, b4⟩ := h'
  rcases Nat.lt_trichotomy k k' with q | q | q
  · exact absurd (b3 k q) (a4 (by omega) (by omega))
  · exact q
  · exact absurd (a3 k' q) (b4 (by omega) (by omega))
theorem bit_eq {x y : Int32} {i : Nat} (hi : i < 32) : (((x.toUInt32 >>> ((31 - nI i).toUInt32 &&& Int32.toUInt32 31)).toInt32 &&& 1) = ((y.toUInt32 >>> ((31 - nI i).toUInt32 &&& Int32.toUInt32 31)).toInt32 &&& 1)) ↔ bi x i = bi y i := by
  rw [← sh_bi (x := x) hi, ← sh_bi (x := y) hi]
  rcases and1_cases ((x.toUInt32 >>> ((31 - nI i).toUInt32 &&& Int32.toUInt32 31)).toInt32) with ⟨a1, a2⟩ | ⟨a1, a2⟩ <;> rcases and1_cases ((y.toUInt32 >>> ((31 - nI i).toUInt32 &&& Int32.toUInt32 31)).toInt32) with ⟨b1, b2⟩ | ⟨b1, b2⟩ <;> rw [a1, a2, b1, b2] <;> simp
set_option maxHeartbeats 4000000 in
set_option maxRecDepth 100000 in
theorem c_X2_add (l : Launch) (D : va_G) (cy : ClassId) (base : Nat) (f : AH) (qm ab al ah nb nl : Nat) (cd sz : Int32) (k : Nat) (NB NL : Nat → Int32) (x l0 : Int32) (hm : f qm = some (mdO cd ab al ah sz nb nl (nI k))) (hNB : f nb = some (arO cy 1000 NB)) (hNL : f nl = some (arO cy 1000 NL)) (dn : nb ≠ nl) (hk : k < 1000) : Met l yX2_add wsX2_add ({ frames := 0, cells := 0, slots := 0, locals := 0 }) (va_Pc [.ref qm, .int x, .int l0] (hp_B D cy base f)) (va_Qv (fun (u : AH) => ADp cy f qm ab al ah nb nl cd sz k NB NL x l0 u) (hp_B D cy base) (hp_A base)) 0 0 (hp_A base) := by
  refine Met.ofW (cc := cX2_add) (maxL := 4) (ret := none) (by decide) rfl ?_
  intro p e s m args below meth c s₁ Bd hml hv
  obtain ⟨rfl, hf, C0⟩ := hv
  have hx := Bd.exec
  have hb := Bd.bytes
  have hr := Bd.returns
  have hts := atoms_spec (ws := wsX2_add) Bd.pre
  have hown : s.vm.findClass RX2 = some m.cls := findClass_of_methodNamed Bd.named
  have hlocks := Bd.notSynchronized
  have hin2 : ∀ w ∈ wsX20, w ∈ wsX2_add := by decide +kernel
  have hS : va_S (hp_A base) s.heap s.heap [] := va_S.rf
  have hl := lv_entry ([.ref qm, .int x, .int l0]) (n := 4) (Nat.le_of_ble_eq_true rfl)
  rw [lg_entry_eq]
  generalize (lg_sl ([.ref qm, .int x, .int l0]) ++ List.replicate (4 - (lg_sl ([.ref qm, .int x, .int l0])).length) Slot.unset).toArray = ls at hl ⊢
  have hl : lv_has ls 4 [(0, .ref qm), (1, .int x), (2, .int l0)] := hl
  have loop : ∀ (c0 j : Nat) (ls : Array Slot) (H : Heap) (locs : List Loc), (¬ l0 = 0) → j ≤ k → k + 1 ≤ j + c0 → (∀ i, i < j → ¬ (NB i = x ∧ NL i = l0)) → hp_ok D base f H → va_S (hp_A base) s.heap H locs → lv_has ls 4 [(0, .ref qm), (1, .int x), (2, .int l0), (3, .int (nI j))] → W p l e (headSpec wsX2_add ({ frames := 0, cells := 0, slots := 0, locals := 0 } : Room)).room s m #[Value.ref qm, Value.int x, Value.int l0] below meth c H locs 0 0 (MQ below (va_Qv (fun (u : AH) => ADp cy f qm ab al ah nb nl cd sz k NB NL x l0 u) (hp_B D cy base) (hp_A base)) #[Value.ref qm, Value.int x, Value.int l0] s 0 0 (hp_A base)) (F0 m 7 ls []) := by
    intro c0
    induction c0 with
    | zero => intro j _ _ _ _ h1 h2; exact absurd h2 (by omega)
    | succ c0 ih =>
      intro j ls H locs h0 hj hc hI hf hS hl
      refine lv_iload_n hx hb dX2_add_7 rfl (lv_at hl 3 rfl) ?_
      refine lv_aload_n hx hb dX2_add_8 rfl (lv_at hl 0 rfl) ?_
      refine hp_get (ci := 2) (v := .int (nI k)) (C := RX2) (T := TX2) (N := 8) hx hb hts hin2 hown C0 hf hm rfl 7 (by decide) (hts (.fieldLink RX2 55 "RouteTrieModel" "nodeCount" "I") (by decide +kernel)) (fun _ h9 => h9) rfl dX2_add_9 ?_
      refine lv_icmp_ge (tgt := 42) hx hb dX2_add_12 (by decide) (fun h12 => ?_) (fun h12 => ?_)
      · have hjn : j = k := by have := (nI_leI (by omega) (by omega)).mp h12; omega
        subst hjn
        refine lv_aload_n hx hb dX2_add_42 rfl (lv_at hl 0 rfl) ?_
        refine hp_get (ci := 2) (v := .ref nb) (C := RX2) (T := TX2) (N := 8) hx hb hts hin2 hown C0 hf hm rfl 5 (by decide) (hts (.fieldLink RX2 19 "RouteTrieModel" "nodeBits" "[I") (by decide +kernel)) (fun _ h9 => h9) rfl dX2_add_43 ?_
        refine lv_aload_n hx hb dX2_add_46 rfl (lv_at hl 0 rfl) ?_
        refine hp_get (ci := 2) (v := .int (nI j)) (C := RX2) (T := TX2) (N := 8) hx hb hts hin2 hown C0 hf hm rfl 7 (by decide) (hts (.fieldLink RX2 55 "RouteTrieModel" "nodeCount" "I") (by decide +kernel)) (fun _ h9 => h9) rfl dX2_add_47 ?_
        refine lv_iload_n hx hb dX2_add_50 rfl (lv_at hl 1 rfl) ?_
        refine hp_iast (n := 1000) (g := NB) hx hb C0 hf hS hNB (vp_in_nI (n := j) (N := 1000) (by omega) (by omega)) dX2_add_51 (fun f_1 H locs ef_1 hf hS => ?_)
        rw [nI_clamp (n := j) (by omega)] at ef_1
        have hc_1 : f_1 nb = some (.inl (cy, 1000, .inl (upd NB j x))) := by rw [ef_1]; exact va_up_self _ _ _
        have hc_1_qm : f_1 qm = some (.inr (2, [.int cd, .ref ab, .ref al, .ref ah, .int sz, .ref nb, .ref nl, .int (nI j)])) := by rw [ef_1, va_up_ne _ _ (hp_dif hm hNB (by simp))]; exact hm
        have hc_1_nl : f_1 nl = some (.inl (cy, 1000, .inl NL)) := by rw [ef_1, va_up_ne _ _ (Ne.symm dn)]; exact hNL
        refine lv_aload_n hx hb dX2_add_52 rfl (lv_at hl 0 rfl) ?_
        refine hp_get (ci := 2) (v := .ref nl) (C := RX2) (T := TX2) (N := 8) hx hb hts hin2 hown C0 hf hc_1_qm rfl 6 (by decide) (hts (.fieldLink RX2 22 "RouteTrieModel" "nodeLengths" "[I") (by decide +kernel)) (fun _ h9 => h9) rfl dX2_add_53 ?_
        refine lv_aload_n hx hb dX2_add_56 rfl (lv_at hl 0 rfl) ?_
        refine hp_get (ci := 2) (v := .int (nI j)) (C := RX2) (T := TX2) (N := 8) hx hb hts hin2 hown C0 hf hc_1_qm rfl 7 (by decide) (hts (.fieldLink RX2 55 "RouteTrieModel" "nodeCount" "I") (by decide +kernel)) (fun _ h9 => h9) rfl dX2_add_57 ?_
        refine lv_iload_n hx hb dX2_add_60 rfl (lv_at hl 2 rfl) ?_
        refine hp_iast (n := 1000) (g := NL) hx hb C0 hf hS hc_1_nl (vp_in_nI (n := j) (N := 1000) (by omega) (by omega)) dX2_add_61 (fun f_2 H locs ef_2 hf hS => ?_)
        rw [nI_clamp (n := j) (by omega)] at ef_2
        have hc_2 : f_2 nl = some (.inl (cy, 1000, .inl (upd NL j l0))) := by rw [ef_2]; exact va_up_self _ _ _
        have hc_2_qm : f_2 qm = some (.inr (2, [.int cd, .ref ab, .ref al, .ref ah, .int sz, .ref nb, .ref nl, .int (nI j)])) := by rw [ef_2, va_up_ne _ _ (hp_dif hc_1_qm hc_1_nl (by simp))]; exact hc_1_qm
        have hc_2_nb : f_2 nb = some (.inl (cy, 1000, .inl (upd NB j x))) := by rw [ef_2, va_up_ne _ _ dn]; exact hc_1
        refine lv_aload_n hx hb dX2_add_62 rfl (lv_at hl 0 rfl) ?_
        refine lv_dup hx hb dX2_add_63 rfl ?_
        refine hp_get (ci := 2) (v := .int (nI j)) (C := RX2) (T := TX2) (N := 8) hx hb hts hin2 hown C0 hf hc_2_qm rfl 7 (by decide) (hts (.fieldLink RX2 55 "RouteTrieModel" "nodeCount" "I") (by decide +kernel)) (fun _ h9 => h9) rfl dX2_add_64 ?_
        refine lv_iconst (v := 1) hx hb dX2_add_67 (by decide) ?_
        refine lv_iadd hx hb dX2_add_68 ?_
        refine hp_put (ci := 2) (v := .int ((nI j) + 1)) (C := RX2) (T := TX2) (N := 8) hx hb hts hin2 tyX2 tyX2_ok nmX2 hown C0 hf hS hc_2_qm rfl 7 (by decide) (hts (.fieldLink RX2 55 "RouteTrieModel" "nodeCount" "I") (by decide +kernel)) (fun _ h9 => h9) rfl rfl rfl (Nat.le_of_ble_eq_true rfl) dX2_add_69 (fun f_3 H locs ef_3 hf hS => ?_)
        have hc_3 : f_3 qm = some (.inr (2, [.int cd, .ref ab, .ref al, .ref ah, .int sz, .ref nb, .ref nl, .int ((nI j) + 1)])) := by rw [ef_3]; exact va_up_self _ _ _
        have hc_3_nb : f_3 nb = some (.inl (cy, 1000, .inl (upd NB j x))) := by rw [ef_3, va_up_ne _ _ (hp_dif hc_2_nb hc_2_qm (by simp))]; exact hc_2_nb
        have hc_3_nl : f_3 nl = some (.inl (cy, 1000, .inl (upd NL j l0))) := by rw [ef_3, va_up_ne _ _ (hp_dif hc_2 hc_2_qm (by simp))]; exact hc_2
        exact hp_vret hx hb hr hlocks C0 hf hS (by first | exact Nat.le_refl _ | omega) (by first | exact Nat.le_refl _ | omega) dX2_add_72 (Or.inr ⟨h0, hI, by rw [hc_3, nI_1], hc_3_nb, hc_3_nl, fun y g1 g2 g3 => by rw [ef_3, va_up_ne _ _ g1, ef_2, va_up_ne _ _ g3, ef_1, va_up_ne _ _ g2]⟩)
      · have hjn : j < k := Nat.not_le.mp (fun q => h12 ((nI_leI (by omega) (by omega)).mpr q))
        refine lv_aload_n hx hb dX2_add_15 rfl (lv_at hl 0 rfl) ?_
        refine hp_get (ci := 2) (v := .ref nb) (C := RX2) (T := TX2) (N := 8) hx hb hts hin2 hown C0 hf hm rfl 5 (by decide) (hts (.fieldLink RX2 19 "RouteTrieModel" "nodeBits" "[I") (by decide +kernel)) (fun _ h9 => h9) rfl dX2_add_16 ?_
        refine lv_iload_n hx hb dX2_add_19 rfl (lv_at hl 3 rfl) ?_
        refine hp_iald (n := 1000) (g := NB) hx hb C0 hf hNB (vp_in_nI (n := j) (N := 1000) (by omega) (by omega)) dX2_add_20 ?_
        rw [nI_clamp (n := j) (by omega)]
        refine lv_iload_n hx hb dX2_add_21 rfl (lv_at hl 1 rfl) ?_
        refine lv_icmp_ne (tgt := 36) hx hb dX2_add_22 (by decide) (fun h22 => ?_) (fun h22 => ?_)
        · refine lv_iinc (v := ((nI j) + 1)) (lv' := [(3, .int ((nI j) + 1)), (0, .ref qm), (1, .int x), (2, .int l0)]) hx hb dX2_add_36 hl (k := 3) rfl rfl (by decide) rfl (fun ls hl => ?_)
          refine lv_goto (tgt := 7) hx hb dX2_add_39 (by decide) ?_
          rw [nI_1] at hl
          exact ih (j + 1) ls _ _ h0 (by omega) (by omega) (fun i hi => by
            rcases Nat.lt_or_ge i j with q | q
            · exact hI i q
            · have e : i = j := by omega
              subst e
              exact fun g => h22 g.1) hf hS (lv_sub hl [1, 2, 3, 0] rfl)
        · refine lv_aload_n hx hb dX2_add_25 rfl (lv_at hl 0 rfl) ?_
          refine hp_get (ci := 2) (v := .ref nl) (C := RX2) (T := TX2) (N := 8) hx hb hts hin2 hown C0 hf hm rfl 6 (by decide) (hts (.fieldLink RX2 22 "RouteTrieModel" "nodeLengths" "[I") (by decide +kernel)) (fun _ h9 => h9) rfl dX2_add_26 ?_
          refine lv_iload_n hx hb dX2_add_29 rfl (lv_at hl 3 rfl) ?_
          refine hp_iald (n := 1000) (g := NL) hx hb C0 hf hNL (vp_in_nI (n := j) (N := 1000) (by omega) (by omega)) dX2_add_30 ?_
          rw [nI_clamp (n := j) (by omega)]
          refine lv_iload_n hx hb dX2_add_31 rfl (lv_at hl 2 rfl) ?_
          refine lv_icmp_ne (tgt := 36) hx hb dX2_add_32 (by decide) (fun h32 => ?_) (fun h32 => ?_)
          · refine lv_iinc (v := ((nI j) + 1)) (lv' := [(3, .int ((nI j) + 1)), (0, .ref qm), (1, .int x), (2, .int l0)]) hx hb dX2_add_36 hl (k := 3) rfl rfl (by decide) rfl (fun ls hl => ?_)
            refine lv_goto (tgt := 7) hx hb dX2_add_39 (by decide) ?_
            rw [nI_1] at hl
            exact ih (j + 1) ls _ _ h0 (by omega) (by omega) (fun i hi => by
              rcases Nat.lt_or_ge i j with q | q
              · exact hI i q
              · have e : i = j := by omega
                subst e
                exact fun g => h32 g.2) hf hS (lv_sub hl [1, 2, 3, 0] rfl)
          · exact hp_vret hx hb hr hlocks C0 hf hS (by first | exact Nat.le_refl _ | omega) (by first | exact Nat.le_refl _ | omega) dX2_add_35 (Or.inl ⟨Or.inr ⟨j, hjn, h22, h32⟩, rfl⟩)
  refine lv_iload_n hx hb dX2_add_0 rfl (lv_at hl 2 rfl) ?_
  refine lv_if_ne (tgt := 5) hx hb dX2_add_1 (by decide) (fun h1 => ?_) (fun h1 => ?_)
  · refine lv_iconst (v := 0) hx hb dX2_add_5 (by decide) ?_
    refine lv_istore_n (lv' := [(3, .int 0), (0, .ref qm), (1, .int x), (2, .int l0)]) hx hb dX2_add_6 rfl hl (by decide) rfl (fun ls hl => ?_)
    exact loop (k + 1) 0 ls _ _ h1 (by omega) (by omega) (fun i hi => absurd hi (by omega)) hf hS (lv_sub hl [1, 2, 3, 0] rfl)
  · exact hp_vret hx hb hr hlocks C0 hf hS (by first | exact Nat.le_refl _ | omega) (by first | exact Nat.le_refl _ | omega) dX2_add_4 (Or.inl ⟨Or.inl h1, rfl⟩)
def FNp (cy : ClassId) (f : AH) (qm ab al ah nb nl : Nat) (cd : Int32) (n : Nat) (B L : Nat → Int32) (lam : Nat → Nat) (u : AH) : Prop := ∃ (k : Nat) (NB NL : Nat → Int32), k ≤ 999 ∧ NDp k NB NL (fun y m => PPa n B L y m ∨ PPb n B lam y m) ∧ u qm = some (mdO cd ab al ah (nI n) nb nl (nI k)) ∧ u nb = some (arO cy 1000 NB) ∧ u nl = some (arO cy 1000 NL) ∧ FM3 f u qm nb nl
set_option maxHeartbeats 4000000 in
set_option maxRecDepth 100000 in
theorem c_X2_findNodes (l : Launch) (D : va_G) (cy : ClassId) (base : Nat) (f : AH) (qm ab al ah nb nl : Nat) (cd nc : Int32) (n : Nat) (B L NB0 NL0 : Nat → Int32) (lam : Nat → Nat) (hm : f qm = some (mdO cd ab al ah (nI n) nb nl nc)) (hB : f ab = some (arO cy 500 B)) (hL : f al = some (arO cy 500 L)) (hNB : f nb = some (arO cy 1000 NB0)) (hNL : f nl = some (arO cy 1000 NL0)) (hn : n ≤ 500) (hlam : ∀ j, j < n → L j = nI (lam j) ∧ lam j ≤ 32) (dn : nb ≠ nl) (d1 : ab ≠ nb) (d2 : ab ≠ nl) (d3 : al ≠ nb) (d4 : al ≠ nl) : Met l yX2_findNodes wsX2_findNodes ({ frames := 1, cells := 0, slots := 0, locals := 23 }) (va_Pc [.ref qm] (hp_B D cy base f)) (va_Qv (fun (u : AH) => FNp cy f qm ab al ah nb nl cd n B L lam u) (hp_B D cy base) (hp_A base)) 0 0 (hp_A base) := by
  refine Met.ofW (cc := cX2_findNodes) (maxL := 4) (ret := none) (by decide) rfl ?_
  intro p e s m args below meth c s₁ Bd hml hv
  obtain ⟨rfl, hf, C0⟩ := hv
  have hx := Bd.exec
  have hb := Bd.bytes
  have hr := Bd.returns
  have hts := atoms_spec (ws := wsX2_findNodes) Bd.pre
  have hown : s.vm.findClass RX2 = some m.cls := findClass_of_methodNamed Bd.named
  have hlocks := Bd.notSynchronized
  have hin2 : ∀ w ∈ wsX20, w ∈ wsX2_findNodes := by decide +kernel
  have hS : va_S (hp_A base) s.heap s.heap [] := va_S.rf
  have hl := lv_entry ([.ref qm]) (n := 4) (Nat.le_of_ble_eq_true rfl)
  rw [lg_entry_eq]
  generalize (lg_sl ([.ref qm]) ++ List.replicate (4 - (lg_sl ([.ref qm])).length) Slot.unset).toArray = ls at hl ⊢
  have hl : lv_has ls 4 [(0, .ref qm)] := hl
  have nqa : ab ≠ qm := hp_dif hB hm (by simp)
  have nql : al ≠ qm := hp_dif hL hm (by simp)
  have loopB : ∀ (c0 j k : Nat) (NB NL : Nat → Int32) (fc : AH) (ls : Array Slot) (H : Heap) (locs : List Loc), 1 ≤ j → (j ≤ n ∨ j = 1) → n + 2 ≤ j + c0 → k ≤ n + (j - 1) → (n = 0 → k = 0) → NDp k NB NL (fun y m => PPa n B L y m ∨ PPb (min j n) B lam y m) → fc qm = some (mdO cd ab al ah (nI n) nb nl (nI k)) → fc nb = some (arO cy 1000 NB) → fc nl = some (arO cy 1000 NL) → FM3 f fc qm nb nl → hp_ok D base fc H → va_S (hp_A base) s.heap H locs → lv_has ls 4 [(0, .ref qm), (1, .int (nI j))] → W p l e (headSpec wsX2_findNodes ({ frames := 1, cells := 0, slots := 0, locals := 23 } : Room)).room s m #[Value.ref qm] below meth c H locs 0 0 (MQ below (va_Qv (fun (u : AH) => FNp cy f qm ab al ah nb nl cd n B L lam u) (hp_B D cy base) (hp_A base)) #[Value.ref qm] s 0 0 (hp_A base)) (F0 m 39 ls []) := by
    intro c0
    induction c0 with
    | zero => intro j k _ _ _ _ _ _ h1 h2 h3; exact absurd h3 (by omega)
    | succ c0 ih =>
      intro j k NB NL fc ls H locs hj1 hjn hc hk hk0 hN hm2 hNB2 hNL2 hF hf hS hl
      have hB2 : fc ab = some (arO cy 500 B) := by rw [hF ab nqa d1 d2]; exact hB
      have hL2 : fc al = some (arO cy 500 L) := by rw [hF al nql d3 d4]; exact hL
      refine lv_iload_n hx hb dX2_findNodes_39 rfl (lv_at hl 1 rfl) ?_
      refine lv_aload_n hx hb dX2_findNodes_40 rfl (lv_at hl 0 rfl) ?_
      refine hp_get (ci := 2) (v := .int (nI n)) (C := RX2) (T := TX2) (N := 8) hx hb hts hin2 hown C0 hf hm2 rfl 4 (by decide) (hts (.fieldLink RX2 29 "RouteTrieModel" "size" "I") (by decide +kernel)) (fun _ h9 => h9) rfl dX2_findNodes_41 ?_
      refine lv_icmp_ge (tgt := 148) hx hb dX2_findNodes_44 (by decide) (fun h44 => ?_) (fun h44 => ?_)
      · have hnj : n ≤ j := (nI_leI (by omega) (by omega)).mp h44
        exact hp_vret hx hb hr hlocks C0 hf hS (by first | exact Nat.le_refl _ | omega) (by first | exact Nat.le_refl _ | omega) dX2_findNodes_148 (⟨k, NB, NL, by omega, nd_congr hN (fun y m => by rw [show min j n = n by omega]), hm2, hNB2, hNL2, hF⟩)
      · have hjn2 : j < n := Nat.not_le.mp (fun q => h44 ((nI_leI (by omega) (by omega)).mpr q))
        obtain ⟨ea, la⟩ := hlam j hjn2
        obtain ⟨eb, lb⟩ := hlam (j - 1) (by omega)
        refine lv_aload_n hx hb dX2_findNodes_47 rfl (lv_at hl 0 rfl) ?_
        refine hp_get (ci := 2) (v := .ref al) (C := RX2) (T := TX2) (N := 8) hx hb hts hin2 hown C0 hf hm2 rfl 2 (by decide) (hts (.fieldLink RX2 13 "RouteTrieModel" "lengths" "[I") (by decide +kernel)) (fun _ h9 => h9) rfl dX2_findNodes_48 ?_
        refine lv_iload_n hx hb dX2_findNodes_51 rfl (lv_at hl 1 rfl) ?_
        refine hp_iald (n := 500) (g := L) hx hb C0 hf hL2 (vp_in_nI (n := j) (N := 500) (by omega) (by omega)) dX2_findNodes_52 ?_
        rw [nI_clamp (n := j) (by omega)]
        refine lv_aload_n hx hb dX2_findNodes_53 rfl (lv_at hl 0 rfl) ?_
        refine hp_get (ci := 2) (v := .ref al) (C := RX2) (T := TX2) (N := 8) hx hb hts hin2 hown C0 hf hm2 rfl 2 (by decide) (hts (.fieldLink RX2 13 "RouteTrieModel" "lengths" "[I") (by decide +kernel)) (fun _ h9 => h9) rfl dX2_findNodes_54 ?_
        refine lv_iload_n hx hb dX2_findNodes_57 rfl (lv_at hl 1 rfl) ?_
        refine lv_iconst (v := 1) hx hb dX2_findNodes_58 (by decide) ?_
        refine lv_isub hx hb dX2_findNodes_59 ?_
        rw [show (((nI j) - 1) : Int32) = nI (j - 1) from (pk_sub (a := j) (b := 1) (by omega))]
        refine hp_iald (n := 500) (g := L) hx hb C0 hf hL2 (vp_in_nI (n := (j - 1)) (N := 500) (by omega) (by omega)) dX2_findNodes_60 ?_
        rw [nI_clamp (n := (j - 1)) (by omega)]
        refine lv_icmp_ge (tgt := 73) hx hb dX2_findNodes_61 (by decide) (fun h61 => ?_) (fun h61 => ?_)
        · refine lv_aload_n hx hb dX2_findNodes_73 rfl (lv_at hl 0 rfl) ?_
          refine hp_get (ci := 2) (v := .ref al) (C := RX2) (T := TX2) (N := 8) hx hb hts hin2 hown C0 hf hm2 rfl 2 (by decide) (hts (.fieldLink RX2 13 "RouteTrieModel" "lengths" "[I") (by decide +kernel)) (fun _ h9 => h9) rfl dX2_findNodes_74 ?_
          refine lv_iload_n hx hb dX2_findNodes_77 rfl (lv_at hl 1 rfl) ?_
          refine lv_iconst (v := 1) hx hb dX2_findNodes_78 (by decide) ?_
          refine lv_isub hx hb dX2_findNodes_79 ?_
          rw [show (((nI j) - 1) : Int32) = nI (j - 1) from (pk_sub (a := j) (b := 1) (by omega))]
          refine hp_iald (n := 500) (g := L) hx hb C0 hf hL2 (vp_in_nI (n := (j - 1)) (N := 500) (by omega) (by omega)) dX2_findNodes_80 ?_
          rw [nI_clamp (n := (j - 1)) (by omega)]
          have hmn : lam (j - 1) ≤ lam j := by rw [ea, eb] at h61; exact (nI_leI (by omega) (by omega)).mp h61
          rw [eb]
          obtain ⟨mm, emm, hmm⟩ : ∃ mm, lam (j - 1) = mm ∧ mm = min (lam j) (lam (j - 1)) := ⟨_, rfl, by omega⟩
          rw [emm]
          refine lv_istore_n (lv' := [(2, .int (nI mm)), (0, .ref qm), (1, .int (nI j))]) hx hb dX2_findNodes_81 rfl hl (by decide) rfl (fun ls hl => ?_)
          refine lv_iconst (v := 0) hx hb dX2_findNodes_82 (by decide) ?_
          refine lv_istore_n (lv' := [(3, .int 0), (2, .int (nI mm)), (0, .ref qm), (1, .int (nI j))]) hx hb dX2_findNodes_83 rfl hl (by decide) rfl (fun ls hl => ?_)
          have loopC : ∀ (c1 i : Nat) (ls : Array Slot) (H : Heap) (locs : List Loc), i ≤ mm → mm + 1 ≤ i + c1 → ag (B j) (B (j - 1)) i → hp_ok D base fc H → va_S (hp_A base) s.heap H locs → lv_has ls 4 [(0, .ref qm), (1, .int (nI j)), (2, .int (nI mm)), (3, .int (nI i))] → W p l e (headSpec wsX2_findNodes ({ frames := 1, cells := 0, slots := 0, locals := 23 } : Room)).room s m #[Value.ref qm] below meth c H locs 0 0 (MQ below (va_Qv (fun (u : AH) => FNp cy f qm ab al ah nb nl cd n B L lam u) (hp_B D cy base) (hp_A base)) #[Value.ref qm] s 0 0 (hp_A base)) (F0 m 84 ls []) := by
            intro c1
            induction c1 with
            | zero => intro i _ _ _ h1 h2; exact absurd h2 (by omega)
            | succ c1 ihC =>
              intro i ls H locs hi hc1 hag hf hS hl
              refine lv_iload_n hx hb dX2_findNodes_84 rfl (lv_at hl 3 rfl) ?_
              refine lv_iload_n hx hb dX2_findNodes_85 rfl (lv_at hl 2 rfl) ?_
              refine lv_icmp_ge (tgt := 126) hx hb dX2_findNodes_86 (by decide) (fun h86 => ?_) (fun h86 => ?_)
              · have him : i = mm := by have := (nI_leI (by omega) (by omega)).mp h86; omega
                have hcm : CMp B lam j i := ⟨by omega, by omega, hag, fun g1 g2 => absurd g2 (by omega)⟩
                refine lv_aload_n hx hb dX2_findNodes_126 rfl (lv_at hl 0 rfl) ?_
                refine lv_aload_n hx hb dX2_findNodes_127 rfl (lv_at hl 0 rfl) ?_
                refine hp_get (ci := 2) (v := .ref ab) (C := RX2) (T := TX2) (N := 8) hx hb hts hin2 hown C0 hf hm2 rfl 1 (by decide) (hts (.fieldLink RX2 7 "RouteTrieModel" "bits" "[I") (by decide +kernel)) (fun _ h9 => h9) rfl dX2_findNodes_128 ?_
                refine lv_iload_n hx hb dX2_findNodes_131 rfl (lv_at hl 1 rfl) ?_
                refine hp_iald (n := 500) (g := B) hx hb C0 hf hB2 (vp_in_nI (n := j) (N := 500) (by omega) (by omega)) dX2_findNodes_132 ?_
                rw [nI_clamp (n := j) (by omega)]
                refine lv_iload_n hx hb dX2_findNodes_133 rfl (lv_at hl 3 rfl) ?_
                refine hp_ki (hp_rS (As := [.int (nI i)]) (rest := [.int (B j), .ref qm]) ⟨hx, hb, hml, hown, hts⟩ C0 hf hS (c_X2_mask l D cy base fc (nI i)) (va_cwS 1 hts gX2_findNodes_X2_mask rfl rfl rfl (by decide +kernel) ⟨Nat.le_of_ble_eq_true rfl, Nat.le_of_ble_eq_true rfl⟩) rfl hl.1 rfl (Nat.le_of_ble_eq_true rfl) dX2_findNodes_134 ⟨Nat.le_of_ble_eq_true rfl, Nat.le_of_ble_eq_true rfl⟩) hS (fun r_1 u_1 H locs hq_1 hf hS => ?_)
                obtain ⟨rfl, hu⟩ := hq_1
                rw [hu] at hf
                rw [msk_mk]
                refine lv_iand hx hb dX2_findNodes_137 ?_
                refine lv_iload_n hx hb dX2_findNodes_138 rfl (lv_at hl 3 rfl) ?_
                refine hp_kv (hp_rV (C := RX2) (As := [.int ((B j) &&& (mkI i)), .int (nI i)]) (rest := []) ⟨hx, hb, hml, hown, hts⟩ C0 hf hS (c_X2_add l D cy base fc qm ab al ah nb nl cd (nI n) k NB NL (B j &&& mkI i) (nI i) hm2 hNB2 hNL2 dn (by omega)) (cwV 2 hts gX2_findNodes_X2_add rfl rfl rfl (by decide +kernel) ⟨Nat.le_of_ble_eq_true rfl, Nat.le_of_ble_eq_true rfl⟩) hm2 rfl rfl hl.1 rfl (Nat.le_of_ble_eq_true rfl) dX2_findNodes_139 ⟨Nat.le_of_ble_eq_true rfl, Nat.le_of_ble_eq_true rfl⟩) hS (fun u_2 H locs hq_2 hf hS => ?_)
                obtain ⟨k', NB', NL', a1, a2, a3, a4, a5, a6⟩ := nd_add hN hm2 hNB2 hNL2 hq_2
                have hN' : NDp k' NB' NL' (fun y m => PPa n B L y m ∨ PPb (min (j + 1) n) B lam y m) := nd_congr a2 (fun y m => by
                  constructor
                  · intro g
                    rcases g with (g | ⟨i', k2, g1, g2, g3⟩) | ⟨g1, g2⟩
                    · exact Or.inl g
                    · exact Or.inr ⟨i', k2, g1, by omega, g3⟩
                    · exact Or.inr ⟨j, i, by omega, by omega, hcm, g1, g2⟩
                  · intro g
                    rcases g with g | ⟨i', k2, g1, g2, g3, g4, g5⟩
                    · exact Or.inl (Or.inl g)
                    · by_cases e : i' = j
                      · subst e
                        have := cm_uniq g3 hcm
                        subst this
                        exact Or.inr ⟨g4, g5⟩
                      · exact Or.inl (Or.inr ⟨i', k2, g1, by omega, g3, g4, g5⟩))
                refine lv_iinc (v := ((nI j) + 1)) (lv' := [(1, .int ((nI j) + 1)), (0, .ref qm), (2, .int (nI mm)), (3, .int (nI i))]) hx hb dX2_findNodes_142 hl (k := 1) rfl rfl (by decide) rfl (fun ls hl => ?_)
                refine lv_goto (tgt := 39) hx hb dX2_findNodes_145 (by decide) ?_
                rw [nI_1] at hl
                exact ih (j + 1) k' NB' NL' u_2 ls _ _ (by omega) (by omega) (by omega) (by omega) (fun e => by omega) hN' a3 a4 a5 (fun y g1 g2 g3 => by rw [a6 y g1 g2 g3]; exact hF y g1 g2 g3) hf hS (lv_sub hl [1, 0] rfl)
              · have him : i < mm := Nat.not_le.mp (fun q => h86 ((nI_leI (by omega) (by omega)).mpr q))
                have hi32 : i < 32 := by omega
                refine lv_aload_n hx hb dX2_findNodes_89 rfl (lv_at hl 0 rfl) ?_
                refine hp_get (ci := 2) (v := .ref ab) (C := RX2) (T := TX2) (N := 8) hx hb hts hin2 hown C0 hf hm2 rfl 1 (by decide) (hts (.fieldLink RX2 7 "RouteTrieModel" "bits" "[I") (by decide +kernel)) (fun _ h9 => h9) rfl dX2_findNodes_90 ?_
                refine lv_iload_n hx hb dX2_findNodes_93 rfl (lv_at hl 1 rfl) ?_
                refine hp_iald (n := 500) (g := B) hx hb C0 hf hB2 (vp_in_nI (n := j) (N := 500) (by omega) (by omega)) dX2_findNodes_94 ?_
                rw [nI_clamp (n := j) (by omega)]
                refine lv_bipush (v := 31) hx hb dX2_findNodes_95 (by decide) ?_
                refine lv_iload_n hx hb dX2_findNodes_97 rfl (lv_at hl 3 rfl) ?_
                refine lv_isub hx hb dX2_findNodes_98 ?_
                refine lv_iushr hx hb dX2_findNodes_99 rfl ?_
                refine lv_iconst (v := 1) hx hb dX2_findNodes_100 (by decide) ?_
                refine lv_iand hx hb dX2_findNodes_101 ?_
                refine lv_aload_n hx hb dX2_findNodes_102 rfl (lv_at hl 0 rfl) ?_
                refine hp_get (ci := 2) (v := .ref ab) (C := RX2) (T := TX2) (N := 8) hx hb hts hin2 hown C0 hf hm2 rfl 1 (by decide) (hts (.fieldLink RX2 7 "RouteTrieModel" "bits" "[I") (by decide +kernel)) (fun _ h9 => h9) rfl dX2_findNodes_103 ?_
                refine lv_iload_n hx hb dX2_findNodes_106 rfl (lv_at hl 1 rfl) ?_
                refine lv_iconst (v := 1) hx hb dX2_findNodes_107 (by decide) ?_
                refine lv_isub hx hb dX2_findNodes_108 ?_
                rw [show (((nI j) - 1) : Int32) = nI (j - 1) from (pk_sub (a := j) (b := 1) (by omega))]
                refine hp_iald (n := 500) (g := B) hx hb C0 hf hB2 (vp_in_nI (n := (j - 1)) (N := 500) (by omega) (by omega)) dX2_findNodes_109 ?_
                rw [nI_clamp (n := (j - 1)) (by omega)]
                refine lv_bipush (v := 31) hx hb dX2_findNodes_110 (by decide) ?_
                refine lv_iload_n hx hb dX2_findNodes_112 rfl (lv_at hl 3 rfl) ?_
                refine lv_isub hx hb dX2_findNodes_113 ?_
                refine lv_iushr hx hb dX2_findNodes_114 rfl ?_
                refine lv_iconst (v := 1) hx hb dX2_findNodes_115 (by decide) ?_
                refine lv_iand hx hb dX2_findNodes_116 ?_
                refine lv_icmp_ne (tgt := 126) hx hb dX2_findNodes_117 (by decide) (fun h117 => ?_) (fun h117 => ?_)
                · have hdf : ¬ bi (B j) i = bi (B (j - 1)) i := (not_congr (bit_eq hi32)).mp h117
                  have hcm : CMp B lam j i := ⟨by omega, by omega, hag, fun _ _ => hdf⟩
                  refine lv_aload_n hx hb dX2_findNodes_126 rfl (lv_at hl 0 rfl) ?_
                  refine lv_aload_n hx hb dX2_findNodes_127 rfl (lv_at hl 0 rfl) ?_
                  refine hp_get (ci := 2) (v := .ref ab) (C := RX2) (T := TX2) (N := 8) hx hb hts hin2 hown C0 hf hm2 rfl 1 (by decide) (hts (.fieldLink RX2 7 "RouteTrieModel" "bits" "[I") (by decide +kernel)) (fun _ h9 => h9) rfl dX2_findNodes_128 ?_
                  refine lv_iload_n hx hb dX2_findNodes_131 rfl (lv_at hl 1 rfl) ?_
                  refine hp_iald (n := 500) (g := B) hx hb C0 hf hB2 (vp_in_nI (n := j) (N := 500) (by omega) (by omega)) dX2_findNodes_132 ?_
                  rw [nI_clamp (n := j) (by omega)]
                  refine lv_iload_n hx hb dX2_findNodes_133 rfl (lv_at hl 3 rfl) ?_
                  refine hp_ki (hp_rS (As := [.int (nI i)]) (rest := [.int (B j), .ref qm]) ⟨hx, hb, hml, hown, hts⟩ C0 hf hS (c_X2_mask l D cy base fc (nI i)) (va_cwS 1 hts gX2_findNodes_X2_mask rfl rfl rfl (by decide +kernel) ⟨Nat.le_of_ble_eq_true rfl, Nat.le_of_ble_eq_true rfl⟩) rfl hl.1 rfl (Nat.le_of_ble_eq_true rfl) dX2_findNodes_134 ⟨Nat.le_of_ble_eq_true rfl, Nat.le_of_ble_eq_true rfl⟩) hS (fun r_3 u_3 H locs hq_3 hf hS => ?_)
                  obtain ⟨rfl, hu⟩ := hq_3
                  rw [hu] at hf
                  rw [msk_mk]
                  refine lv_iand hx hb dX2_findNodes_137 ?_
                  refine lv_iload_n hx hb dX2_findNodes_138 rfl (lv_at hl 3 rfl) ?_
                  refine hp_kv (hp_rV (C := RX2) (As := [.int ((B j) &&& (mkI i)), .int (nI i)]) (rest := []) ⟨hx, hb, hml, hown, hts⟩ C0 hf hS (c_X2_add l D cy base fc qm ab al ah nb nl cd (nI n) k NB NL (B j &&& mkI i) (nI i) hm2 hNB2 hNL2 dn (by omega)) (cwV 2 hts gX2_findNodes_X2_add rfl rfl rfl (by decide +kernel) ⟨Nat.le_of_ble_eq_true rfl, Nat.le_of_ble_eq_true rfl⟩) hm2 rfl rfl hl.1 rfl (Nat.le_of_ble_eq_true rfl) dX2_findNodes_139 ⟨Nat.le_of_ble_eq_true rfl, Nat.le_of_ble_eq_true rfl⟩) hS (fun u_4 H locs hq_4 hf hS => ?_)
                  obtain ⟨k', NB', NL', a1, a2, a3, a4, a5, a6⟩ := nd_add hN hm2 hNB2 hNL2 hq_4
                  have hN' : NDp k' NB' NL' (fun y m => PPa n B L y m ∨ PPb (min (j + 1) n) B lam y m) := nd_congr a2 (fun y m => by
                    constructor
                    · intro g
                      rcases g with (g | ⟨i', k2, g1, g2, g3⟩) | ⟨g1, g2⟩
                      · exact Or.inl g
                      · exact Or.inr ⟨i', k2, g1, by omega, g3⟩
                      · exact Or.inr ⟨j, i, by omega, by omega, hcm, g1, g2⟩
                    · intro g
                      rcases g with g | ⟨i', k2, g1, g2, g3, g4, g5⟩
                      · exact Or.inl (Or.inl g)
                      · by_cases e : i' = j
                        · subst e
                          have := cm_uniq g3 hcm
                          subst this
                          exact Or.inr ⟨g4, g5⟩
                        · exact Or.inl (Or.inr ⟨i', k2, g1, by omega, g3, g4, g5⟩))
                  refine lv_iinc (v := ((nI j) + 1)) (lv' := [(1, .int ((nI j) + 1)), (0, .ref qm), (2, .int (nI mm)), (3, .int (nI i))]) hx hb dX2_findNodes_142 hl (k := 1) rfl rfl (by decide) rfl (fun ls hl => ?_)
                  refine lv_goto (tgt := 39) hx hb dX2_findNodes_145 (by decide) ?_
                  rw [nI_1] at hl
                  exact ih (j + 1) k' NB' NL' u_4 ls _ _ (by omega) (by omega) (by omega) (by omega) (fun e => by omega) hN' a3 a4 a5 (fun y g1 g2 g3 => by rw [a6 y g1 g2 g3]; exact hF y g1 g2 g3) hf hS (lv_sub hl [1, 0] rfl)
                · have hdf : bi (B j) i = bi (B (j - 1)) i := (bit_eq hi32).mp h117
                  refine lv_iinc (v := ((nI i) + 1)) (lv' := [(3, .int ((nI i) + 1)), (0, .ref qm), (1, .int (nI j)), (2, .int (nI mm))]) hx hb dX2_findNodes_120 hl (k := 3) rfl rfl (by decide) rfl (fun ls hl => ?_)
                  refine lv_goto (tgt := 84) hx hb dX2_findNodes_123 (by decide) ?_
                  rw [nI_1] at hl
                  exact ihC (i + 1) ls _ _ (by omega) (by omega) (ag_s hag hdf) hf hS (lv_sub hl [1, 2, 3, 0] rfl)
          exact loopC (mm + 1) 0 ls _ _ (by omega) (by omega) ag_0 hf hS (lv_sub hl [2, 3, 1, 0] rfl)
        · refine lv_aload_n hx hb dX2_findNodes_64 rfl (lv_at hl 0 rfl) ?_
          refine hp_get (ci := 2) (v := .ref al) (C := RX2) (T := TX2) (N := 8) hx hb hts hin2 hown C0 hf hm2 rfl 2 (by decide) (hts (.fieldLink RX2 13 "RouteTrieModel" "lengths" "[I") (by decide +kernel)) (fun _ h9 => h9) rfl dX2_findNodes_65 ?_
          refine lv_iload_n hx hb dX2_findNodes_68 rfl (lv_at hl 1 rfl) ?_
          refine hp_iald (n := 500) (g := L) hx hb C0 hf hL2 (vp_in_nI (n := j) (N := 500) (by omega) (by omega)) dX2_findNodes_69 ?_
          rw [nI_clamp (n := j) (by omega)]
          refine lv_goto (tgt := 81) hx hb dX2_findNodes_70 (by decide) ?_
          have hmn : lam j ≤ lam (j - 1) := by rw [ea, eb] at h61; rw [nI_leI (by omega) (by omega)] at h61; omega
          rw [ea]
          obtain ⟨mm, emm, hmm⟩ : ∃ mm, lam j = mm ∧ mm = min (lam j) (lam (j - 1)) := ⟨_, rfl, by omega⟩
          rw [emm]
          refine lv_istore_n (lv' := [(2, .int (nI mm)), (0, .ref qm), (1, .int (nI j))]) hx hb dX2_findNodes_81 rfl hl (by decide) rfl (fun ls hl => ?_)
          refine lv_iconst (v := 0) hx hb dX2_findNodes_82 (by decide) ?_
          refine lv_istore_n (lv' := [(3, .int 0), (2, .int (nI mm)), (0, .ref qm), (1, .int (nI j))]) hx hb dX2_findNodes_83 rfl hl (by decide) rfl (fun ls hl => ?_)
          have loopC : ∀ (c1 i : Nat) (ls : Array Slot) (H : Heap) (locs : List Loc), i ≤ mm → mm + 1 ≤ i + c1 → ag (B j) (B (j - 1)) i → hp_ok D base fc H → va_S (hp_A base) s.heap H locs → lv_has ls 4 [(0, .ref qm), (1, .int (nI j)), (2, .int (nI mm)), (3, .int (nI i))] → W p l e (headSpec wsX2_findNodes ({ frames := 1, cells := 0, slots := 0, locals := 23 } : Room)).room s m #[Value.ref qm] below meth c H locs 0 0 (MQ below (va_Qv (fun (u : AH) => FNp cy f qm ab al ah nb nl cd n B L lam u) (hp_B D cy base) (hp_A base)) #[Value.ref qm] s 0 0 (hp_A base)) (F0 m 84 ls []) := by
            intro c1
            induction c1 with
            | zero => intro i _ _ _ h1 h2; exact absurd h2 (by omega)
            | succ c1 ihC =>
              intro i ls H locs hi hc1 hag hf hS hl
              refine lv_iload_n hx hb dX2_findNodes_84 rfl (lv_at hl 3 rfl) ?_
              refine lv_iload_n hx hb dX2_findNodes_85 rfl (lv_at hl 2 rfl) ?_
              refine lv_icmp_ge (tgt := 126) hx hb dX2_findNodes_86 (by decide) (fun h86 => ?_) (fun h86 => ?_)
              · have him : i = mm := by have := (nI_leI (by omega) (by omega)).mp h86; omega
                have hcm : CMp B lam j i := ⟨by omega, by omega, hag, fun g1 g2 => absurd g2 (by omega)⟩
                refine lv_aload_n hx hb dX2_findNodes_126 rfl (lv_at hl 0 rfl) ?_
                refine lv_aload_n hx hb dX2_findNodes_127 rfl (lv_at hl 0 rfl) ?_
                refine hp_get (ci := 2) (v := .ref ab) (C := RX2) (T := TX2) (N := 8) hx hb hts hin2 hown C0 hf hm2 rfl 1 (by decide) (hts (.fieldLink RX2 7 "RouteTrieModel" "bits" "[I") (by decide +kernel)) (fun _ h9 => h9) rfl dX2_findNodes_128 ?_
                refine lv_iload_n hx hb dX2_findNodes_131 rfl (lv_at hl 1 rfl) ?_
                refine hp_iald (n := 500) (g := B) hx hb C0 hf hB2 (vp_in_nI (n := j) (N := 500) (by omega) (by omega)) dX2_findNodes_132 ?_
                rw [nI_clamp (n := j) (by omega)]
                refine lv_iload_n hx hb dX2_findNodes_133 rfl (lv_at hl 3 rfl) ?_
                refine hp_ki (hp_rS (As := [.int (nI i)]) (rest := [.int (B j), .ref qm]) ⟨hx, hb, hml, hown, hts⟩ C0 hf hS (c_X2_mask l D cy base fc (nI i)) (va_cwS 1 hts gX2_findNodes_X2_mask rfl rfl rfl (by decide +kernel) ⟨Nat.le_of_ble_eq_true rfl, Nat.le_of_ble_eq_true rfl⟩) rfl hl.1 rfl (Nat.le_of_ble_eq_true rfl) dX2_findNodes_134 ⟨Nat.le_of_ble_eq_true rfl, Nat.le_of_ble_eq_true rfl⟩) hS (fun r_5 u_5 H locs hq_5 hf hS => ?_)
                obtain ⟨rfl, hu⟩ := hq_5
                rw [hu] at hf
                rw [msk_mk]
                refine lv_iand hx hb dX2_findNodes_137 ?_
                refine lv_iload_n hx hb dX2_findNodes_138 rfl (lv_at hl 3 rfl) ?_
                refine hp_kv (hp_rV (C := RX2) (As := [.int ((B j) &&& (mkI i)), .int (nI i)]) (rest := []) ⟨hx, hb, hml, hown, hts⟩ C0 hf hS (c_X2_add l D cy base fc qm ab al ah nb nl cd (nI n) k NB NL (B j &&& mkI i) (nI i) hm2 hNB2 hNL2 dn (by omega)) (cwV 2 hts gX2_findNodes_X2_add rfl rfl rfl (by decide +kernel) ⟨Nat.le_of_ble_eq_true rfl, Nat.le_of_ble_eq_true rfl⟩) hm2 rfl rfl hl.1 rfl (Nat.le_of_ble_eq_true rfl) dX2_findNodes_139 ⟨Nat.le_of_ble_eq_true rfl, Nat.le_of_ble_eq_true rfl⟩) hS (fun u_6 H locs hq_6 hf hS => ?_)
                obtain ⟨k', NB', NL', a1, a2, a3, a4, a5, a6⟩ := nd_add hN hm2 hNB2 hNL2 hq_6
                have hN' : NDp k' NB' NL' (fun y m => PPa n B L y m ∨ PPb (min (j + 1) n) B lam y m) := nd_congr a2 (fun y m => by
                  constructor
                  · intro g
                    rcases g with (g | ⟨i', k2, g1, g2, g3⟩) | ⟨g1, g2⟩
                    · exact Or.inl g
                    · exact Or.inr ⟨i', k2, g1, by omega, g3⟩
                    · exact Or.inr ⟨j, i, by omega, by omega, hcm, g1, g2⟩
                  · intro g
                    rcases g with g | ⟨i', k2, g1, g2, g3, g4, g5⟩
                    · exact Or.inl (Or.inl g)
                    · by_cases e : i' = j
                      · subst e
                        have := cm_uniq g3 hcm
                        subst this
                        exact Or.inr ⟨g4, g5⟩
                      · exact Or.inl (Or.inr ⟨i', k2, g1, by omega, g3, g4, g5⟩))
                refine lv_iinc (v := ((nI j) + 1)) (lv' := [(1, .int ((nI j) + 1)), (0, .ref qm), (2, .int (nI mm)), (3, .int (nI i))]) hx hb dX2_findNodes_142 hl (k := 1) rfl rfl (by decide) rfl (fun ls hl => ?_)
                refine lv_goto (tgt := 39) hx hb dX2_findNodes_145 (by decide) ?_
                rw [nI_1] at hl
                exact ih (j + 1) k' NB' NL' u_6 ls _ _ (by omega) (by omega) (by omega) (by omega) (fun e => by omega) hN' a3 a4 a5 (fun y g1 g2 g3 => by rw [a6 y g1 g2 g3]; exact hF y g1 g2 g3) hf hS (lv_sub hl [1, 0] rfl)
              · have him : i < mm := Nat.not_le.mp (fun q => h86 ((nI_leI (by omega) (by omega)).mpr q))
                have hi32 : i < 32 := by omega
                refine lv_aload_n hx hb dX2_findNodes_89 rfl (lv_at hl 0 rfl) ?_
                refine hp_get (ci := 2) (v := .ref ab) (C := RX2) (T := TX2) (N := 8) hx hb hts hin2 hown C0 hf hm2 rfl 1 (by decide) (hts (.fieldLink RX2 7 "RouteTrieModel" "bits" "[I") (by decide +kernel)) (fun _ h9 => h9) rfl dX2_findNodes_90 ?_
                refine lv_iload_n hx hb dX2_findNodes_93 rfl (lv_at hl 1 rfl) ?_
                refine hp_iald (n := 500) (g := B) hx hb C0 hf hB2 (vp_in_nI (n := j) (N := 500) (by omega) (by omega)) dX2_findNodes_94 ?_
                rw [nI_clamp (n := j) (by omega)]
                refine lv_bipush (v := 31) hx hb dX2_findNodes_95 (by decide) ?_
                refine lv_iload_n hx hb dX2_findNodes_97 rfl (lv_at hl 3 rfl) ?_
                refine lv_isub hx hb dX2_findNodes_98 ?_
                refine lv_iushr hx hb dX2_findNodes_99 rfl ?_
                refine lv_iconst (v := 1) hx hb dX2_findNodes_100 (by decide) ?_
                refine lv_iand hx hb dX2_findNodes_101 ?_
                refine lv_aload_n hx hb dX2_findNodes_102 rfl (lv_at hl 0 rfl) ?_
                refine hp_get (ci := 2) (v := .ref ab) (C := RX2) (T := TX2) (N := 8) hx hb hts hin2 hown C0 hf hm2 rfl 1 (by decide) (hts (.fieldLink RX2 7 "RouteTrieModel" "bits" "[I") (by decide +kernel)) (fun _ h9 => h9) rfl dX2_findNodes_103 ?_
                refine lv_iload_n hx hb dX2_findNodes_106 rfl (lv_at hl 1 rfl) ?_
                refine lv_iconst (v := 1) hx hb dX2_findNodes_107 (by decide) ?_
                refine lv_isub hx hb dX2_findNodes_108 ?_
                rw [show (((nI j) - 1) : Int32) = nI (j - 1) from (pk_sub (a := j) (b := 1) (by omega))]
                refine hp_iald (n := 500) (g := B) hx hb C0 hf hB2 (vp_in_nI (n := (j - 1)) (N := 500) (by omega) (by omega)) dX2_findNodes_109 ?_
                rw [nI_clamp (n := (j - 1)) (by omega)]
                refine lv_bipush (v := 31) hx hb dX2_findNodes_110 (by decide) ?_
                refine lv_iload_n hx hb dX2_findNodes_112 rfl (lv_at hl 3 rfl) ?_
                refine lv_isub hx hb dX2_findNodes_113 ?_
                refine lv_iushr hx hb dX2_findNodes_114 rfl ?_
                refine lv_iconst (v := 1) hx hb dX2_findNodes_115 (by decide) ?_
                refine lv_iand hx hb dX2_findNodes_116 ?_
                refine lv_icmp_ne (tgt := 126) hx hb dX2_findNodes_117 (by decide) (fun h117 => ?_) (fun h117 => ?_)
                · have hdf : ¬ bi (B j) i = bi (B (j - 1)) i := (not_congr (bit_eq hi32)).mp h117
                  have hcm : CMp B lam j i := ⟨by omega, by omega, hag, fun _ _ => hdf⟩
                  refine lv_aload_n hx hb dX2_findNodes_126 rfl (lv_at hl 0 rfl) ?_
                  refine lv_aload_n hx hb dX2_findNodes_127 rfl (lv_at hl 0 rfl) ?_
                  refine hp_get (ci := 2) (v := .ref ab) (C := RX2) (T := TX2) (N := 8) hx hb hts hin2 hown C0 hf hm2 rfl 1 (by decide) (hts (.fieldLink RX2 7 "RouteTrieModel" "bits" "[I") (by decide +kernel)) (fun _ h9 => h9) rfl dX2_findNodes_128 ?_
                  refine lv_iload_n hx hb dX2_findNodes_131 rfl (lv_at hl 1 rfl) ?_
                  refine hp_iald (n := 500) (g := B) hx hb C0 hf hB2 (vp_in_nI (n := j) (N := 500) (by omega) (by omega)) dX2_findNodes_132 ?_
                  rw [nI_clamp (n := j) (by omega)]
                  refine lv_iload_n hx hb dX2_findNodes_133 rfl (lv_at hl 3 rfl) ?_
                  refine hp_ki (hp_rS (As := [.int (nI i)]) (rest := [.int (B j), .ref qm]) ⟨hx, hb, hml, hown, hts⟩ C0 hf hS (c_X2_mask l D cy base fc (nI i)) (va_cwS 1 hts gX2_findNodes_X2_mask rfl rfl rfl (by decide +kernel) ⟨Nat.le_of_ble_eq_true rfl, Nat.le_of_ble_eq_true rfl⟩) rfl hl.1 rfl (Nat.le_of_ble_eq_true rfl) dX2_findNodes_134 ⟨Nat.le_of_ble_eq_true rfl, Nat.le_of_ble_eq_true rfl⟩) hS (fun r_7 u_7 H locs hq_7 hf hS => ?_)
                  obtain ⟨rfl, hu⟩ := hq_7
                  rw [hu] at hf
                  rw [msk_mk]
                  refine lv_iand hx hb dX2_findNodes_137 ?_
                  refine lv_iload_n hx hb dX2_findNodes_138 rfl (lv_at hl 3 rfl) ?_
                  refine hp_kv (hp_rV (C := RX2) (As := [.int ((B j) &&& (mkI i)), .int (nI i)]) (rest := []) ⟨hx, hb, hml, hown, hts⟩ C0 hf hS (c_X2_add l D cy base fc qm ab al ah nb nl cd (nI n) k NB NL (B j &&& mkI i) (nI i) hm2 hNB2 hNL2 dn (by omega)) (cwV 2 hts gX2_findNodes_X2_add rfl rfl rfl (by decide +kernel) ⟨Nat.le_of_ble_eq_true rfl, Nat.le_of_ble_eq_true rfl⟩) hm2 rfl rfl hl.1 rfl (Nat.le_of_ble_eq_true rfl) dX2_findNodes_139 ⟨Nat.le_of_ble_eq_true rfl, Nat.le_of_ble_eq_true rfl⟩) hS (fun u_8 H locs hq_8 hf hS => ?_)
                  obtain ⟨k', NB', NL', a1, a2, a3, a4, a5, a6⟩ := nd_add hN hm2 hNB2 hNL2 hq_8
                  have hN' : NDp k' NB' NL' (fun y m => PPa n B L y m ∨ PPb (min (j + 1) n) B lam y m) := nd_congr a2 (fun y m => by
                    constructor
                    · intro g
                      rcases g with (g | ⟨i', k2, g1, g2, g3⟩) | ⟨g1, g2⟩
                      · exact Or.inl g
                      · exact Or.inr ⟨i', k2, g1, by omega, g3⟩
                      · exact Or.inr ⟨j, i, by omega, by omega, hcm, g1, g2⟩
                    · intro g
                      rcases g with g | ⟨i', k2, g1, g2, g3, g4, g5⟩
                      · exact Or.inl (Or.inl g)
                      · by_cases e : i' = j
                        · subst e
                          have := cm_uniq g3 hcm
                          subst this
                          exact Or.inr ⟨g4, g5⟩
                        · exact Or.inl (Or.inr ⟨i', k2, g1, by omega, g3, g4, g5⟩))
                  refine lv_iinc (v := ((nI j) + 1)) (lv' := [(1, .int ((nI j) + 1)), (0, .ref qm), (2, .int (nI mm)), (3, .int (nI i))]) hx hb dX2_findNodes_142 hl (k := 1) rfl rfl (by decide) rfl (fun ls hl => ?_)
                  refine lv_goto (tgt := 39) hx hb dX2_findNodes_145 (by decide) ?_
                  rw [nI_1] at hl
                  exact ih (j + 1) k' NB' NL' u_8 ls _ _ (by omega) (by omega) (by omega) (by omega) (fun e => by omega) hN' a3 a4 a5 (fun y g1 g2 g3 => by rw [a6 y g1 g2 g3]; exact hF y g1 g2 g3) hf hS (lv_sub hl [1, 0] rfl)
                · have hdf : bi (B j) i = bi (B (j - 1)) i := (bit_eq hi32).mp h117
                  refine lv_iinc (v := ((nI i) + 1)) (lv' := [(3, .int ((nI i) + 1)), (0, .ref qm), (1, .int (nI j)), (2, .int (nI mm))]) hx hb dX2_findNodes_120 hl (k := 3) rfl rfl (by decide) rfl (fun ls hl => ?_)
                  refine lv_goto (tgt := 84) hx hb dX2_findNodes_123 (by decide) ?_
                  rw [nI_1] at hl
                  exact ihC (i + 1) ls _ _ (by omega) (by omega) (ag_s hag hdf) hf hS (lv_sub hl [1, 2, 3, 0] rfl)
          exact loopC (mm + 1) 0 ls _ _ (by omega) (by omega) ag_0 hf hS (lv_sub hl [2, 3, 1, 0] rfl)
  have loopA : ∀ (c0 j k : Nat) (NB NL : Nat → Int32) (fc : AH) (ls : Array Slot) (H : Heap) (locs : List Loc), j ≤ n → n + 1 ≤ j + c0 → k ≤ j → NDp k NB NL (fun y m => PPa j B L y m) → fc qm = some (mdO cd ab al ah (nI n) nb nl (nI k)) → fc nb = some (arO cy 1000 NB) → fc nl = some (arO cy 1000 NL) → FM3 f fc qm nb nl → hp_ok D base fc H → va_S (hp_A base) s.heap H locs → lv_has ls 4 [(0, .ref qm), (1, .int (nI j))] → W p l e (headSpec wsX2_findNodes ({ frames := 1, cells := 0, slots := 0, locals := 23 } : Room)).room s m #[Value.ref qm] below meth c H locs 0 0 (MQ below (va_Qv (fun (u : AH) => FNp cy f qm ab al ah nb nl cd n B L lam u) (hp_B D cy base) (hp_A base)) #[Value.ref qm] s 0 0 (hp_A base)) (F0 m 7 ls []) := by
    intro c0
    induction c0 with
    | zero => intro j k _ _ _ _ _ _ h1 h2; exact absurd h2 (by omega)
    | succ c0 ih =>
      intro j k NB NL fc ls H locs hj hc hk hN hm2 hNB2 hNL2 hF hf hS hl
      have hB2 : fc ab = some (arO cy 500 B) := by rw [hF ab nqa d1 d2]; exact hB
      have hL2 : fc al = some (arO cy 500 L) := by rw [hF al nql d3 d4]; exact hL
      refine lv_iload_n hx hb dX2_findNodes_7 rfl (lv_at hl 1 rfl) ?_
      refine lv_aload_n hx hb dX2_findNodes_8 rfl (lv_at hl 0 rfl) ?_
      refine hp_get (ci := 2) (v := .int (nI n)) (C := RX2) (T := TX2) (N := 8) hx hb hts hin2 hown C0 hf hm2 rfl 4 (by decide) (hts (.fieldLink RX2 29 "RouteTrieModel" "size" "I") (by decide +kernel)) (fun _ h9 => h9) rfl dX2_findNodes_9 ?_
      refine lv_icmp_ge (tgt := 37) hx hb dX2_findNodes_12 (by decide) (fun h12 => ?_) (fun h12 => ?_)
      · have hjn : j = n := by have := (nI_leI (by omega) (by omega)).mp h12; omega
        subst hjn
        refine lv_iconst (v := 1) hx hb dX2_findNodes_37 (by decide) ?_
        refine lv_istore_n (lv' := [(1, .int 1), (0, .ref qm)]) hx hb dX2_findNodes_38 rfl hl (by decide) rfl (fun ls hl => ?_)
        have hl : lv_has ls 4 [(1, .int (nI 1)), (0, .ref qm)] := hl
        exact loopB (j + 1) 1 k NB NL fc ls _ _ (by omega) (Or.inr rfl) (by omega) (by omega) (fun e => by omega) (nd_congr hN (fun y m => ⟨Or.inl, fun g => g.elim id (fun ⟨i', k2, g1, g2, _⟩ => absurd g2 (by omega))⟩)) hm2 hNB2 hNL2 hF hf hS (lv_sub hl [1, 0] rfl)
      · have hjn : j < n := Nat.not_le.mp (fun q => h12 ((nI_leI (by omega) (by omega)).mpr q))
        refine lv_aload_n hx hb dX2_findNodes_15 rfl (lv_at hl 0 rfl) ?_
        refine lv_aload_n hx hb dX2_findNodes_16 rfl (lv_at hl 0 rfl) ?_
        refine hp_get (ci := 2) (v := .ref ab) (C := RX2) (T := TX2) (N := 8) hx hb hts hin2 hown C0 hf hm2 rfl 1 (by decide) (hts (.fieldLink RX2 7 "RouteTrieModel" "bits" "[I") (by decide +kernel)) (fun _ h9 => h9) rfl dX2_findNodes_17 ?_
        refine lv_iload_n hx hb dX2_findNodes_20 rfl (lv_at hl 1 rfl) ?_
        refine hp_iald (n := 500) (g := B) hx hb C0 hf hB2 (vp_in_nI (n := j) (N := 500) (by omega) (by omega)) dX2_findNodes_21 ?_
        rw [nI_clamp (n := j) (by omega)]
        refine lv_aload_n hx hb dX2_findNodes_22 rfl (lv_at hl 0 rfl) ?_
        refine hp_get (ci := 2) (v := .ref al) (C := RX2) (T := TX2) (N := 8) hx hb hts hin2 hown C0 hf hm2 rfl 2 (by decide) (hts (.fieldLink RX2 13 "RouteTrieModel" "lengths" "[I") (by decide +kernel)) (fun _ h9 => h9) rfl dX2_findNodes_23 ?_
        refine lv_iload_n hx hb dX2_findNodes_26 rfl (lv_at hl 1 rfl) ?_
        refine hp_iald (n := 500) (g := L) hx hb C0 hf hL2 (vp_in_nI (n := j) (N := 500) (by omega) (by omega)) dX2_findNodes_27 ?_
        rw [nI_clamp (n := j) (by omega)]
        refine hp_kv (hp_rV (C := RX2) (As := [.int (B j), .int (L j)]) (rest := []) ⟨hx, hb, hml, hown, hts⟩ C0 hf hS (c_X2_add l D cy base fc qm ab al ah nb nl cd (nI n) k NB NL (B j) (L j) hm2 hNB2 hNL2 dn (by omega)) (cwV 2 hts gX2_findNodes_X2_add rfl rfl rfl (by decide +kernel) ⟨Nat.le_of_ble_eq_true rfl, Nat.le_of_ble_eq_true rfl⟩) hm2 rfl rfl hl.1 rfl (Nat.le_of_ble_eq_true rfl) dX2_findNodes_28 ⟨Nat.le_of_ble_eq_true rfl, Nat.le_of_ble_eq_true rfl⟩) hS (fun u_1 H locs hq_1 hf hS => ?_)
        obtain ⟨k', NB', NL', a1, a2, a3, a4, a5, a6⟩ := nd_add hN hm2 hNB2 hNL2 hq_1
        have hN' : NDp k' NB' NL' (fun y m => PPa (j + 1) B L y m) := nd_congr a2 (fun y m => by
          constructor
          · intro g
            rcases g with ⟨i', g1, g2⟩ | ⟨g1, g2⟩
            · exact ⟨i', by omega, g2⟩
            · exact ⟨j, by omega, g1.symm, g2.symm⟩
          · intro ⟨i', g1, g2, g3⟩
            by_cases e : i' = j
            · subst e; exact Or.inr ⟨g2.symm, g3.symm⟩
            · exact Or.inl ⟨i', by omega, g2, g3⟩)
        refine lv_iinc (v := ((nI j) + 1)) (lv' := [(1, .int ((nI j) + 1)), (0, .ref qm)]) hx hb dX2_findNodes_31 hl (k := 1) rfl rfl (by decide) rfl (fun ls hl => ?_)
        refine lv_goto (tgt := 7) hx hb dX2_findNodes_34 (by decide) ?_
        rw [nI_1] at hl
        exact ih (j + 1) k' NB' NL' u_1 ls _ _ (by omega) (by omega) (by omega) hN' a3 a4 a5 (fun y g1 g2 g3 => by rw [a6 y g1 g2 g3]; exact hF y g1 g2 g3) hf hS (lv_sub hl [1, 0] rfl)
  refine lv_aload_n hx hb dX2_findNodes_0 rfl (lv_at hl 0 rfl) ?_
  refine lv_iconst (v := 0) hx hb dX2_findNodes_1 (by decide) ?_
  refine hp_put (ci := 2) (v := .int 0) (C := RX2) (T := TX2) (N := 8) hx hb hts hin2 tyX2 tyX2_ok nmX2 hown C0 hf hS hm rfl 7 (by decide) (hts (.fieldLink RX2 55 "RouteTrieModel" "nodeCount" "I") (by decide +kernel)) (fun _ h9 => h9) rfl rfl rfl (Nat.le_of_ble_eq_true rfl) dX2_findNodes_2 (fun f_1 H locs ef_1 hf hS => ?_)
  have hc_1 : f_1 qm = some (.inr (2, [.int cd, .ref ab, .ref al, .ref ah, .int (nI n), .ref nb, .ref nl, .int 0])) := by rw [ef_1]; exact va_up_self _ _ _
  have hc_1_nb : f_1 nb = some (.inl (cy, 1000, .inl NB0)) := by rw [ef_1, va_up_ne _ _ (hp_dif hNB hm (by simp))]; exact hNB
  have hc_1_nl : f_1 nl = some (.inl (cy, 1000, .inl NL0)) := by rw [ef_1, va_up_ne _ _ (hp_dif hNL hm (by simp))]; exact hNL
  refine lv_iconst (v := 0) hx hb dX2_findNodes_5 (by decide) ?_
  refine lv_istore_n (lv' := [(1, .int 0), (0, .ref qm)]) hx hb dX2_findNodes_6 rfl hl (by decide) rfl (fun ls hl => ?_)
  exact loopA (n + 1) 0 0 NB0 NL0 f_1 ls _ _ (by omega) (by omega) (by omega) (nd_congr nd_0 (fun y m => ⟨fun g => g.elim, fun ⟨i, g, _⟩ => absurd g (by omega)⟩)) hc_1 hc_1_nb hc_1_nl (fun y g1 _ _ => by rw [ef_1, va_up_ne _ _ g1]) hf hS (lv_sub hl [1, 0] rfl)
set_option maxHeartbeats 4000000 in
set_option maxRecDepth 100000 in
theorem c_X2_nodes (l : Launch) (D : va_G) (cy : ClassId) (base : Nat) (f : AH) (qm ab al ah nb nl : Nat) (cd nc : Int32) (n : Nat) (B L NB0 NL0 : Nat → Int32) (lam : Nat → Nat) (hm : f qm = some (mdO cd ab al ah (nI n) nb nl nc)) (hB : f ab = some (arO cy 500 B)) (hL : f al = some (arO cy 500 L)) (hNB : f nb = some (arO cy 1000 NB0)) (hNL : f nl = some (arO cy 1000 NL0)) (hn : n ≤ 500) (hlam : ∀ j, j < n → L j = nI (lam j) ∧ lam j ≤ 32) (dn : nb ≠ nl) (d1 : ab ≠ nb) (d2 : ab ≠ nl) (d3 : al ≠ nb) (d4 : al ≠ nl) : Met l yX2_nodes wsX2_nodes ({ frames := 2, cells := 0, slots := 0, locals := 46 }) (va_Pc [.ref qm] (hp_B D cy base f)) (va_Qi (fun (r : Int32) (u : AH) => ∃ (k : Nat) (NB NL : Nat → Int32), k ≤ 999 ∧ NDp k NB NL (fun y m => PPa n B L y m ∨ PPb n B lam y m) ∧ r = nI (k + 1) ∧ u qm = some (mdO 0 ab al ah (nI n) nb nl (nI k)) ∧ u nb = some (arO cy 1000 NB) ∧ u nl = some (arO cy 1000 NL) ∧ FM3 f u qm nb nl) (hp_B D cy base) (hp_A base)) 0 0 (hp_A base) := by
  refine Met.ofW (cc := cX2_nodes) (maxL := 1) (ret := (some .int)) (by decide) rfl ?_
  intro p e s m args below meth c s₁ Bd hml hv
  obtain ⟨rfl, hf, C0⟩ := hv
  have hx := Bd.exec
  have hb := Bd.bytes
  have hr := Bd.returns
  have hts := atoms_spec (ws := wsX2_nodes) Bd.pre
  have hown : s.vm.findClass RX2 = some m.cls := findClass_of_methodNamed Bd.named
  have hlocks := Bd.notSynchronized
  have hin2 : ∀ w ∈ wsX20, w ∈ wsX2_nodes := by decide +kernel
  have hS : va_S (hp_A base) s.heap s.heap [] := va_S.rf
  have hl := lv_entry ([.ref qm]) (n := 1) (Nat.le_of_ble_eq_true rfl)
  rw [lg_entry_eq]
  generalize (lg_sl ([.ref qm]) ++ List.replicate (1 - (lg_sl ([.ref qm])).length) Slot.unset).toArray = ls at hl ⊢
  have hl : lv_has ls 1 [(0, .ref qm)] := hl
  refine lv_aload_n hx hb dX2_nodes_0 rfl (lv_at hl 0 rfl) ?_
  refine lv_iconst (v := 0) hx hb dX2_nodes_1 (by decide) ?_
  refine hp_put (ci := 2) (v := .int 0) (C := RX2) (T := TX2) (N := 8) hx hb hts hin2 tyX2 tyX2_ok nmX2 hown C0 hf hS hm rfl 0 (by decide) (hts (.fieldLink RX2 25 "RouteTrieModel" "code" "I") (by decide +kernel)) (fun _ h9 => h9) rfl rfl rfl (Nat.le_of_ble_eq_true rfl) dX2_nodes_2 (fun f_1 H locs ef_1 hf hS => ?_)
  have hc_1 : f_1 qm = some (.inr (2, [.int 0, .ref ab, .ref al, .ref ah, .int (nI n), .ref nb, .ref nl, .int nc])) := by rw [ef_1]; exact va_up_self _ _ _
  have hc_1_ab : f_1 ab = some (.inl (cy, 500, .inl B)) := by rw [ef_1, va_up_ne _ _ (hp_dif hB hm (by simp))]; exact hB
  have hc_1_al : f_1 al = some (.inl (cy, 500, .inl L)) := by rw [ef_1, va_up_ne _ _ (hp_dif hL hm (by simp))]; exact hL
  have hc_1_nb : f_1 nb = some (.inl (cy, 1000, .inl NB0)) := by rw [ef_1, va_up_ne _ _ (hp_dif hNB hm (by simp))]; exact hNB
  have hc_1_nl : f_1 nl = some (.inl (cy, 1000, .inl NL0)) := by rw [ef_1, va_up_ne _ _ (hp_dif hNL hm (by simp))]; exact hNL
  refine lv_aload_n hx hb dX2_nodes_5 rfl (lv_at hl 0 rfl) ?_
  refine hp_kv (hp_rV (C := RX2) (As := []) (rest := []) ⟨hx, hb, hml, hown, hts⟩ C0 hf hS (c_X2_findNodes l D cy base f_1 qm ab al ah nb nl 0 nc n B L NB0 NL0 lam hc_1 hc_1_ab hc_1_al hc_1_nb hc_1_nl hn hlam dn d1 d2 d3 d4) (cwV 0 hts gX2_nodes_X2_findNodes rfl rfl rfl (by decide +kernel) ⟨Nat.le_of_ble_eq_true rfl, Nat.le_of_ble_eq_true rfl⟩) hc_1 rfl rfl hl.1 rfl (Nat.le_of_ble_eq_true rfl) dX2_nodes_6 ⟨Nat.le_of_ble_eq_true rfl, Nat.le_of_ble_eq_true rfl⟩) hS (fun u_2 H locs hq_2 hf hS => ?_)
  obtain ⟨k, NB, NL, k1, k2, k3, k4, k5, k6⟩ := hq_2
  refine lv_iconst (v := 1) hx hb dX2_nodes_9 (by decide) ?_
  refine lv_aload_n hx hb dX2_nodes_10 rfl (lv_at hl 0 rfl) ?_
  refine hp_get (ci := 2) (v := .int (nI k)) (C := RX2) (T := TX2) (N := 8) hx hb hts hin2 hown C0 hf k3 rfl 7 (by decide) (hts (.fieldLink RX2 55 "RouteTrieModel" "nodeCount" "I") (by decide +kernel)) (fun _ h9 => h9) rfl dX2_nodes_11 ?_
  refine lv_iadd hx hb dX2_nodes_14 ?_
  exact hp_iret (v := (1 + (nI k))) hx hb hr hlocks C0 hf hS (by first | exact Nat.le_refl _ | omega) (by first | exact Nat.le_refl _ | omega) dX2_nodes_15 (⟨k, NB, NL, k1, k2, by rw [show (1 : Int32) = nI 1 from rfl, nI_add, Nat.add_comm], k3, k4, k5, fun y g1 g2 g3 => by rw [k6 y g1 g2 g3, ef_1, va_up_ne _ _ g1]⟩)
set_option maxHeartbeats 4000000 in
set_option maxRecDepth 100000 in
theorem c_X2_depth (l : Launch) (D : va_G) (cy : ClassId) (base : Nat) (f : AH) (qm ab al ah nb nl : Nat) (cd nc : Int32) (n : Nat) (B L NB0 NL0 : Nat → Int32) (lam : Nat → Nat) (x : Int32) (hm : f qm = some (mdO cd ab al ah (nI n) nb nl nc)) (hB : f ab = some (arO cy 500 B)) (hL : f al = some (arO cy 500 L)) (hNB : f nb = some (arO cy 1000 NB0)) (hNL : f nl = some (arO cy 1000 NL0)) (hn : n ≤ 500) (hlam : ∀ j, j < n → L j = nI (lam j) ∧ lam j ≤ 32) (dn : nb ≠ nl) (d1 : ab ≠ nb) (d2 : ab ≠ nl) (d3 : al ≠ nb) (d4 : al ≠ nl) : Met l yX2_depth wsX2_depth ({ frames := 2, cells := 0, slots := 0, locals := 46 }) (va_Pc [.ref qm, .int x] (hp_B D cy base f)) (va_Qi (fun (r : Int32) (u : AH) => ∃ (k : Nat) (NB NL : Nat → Int32), k ≤ 999 ∧ NDp k NB NL (fun y m => PPa n B L y m ∨ PPb n B lam y m) ∧ r = nI ((List.range k).countP (fun j => x &&& mskI (NL j) == NB j) + 1) ∧ u qm = some (mdO 0 ab al ah (nI n) nb nl (nI k)) ∧ u nb = some (arO cy 1000 NB) ∧ u nl = some (arO cy 1000 NL) ∧ FM3 f u qm nb nl) (hp_B D cy base) (hp_A base)) 0 0 (hp_A base) := by
  refine Met.ofW (cc := cX2_depth) (maxL := 4) (ret := (some .int)) (by decide) rfl ?_
  intro p e s m args below meth c s₁ Bd hml hv
  obtain ⟨rfl, hf, C0⟩ := hv
  have hx := Bd.exec
  have hb := Bd.bytes
  have hr := Bd.returns
  have hts := atoms_spec (ws := wsX2_depth) Bd.pre
  have hown : s.vm.findClass RX2 = some m.cls := findClass_of_methodNamed Bd.named
  have hlocks := Bd.notSynchronized
  have hin2 : ∀ w ∈ wsX20, w ∈ wsX2_depth := by decide +kernel
  have hS : va_S (hp_A base) s.heap s.heap [] := va_S.rf
  have hl := lv_entry ([.ref qm, .int x]) (n := 4) (Nat.le_of_ble_eq_true rfl)
  rw [lg_entry_eq]
  generalize (lg_sl ([.ref qm, .int x]) ++ List.replicate (4 - (lg_sl ([.ref qm, .int x])).length) Slot.unset).toArray = ls at hl ⊢
  have hl : lv_has ls 4 [(0, .ref qm), (1, .int x)] := hl
  have loop : ∀ (k : Nat) (NB NL : Nat → Int32) (fc : AH), k ≤ 999 → NDp k NB NL (fun y m => PPa n B L y m ∨ PPb n B lam y m) → fc qm = some (mdO 0 ab al ah (nI n) nb nl (nI k)) → fc nb = some (arO cy 1000 NB) → fc nl = some (arO cy 1000 NL) → FM3 f fc qm nb nl → ∀ (c0 j : Nat) (ls : Array Slot) (H : Heap) (locs : List Loc), j ≤ k → k + 1 ≤ j + c0 → hp_ok D base fc H → va_S (hp_A base) s.heap H locs → lv_has ls 4 [(0, .ref qm), (1, .int x), (2, .int (nI ((List.range j).countP (fun j => x &&& mskI (NL j) == NB j) + 1))), (3, .int (nI j))] → W p l e (headSpec wsX2_depth ({ frames := 2, cells := 0, slots := 0, locals := 46 } : Room)).room s m #[Value.ref qm, Value.int x] below meth c H locs 0 0 (MQ below (va_Qi (fun (r : Int32) (u : AH) => ∃ (k : Nat) (NB NL : Nat → Int32), k ≤ 999 ∧ NDp k NB NL (fun y m => PPa n B L y m ∨ PPb n B lam y m) ∧ r = nI ((List.range k).countP (fun j => x &&& mskI (NL j) == NB j) + 1) ∧ u qm = some (mdO 0 ab al ah (nI n) nb nl (nI k)) ∧ u nb = some (arO cy 1000 NB) ∧ u nl = some (arO cy 1000 NL) ∧ FM3 f u qm nb nl) (hp_B D cy base) (hp_A base)) #[Value.ref qm, Value.int x] s 0 0 (hp_A base)) (F0 m 13 ls []) := by
    intro k NB NL fc k1 k2 k3 k4 k5 k6 c0
    induction c0 with
    | zero => intro j _ _ _ h1 h2; exact absurd h2 (by omega)
    | succ c0 ih =>
      intro j ls H locs hj hc hf hS hl
      refine lv_iload_n hx hb dX2_depth_13 rfl (lv_at hl 3 rfl) ?_
      refine lv_aload_n hx hb dX2_depth_14 rfl (lv_at hl 0 rfl) ?_
      refine hp_get (ci := 2) (v := .int (nI k)) (C := RX2) (T := TX2) (N := 8) hx hb hts hin2 hown C0 hf k3 rfl 7 (by decide) (hts (.fieldLink RX2 55 "RouteTrieModel" "nodeCount" "I") (by decide +kernel)) (fun _ h9 => h9) rfl dX2_depth_15 ?_
      refine lv_icmp_ge (tgt := 54) hx hb dX2_depth_18 (by decide) (fun h18 => ?_) (fun h18 => ?_)
      · have hjn : j = k := by have := (nI_leI (by omega) (by omega)).mp h18; omega
        subst hjn
        refine lv_iload_n hx hb dX2_depth_54 rfl (lv_at hl 2 rfl) ?_
        exact hp_iret (v := nI ((List.range j).countP (fun j => x &&& mskI (NL j) == NB j) + 1)) hx hb hr hlocks C0 hf hS (by first | exact Nat.le_refl _ | omega) (by first | exact Nat.le_refl _ | omega) dX2_depth_55 (⟨j, NB, NL, k1, k2, rfl, k3, k4, k5, k6⟩)
      · have hjn : j < k := Nat.not_le.mp (fun q => h18 ((nI_leI (by omega) (by omega)).mpr q))
        refine lv_iload_n hx hb dX2_depth_21 rfl (lv_at hl 2 rfl) ?_
        refine lv_iload_n hx hb dX2_depth_22 rfl (lv_at hl 1 rfl) ?_
        refine lv_aload_n hx hb dX2_depth_23 rfl (lv_at hl 0 rfl) ?_
        refine hp_get (ci := 2) (v := .ref nb) (C := RX2) (T := TX2) (N := 8) hx hb hts hin2 hown C0 hf k3 rfl 5 (by decide) (hts (.fieldLink RX2 19 "RouteTrieModel" "nodeBits" "[I") (by decide +kernel)) (fun _ h9 => h9) rfl dX2_depth_24 ?_
        refine lv_iload_n hx hb dX2_depth_27 rfl (lv_at hl 3 rfl) ?_
        refine hp_iald (n := 1000) (g := NB) hx hb C0 hf k4 (vp_in_nI (n := j) (N := 1000) (by omega) (by omega)) dX2_depth_28 ?_
        rw [nI_clamp (n := j) (by omega)]
        refine lv_aload_n hx hb dX2_depth_29 rfl (lv_at hl 0 rfl) ?_
        refine hp_get (ci := 2) (v := .ref nl) (C := RX2) (T := TX2) (N := 8) hx hb hts hin2 hown C0 hf k3 rfl 6 (by decide) (hts (.fieldLink RX2 22 "RouteTrieModel" "nodeLengths" "[I") (by decide +kernel)) (fun _ h9 => h9) rfl dX2_depth_30 ?_
        refine lv_iload_n hx hb dX2_depth_33 rfl (lv_at hl 3 rfl) ?_
        refine hp_iald (n := 1000) (g := NL) hx hb C0 hf k5 (vp_in_nI (n := j) (N := 1000) (by omega) (by omega)) dX2_depth_34 ?_
        rw [nI_clamp (n := j) (by omega)]
        refine hp_ki (hp_rS (As := [.int x, .int (NB j), .int (NL j)]) (rest := [.int (nI ((List.range j).countP (fun j => x &&& mskI (NL j) == NB j) + 1))]) ⟨hx, hb, hml, hown, hts⟩ C0 hf hS (c_X2_begins l D cy base fc x (NB j) (NL j)) (va_cwS 3 hts gX2_depth_X2_begins rfl rfl rfl (by decide +kernel) ⟨Nat.le_of_ble_eq_true rfl, Nat.le_of_ble_eq_true rfl⟩) rfl hl.1 rfl (Nat.le_of_ble_eq_true rfl) dX2_depth_35 ⟨Nat.le_of_ble_eq_true rfl, Nat.le_of_ble_eq_true rfl⟩) hS (fun r_1 u_1 H locs hq_1 hf hS => ?_)
        obtain ⟨hr_1, hu⟩ := hq_1
        rw [hu] at hf
        have hbg : r_1 = 0 ↔ ¬ x &&& mskI (NL j) = NB j := by rw [hr_1]; split <;> simp_all
        refine lv_if_eq (tgt := 45) hx hb dX2_depth_38 (by decide) (fun h38 => ?_) (fun h38 => ?_)
        · refine lv_iconst (v := 0) hx hb dX2_depth_45 (by decide) ?_
          refine lv_iadd hx hb dX2_depth_46 ?_
          refine lv_istore_n (lv' := [(2, .int ((nI ((List.range j).countP (fun j => x &&& mskI (NL j) == NB j) + 1)) + 0)), (0, .ref qm), (1, .int x), (3, .int (nI j))]) hx hb dX2_depth_47 rfl hl (by decide) rfl (fun ls hl => ?_)
          refine lv_iinc (v := ((nI j) + 1)) (lv' := [(3, .int ((nI j) + 1)), (2, .int ((nI ((List.range j).countP (fun j => x &&& mskI (NL j) == NB j) + 1)) + 0)), (0, .ref qm), (1, .int x)]) hx hb dX2_depth_48 hl (k := 3) rfl rfl (by decide) rfl (fun ls hl => ?_)
          refine lv_goto (tgt := 13) hx hb dX2_depth_51 (by decide) ?_
          have hct : ((List.range (j + 1)).countP (fun j => x &&& mskI (NL j) == NB j) + 1) = ((List.range j).countP (fun j => x &&& mskI (NL j) == NB j) + 1) + 0 := by
            rw [List.range_succ, List.countP_append, List.countP_singleton, show (x &&& mskI (NL j) == NB j) = false from by simp [hbg.mp h38]]
            simp only [Bool.false_eq_true, if_true, if_false]
          rw [nI_1, show nI ((List.range j).countP (fun j => x &&& mskI (NL j) == NB j) + 1) + 0 = nI ((List.range (j + 1)).countP (fun j => x &&& mskI (NL j) == NB j) + 1) by rw [hct]; exact nI_add _ 0] at hl
          exact ih (j + 1) ls _ _ (by omega) (by omega) hf hS (lv_sub hl [2, 3, 1, 0] rfl)
        · refine lv_iconst (v := 1) hx hb dX2_depth_41 (by decide) ?_
          refine lv_goto (tgt := 46) hx hb dX2_depth_42 (by decide) ?_
          refine lv_iadd hx hb dX2_depth_46 ?_
          refine lv_istore_n (lv' := [(2, .int ((nI ((List.range j).countP (fun j => x &&& mskI (NL j) == NB j) + 1)) + 1)), (0, .ref qm), (1, .int x), (3, .int (nI j))]) hx hb dX2_depth_47 rfl hl (by decide) rfl (fun ls hl => ?_)
          refine lv_iinc (v := ((nI j) + 1)) (lv' := [(3, .int ((nI j) + 1)), (2, .int ((nI ((List.range j).countP (fun j => x &&& mskI (NL j) == NB j) + 1)) + 1)), (0, .ref qm), (1, .int x)]) hx hb dX2_depth_48 hl (k := 3) rfl rfl (by decide) rfl (fun ls hl => ?_)
          refine lv_goto (tgt := 13) hx hb dX2_depth_51 (by decide) ?_
          have hct : ((List.range (j + 1)).countP (fun j => x &&& mskI (NL j) == NB j) + 1) = ((List.range j).countP (fun j => x &&& mskI (NL j) == NB j) + 1) + 1 := by
            rw [List.range_succ, List.countP_append, List.countP_singleton, show (x &&& mskI (NL j) == NB j) = true from by simp [Classical.not_not.mp ((not_congr hbg).mp h38)]]
            simp only [Bool.false_eq_true, if_true, if_false]
          rw [nI_1, show nI ((List.range j).countP (fun j => x &&& mskI (NL j) == NB j) + 1) + 1 = nI ((List.range (j + 1)).countP (fun j => x &&& mskI (NL j) == NB j) + 1) by rw [hct]; exact nI_add _ 1] at hl
          exact ih (j + 1) ls _ _ (by omega) (by omega) hf hS (lv_sub hl [2, 3, 1, 0] rfl)
  refine lv_aload_n hx hb dX2_depth_0 rfl (lv_at hl 0 rfl) ?_
  refine lv_iconst (v := 0) hx hb dX2_depth_1 (by decide) ?_
  refine hp_put (ci := 2) (v := .int 0) (C := RX2) (T := TX2) (N := 8) hx hb hts hin2 tyX2 tyX2_ok nmX2 hown C0 hf hS hm rfl 0 (by decide) (hts (.fieldLink RX2 25 "RouteTrieModel" "code" "I") (by decide +kernel)) (fun _ h9 => h9) rfl rfl rfl (Nat.le_of_ble_eq_true rfl) dX2_depth_2 (fun f_1 H locs ef_1 hf hS => ?_)
  have hc_1 : f_1 qm = some (.inr (2, [.int 0, .ref ab, .ref al, .ref ah, .int (nI n), .ref nb, .ref nl, .int nc])) := by rw [ef_1]; exact va_up_self _ _ _
  have hc_1_ab : f_1 ab = some (.inl (cy, 500, .inl B)) := by rw [ef_1, va_up_ne _ _ (hp_dif hB hm (by simp))]; exact hB
  have hc_1_al : f_1 al = some (.inl (cy, 500, .inl L)) := by rw [ef_1, va_up_ne _ _ (hp_dif hL hm (by simp))]; exact hL
  have hc_1_nb : f_1 nb = some (.inl (cy, 1000, .inl NB0)) := by rw [ef_1, va_up_ne _ _ (hp_dif hNB hm (by simp))]; exact hNB
  have hc_1_nl : f_1 nl = some (.inl (cy, 1000, .inl NL0)) := by rw [ef_1, va_up_ne _ _ (hp_dif hNL hm (by simp))]; exact hNL
  refine lv_aload_n hx hb dX2_depth_5 rfl (lv_at hl 0 rfl) ?_
  refine hp_kv (hp_rV (C := RX2) (As := []) (rest := []) ⟨hx, hb, hml, hown, hts⟩ C0 hf hS (c_X2_findNodes l D cy base f_1 qm ab al ah nb nl 0 nc n B L NB0 NL0 lam hc_1 hc_1_ab hc_1_al hc_1_nb hc_1_nl hn hlam dn d1 d2 d3 d4) (cwV 0 hts gX2_depth_X2_findNodes rfl rfl rfl (by decide +kernel) ⟨Nat.le_of_ble_eq_true rfl, Nat.le_of_ble_eq_true rfl⟩) hc_1 rfl rfl hl.1 rfl (Nat.le_of_ble_eq_true rfl) dX2_depth_6 ⟨Nat.le_of_ble_eq_true rfl, Nat.le_of_ble_eq_true rfl⟩) hS (fun u_2 H locs hq_2 hf hS => ?_)
  obtain ⟨k, NB, NL, k1, k2, k3, k4, k5, k6⟩ := hq_2
  refine lv_iconst (v := 1) hx hb dX2_depth_9 (by decide) ?_
  refine lv_istore_n (lv' := [(2, .int 1), (0, .ref qm), (1, .int x)]) hx hb dX2_depth_10 rfl hl (by decide) rfl (fun ls hl => ?_)
  refine lv_iconst (v := 0) hx hb dX2_depth_11 (by decide) ?_
  refine lv_istore_n (lv' := [(3, .int 0), (2, .int 1), (0, .ref qm), (1, .int x)]) hx hb dX2_depth_12 rfl hl (by decide) rfl (fun ls hl => ?_)
  exact loop k NB NL u_2 k1 k2 k3 k4 k5 (fun y g1 g2 g3 => by rw [k6 y g1 g2 g3, ef_1, va_up_ne _ _ g1]) (k + 1) 0 ls _ _ (by omega) (by omega) hf hS (lv_sub hl [2, 3, 1, 0] rfl)
