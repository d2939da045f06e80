/-! leading zeros, the common length, new nodes -/
def CZ (x : Int32) (k : Nat) : Prop := (k = 32 ∧ x = 0) ∨ (k < 32 ∧ 2 ^ (31 - k) ≤ x.toBitVec.toNat ∧ x.toBitVec.toNat < 2 ^ (32 - k))
theorem cz_ag {x y : Int32} {k : Nat} (h : CZ (x ^^^ y) k) : k ≤ 32 ∧ ag x y k ∧ (k < 32 → ¬ bi x k = bi y k) := by
  rcases h with ⟨h1, h2⟩ | ⟨h1, h2, h3⟩
  · subst h1
    refine ⟨Nat.le_refl _, fun i hi => ?_, fun q => absurd q (by omega)⟩
    have h4 : bi (x ^^^ y) i = bi 0 i := by rw [h2]
    rw [bi_xor, bi_lt (x := 0) hi] at h4
    rw [show bt 0 (31 - i) = false from BitVec.getLsbD_zero] at h4
    simpa using h4
  · refine ⟨by omega, fun i hi => ?_, fun _ => ?_⟩
    · have h4 : bi (x ^^^ y) i = false := by
        rw [bi_lt (by omega)]
        exact Nat.testBit_lt_two_pow (Nat.lt_of_lt_of_le h3 (Nat.pow_le_pow_right (by omega) (by omega)))
      rw [bi_xor] at h4
      simpa using h4
    · have h4 : bi (x ^^^ y) k = true := by
        rw [bi_lt h1]
        exact Nat.testBit_of_two_pow_le_and_two_pow_add_one_gt h2 (by rw [show 31 - k + 1 = 32 - k by omega]; exact h3)
      rw [bi_xor] at h4
      simpa using h4
theorem nI_addneg {a b : Nat} {m : Int32} (hm : m = -(nI b)) (h : b ≤ a) : nI a + m = nI (a - b) := by rw [hm, ← Int32.sub_eq_add_neg, pk_sub h]
theorem div_sh {V s v j : Nat} (h : V / 2 ^ s = v) : V / 2 ^ (s + j) = v / 2 ^ j := by rw [Nat.pow_add, ← Nat.div_div_eq_div_mul, h]
set_option maxHeartbeats 4000000 in
set_option maxRecDepth 100000 in
theorem c_J6_numberOfLeadingZeros_0f7a4 (l : Launch) (D : va_G) (cy : ClassId) (base : Nat) (f : AH) (x : Int32)  : Met l yJ6_numberOfLeadingZeros_0f7a4 wsJ6_numberOfLeadingZeros_0f7a4 ({ frames := 0, cells := 0, slots := 0, locals := 0 }) (va_Pc [.int x] (hp_B D cy base f)) (va_Qi (fun (r : Int32) (u : AH) => (∃ k : Nat, r = nI k ∧ CZ x k) ∧ u = f) (hp_B D cy base) (hp_A base)) 0 0 (hp_A base) := by
  refine Met.ofW (cc := cJ6_numberOfLeadingZeros_0f7a4) (maxL := 2) (ret := (some .int)) (by decide) rfl ?_
  intro p e s m args below meth c s₁ B hml hv
  obtain ⟨rfl, hf, C0⟩ := hv
  have hx := B.exec
  have hb := B.bytes
  have hr := B.returns
  have hts := atoms_spec (ws := wsJ6_numberOfLeadingZeros_0f7a4) B.pre
  have hown : s.vm.findClass RJ6 = some m.cls := findClass_of_methodNamed B.named
  have hlocks := B.notSynchronized
  have hS : va_S (hp_A base) s.heap s.heap [] := va_S.rf
  have hl := lv_entry ([.int x]) (n := 2) (Nat.le_of_ble_eq_true rfl)
  rw [lg_entry_eq]
  generalize (lg_sl ([.int x]) ++ List.replicate (2 - (lg_sl ([.int x])).length) Slot.unset).toArray = ls at hl ⊢
  have hl : lv_has ls 2 [(0, .int x)] := hl
  have j73 : ∀ (sh v : Nat) (ls : Array Slot) (H : Heap) (locs : List Loc), x.toBitVec.toNat / 2 ^ sh = v → 0 < v → v < 4 → sh + 0 ≤ 30 → hp_ok D base f H → va_S (hp_A base) s.heap H locs → lv_has ls 2 [(0, .int (nI v)), (1, .int (nI (31 - sh)))] → W p l e (headSpec wsJ6_numberOfLeadingZeros_0f7a4 ({ frames := 0, cells := 0, slots := 0, locals := 0 } : Room)).room s m #[Value.int x] below meth c H locs 0 0 (MQ below (va_Qi (fun (r : Int32) (u : AH) => (∃ k : Nat, r = nI k ∧ CZ x k) ∧ u = f) (hp_B D cy base) (hp_A base)) #[Value.int x] s 0 0 (hp_A base)) (F0 m 73 ls []) := by
    intro sh v ls H locs hV hv hB hs hf hS hl
    refine lv_iload_n hx hb dJ6_numberOfLeadingZeros_0f7a4_73 rfl (lv_at hl 1 rfl) ?_
    refine lv_iload_n hx hb dJ6_numberOfLeadingZeros_0f7a4_74 rfl (lv_at hl 0 rfl) ?_
    refine lv_iconst (v := 1) hx hb dJ6_numberOfLeadingZeros_0f7a4_75 (by decide) ?_
    refine lv_iushr hx hb dJ6_numberOfLeadingZeros_0f7a4_76 rfl ?_
    refine lv_isub hx hb dJ6_numberOfLeadingZeros_0f7a4_77 ?_
    rw [pk_ushrN (by omega) 1 1 (by decide), pk_sub (by omega)]
    exact hp_iret (v := nI (31 - sh - v / 2 ^ 1)) hx hb hr hlocks C0 hf hS (by first | exact Nat.le_refl _ | omega) (by first | exact Nat.le_refl _ | omega) dJ6_numberOfLeadingZeros_0f7a4_78 (⟨⟨31 - sh - v / 2 ^ 1, rfl, by
      have h1 : v = 1 ∨ v = 2 ∨ v = 3 := by omega
      have hd := Nat.div_add_mod x.toBitVec.toNat (2 ^ sh)
      have hm := Nat.mod_lt x.toBitVec.toNat (Nat.two_pow_pos sh)
      rw [hV] at hd
      refine Or.inr ⟨by omega, ?_⟩
      rcases h1 with e | e | e
      · subst e
        rw [show 31 - (31 - sh - 1 / 2 ^ 1) = sh by omega, show 32 - (31 - sh - 1 / 2 ^ 1) = sh + 1 by omega, Nat.pow_succ]
        omega
      · subst e
        rw [show 31 - (31 - sh - 2 / 2 ^ 1) = sh + 1 by omega, show 32 - (31 - sh - 2 / 2 ^ 1) = sh + 1 + 1 by omega, Nat.pow_succ, Nat.pow_succ]
        omega
      · subst e
        rw [show 31 - (31 - sh - 3 / 2 ^ 1) = sh + 1 by omega, show 32 - (31 - sh - 3 / 2 ^ 1) = sh + 1 + 1 by omega, Nat.pow_succ, Nat.pow_succ]
        omega⟩, rfl⟩)
  have j61 : ∀ (sh v : Nat) (ls : Array Slot) (H : Heap) (locs : List Loc), x.toBitVec.toNat / 2 ^ sh = v → 0 < v → v < 16 → sh + 2 ≤ 30 → hp_ok D base f H → va_S (hp_A base) s.heap H locs → lv_has ls 2 [(0, .int (nI v)), (1, .int (nI (31 - sh)))] → W p l e (headSpec wsJ6_numberOfLeadingZeros_0f7a4 ({ frames := 0, cells := 0, slots := 0, locals := 0 } : Room)).room s m #[Value.int x] below meth c H locs 0 0 (MQ below (va_Qi (fun (r : Int32) (u : AH) => (∃ k : Nat, r = nI k ∧ CZ x k) ∧ u = f) (hp_B D cy base) (hp_A base)) #[Value.int x] s 0 0 (hp_A base)) (F0 m 61 ls []) := by
    intro sh v ls H locs hV hv hB hs hf hS hl
    refine lv_iload_n hx hb dJ6_numberOfLeadingZeros_0f7a4_61 rfl (lv_at hl 0 rfl) ?_
    refine lv_iconst (v := 4) hx hb dJ6_numberOfLeadingZeros_0f7a4_62 (by decide) ?_
    refine lv_icmp_lt (tgt := 73) hx hb dJ6_numberOfLeadingZeros_0f7a4_63 (by decide) (fun h63 => ?_) (fun h63 => ?_)
    · exact j73 sh v ls _ _ hV hv ((nI_ltI (b := 4) (by omega) (by omega)).mp h63) (by omega) hf hS (lv_sub hl [0, 1] rfl)
    · refine lv_iinc (v := ((nI (31 - sh)) + (-2))) (lv' := [(1, .int ((nI (31 - sh)) + (-2))), (0, .int (nI v))]) hx hb dJ6_numberOfLeadingZeros_0f7a4_66 hl (k := 1) rfl rfl (by decide) rfl (fun ls hl => ?_)
      refine lv_iload_n hx hb dJ6_numberOfLeadingZeros_0f7a4_69 rfl (lv_at hl 1 rfl) ?_
      refine lv_iconst (v := 2) hx hb dJ6_numberOfLeadingZeros_0f7a4_70 (by decide) ?_
      refine lv_iushr hx hb dJ6_numberOfLeadingZeros_0f7a4_71 rfl ?_
      refine lv_istore_n (lv' := [(0, .int (((nI v : Int32).toUInt32 >>> ((2 : Int32).toUInt32 &&& Int32.toUInt32 31)).toInt32)), (1, .int ((nI (31 - sh)) + (-2)))]) hx hb dJ6_numberOfLeadingZeros_0f7a4_72 rfl hl (by decide) rfl (fun ls hl => ?_)
      have hge : 4 ≤ v := Nat.not_lt.mp (fun q => h63 ((nI_ltI (b := 4) (by omega) (by omega)).mpr q))
      have e1 : nI (31 - sh) + (-2) = nI (31 - (sh + 2)) := (nI_addneg (a := 31 - sh) (b := 2) (m := -2) rfl (by omega)).trans (by rw [show 31 - sh - 2 = 31 - (sh + 2) by omega])
      rw [pk_ushrN (by omega) 2 2 (by decide), e1] at hl
      have hdv : 0 < v / 2 ^ 2 := Nat.div_pos (by omega) (by omega)
      exact j73 (sh + 2) (v / 2 ^ 2) ls _ _ (div_sh hV) hdv (Nat.div_lt_of_lt_mul (by omega)) (by omega) hf hS (lv_sub hl [0, 1] rfl)
  have j48 : ∀ (sh v : Nat) (ls : Array Slot) (H : Heap) (locs : List Loc), x.toBitVec.toNat / 2 ^ sh = v → 0 < v → v < 256 → sh + 6 ≤ 30 → hp_ok D base f H → va_S (hp_A base) s.heap H locs → lv_has ls 2 [(0, .int (nI v)), (1, .int (nI (31 - sh)))] → W p l e (headSpec wsJ6_numberOfLeadingZeros_0f7a4 ({ frames := 0, cells := 0, slots := 0, locals := 0 } : Room)).room s m #[Value.int x] below meth c H locs 0 0 (MQ below (va_Qi (fun (r : Int32) (u : AH) => (∃ k : Nat, r = nI k ∧ CZ x k) ∧ u = f) (hp_B D cy base) (hp_A base)) #[Value.int x] s 0 0 (hp_A base)) (F0 m 48 ls []) := by
    intro sh v ls H locs hV hv hB hs hf hS hl
    refine lv_iload_n hx hb dJ6_numberOfLeadingZeros_0f7a4_48 rfl (lv_at hl 0 rfl) ?_
    refine lv_bipush (v := 16) hx hb dJ6_numberOfLeadingZeros_0f7a4_49 (by decide) ?_
    refine lv_icmp_lt (tgt := 61) hx hb dJ6_numberOfLeadingZeros_0f7a4_51 (by decide) (fun h51 => ?_) (fun h51 => ?_)
    · exact j61 sh v ls _ _ hV hv ((nI_ltI (b := 16) (by omega) (by omega)).mp h51) (by omega) hf hS (lv_sub hl [0, 1] rfl)
    · refine lv_iinc (v := ((nI (31 - sh)) + (-4))) (lv' := [(1, .int ((nI (31 - sh)) + (-4))), (0, .int (nI v))]) hx hb dJ6_numberOfLeadingZeros_0f7a4_54 hl (k := 1) rfl rfl (by decide) rfl (fun ls hl => ?_)
      refine lv_iload_n hx hb dJ6_numberOfLeadingZeros_0f7a4_57 rfl (lv_at hl 1 rfl) ?_
      refine lv_iconst (v := 4) hx hb dJ6_numberOfLeadingZeros_0f7a4_58 (by decide) ?_
      refine lv_iushr hx hb dJ6_numberOfLeadingZeros_0f7a4_59 rfl ?_
      refine lv_istore_n (lv' := [(0, .int (((nI v : Int32).toUInt32 >>> ((4 : Int32).toUInt32 &&& Int32.toUInt32 31)).toInt32)), (1, .int ((nI (31 - sh)) + (-4)))]) hx hb dJ6_numberOfLeadingZeros_0f7a4_60 rfl hl (by decide) rfl (fun ls hl => ?_)
      have hge : 16 ≤ v := Nat.not_lt.mp (fun q => h51 ((nI_ltI (b := 16) (by omega) (by omega)).mpr q))
      have e1 : nI (31 - sh) + (-4) = nI (31 - (sh + 4)) := (nI_addneg (a := 31 - sh) (b := 4) (m := -4) rfl (by omega)).trans (by rw [show 31 - sh - 4 = 31 - (sh + 4) by omega])
      rw [pk_ushrN (by omega) 4 4 (by decide), e1] at hl
      have hdv : 0 < v / 2 ^ 4 := Nat.div_pos (by omega) (by omega)
      exact j61 (sh + 4) (v / 2 ^ 4) ls _ _ (div_sh hV) hdv (Nat.div_lt_of_lt_mul (by omega)) (by omega) hf hS (lv_sub hl [0, 1] rfl)
  have j33 : ∀ (sh v : Nat) (ls : Array Slot) (H : Heap) (locs : List Loc), x.toBitVec.toNat / 2 ^ sh = v → 0 < v → v < 65536 → sh + 14 ≤ 30 → hp_ok D base f H → va_S (hp_A base) s.heap H locs → lv_has ls 2 [(0, .int (nI v)), (1, .int (nI (31 - sh)))] → W p l e (headSpec wsJ6_numberOfLeadingZeros_0f7a4 ({ frames := 0, cells := 0, slots := 0, locals := 0 } : Room)).room s m #[Value.int x] below meth c H locs 0 0 (MQ below (va_Qi (fun (r : Int32) (u : AH) => (∃ k : Nat, r = nI k ∧ CZ x k) ∧ u = f) (hp_B D cy base) (hp_A base)) #[Value.int x] s 0 0 (hp_A base)) (F0 m 33 ls []) := by
    intro sh v ls H locs hV hv hB hs hf hS hl
    refine lv_iload_n hx hb dJ6_numberOfLeadingZeros_0f7a4_33 rfl (lv_at hl 0 rfl) ?_
    refine lv_sipush (v := 256) hx hb dJ6_numberOfLeadingZeros_0f7a4_34 (by decide) ?_
    refine lv_icmp_lt (tgt := 48) hx hb dJ6_numberOfLeadingZeros_0f7a4_37 (by decide) (fun h37 => ?_) (fun h37 => ?_)
    · exact j48 sh v ls _ _ hV hv ((nI_ltI (b := 256) (by omega) (by omega)).mp h37) (by omega) hf hS (lv_sub hl [0, 1] rfl)
    · refine lv_iinc (v := ((nI (31 - sh)) + (-8))) (lv' := [(1, .int ((nI (31 - sh)) + (-8))), (0, .int (nI v))]) hx hb dJ6_numberOfLeadingZeros_0f7a4_40 hl (k := 1) rfl rfl (by decide) rfl (fun ls hl => ?_)
      refine lv_iload_n hx hb dJ6_numberOfLeadingZeros_0f7a4_43 rfl (lv_at hl 1 rfl) ?_
      refine lv_bipush (v := 8) hx hb dJ6_numberOfLeadingZeros_0f7a4_44 (by decide) ?_
      refine lv_iushr hx hb dJ6_numberOfLeadingZeros_0f7a4_46 rfl ?_
      refine lv_istore_n (lv' := [(0, .int (((nI v : Int32).toUInt32 >>> ((8 : Int32).toUInt32 &&& Int32.toUInt32 31)).toInt32)), (1, .int ((nI (31 - sh)) + (-8)))]) hx hb dJ6_numberOfLeadingZeros_0f7a4_47 rfl hl (by decide) rfl (fun ls hl => ?_)
      have hge : 256 ≤ v := Nat.not_lt.mp (fun q => h37 ((nI_ltI (b := 256) (by omega) (by omega)).mpr q))
      have e1 : nI (31 - sh) + (-8) = nI (31 - (sh + 8)) := (nI_addneg (a := 31 - sh) (b := 8) (m := -8) rfl (by omega)).trans (by rw [show 31 - sh - 8 = 31 - (sh + 8) by omega])
      rw [pk_ushrN (by omega) 8 8 (by decide), e1] at hl
      have hdv : 0 < v / 2 ^ 8 := Nat.div_pos (by omega) (by omega)
      exact j48 (sh + 8) (v / 2 ^ 8) ls _ _ (div_sh hV) hdv (Nat.div_lt_of_lt_mul (by omega)) (by omega) hf hS (lv_sub hl [0, 1] rfl)
  have j18 : ∀ (sh v : Nat) (ls : Array Slot) (H : Heap) (locs : List Loc), x.toBitVec.toNat / 2 ^ sh = v → 0 < v → v < 2147483648 → sh + 30 ≤ 30 → hp_ok D base f H → va_S (hp_A base) s.heap H locs → lv_has ls 2 [(0, .int (nI v)), (1, .int (nI (31 - sh)))] → W p l e (headSpec wsJ6_numberOfLeadingZeros_0f7a4 ({ frames := 0, cells := 0, slots := 0, locals := 0 } : Room)).room s m #[Value.int x] below meth c H locs 0 0 (MQ below (va_Qi (fun (r : Int32) (u : AH) => (∃ k : Nat, r = nI k ∧ CZ x k) ∧ u = f) (hp_B D cy base) (hp_A base)) #[Value.int x] s 0 0 (hp_A base)) (F0 m 18 ls []) := by
    intro sh v ls H locs hV hv hB hs hf hS hl
    refine lv_iload_n hx hb dJ6_numberOfLeadingZeros_0f7a4_18 rfl (lv_at hl 0 rfl) ?_
    refine lv_ldcw (own := RJ6) (index := 264) (v := 65536) hx hb hown (hts (.constant RJ6 264 65536) (by decide +kernel)) dJ6_numberOfLeadingZeros_0f7a4_19 ?_
    refine lv_icmp_lt (tgt := 33) hx hb dJ6_numberOfLeadingZeros_0f7a4_22 (by decide) (fun h22 => ?_) (fun h22 => ?_)
    · exact j33 sh v ls _ _ hV hv ((nI_ltI (b := 65536) (by omega) (by omega)).mp h22) (by omega) hf hS (lv_sub hl [0, 1] rfl)
    · refine lv_iinc (v := ((nI (31 - sh)) + (-16))) (lv' := [(1, .int ((nI (31 - sh)) + (-16))), (0, .int (nI v))]) hx hb dJ6_numberOfLeadingZeros_0f7a4_25 hl (k := 1) rfl rfl (by decide) rfl (fun ls hl => ?_)
      refine lv_iload_n hx hb dJ6_numberOfLeadingZeros_0f7a4_28 rfl (lv_at hl 1 rfl) ?_
      refine lv_bipush (v := 16) hx hb dJ6_numberOfLeadingZeros_0f7a4_29 (by decide) ?_
      refine lv_iushr hx hb dJ6_numberOfLeadingZeros_0f7a4_31 rfl ?_
      refine lv_istore_n (lv' := [(0, .int (((nI v : Int32).toUInt32 >>> ((16 : Int32).toUInt32 &&& Int32.toUInt32 31)).toInt32)), (1, .int ((nI (31 - sh)) + (-16)))]) hx hb dJ6_numberOfLeadingZeros_0f7a4_32 rfl hl (by decide) rfl (fun ls hl => ?_)
      have hge : 65536 ≤ v := Nat.not_lt.mp (fun q => h22 ((nI_ltI (b := 65536) (by omega) (by omega)).mpr q))
      have e1 : nI (31 - sh) + (-16) = nI (31 - (sh + 16)) := (nI_addneg (a := 31 - sh) (b := 16) (m := -16) rfl (by omega)).trans (by rw [show 31 - sh - 16 = 31 - (sh + 16) by omega])
      rw [pk_ushrN (by omega) 16 16 (by decide), e1] at hl
      have hdv : 0 < v / 2 ^ 16 := Nat.div_pos (by omega) (by omega)
      exact j33 (sh + 16) (v / 2 ^ 16) ls _ _ (div_sh hV) hdv (Nat.div_lt_of_lt_mul (by omega)) (by omega) hf hS (lv_sub hl [0, 1] rfl)
  refine lv_iload_n hx hb dJ6_numberOfLeadingZeros_0f7a4_0 rfl (lv_at hl 0 rfl) ?_
  refine lv_if_gt (tgt := 15) hx hb dJ6_numberOfLeadingZeros_0f7a4_1 (by decide) (fun h1 => ?_) (fun h1 => ?_)
  · refine lv_bipush (v := 31) hx hb dJ6_numberOfLeadingZeros_0f7a4_15 (by decide) ?_
    refine lv_istore_n (lv' := [(1, .int 31), (0, .int x)]) hx hb dJ6_numberOfLeadingZeros_0f7a4_17 rfl hl (by decide) rfl (fun ls hl => ?_)
    obtain ⟨v, hv, rfl⟩ := nI_of (x := x) (fun q => absurd h1 (by rw [Int32.not_lt]; exact Int32.le_of_lt q))
    have hv0 : 0 < v := Nat.pos_of_ne_zero (fun e => by rw [e] at h1; exact absurd h1 (by decide))
    exact j18 0 v ls _ _ (by rw [Nat.pow_zero, Nat.div_one]; exact pk_tn (by omega)) hv0 (by omega) (by omega) hf hS (lv_sub hl [1, 0] rfl)
  · refine lv_iload_n hx hb dJ6_numberOfLeadingZeros_0f7a4_4 rfl (lv_at hl 0 rfl) ?_
    refine lv_if_ne (tgt := 13) hx hb dJ6_numberOfLeadingZeros_0f7a4_5 (by decide) (fun h5 => ?_) (fun h5 => ?_)
    · refine lv_iconst (v := 0) hx hb dJ6_numberOfLeadingZeros_0f7a4_13 (by decide) ?_
      have hneg : x < 0 := by
        rcases Int32.lt_or_eq_of_le (Int32.not_lt.mp h1) with q | q
        · exact q
        · exact absurd q h5
      have hlt := x.toBitVec.isLt
      have hi := Int32.lt_iff_toInt_lt.mp hneg
      rw [toInt_bi] at hi
      have h0 : (0 : Int32).toInt = 0 := rfl
      have hb0 : bi x 0 = true := by
        cases hh : bi x 0 with
        | true => rfl
        | false => rw [hh, if_neg (by decide), h0] at hi; omega
      have hge : 2 ^ 31 ≤ x.toBitVec.toNat := Nat.ge_two_pow_of_testBit (by rw [bi_lt (by omega)] at hb0; exact hb0)
      exact hp_iret (v := 0) hx hb hr hlocks C0 hf hS (by first | exact Nat.le_refl _ | omega) (by first | exact Nat.le_refl _ | omega) dJ6_numberOfLeadingZeros_0f7a4_14 (⟨⟨0, rfl, Or.inr ⟨by omega, hge, hlt⟩⟩, rfl⟩)
    · refine lv_bipush (v := 32) hx hb dJ6_numberOfLeadingZeros_0f7a4_8 (by decide) ?_
      refine lv_goto (tgt := 14) hx hb dJ6_numberOfLeadingZeros_0f7a4_10 (by decide) ?_
      exact hp_iret (v := 32) hx hb hr hlocks C0 hf hS (by first | exact Nat.le_refl _ | omega) (by first | exact Nat.le_refl _ | omega) dJ6_numberOfLeadingZeros_0f7a4_14 (⟨⟨32, rfl, Or.inl ⟨rfl, h5⟩⟩, rfl⟩)
theorem min_nI {x y : Nat} (hx : x < 2 ^ 31) (hy : y < 2 ^ 31) : ∃ k : Nat, (if nI y < nI x then nI y else nI x) = nI k ∧ ((k = y ∧ y ≤ x) ∨ (k = x ∧ x ≤ y)) := by
  by_cases h : y < x
  · exact ⟨y, by rw [if_pos ((nI_ltI hy hx).mpr h)], Or.inl ⟨rfl, by omega⟩⟩
  · exact ⟨x, by rw [if_neg (fun q => h ((nI_ltI hy hx).mp q))], Or.inr ⟨rfl, by omega⟩⟩
set_option maxHeartbeats 4000000 in
set_option maxRecDepth 100000 in
theorem c_X1_commonLength (l : Launch) (D : va_G) (cy : ClassId) (base : Nat) (f : AH) (a a2 : Nat) (b1 : Int32) (n1 : Nat) (h1 r1 : Int32) (z1 o1 : Option Nat) (b2 : Int32) (n2 : Nat) (h2 r2 : Int32) (z2 o2 : Option Nat) (hn1 : n1 ≤ 32) (hn2 : n2 ≤ 32) (ha : f a = some (ndE b1 (nI n1) h1 r1 z1 o1)) (hc : f a2 = some (ndE b2 (nI n2) h2 r2 z2 o2)) : Met l yX1_commonLength wsX1_commonLength ({ frames := 1, cells := 0, slots := 0, locals := 21 }) (va_Pc [.ref a, .ref a2] (hp_B D cy base f)) (va_Qi (fun (r : Int32) (u : AH) => (∃ k : Nat, r = nI k ∧ k ≤ n1 ∧ k ≤ n2 ∧ ag b1 b2 k ∧ (k < n1 → k < n2 → ¬ bi b1 k = bi b2 k)) ∧ u = f) (hp_B D cy base) (hp_A base)) 0 0 (hp_A base) := by
  refine Met.ofW (cc := cX1_commonLength) (maxL := 3) (ret := (some .int)) (by decide) rfl ?_
  intro p e s m args below meth c s₁ B hml hv
  obtain ⟨rfl, hf, C0⟩ := hv
  have hx := B.exec
  have hb := B.bytes
  have hr := B.returns
  have hts := atoms_spec (ws := wsX1_commonLength) B.pre
  have hown : s.vm.findClass RX1 = some m.cls := findClass_of_methodNamed B.named
  have hlocks := B.notSynchronized
  have hin0 : ∀ w ∈ wsX00, w ∈ wsX1_commonLength := by decide +kernel
  have hS : va_S (hp_A base) s.heap s.heap [] := va_S.rf
  have hl := lv_entry ([.ref a, .ref a2]) (n := 3) (Nat.le_of_ble_eq_true rfl)
  rw [lg_entry_eq]
  generalize (lg_sl ([.ref a, .ref a2]) ++ List.replicate (3 - (lg_sl ([.ref a, .ref a2])).length) Slot.unset).toArray = ls at hl ⊢
  have hl : lv_has ls 3 [(0, .ref a), (1, .ref a2)] := hl
  refine lv_aload_n hx hb dX1_commonLength_0 rfl (lv_at hl 0 rfl) ?_
  refine hp_getN (ci := 0) (v := .int b1) (own := RX1) (ref := RX0) (host := RX1) (index := 62) (C := RX0) (T := TX0) (N := 6) hx hb hts hin0 hown C0 hf ha rfl 0 (by decide) (by decide +kernel) (fun _ h9 => h9) rfl dX1_commonLength_1 ?_
  refine lv_aload_n hx hb dX1_commonLength_4 rfl (lv_at hl 1 rfl) ?_
  refine hp_getN (ci := 0) (v := .int b2) (own := RX1) (ref := RX0) (host := RX1) (index := 62) (C := RX0) (T := TX0) (N := 6) hx hb hts hin0 hown C0 hf hc rfl 0 (by decide) (by decide +kernel) (fun _ h9 => h9) rfl dX1_commonLength_5 ?_
  refine lv_ixor hx hb dX1_commonLength_8 ?_
  refine hp_ki (hp_rS (As := [.int (b1 ^^^ b2)]) (rest := []) ⟨hx, hb, hml, hown, hts⟩ C0 hf hS (c_J6_numberOfLeadingZeros_0f7a4 l D cy base f (b1 ^^^ b2)) (va_cwS 1 hts gX1_commonLength_J6_numberOfLeadingZeros_0f7a4 rfl rfl rfl (by decide +kernel) ⟨Nat.le_of_ble_eq_true rfl, Nat.le_of_ble_eq_true rfl⟩) rfl hl.1 rfl (Nat.le_of_ble_eq_true rfl) dX1_commonLength_9 ⟨Nat.le_of_ble_eq_true rfl, Nat.le_of_ble_eq_true rfl⟩) hS (fun r_1 u_1 H locs hq_1 hf hS => ?_)
  obtain ⟨⟨j, rfl, hj⟩, hu⟩ := hq_1
  rw [hu] at hf
  obtain ⟨hj32, hja, hjd⟩ := cz_ag hj
  refine lv_istore_n (lv' := [(2, .int (nI j)), (0, .ref a), (1, .ref a2)]) hx hb dX1_commonLength_12 rfl hl (by decide) rfl (fun ls hl => ?_)
  refine lv_iload_n hx hb dX1_commonLength_13 rfl (lv_at hl 0 rfl) ?_
  refine lv_aload_n hx hb dX1_commonLength_14 rfl (lv_at hl 1 rfl) ?_
  refine hp_getN (ci := 0) (v := .int (nI n1)) (own := RX1) (ref := RX0) (host := RX1) (index := 53) (C := RX0) (T := TX0) (N := 6) hx hb hts hin0 hown C0 hf ha rfl 1 (by decide) (by decide +kernel) (fun _ h9 => h9) rfl dX1_commonLength_15 ?_
  refine lv_aload_n hx hb dX1_commonLength_18 rfl (lv_at hl 2 rfl) ?_
  refine hp_getN (ci := 0) (v := .int (nI n2)) (own := RX1) (ref := RX0) (host := RX1) (index := 53) (C := RX0) (T := TX0) (N := 6) hx hb hts hin0 hown C0 hf hc rfl 1 (by decide) (by decide +kernel) (fun _ h9 => h9) rfl dX1_commonLength_19 ?_
  refine va_mmin hx hb (hml.trans hl.1.symm) hown (hts (.methodLink RX1 82 Lib.Math.min.name) (by decide +kernel)) (hts (.static Lib.Math.min.name) (by decide +kernel)) (hts (.initialized "java/lang/Math") (by decide +kernel)) (hts (.code Lib.Math.min.name Lib.Math.min.code 2 (some .int)) (by decide +kernel)) (Nat.le_of_ble_eq_true rfl) (Nat.le_of_ble_eq_true rfl) (Nat.le_of_ble_eq_true rfl) (Nat.le_of_ble_eq_true rfl) dX1_commonLength_22 ?_
  obtain ⟨k_2, ek_2, hk_2⟩ := min_nI (x := n1) (y := n2) (by omega) (by omega)
  rw [ek_2]
  refine va_mmin hx hb (hml.trans hl.1.symm) hown (hts (.methodLink RX1 82 Lib.Math.min.name) (by decide +kernel)) (hts (.static Lib.Math.min.name) (by decide +kernel)) (hts (.initialized "java/lang/Math") (by decide +kernel)) (hts (.code Lib.Math.min.name Lib.Math.min.code 2 (some .int)) (by decide +kernel)) (Nat.le_of_ble_eq_true rfl) (Nat.le_of_ble_eq_true rfl) (Nat.le_of_ble_eq_true rfl) (Nat.le_of_ble_eq_true rfl) dX1_commonLength_25 ?_
  obtain ⟨k_3, ek_3, hk_3⟩ := min_nI (x := j) (y := k_2) (by omega) (by omega)
  rw [ek_3]
  exact hp_iret (v := nI k_3) hx hb hr hlocks C0 hf hS (by first | exact Nat.le_refl _ | omega) (by first | exact Nat.le_refl _ | omega) dX1_commonLength_28 (⟨⟨k_3, rfl, by omega, by omega, ag_mono hja (by omega), fun g1 g2 => by have e : k_3 = j := (by omega); rw [e]; exact hjd (by omega)⟩, rfl⟩)
set_option maxHeartbeats 4000000 in
set_option maxRecDepth 100000 in
theorem c_X1_newNode (l : Launch) (D : va_G) (cy : ClassId) (base : Nat) (f : AH) (q root : Nat) (cnt b n h : Int32) (hq : f q = some (trO root cnt)) : Met l yX1_newNode wsX1_newNode ({ frames := 2, cells := 1, slots := 6, locals := 35 }) (va_Pc [.ref q, .int b, .int n, .int h] (hp_B D cy base f)) (va_Qq (fun (r : Option Nat) (u : AH) => ∃ a : Nat, r = some a ∧ f a = none ∧ a ≠ q ∧ u = va_up (va_up f q (some (trO root (cnt + 1)))) a (some (ndE b n h (if h = -1 then 0 else 1) none none))) (hp_B D cy base) (hp_A base)) 1 6 (hp_A base) := by
  refine Met.ofW (cc := cX1_newNode) (maxL := 4) (ret := (some (.object "RouteTrie$Node"))) (by decide) rfl ?_
  intro p e s m args below meth c s₁ B hml hv
  obtain ⟨rfl, hf, C0⟩ := hv
  have hx := B.exec
  have hb := B.bytes
  have hr := B.returns
  have hts := atoms_spec (ws := wsX1_newNode) B.pre
  have hown : s.vm.findClass RX1 = some m.cls := findClass_of_methodNamed B.named
  have hlocks := B.notSynchronized
  have hin0 : ∀ w ∈ wsX00, w ∈ wsX1_newNode := by decide +kernel
  have hin1 : ∀ w ∈ wsX10, w ∈ wsX1_newNode := by decide +kernel
  have hS : va_S (hp_A base) s.heap s.heap [] := va_S.rf
  have hl := lv_entry ([.ref q, .int b, .int n, .int h]) (n := 4) (Nat.le_of_ble_eq_true rfl)
  rw [lg_entry_eq]
  generalize (lg_sl ([.ref q, .int b, .int n, .int h]) ++ List.replicate (4 - (lg_sl ([.ref q, .int b, .int n, .int h])).length) Slot.unset).toArray = ls at hl ⊢
  have hl : lv_has ls 4 [(0, .ref q), (1, .int b), (2, .int n), (3, .int h)] := hl
  refine lv_aload_n hx hb dX1_newNode_0 rfl (lv_at hl 0 rfl) ?_
  refine lv_dup hx hb dX1_newNode_1 rfl ?_
  refine hp_get (ci := 1) (v := .int cnt) (C := RX1) (T := TX1) (N := 2) hx hb hts hin1 hown C0 hf hq rfl 1 (by decide) (hts (.fieldLink RX1 18 "RouteTrie" "nodeCount" "I") (by decide +kernel)) (fun _ h9 => h9) rfl dX1_newNode_2 ?_
  refine lv_iconst (v := 1) hx hb dX1_newNode_5 (by decide) ?_
  refine lv_iadd hx hb dX1_newNode_6 ?_
  refine hp_put (ci := 1) (v := .int (cnt + 1)) (C := RX1) (T := TX1) (N := 2) hx hb hts hin1 tyX1 tyX1_ok nmX1 hown C0 hf hS hq rfl 1 (by decide) (hts (.fieldLink RX1 18 "RouteTrie" "nodeCount" "I") (by decide +kernel)) (fun _ h9 => h9) rfl rfl rfl (Nat.le_of_ble_eq_true rfl) dX1_newNode_7 (fun f_1 H locs ef_1 hf hS => ?_)
  have hc_1 : f_1 q = some (.inr (1, [.ref root, .int (cnt + 1)])) := by rw [ef_1]; exact va_up_self _ _ _
  refine hp_new (ci := 0) (fs := [.int 0, .int 0, .int 0, .int 0, .null, .null]) (C := RX0) (T := TX0) (N := 6) hx hb hts hin0 tyX0 tyX0_ok hown (hts (.classLink RX1 7 RX0) (by decide +kernel)) (hts (.instantiable RX0 6) (by decide +kernel)) (hts (.initialized RX0) (by decide +kernel)) C0 hf hS C0.1 rfl (fun j hj => by rcases (show j = 0 ∨ j = 1 ∨ j = 2 ∨ j = 3 ∨ j = 4 ∨ j = 5 by omega) with rfl | rfl | rfl | rfl | rfl | rfl <;> rfl) (Nat.le_of_ble_eq_true rfl) (Nat.le_of_ble_eq_true rfl) dX1_newNode_10 (fun a f_2 H hfr ef_2 hf hS => ?_)
  have ha : f_2 a = some (.inr (0, [.int 0, .int 0, .int 0, .int 0, .null, .null])) := by rw [ef_2]; exact va_up_self _ _ _
  have hne : a ≠ q := fun e => by rw [ef_1, e, va_up_self] at hfr; cases hfr
  have hfa : f a = none := by rw [ef_1, va_up_ne _ _ hne] at hfr; exact hfr
  refine lv_dup hx hb dX1_newNode_13 rfl ?_
  refine lv_iload_n hx hb dX1_newNode_14 rfl (lv_at hl 1 rfl) ?_
  refine lv_iload_n hx hb dX1_newNode_15 rfl (lv_at hl 2 rfl) ?_
  refine lv_iload_n hx hb dX1_newNode_16 rfl (lv_at hl 3 rfl) ?_
  refine hp_kv (hp_rIN (As := [.int b, .int n, .int h]) (rest := [.ref a]) ⟨hx, hb, hml, hown, hts⟩ C0 hf hS (c_X0_init l D cy base f_2 a b n h ha) ⟨va_cnB (host := RX1) (index := 11) 3 hts gX1_newNode_X0_init_n11 rfl rfl rfl (C0.2.2 _ (by decide +kernel)) (hts (.initialized RX0) (by decide +kernel)) (by decide +kernel) ⟨Nat.le_of_ble_eq_true rfl, Nat.le_of_ble_eq_true rfl⟩, rfl, hts (.instanceMethod yX0_init) (by decide +kernel)⟩ rfl hl.1 rfl (Nat.le_of_ble_eq_true rfl) dX1_newNode_17 ⟨Nat.le_of_ble_eq_true rfl, Nat.le_of_ble_eq_true rfl⟩) hS (fun u_3 H locs hq_3 hf hS => ?_)
  rw [hq_3, ef_2, bx_uu, ef_1] at hf
  exact hp_aret (r := some a) hx hb hr hlocks C0 hf hS (by first | exact Nat.le_refl _ | omega) (by first | exact Nat.le_refl _ | omega) dX1_newNode_20 (⟨a, rfl, hfa, hne, rfl⟩)
