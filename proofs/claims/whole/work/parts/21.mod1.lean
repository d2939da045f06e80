/-! the reference: its state, and its reading methods -/
def mskI (n : Int32) : Int32 := if n = 0 then 0 else (-1) <<< ((32 - n) &&& 31)
theorem msk_mk (k : Nat) : mskI (nI k) = mkI k := rfl
abbrev mdO (cd : Int32) (ab al ah : Nat) (n : Int32) (nb nl : Nat) (nc : Int32) : va_E := .inr (2, [.int cd, .ref ab, .ref al, .ref ah, .int n, .ref nb, .ref nl, .int nc])
abbrev arO (cy : ClassId) (k : Nat) (g : Nat → Int32) : va_E := .inl (cy, k, .inl g)
theorem bt_m1 : ∀ i, i < 32 → bt (-1) i = true := by decide +kernel
theorem bt_0 (i : Nat) : bt 0 i = false := BitVec.getLsbD_zero
theorem and_not {x m : Int32} : x &&& (m ^^^ (-1)) = 0 ↔ x &&& m = x := by
  constructor
  · intro h
    refine b_ext fun i hi => ?_
    have h1 : bt (x &&& (m ^^^ (-1))) i = bt 0 i := by rw [h]
    rw [b_and, b_xor, bt_m1 i hi, bt_0] at h1
    rw [b_and]
    cases hx : bt x i <;> cases hm : bt m i <;> simp_all
  · intro h
    refine b_ext fun i hi => ?_
    have h1 : bt (x &&& m) i = bt x i := by rw [h]
    rw [b_and] at h1
    rw [b_and, b_xor, bt_m1 i hi, bt_0]
    cases hx : bt x i <;> cases hm : bt m i <;> simp_all
theorem xor_inj {x y m : Int32} (h : x ^^^ m = y ^^^ m) : x = y := by
  refine b_ext fun i _ => ?_
  have h1 : bt (x ^^^ m) i = bt (y ^^^ m) i := by rw [h]
  rw [b_xor, b_xor] at h1
  cases hx : bt x i <;> cases hy : bt y i <;> cases hm : bt m i <;> simp_all
def bfr (x l : Int32) (b n : Int32) : Prop := ul x b ∨ (x = b ∧ l < n)
set_option maxHeartbeats 4000000 in
set_option maxRecDepth 100000 in
theorem c_X2_mask (l : Launch) (D : va_G) (cy : ClassId) (base : Nat) (f : AH) (n : Int32)  : Met l yX2_mask wsX2_mask ({ frames := 0, cells := 0, slots := 0, locals := 0 }) (va_Pc [.int n] (hp_B D cy base f)) (va_Qi (fun (r : Int32) (u : AH) => r = mskI n ∧ u = f) (hp_B D cy base) (hp_A base)) 0 0 (hp_A base) := by
  refine Met.ofW (cc := cX2_mask) (maxL := 1) (ret := (some .int)) (by decide) rfl ?_
  intro p e s m args below meth c s₁ Bd hml hv
  obtain ⟨rfl, hf, C0⟩ := hv
  have hx := Bd.exec
  have hb := Bd.bytes
  have hr := Bd.returns
  have hts := atoms_spec (ws := wsX2_mask) Bd.pre
  have hown : s.vm.findClass RX2 = some m.cls := findClass_of_methodNamed Bd.named
  have hlocks := Bd.notSynchronized
  have hS : va_S (hp_A base) s.heap s.heap [] := va_S.rf
  have hl := lv_entry ([.int n]) (n := 1) (Nat.le_of_ble_eq_true rfl)
  rw [lg_entry_eq]
  generalize (lg_sl ([.int n]) ++ List.replicate (1 - (lg_sl ([.int n])).length) Slot.unset).toArray = ls at hl ⊢
  have hl : lv_has ls 1 [(0, .int n)] := hl
  refine lv_iload_n hx hb dX2_mask_0 rfl (lv_at hl 0 rfl) ?_
  refine lv_if_ne (tgt := 8) hx hb dX2_mask_1 (by decide) (fun h1 => ?_) (fun h1 => ?_)
  · refine lv_iconst (v := (-1)) hx hb dX2_mask_8 (by decide) ?_
    refine lv_bipush (v := 32) hx hb dX2_mask_9 (by decide) ?_
    refine lv_iload_n hx hb dX2_mask_11 rfl (lv_at hl 0 rfl) ?_
    refine lv_isub hx hb dX2_mask_12 ?_
    refine lv_ishl hx hb dX2_mask_13 ?_
    exact hp_iret (v := ((-1) <<< ((32 - n) &&& 31))) hx hb hr hlocks C0 hf hS (by first | exact Nat.le_refl _ | omega) (by first | exact Nat.le_refl _ | omega) dX2_mask_14 (⟨by rw [mskI, if_neg h1], rfl⟩)
  · refine lv_iconst (v := 0) hx hb dX2_mask_4 (by decide) ?_
    refine lv_goto (tgt := 14) hx hb dX2_mask_5 (by decide) ?_
    exact hp_iret (v := 0) hx hb hr hlocks C0 hf hS (by first | exact Nat.le_refl _ | omega) (by first | exact Nat.le_refl _ | omega) dX2_mask_14 (⟨by rw [mskI, if_pos h1], rfl⟩)
set_option maxHeartbeats 4000000 in
set_option maxRecDepth 100000 in
theorem c_X2_isPrefix (l : Launch) (D : va_G) (cy : ClassId) (base : Nat) (f : AH) (x n : Int32)  : Met l yX2_isPrefix wsX2_isPrefix ({ frames := 1, cells := 0, slots := 0, locals := 20 }) (va_Pc [.int x, .int n] (hp_B D cy base f)) (va_Qi (fun (r : Int32) (u : AH) => ((r = 1 ∧ okP x n) ∨ (r = 0 ∧ ¬ okP x n)) ∧ u = f) (hp_B D cy base) (hp_A base)) 0 0 (hp_A base) := by
  refine Met.ofW (cc := cX2_isPrefix) (maxL := 2) (ret := (some .boolean)) (by decide) rfl ?_
  intro p e s m args below meth c s₁ Bd hml hv
  obtain ⟨rfl, hf, C0⟩ := hv
  have hx := Bd.exec
  have hb := Bd.bytes
  have hr := Bd.returns
  have hts := atoms_spec (ws := wsX2_isPrefix) Bd.pre
  have hown : s.vm.findClass RX2 = some m.cls := findClass_of_methodNamed Bd.named
  have hlocks := Bd.notSynchronized
  have hS : va_S (hp_A base) s.heap s.heap [] := va_S.rf
  have hl := lv_entry ([.int x, .int n]) (n := 2) (Nat.le_of_ble_eq_true rfl)
  rw [lg_entry_eq]
  generalize (lg_sl ([.int x, .int n]) ++ List.replicate (2 - (lg_sl ([.int x, .int n])).length) Slot.unset).toArray = ls at hl ⊢
  have hl : lv_has ls 2 [(0, .int x), (1, .int n)] := hl
  refine lv_iload_n hx hb dX2_isPrefix_0 rfl (lv_at hl 1 rfl) ?_
  refine lv_if_lt (tgt := 39) hx hb dX2_isPrefix_1 (by decide) (fun h1 => ?_) (fun h1 => ?_)
  · refine lv_iconst (v := 0) hx hb dX2_isPrefix_39 (by decide) ?_
    exact hp_zret (v := 0) hx hb hr hlocks C0 hf hS (by first | exact Nat.le_refl _ | omega) (by first | exact Nat.le_refl _ | omega) dX2_isPrefix_40 (by decide) (⟨Or.inr ⟨rfl, fun ⟨k, e, hk⟩ => nI_pos (by have := hk.1; omega) (e ▸ h1)⟩, rfl⟩)
  · refine lv_iload_n hx hb dX2_isPrefix_4 rfl (lv_at hl 1 rfl) ?_
    refine lv_bipush (v := 32) hx hb dX2_isPrefix_5 (by decide) ?_
    refine lv_icmp_gt (tgt := 39) hx hb dX2_isPrefix_7 (by decide) (fun h7 => ?_) (fun h7 => ?_)
    · refine lv_iconst (v := 0) hx hb dX2_isPrefix_39 (by decide) ?_
      exact hp_zret (v := 0) hx hb hr hlocks C0 hf hS (by first | exact Nat.le_refl _ | omega) (by first | exact Nat.le_refl _ | omega) dX2_isPrefix_40 (by decide) (⟨Or.inr ⟨rfl, fun ⟨k, e, hk⟩ => absurd h7 (by rw [e]; exact nI_nlt (a := 32) hk.1 (by omega))⟩, rfl⟩)
    · refine lv_iload_n hx hb dX2_isPrefix_10 rfl (lv_at hl 0 rfl) ?_
      refine lv_iload_n hx hb dX2_isPrefix_11 rfl (lv_at hl 1 rfl) ?_
      refine lv_if_lt (tgt := 21) hx hb dX2_isPrefix_12 (by decide) (fun h12 => ?_) (fun h12 => ?_)
      · exact absurd h12 h1
      · refine lv_iload_n hx hb dX2_isPrefix_15 rfl (lv_at hl 1 rfl) ?_
        refine lv_bipush (v := 32) hx hb dX2_isPrefix_16 (by decide) ?_
        refine lv_icmp_le (tgt := 25) hx hb dX2_isPrefix_18 (by decide) (fun h18 => ?_) (fun h18 => ?_)
        · refine lv_iload_n hx hb dX2_isPrefix_25 rfl (lv_at hl 1 rfl) ?_
          refine hp_ki (hp_rS (As := [.int n]) (rest := [.int x]) ⟨hx, hb, hml, hown, hts⟩ C0 hf hS (c_X2_mask l D cy base f n) (va_cwS 1 hts gX2_isPrefix_X2_mask rfl rfl rfl (by decide +kernel) ⟨Nat.le_of_ble_eq_true rfl, Nat.le_of_ble_eq_true rfl⟩) rfl hl.1 rfl (Nat.le_of_ble_eq_true rfl) dX2_isPrefix_26 ⟨Nat.le_of_ble_eq_true rfl, Nat.le_of_ble_eq_true rfl⟩) hS (fun r_1 u_1 H locs hq_1 hf hS => ?_)
          obtain ⟨rfl, hu⟩ := hq_1
          rw [hu] at hf
          refine lv_iconst (v := (-1)) hx hb dX2_isPrefix_29 (by decide) ?_
          refine lv_ixor hx hb dX2_isPrefix_30 ?_
          refine lv_iand hx hb dX2_isPrefix_31 ?_
          refine lv_if_ne (tgt := 39) hx hb dX2_isPrefix_32 (by decide) (fun h32 => ?_) (fun h32 => ?_)
          · refine lv_iconst (v := 0) hx hb dX2_isPrefix_39 (by decide) ?_
            exact hp_zret (v := 0) hx hb hr hlocks C0 hf hS (by first | exact Nat.le_refl _ | omega) (by first | exact Nat.le_refl _ | omega) dX2_isPrefix_40 (by decide) (⟨Or.inr ⟨rfl, fun ⟨k, e, hk⟩ => h32 (by rw [and_not, e, msk_mk]; exact hk.2)⟩, rfl⟩)
          · refine lv_iconst (v := 1) hx hb dX2_isPrefix_35 (by decide) ?_
            refine lv_goto (tgt := 40) hx hb dX2_isPrefix_36 (by decide) ?_
            exact hp_zret (v := 1) hx hb hr hlocks C0 hf hS (by first | exact Nat.le_refl _ | omega) (by first | exact Nat.le_refl _ | omega) dX2_isPrefix_40 (by decide) (⟨Or.inl ⟨rfl, by obtain ⟨j, hj, e⟩ := nI_of2 (M := 32) (n := 32) rfl h1 (Int32.not_lt.mp h7); exact ⟨j, e, hj, by rw [and_not, e, msk_mk] at h32; exact h32⟩⟩, rfl⟩)
        · exact absurd (Int32.not_lt.mp h7) h18
set_option maxHeartbeats 4000000 in
set_option maxRecDepth 100000 in
theorem c_X2_begins (l : Launch) (D : va_G) (cy : ClassId) (base : Nat) (f : AH) (a x n : Int32)  : Met l yX2_begins wsX2_begins ({ frames := 1, cells := 0, slots := 0, locals := 20 }) (va_Pc [.int a, .int x, .int n] (hp_B D cy base f)) (va_Qi (fun (r : Int32) (u : AH) => (r = if a &&& mskI n = x then 1 else 0) ∧ u = f) (hp_B D cy base) (hp_A base)) 0 0 (hp_A base) := by
  refine Met.ofW (cc := cX2_begins) (maxL := 3) (ret := (some .boolean)) (by decide) rfl ?_
  intro p e s m args below meth c s₁ Bd hml hv
  obtain ⟨rfl, hf, C0⟩ := hv
  have hx := Bd.exec
  have hb := Bd.bytes
  have hr := Bd.returns
  have hts := atoms_spec (ws := wsX2_begins) Bd.pre
  have hown : s.vm.findClass RX2 = some m.cls := findClass_of_methodNamed Bd.named
  have hlocks := Bd.notSynchronized
  have hS : va_S (hp_A base) s.heap s.heap [] := va_S.rf
  have hl := lv_entry ([.int a, .int x, .int n]) (n := 3) (Nat.le_of_ble_eq_true rfl)
  rw [lg_entry_eq]
  generalize (lg_sl ([.int a, .int x, .int n]) ++ List.replicate (3 - (lg_sl ([.int a, .int x, .int n])).length) Slot.unset).toArray = ls at hl ⊢
  have hl : lv_has ls 3 [(0, .int a), (1, .int x), (2, .int n)] := hl
  refine lv_iload_n hx hb dX2_begins_0 rfl (lv_at hl 0 rfl) ?_
  refine lv_iload_n hx hb dX2_begins_1 rfl (lv_at hl 2 rfl) ?_
  refine hp_ki (hp_rS (As := [.int n]) (rest := [.int a]) ⟨hx, hb, hml, hown, hts⟩ C0 hf hS (c_X2_mask l D cy base f n) (va_cwS 1 hts gX2_begins_X2_mask rfl rfl rfl (by decide +kernel) ⟨Nat.le_of_ble_eq_true rfl, Nat.le_of_ble_eq_true rfl⟩) rfl hl.1 rfl (Nat.le_of_ble_eq_true rfl) dX2_begins_2 ⟨Nat.le_of_ble_eq_true rfl, Nat.le_of_ble_eq_true rfl⟩) hS (fun r_1 u_1 H locs hq_1 hf hS => ?_)
  obtain ⟨rfl, hu⟩ := hq_1
  rw [hu] at hf
  refine lv_iand hx hb dX2_begins_5 ?_
  refine lv_iload_n hx hb dX2_begins_6 rfl (lv_at hl 1 rfl) ?_
  refine lv_icmp_ne (tgt := 14) hx hb dX2_begins_7 (by decide) (fun h7 => ?_) (fun h7 => ?_)
  · refine lv_iconst (v := 0) hx hb dX2_begins_14 (by decide) ?_
    exact hp_zret (v := 0) hx hb hr hlocks C0 hf hS (by first | exact Nat.le_refl _ | omega) (by first | exact Nat.le_refl _ | omega) dX2_begins_15 (by decide) (⟨by rw [if_neg h7], rfl⟩)
  · refine lv_iconst (v := 1) hx hb dX2_begins_10 (by decide) ?_
    refine lv_goto (tgt := 15) hx hb dX2_begins_11 (by decide) ?_
    exact hp_zret (v := 1) hx hb hr hlocks C0 hf hS (by first | exact Nat.le_refl _ | omega) (by first | exact Nat.le_refl _ | omega) dX2_begins_15 (by decide) (⟨by rw [if_pos h7], rfl⟩)
set_option maxHeartbeats 4000000 in
set_option maxRecDepth 100000 in
theorem c_X2_isBefore (l : Launch) (D : va_G) (cy : ClassId) (base : Nat) (f : AH) (qm ab al ah nb nl : Nat) (cd nc : Int32) (n : Nat) (B L Hh NB NL : Nat → Int32) (x l0 : Int32) (i : Nat) (hm : f qm = some (mdO cd ab al ah (nI n) nb nl nc)) (hB : f ab = some (arO cy 500 B)) (hL : f al = some (arO cy 500 L)) (hH : f ah = some (arO cy 500 Hh)) (hn : n ≤ 500) (hi : i < 500) : Met l yX2_isBefore wsX2_isBefore ({ frames := 0, cells := 0, slots := 0, locals := 0 }) (va_Pc [.ref qm, .int x, .int l0, .int (nI i)] (hp_B D cy base f)) (va_Qi (fun (r : Int32) (u : AH) => ((r = 1 ∧ bfr x l0 (B i) (L i)) ∨ (r = 0 ∧ ¬ bfr x l0 (B i) (L i))) ∧ u = f) (hp_B D cy base) (hp_A base)) 0 0 (hp_A base) := by
  refine Met.ofW (cc := cX2_isBefore) (maxL := 6) (ret := (some .boolean)) (by decide) rfl ?_
  intro p e s m args below meth c s₁ Bd hml hv
  obtain ⟨rfl, hf, C0⟩ := hv
  have hx := Bd.exec
  have hb := Bd.bytes
  have hr := Bd.returns
  have hts := atoms_spec (ws := wsX2_isBefore) Bd.pre
  have hown : s.vm.findClass RX2 = some m.cls := findClass_of_methodNamed Bd.named
  have hlocks := Bd.notSynchronized
  have hin2 : ∀ w ∈ wsX20, w ∈ wsX2_isBefore := by decide +kernel
  have hS : va_S (hp_A base) s.heap s.heap [] := va_S.rf
  have hl := lv_entry ([.ref qm, .int x, .int l0, .int (nI i)]) (n := 6) (Nat.le_of_ble_eq_true rfl)
  rw [lg_entry_eq]
  generalize (lg_sl ([.ref qm, .int x, .int l0, .int (nI i)]) ++ List.replicate (6 - (lg_sl ([.ref qm, .int x, .int l0, .int (nI i)])).length) Slot.unset).toArray = ls at hl ⊢
  have hl : lv_has ls 6 [(0, .ref qm), (1, .int x), (2, .int l0), (3, .int (nI i))] := hl
  refine lv_iload_n hx hb dX2_isBefore_0 rfl (lv_at hl 1 rfl) ?_
  refine lv_ldc (own := RX2) (index := 36) (v := -2147483648) hx hb hown (hts (.constant RX2 36 (-2147483648)) (by decide +kernel)) dX2_isBefore_1 ?_
  refine lv_ixor hx hb dX2_isBefore_3 ?_
  refine lv_istore (lv' := [(4, .int (x ^^^ (-2147483648))), (0, .ref qm), (1, .int x), (2, .int l0), (3, .int (nI i))]) hx hb dX2_isBefore_4 hl (by decide) rfl (fun ls hl => ?_)
  refine lv_aload_n hx hb dX2_isBefore_6 rfl (lv_at hl 1 rfl) ?_
  refine hp_get (ci := 2) (v := .ref ab) (C := RX2) (T := TX2) (N := 8) hx hb hts hin2 hown C0 hf hm rfl 1 (by decide) (hts (.fieldLink RX2 7 "RouteTrieModel" "bits" "[I") (by decide +kernel)) (fun _ h9 => h9) rfl dX2_isBefore_7 ?_
  refine lv_iload_n hx hb dX2_isBefore_10 rfl (lv_at hl 4 rfl) ?_
  refine hp_iald (n := 500) (g := B) hx hb C0 hf hB (vp_in_nI (n := i) (N := 500) (by omega) (by omega)) dX2_isBefore_11 ?_
  rw [nI_clamp (n := i) (by omega)]
  refine lv_ldc (own := RX2) (index := 36) (v := -2147483648) hx hb hown (hts (.constant RX2 36 (-2147483648)) (by decide +kernel)) dX2_isBefore_12 ?_
  refine lv_ixor hx hb dX2_isBefore_14 ?_
  refine lv_istore (lv' := [(5, .int ((B i) ^^^ (-2147483648))), (4, .int (x ^^^ (-2147483648))), (0, .ref qm), (1, .int x), (2, .int l0), (3, .int (nI i))]) hx hb dX2_isBefore_15 hl (by decide) rfl (fun ls hl => ?_)
  refine lv_iload hx hb dX2_isBefore_17 (lv_at hl 1 rfl) ?_
  refine lv_iload hx hb dX2_isBefore_19 (lv_at hl 0 rfl) ?_
  refine lv_icmp_eq (tgt := 39) hx hb dX2_isBefore_21 (by decide) (fun h21 => ?_) (fun h21 => ?_)
  · refine lv_iload_n hx hb dX2_isBefore_39 rfl (lv_at hl 4 rfl) ?_
    refine lv_aload_n hx hb dX2_isBefore_40 rfl (lv_at hl 2 rfl) ?_
    refine hp_get (ci := 2) (v := .ref al) (C := RX2) (T := TX2) (N := 8) hx hb hts hin2 hown C0 hf hm rfl 2 (by decide) (hts (.fieldLink RX2 13 "RouteTrieModel" "lengths" "[I") (by decide +kernel)) (fun _ h9 => h9) rfl dX2_isBefore_41 ?_
    refine lv_iload_n hx hb dX2_isBefore_44 rfl (lv_at hl 5 rfl) ?_
    refine hp_iald (n := 500) (g := L) hx hb C0 hf hL (vp_in_nI (n := i) (N := 500) (by omega) (by omega)) dX2_isBefore_45 ?_
    rw [nI_clamp (n := i) (by omega)]
    refine lv_icmp_ge (tgt := 53) hx hb dX2_isBefore_46 (by decide) (fun h46 => ?_) (fun h46 => ?_)
    · refine lv_iconst (v := 0) hx hb dX2_isBefore_53 (by decide) ?_
      have hxe : x = B i := xor_inj h21
      exact hp_zret (v := 0) hx hb hr hlocks C0 hf hS (by first | exact Nat.le_refl _ | omega) (by first | exact Nat.le_refl _ | omega) dX2_isBefore_54 (by decide) (⟨Or.inr ⟨rfl, fun h => h.elim (fun k => by rw [hxe] at k; have := ul_nat k; omega) (fun k => absurd k.2 (Int32.not_lt.mpr h46))⟩, rfl⟩)
    · refine lv_iconst (v := 1) hx hb dX2_isBefore_49 (by decide) ?_
      refine lv_goto (tgt := 54) hx hb dX2_isBefore_50 (by decide) ?_
      have hxe : x = B i := xor_inj h21
      exact hp_zret (v := 1) hx hb hr hlocks C0 hf hS (by first | exact Nat.le_refl _ | omega) (by first | exact Nat.le_refl _ | omega) dX2_isBefore_54 (by decide) (⟨Or.inl ⟨rfl, Or.inr ⟨hxe, Int32.not_le.mp h46⟩⟩, rfl⟩)
  · refine lv_iload hx hb dX2_isBefore_24 (lv_at hl 1 rfl) ?_
    refine lv_iload hx hb dX2_isBefore_26 (lv_at hl 0 rfl) ?_
    refine lv_icmp_ge (tgt := 35) hx hb dX2_isBefore_28 (by decide) (fun h28 => ?_) (fun h28 => ?_)
    · refine lv_iconst (v := 0) hx hb dX2_isBefore_35 (by decide) ?_
      refine lv_goto (tgt := 54) hx hb dX2_isBefore_36 (by decide) ?_
      exact hp_zret (v := 0) hx hb hr hlocks C0 hf hS (by first | exact Nat.le_refl _ | omega) (by first | exact Nat.le_refl _ | omega) dX2_isBefore_54 (by decide) (⟨Or.inr ⟨rfl, fun h => h.elim (fun k => absurd ((ul_sgn x (B i)).mpr k) (Int32.not_lt.mpr h28)) (fun k => (fun e : x = B i => h21 (by rw [e])) k.1)⟩, rfl⟩)
    · refine lv_iconst (v := 1) hx hb dX2_isBefore_31 (by decide) ?_
      refine lv_goto (tgt := 54) hx hb dX2_isBefore_32 (by decide) ?_
      exact hp_zret (v := 1) hx hb hr hlocks C0 hf hS (by first | exact Nat.le_refl _ | omega) (by first | exact Nat.le_refl _ | omega) dX2_isBefore_54 (by decide) (⟨Or.inl ⟨rfl, Or.inl ((ul_sgn x (B i)).mp (Int32.not_le.mp h28))⟩, rfl⟩)
set_option maxHeartbeats 4000000 in
set_option maxRecDepth 100000 in
theorem c_X2_find (l : Launch) (D : va_G) (cy : ClassId) (base : Nat) (f : AH) (qm ab al ah nb nl : Nat) (cd nc : Int32) (n : Nat) (B L Hh NB NL : Nat → Int32) (x l0 : Int32) (hm : f qm = some (mdO cd ab al ah (nI n) nb nl nc)) (hB : f ab = some (arO cy 500 B)) (hL : f al = some (arO cy 500 L)) (hH : f ah = some (arO cy 500 Hh)) (hn : n ≤ 500) : Met l yX2_find wsX2_find ({ frames := 0, cells := 0, slots := 0, locals := 0 }) (va_Pc [.ref qm, .int x, .int l0] (hp_B D cy base f)) (va_Qi (fun (r : Int32) (u : AH) => ((∃ i : Nat, i < n ∧ r = nI i ∧ B i = x ∧ L i = l0) ∨ (r = -1 ∧ ∀ j, j < n → ¬ (B j = x ∧ L j = l0))) ∧ u = f) (hp_B D cy base) (hp_A base)) 0 0 (hp_A base) := by
  refine Met.ofW (cc := cX2_find) (maxL := 4) (ret := (some .int)) (by decide) rfl ?_
  intro p e s m args below meth c s₁ Bd hml hv
  obtain ⟨rfl, hf, C0⟩ := hv
  have hx := Bd.exec
  have hb := Bd.bytes
  have hr := Bd.returns
  have hts := atoms_spec (ws := wsX2_find) Bd.pre
  have hown : s.vm.findClass RX2 = some m.cls := findClass_of_methodNamed Bd.named
  have hlocks := Bd.notSynchronized
  have hin2 : ∀ w ∈ wsX20, w ∈ wsX2_find := by decide +kernel
  have hS : va_S (hp_A base) s.heap s.heap [] := va_S.rf
  have hl := lv_entry ([.ref qm, .int x, .int l0]) (n := 4) (Nat.le_of_ble_eq_true rfl)
  rw [lg_entry_eq]
  generalize (lg_sl ([.ref qm, .int x, .int l0]) ++ List.replicate (4 - (lg_sl ([.ref qm, .int x, .int l0])).length) Slot.unset).toArray = ls at hl ⊢
  have hl : lv_has ls 4 [(0, .ref qm), (1, .int x), (2, .int l0)] := hl
  have loop : ∀ (k j : Nat) (ls : Array Slot) (H : Heap) (locs : List Loc), j ≤ n → n + 1 ≤ j + k → (∀ i, i < j → ¬ (B i = x ∧ L i = l0)) → hp_ok D base f H → va_S (hp_A base) s.heap H locs → lv_has ls 4 [(0, .ref qm), (1, .int x), (2, .int l0), (3, .int (nI j))] → W p l e (headSpec wsX2_find ({ frames := 0, cells := 0, slots := 0, locals := 0 } : Room)).room s m #[Value.ref qm, Value.int x, Value.int l0] below meth c H locs 0 0 (MQ below (va_Qi (fun (r : Int32) (u : AH) => ((∃ i : Nat, i < n ∧ r = nI i ∧ B i = x ∧ L i = l0) ∨ (r = -1 ∧ ∀ j, j < n → ¬ (B j = x ∧ L j = l0))) ∧ u = f) (hp_B D cy base) (hp_A base)) #[Value.ref qm, Value.int x, Value.int l0] s 0 0 (hp_A base)) (F0 m 2 ls []) := by
    intro k
    induction k with
    | zero => intro j _ _ _ h1 h2; exact absurd h2 (by omega)
    | succ k ih =>
      intro j ls H locs hj hk hI hf hS hl
      refine lv_iload_n hx hb dX2_find_2 rfl (lv_at hl 3 rfl) ?_
      refine lv_aload_n hx hb dX2_find_3 rfl (lv_at hl 0 rfl) ?_
      refine hp_get (ci := 2) (v := .int (nI n)) (C := RX2) (T := TX2) (N := 8) hx hb hts hin2 hown C0 hf hm rfl 4 (by decide) (hts (.fieldLink RX2 29 "RouteTrieModel" "size" "I") (by decide +kernel)) (fun _ h9 => h9) rfl dX2_find_4 ?_
      refine lv_icmp_ge (tgt := 38) hx hb dX2_find_7 (by decide) (fun h7 => ?_) (fun h7 => ?_)
      · have hjn : n ≤ j := (nI_leI (by omega) (by omega)).mp h7
        refine lv_iconst (v := (-1)) hx hb dX2_find_38 (by decide) ?_
        exact hp_iret (v := (-1)) hx hb hr hlocks C0 hf hS (by first | exact Nat.le_refl _ | omega) (by first | exact Nat.le_refl _ | omega) dX2_find_39 (⟨Or.inr ⟨rfl, fun i hi => hI i (by omega)⟩, rfl⟩)
      · have hjn : j < n := Nat.not_le.mp (fun q => h7 ((nI_leI (by omega) (by omega)).mpr q))
        refine lv_aload_n hx hb dX2_find_10 rfl (lv_at hl 0 rfl) ?_
        refine hp_get (ci := 2) (v := .ref ab) (C := RX2) (T := TX2) (N := 8) hx hb hts hin2 hown C0 hf hm rfl 1 (by decide) (hts (.fieldLink RX2 7 "RouteTrieModel" "bits" "[I") (by decide +kernel)) (fun _ h9 => h9) rfl dX2_find_11 ?_
        refine lv_iload_n hx hb dX2_find_14 rfl (lv_at hl 3 rfl) ?_
        refine hp_iald (n := 500) (g := B) hx hb C0 hf hB (vp_in_nI (n := j) (N := 500) (by omega) (by omega)) dX2_find_15 ?_
        rw [nI_clamp (n := j) (by omega)]
        refine lv_iload_n hx hb dX2_find_16 rfl (lv_at hl 1 rfl) ?_
        refine lv_icmp_ne (tgt := 32) hx hb dX2_find_17 (by decide) (fun h17 => ?_) (fun h17 => ?_)
        · refine lv_iinc (v := ((nI j) + 1)) (lv' := [(3, .int ((nI j) + 1)), (0, .ref qm), (1, .int x), (2, .int l0)]) hx hb dX2_find_32 hl (k := 3) rfl rfl (by decide) rfl (fun ls hl => ?_)
          refine lv_goto (tgt := 2) hx hb dX2_find_35 (by decide) ?_
          rw [nI_1] at hl
          exact ih (j + 1) ls _ _ (by omega) (by omega) (fun i hi => by
            rcases Nat.lt_or_ge i j with q | q
            · exact hI i q
            · have e : i = j := by omega
              subst e
              exact fun g => h17 g.1) hf hS (lv_sub hl [1, 2, 3, 0] rfl)
        · refine lv_aload_n hx hb dX2_find_20 rfl (lv_at hl 0 rfl) ?_
          refine hp_get (ci := 2) (v := .ref al) (C := RX2) (T := TX2) (N := 8) hx hb hts hin2 hown C0 hf hm rfl 2 (by decide) (hts (.fieldLink RX2 13 "RouteTrieModel" "lengths" "[I") (by decide +kernel)) (fun _ h9 => h9) rfl dX2_find_21 ?_
          refine lv_iload_n hx hb dX2_find_24 rfl (lv_at hl 3 rfl) ?_
          refine hp_iald (n := 500) (g := L) hx hb C0 hf hL (vp_in_nI (n := j) (N := 500) (by omega) (by omega)) dX2_find_25 ?_
          rw [nI_clamp (n := j) (by omega)]
          refine lv_iload_n hx hb dX2_find_26 rfl (lv_at hl 2 rfl) ?_
          refine lv_icmp_ne (tgt := 32) hx hb dX2_find_27 (by decide) (fun h27 => ?_) (fun h27 => ?_)
          · refine lv_iinc (v := ((nI j) + 1)) (lv' := [(3, .int ((nI j) + 1)), (0, .ref qm), (1, .int x), (2, .int l0)]) hx hb dX2_find_32 hl (k := 3) rfl rfl (by decide) rfl (fun ls hl => ?_)
            refine lv_goto (tgt := 2) hx hb dX2_find_35 (by decide) ?_
            rw [nI_1] at hl
            exact ih (j + 1) ls _ _ (by omega) (by omega) (fun i hi => by
              rcases Nat.lt_or_ge i j with q | q
              · exact hI i q
              · have e : i = j := by omega
                subst e
                exact fun g => h27 g.2) hf hS (lv_sub hl [1, 2, 3, 0] rfl)
          · refine lv_iload_n hx hb dX2_find_30 rfl (lv_at hl 3 rfl) ?_
            exact hp_iret (v := nI j) hx hb hr hlocks C0 hf hS (by first | exact Nat.le_refl _ | omega) (by first | exact Nat.le_refl _ | omega) dX2_find_31 (⟨Or.inl ⟨j, hjn, rfl, h17, h27⟩, rfl⟩)
  refine lv_iconst (v := 0) hx hb dX2_find_0 (by decide) ?_
  refine lv_istore_n (lv' := [(3, .int 0), (0, .ref qm), (1, .int x), (2, .int l0)]) hx hb dX2_find_1 rfl hl (by decide) rfl (fun ls hl => ?_)
  exact loop (n + 1) 0 ls _ _ (by omega) (by omega) (fun i hi => absurd hi (by omega)) hf hS (lv_sub hl [1, 2, 3, 0] rfl)
theorem nI_m1 {i : Nat} (h : i < 2 ^ 31) : ¬ nI i = -1 := fun e => by have := nI_pos h; rw [e] at this; exact this (by decide)
set_option maxHeartbeats 4000000 in
set_option maxRecDepth 100000 in
theorem c_X2_longest (l : Launch) (D : va_G) (cy : ClassId) (base : Nat) (f : AH) (qm ab al ah nb nl : Nat) (cd nc : Int32) (n : Nat) (B L Hh NB NL : Nat → Int32) (x : Int32) (hm : f qm = some (mdO cd ab al ah (nI n) nb nl nc)) (hB : f ab = some (arO cy 500 B)) (hL : f al = some (arO cy 500 L)) (hH : f ah = some (arO cy 500 Hh)) (hn : n ≤ 500) : Met l yX2_longest wsX2_longest ({ frames := 2, cells := 0, slots := 0, locals := 42 }) (va_Pc [.ref qm, .int x] (hp_B D cy base f)) (va_Qi (fun (r : Int32) (u : AH) => ((∃ i : Nat, i < n ∧ r = nI i ∧ x &&& mskI (L i) = B i ∧ ∀ j, j < n → x &&& mskI (L j) = B j → L j ≤ L i) ∨ (r = -1 ∧ ∀ j, j < n → ¬ x &&& mskI (L j) = B j)) ∧ u = f) (hp_B D cy base) (hp_A base)) 0 0 (hp_A base) := by
  refine Met.ofW (cc := cX2_longest) (maxL := 4) (ret := (some .int)) (by decide) rfl ?_
  intro p e s m args below meth c s₁ Bd hml hv
  obtain ⟨rfl, hf, C0⟩ := hv
  have hx := Bd.exec
  have hb := Bd.bytes
  have hr := Bd.returns
  have hts := atoms_spec (ws := wsX2_longest) Bd.pre
  have hown : s.vm.findClass RX2 = some m.cls := findClass_of_methodNamed Bd.named
  have hlocks := Bd.notSynchronized
  have hin2 : ∀ w ∈ wsX20, w ∈ wsX2_longest := by decide +kernel
  have hS : va_S (hp_A base) s.heap s.heap [] := va_S.rf
  have hl := lv_entry ([.ref qm, .int x]) (n := 4) (Nat.le_of_ble_eq_true rfl)
  rw [lg_entry_eq]
  generalize (lg_sl ([.ref qm, .int x]) ++ List.replicate (4 - (lg_sl ([.ref qm, .int x])).length) Slot.unset).toArray = ls at hl ⊢
  have hl : lv_has ls 4 [(0, .ref qm), (1, .int x)] := hl
  have loop : ∀ (k j : Nat) (bs : Int32) (ls : Array Slot) (H : Heap) (locs : List Loc), j ≤ n → n + 1 ≤ j + k → ((∃ i : Nat, i < j ∧ bs = nI i ∧ x &&& mskI (L i) = B i ∧ ∀ j2, j2 < j → x &&& mskI (L j2) = B j2 → L j2 ≤ L i) ∨ (bs = -1 ∧ ∀ j2, j2 < j → ¬ x &&& mskI (L j2) = B j2)) → hp_ok D base f H → va_S (hp_A base) s.heap H locs → lv_has ls 4 [(0, .ref qm), (1, .int x), (2, .int bs), (3, .int (nI j))] → W p l e (headSpec wsX2_longest ({ frames := 2, cells := 0, slots := 0, locals := 42 } : Room)).room s m #[Value.ref qm, Value.int x] below meth c H locs 0 0 (MQ below (va_Qi (fun (r : Int32) (u : AH) => ((∃ i : Nat, i < n ∧ r = nI i ∧ x &&& mskI (L i) = B i ∧ ∀ j, j < n → x &&& mskI (L j) = B j → L j ≤ L i) ∨ (r = -1 ∧ ∀ j, j < n → ¬ x &&& mskI (L j) = B j)) ∧ u = f) (hp_B D cy base) (hp_A base)) #[Value.ref qm, Value.int x] s 0 0 (hp_A base)) (F0 m 4 ls []) := by
    intro k
    induction k with
    | zero => intro j _ _ _ _ h1 h2; exact absurd h2 (by omega)
    | succ k ih =>
      intro j bs ls H locs hj hk hI hf hS hl
      refine lv_iload_n hx hb dX2_longest_4 rfl (lv_at hl 3 rfl) ?_
      refine lv_aload_n hx hb dX2_longest_5 rfl (lv_at hl 0 rfl) ?_
      refine hp_get (ci := 2) (v := .int (nI n)) (C := RX2) (T := TX2) (N := 8) hx hb hts hin2 hown C0 hf hm rfl 4 (by decide) (hts (.fieldLink RX2 29 "RouteTrieModel" "size" "I") (by decide +kernel)) (fun _ h9 => h9) rfl dX2_longest_6 ?_
      refine lv_icmp_ge (tgt := 59) hx hb dX2_longest_9 (by decide) (fun h9 => ?_) (fun h9 => ?_)
      · have hjn : j = n := by have := (nI_leI (by omega) (by omega)).mp h9; omega
        subst hjn
        refine lv_iload_n hx hb dX2_longest_59 rfl (lv_at hl 2 rfl) ?_
        exact hp_iret (v := bs) hx hb hr hlocks C0 hf hS (by first | exact Nat.le_refl _ | omega) (by first | exact Nat.le_refl _ | omega) dX2_longest_60 (⟨hI, rfl⟩)
      · have hjn : j < n := Nat.not_le.mp (fun q => h9 ((nI_leI (by omega) (by omega)).mpr q))
        refine lv_iload_n hx hb dX2_longest_12 rfl (lv_at hl 1 rfl) ?_
        refine lv_aload_n hx hb dX2_longest_13 rfl (lv_at hl 0 rfl) ?_
        refine hp_get (ci := 2) (v := .ref ab) (C := RX2) (T := TX2) (N := 8) hx hb hts hin2 hown C0 hf hm rfl 1 (by decide) (hts (.fieldLink RX2 7 "RouteTrieModel" "bits" "[I") (by decide +kernel)) (fun _ h9 => h9) rfl dX2_longest_14 ?_
        refine lv_iload_n hx hb dX2_longest_17 rfl (lv_at hl 3 rfl) ?_
        refine hp_iald (n := 500) (g := B) hx hb C0 hf hB (vp_in_nI (n := j) (N := 500) (by omega) (by omega)) dX2_longest_18 ?_
        rw [nI_clamp (n := j) (by omega)]
        refine lv_aload_n hx hb dX2_longest_19 rfl (lv_at hl 0 rfl) ?_
        refine hp_get (ci := 2) (v := .ref al) (C := RX2) (T := TX2) (N := 8) hx hb hts hin2 hown C0 hf hm rfl 2 (by decide) (hts (.fieldLink RX2 13 "RouteTrieModel" "lengths" "[I") (by decide +kernel)) (fun _ h9 => h9) rfl dX2_longest_20 ?_
        refine lv_iload_n hx hb dX2_longest_23 rfl (lv_at hl 3 rfl) ?_
        refine hp_iald (n := 500) (g := L) hx hb C0 hf hL (vp_in_nI (n := j) (N := 500) (by omega) (by omega)) dX2_longest_24 ?_
        rw [nI_clamp (n := j) (by omega)]
        refine hp_ki (hp_rS (As := [.int x, .int (B j), .int (L j)]) (rest := []) ⟨hx, hb, hml, hown, hts⟩ C0 hf hS (c_X2_begins l D cy base f x (B j) (L j)) (va_cwS 3 hts gX2_longest_X2_begins rfl rfl rfl (by decide +kernel) ⟨Nat.le_of_ble_eq_true rfl, Nat.le_of_ble_eq_true rfl⟩) rfl hl.1 rfl (Nat.le_of_ble_eq_true rfl) dX2_longest_25 ⟨Nat.le_of_ble_eq_true rfl, Nat.le_of_ble_eq_true rfl⟩) hS (fun r_1 u_1 H locs hq_1 hf hS => ?_)
        obtain ⟨hr_1, hu⟩ := hq_1
        rw [hu] at hf
        have hbg : r_1 = 0 ↔ ¬ x &&& mskI (L j) = B j := by rw [hr_1]; split <;> simp_all
        refine lv_if_eq (tgt := 53) hx hb dX2_longest_28 (by decide) (fun h28 => ?_) (fun h28 => ?_)
        · refine lv_iinc (v := ((nI j) + 1)) (lv' := [(3, .int ((nI j) + 1)), (0, .ref qm), (1, .int x), (2, .int bs)]) hx hb dX2_longest_53 hl (k := 3) rfl rfl (by decide) rfl (fun ls hl => ?_)
          refine lv_goto (tgt := 4) hx hb dX2_longest_56 (by decide) ?_
          rw [nI_1] at hl
          exact ih (j + 1) bs ls _ _ (by omega) (by omega) (hI.elim (fun ⟨i, a1, a2, a3, a4⟩ => Or.inl ⟨i, by omega, a2, a3, fun j2 g1 g2 => by
            rcases Nat.lt_or_ge j2 j with q | q
            · exact a4 j2 q g2
            · have e : j2 = j := by omega
              subst e; exact absurd g2 (hbg.mp h28)⟩) (fun ⟨a1, a2⟩ => Or.inr ⟨a1, fun j2 g1 => by
            rcases Nat.lt_or_ge j2 j with q | q
            · exact a2 j2 q
            · have e : j2 = j := by omega
              subst e; exact hbg.mp h28⟩)) hf hS (lv_sub hl [1, 2, 3, 0] rfl)
        · refine lv_iload_n hx hb dX2_longest_31 rfl (lv_at hl 2 rfl) ?_
          refine lv_iconst (v := (-1)) hx hb dX2_longest_32 (by decide) ?_
          refine lv_icmp_eq (tgt := 51) hx hb dX2_longest_33 (by decide) (fun h33 => ?_) (fun h33 => ?_)
          · refine lv_iload_n hx hb dX2_longest_51 rfl (lv_at hl 3 rfl) ?_
            refine lv_istore_n (lv' := [(2, .int (nI j)), (0, .ref qm), (1, .int x), (3, .int (nI j))]) hx hb dX2_longest_52 rfl hl (by decide) rfl (fun ls hl => ?_)
            refine lv_iinc (v := ((nI j) + 1)) (lv' := [(3, .int ((nI j) + 1)), (2, .int (nI j)), (0, .ref qm), (1, .int x)]) hx hb dX2_longest_53 hl (k := 3) rfl rfl (by decide) rfl (fun ls hl => ?_)
            refine lv_goto (tgt := 4) hx hb dX2_longest_56 (by decide) ?_
            rw [nI_1] at hl
            exact ih (j + 1) (nI j) ls _ _ (by omega) (by omega) (Or.inl ⟨j, by omega, rfl, Classical.not_not.mp ((not_congr hbg).mp h28), fun j2 g1 g2 => by
              rcases Nat.lt_or_ge j2 j with q | q
              · exact absurd g2 ((hI.elim (fun ⟨i, a1, a2, _, _⟩ => absurd (a2.symm.trans h33) (nI_m1 (by omega))) (fun g => g.2 j2 q)))
              · have e : j2 = j := by omega
                subst e; exact Int32.le_refl _⟩) hf hS (lv_sub hl [2, 3, 1, 0] rfl)
          · obtain ⟨i, hi1, rfl, hi2, hi3⟩ : ∃ i : Nat, i < j ∧ bs = nI i ∧ x &&& mskI (L i) = B i ∧ ∀ j2, j2 < j → x &&& mskI (L j2) = B j2 → L j2 ≤ L i := hI.elim id (fun g => absurd g.1 h33)
            refine lv_aload_n hx hb dX2_longest_36 rfl (lv_at hl 0 rfl) ?_
            refine hp_get (ci := 2) (v := .ref al) (C := RX2) (T := TX2) (N := 8) hx hb hts hin2 hown C0 hf hm rfl 2 (by decide) (hts (.fieldLink RX2 13 "RouteTrieModel" "lengths" "[I") (by decide +kernel)) (fun _ h9 => h9) rfl dX2_longest_37 ?_
            refine lv_iload_n hx hb dX2_longest_40 rfl (lv_at hl 3 rfl) ?_
            refine hp_iald (n := 500) (g := L) hx hb C0 hf hL (vp_in_nI (n := j) (N := 500) (by omega) (by omega)) dX2_longest_41 ?_
            rw [nI_clamp (n := j) (by omega)]
            refine lv_aload_n hx hb dX2_longest_42 rfl (lv_at hl 0 rfl) ?_
            refine hp_get (ci := 2) (v := .ref al) (C := RX2) (T := TX2) (N := 8) hx hb hts hin2 hown C0 hf hm rfl 2 (by decide) (hts (.fieldLink RX2 13 "RouteTrieModel" "lengths" "[I") (by decide +kernel)) (fun _ h9 => h9) rfl dX2_longest_43 ?_
            refine lv_iload_n hx hb dX2_longest_46 rfl (lv_at hl 2 rfl) ?_
            refine hp_iald (n := 500) (g := L) hx hb C0 hf hL (vp_in_nI (n := i) (N := 500) (by omega) (by omega)) dX2_longest_47 ?_
            rw [nI_clamp (n := i) (by omega)]
            refine lv_icmp_le (tgt := 53) hx hb dX2_longest_48 (by decide) (fun h48 => ?_) (fun h48 => ?_)
            · refine lv_iinc (v := ((nI j) + 1)) (lv' := [(3, .int ((nI j) + 1)), (0, .ref qm), (1, .int x), (2, .int (nI i))]) hx hb dX2_longest_53 hl (k := 3) rfl rfl (by decide) rfl (fun ls hl => ?_)
              refine lv_goto (tgt := 4) hx hb dX2_longest_56 (by decide) ?_
              rw [nI_1] at hl
              exact ih (j + 1) (nI i) ls _ _ (by omega) (by omega) (Or.inl ⟨i, by omega, rfl, hi2, fun j2 g1 g2 => by
                rcases Nat.lt_or_ge j2 j with q | q
                · exact hi3 j2 q g2
                · have e : j2 = j := by omega
                  subst e; exact h48⟩) hf hS (lv_sub hl [1, 2, 3, 0] rfl)
            · refine lv_iload_n hx hb dX2_longest_51 rfl (lv_at hl 3 rfl) ?_
              refine lv_istore_n (lv' := [(2, .int (nI j)), (0, .ref qm), (1, .int x), (3, .int (nI j))]) hx hb dX2_longest_52 rfl hl (by decide) rfl (fun ls hl => ?_)
              refine lv_iinc (v := ((nI j) + 1)) (lv' := [(3, .int ((nI j) + 1)), (2, .int (nI j)), (0, .ref qm), (1, .int x)]) hx hb dX2_longest_53 hl (k := 3) rfl rfl (by decide) rfl (fun ls hl => ?_)
              refine lv_goto (tgt := 4) hx hb dX2_longest_56 (by decide) ?_
              rw [nI_1] at hl
              exact ih (j + 1) (nI j) ls _ _ (by omega) (by omega) (Or.inl ⟨j, by omega, rfl, Classical.not_not.mp ((not_congr hbg).mp h28), fun j2 g1 g2 => by
                rcases Nat.lt_or_ge j2 j with q | q
                · exact Int32.le_trans (hi3 j2 q g2) (Int32.le_of_lt (Int32.not_le.mp h48))
                · have e : j2 = j := by omega
                  subst e; exact Int32.le_refl _⟩) hf hS (lv_sub hl [2, 3, 1, 0] rfl)
  refine lv_iconst (v := (-1)) hx hb dX2_longest_0 (by decide) ?_
  refine lv_istore_n (lv' := [(2, .int (-1)), (0, .ref qm), (1, .int x)]) hx hb dX2_longest_1 rfl hl (by decide) rfl (fun ls hl => ?_)
  refine lv_iconst (v := 0) hx hb dX2_longest_2 (by decide) ?_
  refine lv_istore_n (lv' := [(3, .int 0), (2, .int (-1)), (0, .ref qm), (1, .int x)]) hx hb dX2_longest_3 rfl hl (by decide) rfl (fun ls hl => ?_)
  exact loop (n + 1) 0 (-1) ls _ _ (by omega) (by omega) (Or.inr ⟨rfl, fun i hi => absurd hi (by omega)⟩) hf hS (lv_sub hl [2, 3, 1, 0] rfl)
set_option maxHeartbeats 4000000 in
set_option maxRecDepth 100000 in
theorem c_X2_lookup (l : Launch) (D : va_G) (cy : ClassId) (base : Nat) (f : AH) (qm ab al ah nb nl : Nat) (cd nc : Int32) (n : Nat) (B L Hh NB NL : Nat → Int32) (x : Int32) (hm : f qm = some (mdO cd ab al ah (nI n) nb nl nc)) (hB : f ab = some (arO cy 500 B)) (hL : f al = some (arO cy 500 L)) (hH : f ah = some (arO cy 500 Hh)) (hn : n ≤ 500) : Met l yX2_lookup wsX2_lookup ({ frames := 3, cells := 0, slots := 0, locals := 65 }) (va_Pc [.ref qm, .int x] (hp_B D cy base f)) (va_Qi (fun (r : Int32) (u : AH) => ((∃ i : Nat, i < n ∧ r = Hh i ∧ x &&& mskI (L i) = B i ∧ ∀ j, j < n → x &&& mskI (L j) = B j → L j ≤ L i) ∨ (r = -1 ∧ ∀ j, j < n → ¬ x &&& mskI (L j) = B j)) ∧ u = va_up f qm (some (mdO 0 ab al ah (nI n) nb nl nc))) (hp_B D cy base) (hp_A base)) 0 0 (hp_A base) := by
  refine Met.ofW (cc := cX2_lookup) (maxL := 3) (ret := (some .int)) (by decide) rfl ?_
  intro p e s m args below meth c s₁ Bd hml hv
  obtain ⟨rfl, hf, C0⟩ := hv
  have hx := Bd.exec
  have hb := Bd.bytes
  have hr := Bd.returns
  have hts := atoms_spec (ws := wsX2_lookup) Bd.pre
  have hown : s.vm.findClass RX2 = some m.cls := findClass_of_methodNamed Bd.named
  have hlocks := Bd.notSynchronized
  have hin2 : ∀ w ∈ wsX20, w ∈ wsX2_lookup := by decide +kernel
  have hS : va_S (hp_A base) s.heap s.heap [] := va_S.rf
  have hl := lv_entry ([.ref qm, .int x]) (n := 3) (Nat.le_of_ble_eq_true rfl)
  rw [lg_entry_eq]
  generalize (lg_sl ([.ref qm, .int x]) ++ List.replicate (3 - (lg_sl ([.ref qm, .int x])).length) Slot.unset).toArray = ls at hl ⊢
  have hl : lv_has ls 3 [(0, .ref qm), (1, .int x)] := hl
  refine lv_aload_n hx hb dX2_lookup_0 rfl (lv_at hl 0 rfl) ?_
  refine lv_iconst (v := 0) hx hb dX2_lookup_1 (by decide) ?_
  refine hp_put (ci := 2) (v := .int 0) (C := RX2) (T := TX2) (N := 8) hx hb hts hin2 tyX2 tyX2_ok nmX2 hown C0 hf hS hm rfl 0 (by decide) (hts (.fieldLink RX2 25 "RouteTrieModel" "code" "I") (by decide +kernel)) (fun _ h9 => h9) rfl rfl rfl (Nat.le_of_ble_eq_true rfl) dX2_lookup_2 (fun f_1 H locs ef_1 hf hS => ?_)
  have hc_1 : f_1 qm = some (.inr (2, [.int 0, .ref ab, .ref al, .ref ah, .int (nI n), .ref nb, .ref nl, .int nc])) := by rw [ef_1]; exact va_up_self _ _ _
  have hc_1_ab : f_1 ab = some (.inl (cy, 500, .inl B)) := by rw [ef_1, va_up_ne _ _ (hp_dif hB hm (by simp))]; exact hB
  have hc_1_al : f_1 al = some (.inl (cy, 500, .inl L)) := by rw [ef_1, va_up_ne _ _ (hp_dif hL hm (by simp))]; exact hL
  have hc_1_ah : f_1 ah = some (.inl (cy, 500, .inl Hh)) := by rw [ef_1, va_up_ne _ _ (hp_dif hH hm (by simp))]; exact hH
  refine lv_aload_n hx hb dX2_lookup_5 rfl (lv_at hl 0 rfl) ?_
  refine lv_iload_n hx hb dX2_lookup_6 rfl (lv_at hl 1 rfl) ?_
  refine hp_ki (hp_rV (C := RX2) (As := [.int x]) (rest := []) ⟨hx, hb, hml, hown, hts⟩ C0 hf hS (c_X2_longest l D cy base f_1 qm ab al ah nb nl 0 nc n B L Hh NB NL x hc_1 hc_1_ab hc_1_al hc_1_ah hn) (cwV 1 hts gX2_lookup_X2_longest rfl rfl rfl (by decide +kernel) ⟨Nat.le_of_ble_eq_true rfl, Nat.le_of_ble_eq_true rfl⟩) hc_1 rfl rfl hl.1 rfl (Nat.le_of_ble_eq_true rfl) dX2_lookup_7 ⟨Nat.le_of_ble_eq_true rfl, Nat.le_of_ble_eq_true rfl⟩) hS (fun r_2 u_2 H locs hq_2 hf hS => ?_)
  obtain ⟨hr_2, hu⟩ := hq_2
  rw [hu] at hf
  refine lv_istore_n (lv' := [(2, .int r_2), (0, .ref qm), (1, .int x)]) hx hb dX2_lookup_10 rfl hl (by decide) rfl (fun ls hl => ?_)
  refine lv_iload_n hx hb dX2_lookup_11 rfl (lv_at hl 0 rfl) ?_
  refine lv_iconst (v := (-1)) hx hb dX2_lookup_12 (by decide) ?_
  refine lv_icmp_ne (tgt := 20) hx hb dX2_lookup_13 (by decide) (fun h13 => ?_) (fun h13 => ?_)
  · obtain ⟨i, hi1, rfl, hi2, hi3⟩ := hr_2.elim id (fun g => absurd g.1 h13)
    refine lv_aload_n hx hb dX2_lookup_20 rfl (lv_at hl 1 rfl) ?_
    refine hp_get (ci := 2) (v := .ref ah) (C := RX2) (T := TX2) (N := 8) hx hb hts hin2 hown C0 hf hc_1 rfl 3 (by decide) (hts (.fieldLink RX2 16 "RouteTrieModel" "hops" "[I") (by decide +kernel)) (fun _ h9 => h9) rfl dX2_lookup_21 ?_
    refine lv_iload_n hx hb dX2_lookup_24 rfl (lv_at hl 0 rfl) ?_
    refine hp_iald (n := 500) (g := Hh) hx hb C0 hf hc_1_ah (vp_in_nI (n := i) (N := 500) (by omega) (by omega)) dX2_lookup_25 ?_
    rw [nI_clamp (n := i) (by omega)]
    exact hp_iret (v := (Hh i)) hx hb hr hlocks C0 hf hS (by first | exact Nat.le_refl _ | omega) (by first | exact Nat.le_refl _ | omega) dX2_lookup_26 (⟨Or.inl ⟨i, hi1, rfl, hi2, hi3⟩, ef_1⟩)
  · refine lv_iconst (v := (-1)) hx hb dX2_lookup_16 (by decide) ?_
    refine lv_goto (tgt := 26) hx hb dX2_lookup_17 (by decide) ?_
    exact hp_iret (v := (-1)) hx hb hr hlocks C0 hf hS (by first | exact Nat.le_refl _ | omega) (by first | exact Nat.le_refl _ | omega) dX2_lookup_26 (⟨hr_2.elim (fun ⟨i, a1, a2, _, _⟩ => absurd (a2.symm.trans h13) (nI_m1 (by omega))) (fun g => Or.inr ⟨rfl, g.2⟩), ef_1⟩)
set_option maxHeartbeats 4000000 in
set_option maxRecDepth 100000 in
theorem c_X2_lookupLen (l : Launch) (D : va_G) (cy : ClassId) (base : Nat) (f : AH) (qm ab al ah nb nl : Nat) (cd nc : Int32) (n : Nat) (B L Hh NB NL : Nat → Int32) (x : Int32) (hm : f qm = some (mdO cd ab al ah (nI n) nb nl nc)) (hB : f ab = some (arO cy 500 B)) (hL : f al = some (arO cy 500 L)) (hH : f ah = some (arO cy 500 Hh)) (hn : n ≤ 500) : Met l yX2_lookupLen wsX2_lookupLen ({ frames := 3, cells := 0, slots := 0, locals := 65 }) (va_Pc [.ref qm, .int x] (hp_B D cy base f)) (va_Qi (fun (r : Int32) (u : AH) => ((∃ i : Nat, i < n ∧ r = L i ∧ x &&& mskI (L i) = B i ∧ ∀ j, j < n → x &&& mskI (L j) = B j → L j ≤ L i) ∨ (r = -1 ∧ ∀ j, j < n → ¬ x &&& mskI (L j) = B j)) ∧ u = va_up f qm (some (mdO 0 ab al ah (nI n) nb nl nc))) (hp_B D cy base) (hp_A base)) 0 0 (hp_A base) := by
  refine Met.ofW (cc := cX2_lookupLen) (maxL := 3) (ret := (some .int)) (by decide) rfl ?_
  intro p e s m args below meth c s₁ Bd hml hv
  obtain ⟨rfl, hf, C0⟩ := hv
  have hx := Bd.exec
  have hb := Bd.bytes
  have hr := Bd.returns
  have hts := atoms_spec (ws := wsX2_lookupLen) Bd.pre
  have hown : s.vm.findClass RX2 = some m.cls := findClass_of_methodNamed Bd.named
  have hlocks := Bd.notSynchronized
  have hin2 : ∀ w ∈ wsX20, w ∈ wsX2_lookupLen := by decide +kernel
  have hS : va_S (hp_A base) s.heap s.heap [] := va_S.rf
  have hl := lv_entry ([.ref qm, .int x]) (n := 3) (Nat.le_of_ble_eq_true rfl)
  rw [lg_entry_eq]
  generalize (lg_sl ([.ref qm, .int x]) ++ List.replicate (3 - (lg_sl ([.ref qm, .int x])).length) Slot.unset).toArray = ls at hl ⊢
  have hl : lv_has ls 3 [(0, .ref qm), (1, .int x)] := hl
  refine lv_aload_n hx hb dX2_lookupLen_0 rfl (lv_at hl 0 rfl) ?_
  refine lv_iconst (v := 0) hx hb dX2_lookupLen_1 (by decide) ?_
  refine hp_put (ci := 2) (v := .int 0) (C := RX2) (T := TX2) (N := 8) hx hb hts hin2 tyX2 tyX2_ok nmX2 hown C0 hf hS hm rfl 0 (by decide) (hts (.fieldLink RX2 25 "RouteTrieModel" "code" "I") (by decide +kernel)) (fun _ h9 => h9) rfl rfl rfl (Nat.le_of_ble_eq_true rfl) dX2_lookupLen_2 (fun f_1 H locs ef_1 hf hS => ?_)
  have hc_1 : f_1 qm = some (.inr (2, [.int 0, .ref ab, .ref al, .ref ah, .int (nI n), .ref nb, .ref nl, .int nc])) := by rw [ef_1]; exact va_up_self _ _ _
  have hc_1_ab : f_1 ab = some (.inl (cy, 500, .inl B)) := by rw [ef_1, va_up_ne _ _ (hp_dif hB hm (by simp))]; exact hB
  have hc_1_al : f_1 al = some (.inl (cy, 500, .inl L)) := by rw [ef_1, va_up_ne _ _ (hp_dif hL hm (by simp))]; exact hL
  have hc_1_ah : f_1 ah = some (.inl (cy, 500, .inl Hh)) := by rw [ef_1, va_up_ne _ _ (hp_dif hH hm (by simp))]; exact hH
  refine lv_aload_n hx hb dX2_lookupLen_5 rfl (lv_at hl 0 rfl) ?_
  refine lv_iload_n hx hb dX2_lookupLen_6 rfl (lv_at hl 1 rfl) ?_
  refine hp_ki (hp_rV (C := RX2) (As := [.int x]) (rest := []) ⟨hx, hb, hml, hown, hts⟩ C0 hf hS (c_X2_longest l D cy base f_1 qm ab al ah nb nl 0 nc n B L Hh NB NL x hc_1 hc_1_ab hc_1_al hc_1_ah hn) (cwV 1 hts gX2_lookupLen_X2_longest rfl rfl rfl (by decide +kernel) ⟨Nat.le_of_ble_eq_true rfl, Nat.le_of_ble_eq_true rfl⟩) hc_1 rfl rfl hl.1 rfl (Nat.le_of_ble_eq_true rfl) dX2_lookupLen_7 ⟨Nat.le_of_ble_eq_true rfl, Nat.le_of_ble_eq_true rfl⟩) hS (fun r_2 u_2 H locs hq_2 hf hS => ?_)
  obtain ⟨hr_2, hu⟩ := hq_2
  rw [hu] at hf
  refine lv_istore_n (lv' := [(2, .int r_2), (0, .ref qm), (1, .int x)]) hx hb dX2_lookupLen_10 rfl hl (by decide) rfl (fun ls hl => ?_)
  refine lv_iload_n hx hb dX2_lookupLen_11 rfl (lv_at hl 0 rfl) ?_
  refine lv_iconst (v := (-1)) hx hb dX2_lookupLen_12 (by decide) ?_
  refine lv_icmp_ne (tgt := 20) hx hb dX2_lookupLen_13 (by decide) (fun h13 => ?_) (fun h13 => ?_)
  · obtain ⟨i, hi1, rfl, hi2, hi3⟩ := hr_2.elim id (fun g => absurd g.1 h13)
    refine lv_aload_n hx hb dX2_lookupLen_20 rfl (lv_at hl 1 rfl) ?_
    refine hp_get (ci := 2) (v := .ref al) (C := RX2) (T := TX2) (N := 8) hx hb hts hin2 hown C0 hf hc_1 rfl 2 (by decide) (hts (.fieldLink RX2 13 "RouteTrieModel" "lengths" "[I") (by decide +kernel)) (fun _ h9 => h9) rfl dX2_lookupLen_21 ?_
    refine lv_iload_n hx hb dX2_lookupLen_24 rfl (lv_at hl 0 rfl) ?_
    refine hp_iald (n := 500) (g := L) hx hb C0 hf hc_1_al (vp_in_nI (n := i) (N := 500) (by omega) (by omega)) dX2_lookupLen_25 ?_
    rw [nI_clamp (n := i) (by omega)]
    exact hp_iret (v := (L i)) hx hb hr hlocks C0 hf hS (by first | exact Nat.le_refl _ | omega) (by first | exact Nat.le_refl _ | omega) dX2_lookupLen_26 (⟨Or.inl ⟨i, hi1, rfl, hi2, hi3⟩, ef_1⟩)
  · refine lv_iconst (v := (-1)) hx hb dX2_lookupLen_16 (by decide) ?_
    refine lv_goto (tgt := 26) hx hb dX2_lookupLen_17 (by decide) ?_
    exact hp_iret (v := (-1)) hx hb hr hlocks C0 hf hS (by first | exact Nat.le_refl _ | omega) (by first | exact Nat.le_refl _ | omega) dX2_lookupLen_26 (⟨hr_2.elim (fun ⟨i, a1, a2, _, _⟩ => absurd (a2.symm.trans h13) (nI_m1 (by omega))) (fun g => Or.inr ⟨rfl, g.2⟩), ef_1⟩)
set_option maxHeartbeats 4000000 in
set_option maxRecDepth 100000 in
theorem c_X2_exact (l : Launch) (D : va_G) (cy : ClassId) (base : Nat) (f : AH) (qm ab al ah nb nl : Nat) (cd nc : Int32) (n : Nat) (B L Hh NB NL : Nat → Int32) (x l0 : Int32) (hm : f qm = some (mdO cd ab al ah (nI n) nb nl nc)) (hB : f ab = some (arO cy 500 B)) (hL : f al = some (arO cy 500 L)) (hH : f ah = some (arO cy 500 Hh)) (hn : n ≤ 500) : Met l yX2_exact wsX2_exact ({ frames := 1, cells := 0, slots := 0, locals := 23 }) (va_Pc [.ref qm, .int x, .int l0] (hp_B D cy base f)) (va_Qi (fun (r : Int32) (u : AH) => ((∃ i : Nat, i < n ∧ r = Hh i ∧ B i = x ∧ L i = l0) ∨ (r = -1 ∧ ∀ j, j < n → ¬ (B j = x ∧ L j = l0))) ∧ u = va_up f qm (some (mdO 0 ab al ah (nI n) nb nl nc))) (hp_B D cy base) (hp_A base)) 0 0 (hp_A base) := by
  refine Met.ofW (cc := cX2_exact) (maxL := 4) (ret := (some .int)) (by decide) rfl ?_
  intro p e s m args below meth c s₁ Bd hml hv
  obtain ⟨rfl, hf, C0⟩ := hv
  have hx := Bd.exec
  have hb := Bd.bytes
  have hr := Bd.returns
  have hts := atoms_spec (ws := wsX2_exact) Bd.pre
  have hown : s.vm.findClass RX2 = some m.cls := findClass_of_methodNamed Bd.named
  have hlocks := Bd.notSynchronized
  have hin2 : ∀ w ∈ wsX20, w ∈ wsX2_exact := by decide +kernel
  have hS : va_S (hp_A base) s.heap s.heap [] := va_S.rf
  have hl := lv_entry ([.ref qm, .int x, .int l0]) (n := 4) (Nat.le_of_ble_eq_true rfl)
  rw [lg_entry_eq]
  generalize (lg_sl ([.ref qm, .int x, .int l0]) ++ List.replicate (4 - (lg_sl ([.ref qm, .int x, .int l0])).length) Slot.unset).toArray = ls at hl ⊢
  have hl : lv_has ls 4 [(0, .ref qm), (1, .int x), (2, .int l0)] := hl
  refine lv_aload_n hx hb dX2_exact_0 rfl (lv_at hl 0 rfl) ?_
  refine lv_iconst (v := 0) hx hb dX2_exact_1 (by decide) ?_
  refine hp_put (ci := 2) (v := .int 0) (C := RX2) (T := TX2) (N := 8) hx hb hts hin2 tyX2 tyX2_ok nmX2 hown C0 hf hS hm rfl 0 (by decide) (hts (.fieldLink RX2 25 "RouteTrieModel" "code" "I") (by decide +kernel)) (fun _ h9 => h9) rfl rfl rfl (Nat.le_of_ble_eq_true rfl) dX2_exact_2 (fun f_1 H locs ef_1 hf hS => ?_)
  have hc_1 : f_1 qm = some (.inr (2, [.int 0, .ref ab, .ref al, .ref ah, .int (nI n), .ref nb, .ref nl, .int nc])) := by rw [ef_1]; exact va_up_self _ _ _
  have hc_1_ab : f_1 ab = some (.inl (cy, 500, .inl B)) := by rw [ef_1, va_up_ne _ _ (hp_dif hB hm (by simp))]; exact hB
  have hc_1_al : f_1 al = some (.inl (cy, 500, .inl L)) := by rw [ef_1, va_up_ne _ _ (hp_dif hL hm (by simp))]; exact hL
  have hc_1_ah : f_1 ah = some (.inl (cy, 500, .inl Hh)) := by rw [ef_1, va_up_ne _ _ (hp_dif hH hm (by simp))]; exact hH
  refine lv_aload_n hx hb dX2_exact_5 rfl (lv_at hl 0 rfl) ?_
  refine lv_iload_n hx hb dX2_exact_6 rfl (lv_at hl 1 rfl) ?_
  refine lv_iload_n hx hb dX2_exact_7 rfl (lv_at hl 2 rfl) ?_
  refine hp_ki (hp_rV (C := RX2) (As := [.int x, .int l0]) (rest := []) ⟨hx, hb, hml, hown, hts⟩ C0 hf hS (c_X2_find l D cy base f_1 qm ab al ah nb nl 0 nc n B L Hh NB NL x l0 hc_1 hc_1_ab hc_1_al hc_1_ah hn) (cwV 2 hts gX2_exact_X2_find rfl rfl rfl (by decide +kernel) ⟨Nat.le_of_ble_eq_true rfl, Nat.le_of_ble_eq_true rfl⟩) hc_1 rfl rfl hl.1 rfl (Nat.le_of_ble_eq_true rfl) dX2_exact_8 ⟨Nat.le_of_ble_eq_true rfl, Nat.le_of_ble_eq_true rfl⟩) hS (fun r_2 u_2 H locs hq_2 hf hS => ?_)
  obtain ⟨hr_2, hu⟩ := hq_2
  rw [hu] at hf
  refine lv_istore_n (lv' := [(3, .int r_2), (0, .ref qm), (1, .int x), (2, .int l0)]) hx hb dX2_exact_11 rfl hl (by decide) rfl (fun ls hl => ?_)
  refine lv_iload_n hx hb dX2_exact_12 rfl (lv_at hl 0 rfl) ?_
  refine lv_iconst (v := (-1)) hx hb dX2_exact_13 (by decide) ?_
  refine lv_icmp_ne (tgt := 21) hx hb dX2_exact_14 (by decide) (fun h14 => ?_) (fun h14 => ?_)
  · obtain ⟨i, hi1, rfl, hi2, hi3⟩ := hr_2.elim id (fun g => absurd g.1 h14)
    refine lv_aload_n hx hb dX2_exact_21 rfl (lv_at hl 1 rfl) ?_
    refine hp_get (ci := 2) (v := .ref ah) (C := RX2) (T := TX2) (N := 8) hx hb hts hin2 hown C0 hf hc_1 rfl 3 (by decide) (hts (.fieldLink RX2 16 "RouteTrieModel" "hops" "[I") (by decide +kernel)) (fun _ h9 => h9) rfl dX2_exact_22 ?_
    refine lv_iload_n hx hb dX2_exact_25 rfl (lv_at hl 0 rfl) ?_
    refine hp_iald (n := 500) (g := Hh) hx hb C0 hf hc_1_ah (vp_in_nI (n := i) (N := 500) (by omega) (by omega)) dX2_exact_26 ?_
    rw [nI_clamp (n := i) (by omega)]
    exact hp_iret (v := (Hh i)) hx hb hr hlocks C0 hf hS (by first | exact Nat.le_refl _ | omega) (by first | exact Nat.le_refl _ | omega) dX2_exact_27 (⟨Or.inl ⟨i, hi1, rfl, hi2, hi3⟩, ef_1⟩)
  · refine lv_iconst (v := (-1)) hx hb dX2_exact_17 (by decide) ?_
    refine lv_goto (tgt := 27) hx hb dX2_exact_18 (by decide) ?_
    exact hp_iret (v := (-1)) hx hb hr hlocks C0 hf hS (by first | exact Nat.le_refl _ | omega) (by first | exact Nat.le_refl _ | omega) dX2_exact_27 (⟨hr_2.elim (fun ⟨i, a1, a2, _, _⟩ => absurd (a2.symm.trans h14) (nI_m1 (by omega))) (fun g => Or.inr ⟨rfl, g.2⟩), ef_1⟩)
set_option maxHeartbeats 4000000 in
set_option maxRecDepth 100000 in
theorem c_X2_count (l : Launch) (D : va_G) (cy : ClassId) (base : Nat) (f : AH) (qm ab al ah nb nl : Nat) (cd nc : Int32) (n : Nat) (B L Hh NB NL : Nat → Int32) (hm : f qm = some (mdO cd ab al ah (nI n) nb nl nc)) (hB : f ab = some (arO cy 500 B)) (hL : f al = some (arO cy 500 L)) (hH : f ah = some (arO cy 500 Hh)) (hn : n ≤ 500) : Met l yX2_count wsX2_count ({ frames := 0, cells := 0, slots := 0, locals := 0 }) (va_Pc [.ref qm] (hp_B D cy base f)) (va_Qi (fun (r : Int32) (u : AH) => r = nI n ∧ u = va_up f qm (some (mdO 0 ab al ah (nI n) nb nl nc))) (hp_B D cy base) (hp_A base)) 0 0 (hp_A base) := by
  refine Met.ofW (cc := cX2_count) (maxL := 1) (ret := (some .int)) (by decide) rfl ?_
  intro p e s m args below meth c s₁ Bd hml hv
  obtain ⟨rfl, hf, C0⟩ := hv
  have hx := Bd.exec
  have hb := Bd.bytes
  have hr := Bd.returns
  have hts := atoms_spec (ws := wsX2_count) Bd.pre
  have hown : s.vm.findClass RX2 = some m.cls := findClass_of_methodNamed Bd.named
  have hlocks := Bd.notSynchronized
  have hin2 : ∀ w ∈ wsX20, w ∈ wsX2_count := by decide +kernel
  have hS : va_S (hp_A base) s.heap s.heap [] := va_S.rf
  have hl := lv_entry ([.ref qm]) (n := 1) (Nat.le_of_ble_eq_true rfl)
  rw [lg_entry_eq]
  generalize (lg_sl ([.ref qm]) ++ List.replicate (1 - (lg_sl ([.ref qm])).length) Slot.unset).toArray = ls at hl ⊢
  have hl : lv_has ls 1 [(0, .ref qm)] := hl
  refine lv_aload_n hx hb dX2_count_0 rfl (lv_at hl 0 rfl) ?_
  refine lv_iconst (v := 0) hx hb dX2_count_1 (by decide) ?_
  refine hp_put (ci := 2) (v := .int 0) (C := RX2) (T := TX2) (N := 8) hx hb hts hin2 tyX2 tyX2_ok nmX2 hown C0 hf hS hm rfl 0 (by decide) (hts (.fieldLink RX2 25 "RouteTrieModel" "code" "I") (by decide +kernel)) (fun _ h9 => h9) rfl rfl rfl (Nat.le_of_ble_eq_true rfl) dX2_count_2 (fun f_1 H locs ef_1 hf hS => ?_)
  have hc_1 : f_1 qm = some (.inr (2, [.int 0, .ref ab, .ref al, .ref ah, .int (nI n), .ref nb, .ref nl, .int nc])) := by rw [ef_1]; exact va_up_self _ _ _
  have hc_1_ab : f_1 ab = some (.inl (cy, 500, .inl B)) := by rw [ef_1, va_up_ne _ _ (hp_dif hB hm (by simp))]; exact hB
  have hc_1_al : f_1 al = some (.inl (cy, 500, .inl L)) := by rw [ef_1, va_up_ne _ _ (hp_dif hL hm (by simp))]; exact hL
  have hc_1_ah : f_1 ah = some (.inl (cy, 500, .inl Hh)) := by rw [ef_1, va_up_ne _ _ (hp_dif hH hm (by simp))]; exact hH
  refine lv_aload_n hx hb dX2_count_5 rfl (lv_at hl 0 rfl) ?_
  refine hp_get (ci := 2) (v := .int (nI n)) (C := RX2) (T := TX2) (N := 8) hx hb hts hin2 hown C0 hf hc_1 rfl 4 (by decide) (hts (.fieldLink RX2 29 "RouteTrieModel" "size" "I") (by decide +kernel)) (fun _ h9 => h9) rfl dX2_count_6 ?_
  exact hp_iret (v := nI n) hx hb hr hlocks C0 hf hS (by first | exact Nat.le_refl _ | omega) (by first | exact Nat.le_refl _ | omega) dX2_count_9 (⟨rfl, ef_1⟩)
set_option maxHeartbeats 4000000 in
set_option maxRecDepth 100000 in
theorem c_X2_init_ (l : Launch) (D : va_G) (cy : ClassId) (base : Nat) (f : AH) (qm ab al ah nb nl : Nat) (cd nc : Int32) (n : Nat) (B L Hh NB NL : Nat → Int32) (hm : f qm = some (mdO cd ab al ah (nI n) nb nl nc)) (hB : f ab = some (arO cy 500 B)) (hL : f al = some (arO cy 500 L)) (hH : f ah = some (arO cy 500 Hh)) (hn : n ≤ 500) : Met l yX2_init_ wsX2_init_ ({ frames := 0, cells := 0, slots := 0, locals := 0 }) (va_Pc [.ref qm] (hp_B D cy base f)) (va_Qv (fun (u : AH) => u = va_up f qm (some (mdO 0 ab al ah 0 nb nl nc))) (hp_B D cy base) (hp_A base)) 0 0 (hp_A base) := by
  refine Met.ofW (cc := cX2_init_) (maxL := 1) (ret := none) (by decide) rfl ?_
  intro p e s m args below meth c s₁ Bd hml hv
  obtain ⟨rfl, hf, C0⟩ := hv
  have hx := Bd.exec
  have hb := Bd.bytes
  have hr := Bd.returns
  have hts := atoms_spec (ws := wsX2_init_) Bd.pre
  have hown : s.vm.findClass RX2 = some m.cls := findClass_of_methodNamed Bd.named
  have hlocks := Bd.notSynchronized
  have hin2 : ∀ w ∈ wsX20, w ∈ wsX2_init_ := by decide +kernel
  have hS : va_S (hp_A base) s.heap s.heap [] := va_S.rf
  have hl := lv_entry ([.ref qm]) (n := 1) (Nat.le_of_ble_eq_true rfl)
  rw [lg_entry_eq]
  generalize (lg_sl ([.ref qm]) ++ List.replicate (1 - (lg_sl ([.ref qm])).length) Slot.unset).toArray = ls at hl ⊢
  have hl : lv_has ls 1 [(0, .ref qm)] := hl
  refine lv_aload_n hx hb dX2_init__0 rfl (lv_at hl 0 rfl) ?_
  refine lv_iconst (v := 0) hx hb dX2_init__1 (by decide) ?_
  refine hp_put (ci := 2) (v := .int 0) (C := RX2) (T := TX2) (N := 8) hx hb hts hin2 tyX2 tyX2_ok nmX2 hown C0 hf hS hm rfl 0 (by decide) (hts (.fieldLink RX2 25 "RouteTrieModel" "code" "I") (by decide +kernel)) (fun _ h9 => h9) rfl rfl rfl (Nat.le_of_ble_eq_true rfl) dX2_init__2 (fun f_1 H locs ef_1 hf hS => ?_)
  have hc_1 : f_1 qm = some (.inr (2, [.int 0, .ref ab, .ref al, .ref ah, .int (nI n), .ref nb, .ref nl, .int nc])) := by rw [ef_1]; exact va_up_self _ _ _
  have hc_1_ab : f_1 ab = some (.inl (cy, 500, .inl B)) := by rw [ef_1, va_up_ne _ _ (hp_dif hB hm (by simp))]; exact hB
  have hc_1_al : f_1 al = some (.inl (cy, 500, .inl L)) := by rw [ef_1, va_up_ne _ _ (hp_dif hL hm (by simp))]; exact hL
  have hc_1_ah : f_1 ah = some (.inl (cy, 500, .inl Hh)) := by rw [ef_1, va_up_ne _ _ (hp_dif hH hm (by simp))]; exact hH
  refine lv_aload_n hx hb dX2_init__5 rfl (lv_at hl 0 rfl) ?_
  refine lv_iconst (v := 0) hx hb dX2_init__6 (by decide) ?_
  refine hp_put (ci := 2) (v := .int 0) (C := RX2) (T := TX2) (N := 8) hx hb hts hin2 tyX2 tyX2_ok nmX2 hown C0 hf hS hc_1 rfl 4 (by decide) (hts (.fieldLink RX2 29 "RouteTrieModel" "size" "I") (by decide +kernel)) (fun _ h9 => h9) rfl rfl rfl (Nat.le_of_ble_eq_true rfl) dX2_init__7 (fun f_2 H locs ef_2 hf hS => ?_)
  have hc_2 : f_2 qm = some (.inr (2, [.int 0, .ref ab, .ref al, .ref ah, .int 0, .ref nb, .ref nl, .int nc])) := by rw [ef_2]; exact va_up_self _ _ _
  have hc_2_ab : f_2 ab = some (.inl (cy, 500, .inl B)) := by rw [ef_2, va_up_ne _ _ (hp_dif hc_1_ab hc_1 (by simp))]; exact hc_1_ab
  have hc_2_al : f_2 al = some (.inl (cy, 500, .inl L)) := by rw [ef_2, va_up_ne _ _ (hp_dif hc_1_al hc_1 (by simp))]; exact hc_1_al
  have hc_2_ah : f_2 ah = some (.inl (cy, 500, .inl Hh)) := by rw [ef_2, va_up_ne _ _ (hp_dif hc_1_ah hc_1 (by simp))]; exact hc_1_ah
  exact hp_vret hx hb hr hlocks C0 hf hS (by first | exact Nat.le_refl _ | omega) (by first | exact Nat.le_refl _ | omega) dX2_init__10 (by rw [ef_2, ef_1, bx_uu]; rfl)
set_option maxHeartbeats 4000000 in
set_option maxRecDepth 100000 in
theorem c_X2_route (l : Launch) (D : va_G) (cy : ClassId) (base : Nat) (f : AH) (qm ab al ah nb nl : Nat) (cd nc : Int32) (n : Nat) (B L Hh NB NL : Nat → Int32) (k w : Int32) (hm : f qm = some (mdO cd ab al ah (nI n) nb nl nc)) (hB : f ab = some (arO cy 500 B)) (hL : f al = some (arO cy 500 L)) (hH : f ah = some (arO cy 500 Hh)) (hn : n ≤ 500) : Met l yX2_route wsX2_route ({ frames := 0, cells := 0, slots := 0, locals := 0 }) (va_Pc [.ref qm, .int k, .int w] (hp_B D cy base f)) (va_Qi (fun (r : Int32) (u : AH) => (((k < 0 ∨ nI n ≤ k) ∧ r = 0) ∨ ∃ i : Nat, i < n ∧ k = nI i ∧ r = if w = 0 then B i else if w = 1 then L i else if w = 2 then Hh i else 0) ∧ u = va_up f qm (some (mdO 0 ab al ah (nI n) nb nl nc))) (hp_B D cy base) (hp_A base)) 0 0 (hp_A base) := by
  refine Met.ofW (cc := cX2_route) (maxL := 3) (ret := (some .int)) (by decide) rfl ?_
  intro p e s m args below meth c s₁ Bd hml hv
  obtain ⟨rfl, hf, C0⟩ := hv
  have hx := Bd.exec
  have hb := Bd.bytes
  have hr := Bd.returns
  have hts := atoms_spec (ws := wsX2_route) Bd.pre
  have hown : s.vm.findClass RX2 = some m.cls := findClass_of_methodNamed Bd.named
  have hlocks := Bd.notSynchronized
  have hin2 : ∀ w ∈ wsX20, w ∈ wsX2_route := by decide +kernel
  have hS : va_S (hp_A base) s.heap s.heap [] := va_S.rf
  have hl := lv_entry ([.ref qm, .int k, .int w]) (n := 3) (Nat.le_of_ble_eq_true rfl)
  rw [lg_entry_eq]
  generalize (lg_sl ([.ref qm, .int k, .int w]) ++ List.replicate (3 - (lg_sl ([.ref qm, .int k, .int w])).length) Slot.unset).toArray = ls at hl ⊢
  have hl : lv_has ls 3 [(0, .ref qm), (1, .int k), (2, .int w)] := hl
  refine lv_aload_n hx hb dX2_route_0 rfl (lv_at hl 0 rfl) ?_
  refine lv_iconst (v := 0) hx hb dX2_route_1 (by decide) ?_
  refine hp_put (ci := 2) (v := .int 0) (C := RX2) (T := TX2) (N := 8) hx hb hts hin2 tyX2 tyX2_ok nmX2 hown C0 hf hS hm rfl 0 (by decide) (hts (.fieldLink RX2 25 "RouteTrieModel" "code" "I") (by decide +kernel)) (fun _ h9 => h9) rfl rfl rfl (Nat.le_of_ble_eq_true rfl) dX2_route_2 (fun f_1 H locs ef_1 hf hS => ?_)
  have hc_1 : f_1 qm = some (.inr (2, [.int 0, .ref ab, .ref al, .ref ah, .int (nI n), .ref nb, .ref nl, .int nc])) := by rw [ef_1]; exact va_up_self _ _ _
  have hc_1_ab : f_1 ab = some (.inl (cy, 500, .inl B)) := by rw [ef_1, va_up_ne _ _ (hp_dif hB hm (by simp))]; exact hB
  have hc_1_al : f_1 al = some (.inl (cy, 500, .inl L)) := by rw [ef_1, va_up_ne _ _ (hp_dif hL hm (by simp))]; exact hL
  have hc_1_ah : f_1 ah = some (.inl (cy, 500, .inl Hh)) := by rw [ef_1, va_up_ne _ _ (hp_dif hH hm (by simp))]; exact hH
  refine lv_iload_n hx hb dX2_route_5 rfl (lv_at hl 1 rfl) ?_
  refine lv_if_lt (tgt := 17) hx hb dX2_route_6 (by decide) (fun h6 => ?_) (fun h6 => ?_)
  · refine lv_iconst (v := 0) hx hb dX2_route_17 (by decide) ?_
    exact hp_iret (v := 0) hx hb hr hlocks C0 hf hS (by first | exact Nat.le_refl _ | omega) (by first | exact Nat.le_refl _ | omega) dX2_route_18 (⟨Or.inl ⟨Or.inl h6, rfl⟩, ef_1⟩)
  · refine lv_iload_n hx hb dX2_route_9 rfl (lv_at hl 1 rfl) ?_
    refine lv_aload_n hx hb dX2_route_10 rfl (lv_at hl 0 rfl) ?_
    refine hp_get (ci := 2) (v := .int (nI n)) (C := RX2) (T := TX2) (N := 8) hx hb hts hin2 hown C0 hf hc_1 rfl 4 (by decide) (hts (.fieldLink RX2 29 "RouteTrieModel" "size" "I") (by decide +kernel)) (fun _ h9 => h9) rfl dX2_route_11 ?_
    refine lv_icmp_lt (tgt := 19) hx hb dX2_route_14 (by decide) (fun h14 => ?_) (fun h14 => ?_)
    · obtain ⟨i, hi, rfl⟩ := nI_of h6
      have hin : i < n := (nI_ltI (by omega) (by omega)).mp h14
      refine lv_iload_n hx hb dX2_route_19 rfl (lv_at hl 2 rfl) ?_
      refine lv_if_ne (tgt := 32) hx hb dX2_route_20 (by decide) (fun h20 => ?_) (fun h20 => ?_)
      · refine lv_iload_n hx hb dX2_route_32 rfl (lv_at hl 2 rfl) ?_
        refine lv_iconst (v := 1) hx hb dX2_route_33 (by decide) ?_
        refine lv_icmp_ne (tgt := 46) hx hb dX2_route_34 (by decide) (fun h34 => ?_) (fun h34 => ?_)
        · refine lv_iload_n hx hb dX2_route_46 rfl (lv_at hl 2 rfl) ?_
          refine lv_iconst (v := 2) hx hb dX2_route_47 (by decide) ?_
          refine lv_icmp_ne (tgt := 60) hx hb dX2_route_48 (by decide) (fun h48 => ?_) (fun h48 => ?_)
          · refine lv_iconst (v := 0) hx hb dX2_route_60 (by decide) ?_
            exact hp_iret (v := 0) hx hb hr hlocks C0 hf hS (by first | exact Nat.le_refl _ | omega) (by first | exact Nat.le_refl _ | omega) dX2_route_61 (⟨Or.inr ⟨i, hin, rfl, by rw [if_neg h20, if_neg h34, if_neg h48]⟩, ef_1⟩)
          · refine lv_aload_n hx hb dX2_route_51 rfl (lv_at hl 0 rfl) ?_
            refine hp_get (ci := 2) (v := .ref ah) (C := RX2) (T := TX2) (N := 8) hx hb hts hin2 hown C0 hf hc_1 rfl 3 (by decide) (hts (.fieldLink RX2 16 "RouteTrieModel" "hops" "[I") (by decide +kernel)) (fun _ h9 => h9) rfl dX2_route_52 ?_
            refine lv_iload_n hx hb dX2_route_55 rfl (lv_at hl 1 rfl) ?_
            refine hp_iald (n := 500) (g := Hh) hx hb C0 hf hc_1_ah (vp_in_nI (n := i) (N := 500) (by omega) (by omega)) dX2_route_56 ?_
            rw [nI_clamp (n := i) (by omega)]
            refine lv_goto (tgt := 61) hx hb dX2_route_57 (by decide) ?_
            exact hp_iret (v := (Hh i)) hx hb hr hlocks C0 hf hS (by first | exact Nat.le_refl _ | omega) (by first | exact Nat.le_refl _ | omega) dX2_route_61 (⟨Or.inr ⟨i, hin, rfl, by rw [if_neg h20, if_neg h34, if_pos h48]⟩, ef_1⟩)
        · refine lv_aload_n hx hb dX2_route_37 rfl (lv_at hl 0 rfl) ?_
          refine hp_get (ci := 2) (v := .ref al) (C := RX2) (T := TX2) (N := 8) hx hb hts hin2 hown C0 hf hc_1 rfl 2 (by decide) (hts (.fieldLink RX2 13 "RouteTrieModel" "lengths" "[I") (by decide +kernel)) (fun _ h9 => h9) rfl dX2_route_38 ?_
          refine lv_iload_n hx hb dX2_route_41 rfl (lv_at hl 1 rfl) ?_
          refine hp_iald (n := 500) (g := L) hx hb C0 hf hc_1_al (vp_in_nI (n := i) (N := 500) (by omega) (by omega)) dX2_route_42 ?_
          rw [nI_clamp (n := i) (by omega)]
          refine lv_goto (tgt := 61) hx hb dX2_route_43 (by decide) ?_
          exact hp_iret (v := (L i)) hx hb hr hlocks C0 hf hS (by first | exact Nat.le_refl _ | omega) (by first | exact Nat.le_refl _ | omega) dX2_route_61 (⟨Or.inr ⟨i, hin, rfl, by rw [if_neg h20, if_pos h34]⟩, ef_1⟩)
      · refine lv_aload_n hx hb dX2_route_23 rfl (lv_at hl 0 rfl) ?_
        refine hp_get (ci := 2) (v := .ref ab) (C := RX2) (T := TX2) (N := 8) hx hb hts hin2 hown C0 hf hc_1 rfl 1 (by decide) (hts (.fieldLink RX2 7 "RouteTrieModel" "bits" "[I") (by decide +kernel)) (fun _ h9 => h9) rfl dX2_route_24 ?_
        refine lv_iload_n hx hb dX2_route_27 rfl (lv_at hl 1 rfl) ?_
        refine hp_iald (n := 500) (g := B) hx hb C0 hf hc_1_ab (vp_in_nI (n := i) (N := 500) (by omega) (by omega)) dX2_route_28 ?_
        rw [nI_clamp (n := i) (by omega)]
        refine lv_goto (tgt := 61) hx hb dX2_route_29 (by decide) ?_
        exact hp_iret (v := (B i)) hx hb hr hlocks C0 hf hS (by first | exact Nat.le_refl _ | omega) (by first | exact Nat.le_refl _ | omega) dX2_route_61 (⟨Or.inr ⟨i, hin, rfl, by rw [if_pos h20]⟩, ef_1⟩)
    · refine lv_iconst (v := 0) hx hb dX2_route_17 (by decide) ?_
      exact hp_iret (v := 0) hx hb hr hlocks C0 hf hS (by first | exact Nat.le_refl _ | omega) (by first | exact Nat.le_refl _ | omega) dX2_route_18 (⟨Or.inl ⟨Or.inr (Int32.not_lt.mp h14), rfl⟩, ef_1⟩)
set_option maxHeartbeats 4000000 in
set_option maxRecDepth 100000 in
theorem c_X2_under (l : Launch) (D : va_G) (cy : ClassId) (base : Nat) (f : AH) (qm ab al ah nb nl : Nat) (cd nc : Int32) (n : Nat) (B L Hh NB NL : Nat → Int32) (x l0 : Int32) (hm : f qm = some (mdO cd ab al ah (nI n) nb nl nc)) (hB : f ab = some (arO cy 500 B)) (hL : f al = some (arO cy 500 L)) (hH : f ah = some (arO cy 500 Hh)) (hn : n ≤ 500) : Met l yX2_under wsX2_under ({ frames := 2, cells := 0, slots := 0, locals := 42 }) (va_Pc [.ref qm, .int x, .int l0] (hp_B D cy base f)) (va_Qi (fun (r : Int32) (u : AH) => (((¬ okP x l0) ∧ r = -1) ∨ (okP x l0 ∧ r = nI ((List.range n).countP (fun j => decide (l0 ≤ L j) && (B j &&& mskI l0 == x))))) ∧ u = va_up f qm (some (mdO 0 ab al ah (nI n) nb nl nc))) (hp_B D cy base) (hp_A base)) 0 0 (hp_A base) := by
  refine Met.ofW (cc := cX2_under) (maxL := 5) (ret := (some .int)) (by decide) rfl ?_
  intro p e s m args below meth c s₁ Bd hml hv
  obtain ⟨rfl, hf, C0⟩ := hv
  have hx := Bd.exec
  have hb := Bd.bytes
  have hr := Bd.returns
  have hts := atoms_spec (ws := wsX2_under) Bd.pre
  have hown : s.vm.findClass RX2 = some m.cls := findClass_of_methodNamed Bd.named
  have hlocks := Bd.notSynchronized
  have hin2 : ∀ w ∈ wsX20, w ∈ wsX2_under := by decide +kernel
  have hS : va_S (hp_A base) s.heap s.heap [] := va_S.rf
  have hl := lv_entry ([.ref qm, .int x, .int l0]) (n := 5) (Nat.le_of_ble_eq_true rfl)
  rw [lg_entry_eq]
  generalize (lg_sl ([.ref qm, .int x, .int l0]) ++ List.replicate (5 - (lg_sl ([.ref qm, .int x, .int l0])).length) Slot.unset).toArray = ls at hl ⊢
  have hl : lv_has ls 5 [(0, .ref qm), (1, .int x), (2, .int l0)] := hl
  have loop : ∀ (k j : Nat) (fc : AH) (ls : Array Slot) (H : Heap) (locs : List Loc), okP x l0 → fc = va_up f qm (some (mdO 0 ab al ah (nI n) nb nl nc)) → fc qm = some (mdO 0 ab al ah (nI n) nb nl nc) → fc ab = some (arO cy 500 B) → fc al = some (arO cy 500 L) → fc ah = some (arO cy 500 Hh) → j ≤ n → n + 1 ≤ j + k → hp_ok D base fc H → va_S (hp_A base) s.heap H locs → lv_has ls 5 [(0, .ref qm), (1, .int x), (2, .int l0), (3, .int (nI ((List.range j).countP (fun j => decide (l0 ≤ L j) && (B j &&& mskI l0 == x))))), (4, .int (nI j))] → W p l e (headSpec wsX2_under ({ frames := 2, cells := 0, slots := 0, locals := 42 } : Room)).room s m #[Value.ref qm, Value.int x, Value.int l0] below meth c H locs 0 0 (MQ below (va_Qi (fun (r : Int32) (u : AH) => (((¬ okP x l0) ∧ r = -1) ∨ (okP x l0 ∧ r = nI ((List.range n).countP (fun j => decide (l0 ≤ L j) && (B j &&& mskI l0 == x))))) ∧ u = va_up f qm (some (mdO 0 ab al ah (nI n) nb nl nc))) (hp_B D cy base) (hp_A base)) #[Value.ref qm, Value.int x, Value.int l0] s 0 0 (hp_A base)) (F0 m 20 ls []) := by
    intro k
    induction k with
    | zero => intro j _ _ _ _ _ _ _ _ _ _ h1 h2; exact absurd h2 (by omega)
    | succ k ih =>
      intro j fc ls H locs hok efc hm hB hL hH hj hk hf hS hl
      refine lv_iload hx hb dX2_under_20 (lv_at hl 4 rfl) ?_
      refine lv_aload_n hx hb dX2_under_22 rfl (lv_at hl 0 rfl) ?_
      refine hp_get (ci := 2) (v := .int (nI n)) (C := RX2) (T := TX2) (N := 8) hx hb hts hin2 hown C0 hf hm rfl 4 (by decide) (hts (.fieldLink RX2 29 "RouteTrieModel" "size" "I") (by decide +kernel)) (fun _ h9 => h9) rfl dX2_under_23 ?_
      refine lv_icmp_ge (tgt := 69) hx hb dX2_under_26 (by decide) (fun h26 => ?_) (fun h26 => ?_)
      · have hjn : j = n := by have := (nI_leI (by omega) (by omega)).mp h26; omega
        subst hjn
        refine lv_iload_n hx hb dX2_under_69 rfl (lv_at hl 3 rfl) ?_
        exact hp_iret (v := nI ((List.range j).countP (fun j => decide (l0 ≤ L j) && (B j &&& mskI l0 == x)))) hx hb hr hlocks C0 hf hS (by first | exact Nat.le_refl _ | omega) (by first | exact Nat.le_refl _ | omega) dX2_under_70 (⟨Or.inr ⟨hok, rfl⟩, efc⟩)
      · have hjn : j < n := Nat.not_le.mp (fun q => h26 ((nI_leI (by omega) (by omega)).mpr q))
        refine lv_iload_n hx hb dX2_under_29 rfl (lv_at hl 3 rfl) ?_
        refine lv_aload_n hx hb dX2_under_30 rfl (lv_at hl 0 rfl) ?_
        refine hp_get (ci := 2) (v := .ref al) (C := RX2) (T := TX2) (N := 8) hx hb hts hin2 hown C0 hf hm rfl 2 (by decide) (hts (.fieldLink RX2 13 "RouteTrieModel" "lengths" "[I") (by decide +kernel)) (fun _ h9 => h9) rfl dX2_under_31 ?_
        refine lv_iload hx hb dX2_under_34 (lv_at hl 4 rfl) ?_
        refine hp_iald (n := 500) (g := L) hx hb C0 hf hL (vp_in_nI (n := j) (N := 500) (by omega) (by omega)) dX2_under_36 ?_
        rw [nI_clamp (n := j) (by omega)]
        refine lv_iload_n hx hb dX2_under_37 rfl (lv_at hl 2 rfl) ?_
        refine lv_icmp_lt (tgt := 60) hx hb dX2_under_38 (by decide) (fun h38 => ?_) (fun h38 => ?_)
        · refine lv_iconst (v := 0) hx hb dX2_under_60 (by decide) ?_
          refine lv_iadd hx hb dX2_under_61 ?_
          refine lv_istore_n (lv' := [(3, .int ((nI ((List.range j).countP (fun j => decide (l0 ≤ L j) && (B j &&& mskI l0 == x)))) + 0)), (0, .ref qm), (1, .int x), (2, .int l0), (4, .int (nI j))]) hx hb dX2_under_62 rfl hl (by decide) rfl (fun ls hl => ?_)
          refine lv_iinc (v := ((nI j) + 1)) (lv' := [(4, .int ((nI j) + 1)), (3, .int ((nI ((List.range j).countP (fun j => decide (l0 ≤ L j) && (B j &&& mskI l0 == x)))) + 0)), (0, .ref qm), (1, .int x), (2, .int l0)]) hx hb dX2_under_63 hl (k := 4) rfl rfl (by decide) rfl (fun ls hl => ?_)
          refine lv_goto (tgt := 20) hx hb dX2_under_66 (by decide) ?_
          have hct : (List.range (j + 1)).countP (fun j => decide (l0 ≤ L j) && (B j &&& mskI l0 == x)) = (List.range j).countP (fun j => decide (l0 ≤ L j) && (B j &&& mskI l0 == x)) + 0 := by
            rw [List.range_succ, List.countP_append, List.countP_singleton, show (decide (l0 ≤ L j) && (B j &&& mskI l0 == x)) = false from by simp [Int32.not_le.mpr h38]]
            rfl
          rw [nI_1, show nI ((List.range j).countP (fun j => decide (l0 ≤ L j) && (B j &&& mskI l0 == x))) + 0 = nI ((List.range (j + 1)).countP (fun j => decide (l0 ≤ L j) && (B j &&& mskI l0 == x))) by rw [hct]; exact nI_add _ 0] at hl
          exact ih (j + 1) fc ls _ _ hok efc hm hB hL hH (by omega) (by omega) hf hS (lv_sub hl [2, 3, 4, 1, 0] rfl)
        · refine lv_aload_n hx hb dX2_under_41 rfl (lv_at hl 0 rfl) ?_
          refine hp_get (ci := 2) (v := .ref ab) (C := RX2) (T := TX2) (N := 8) hx hb hts hin2 hown C0 hf hm rfl 1 (by decide) (hts (.fieldLink RX2 7 "RouteTrieModel" "bits" "[I") (by decide +kernel)) (fun _ h9 => h9) rfl dX2_under_42 ?_
          refine lv_iload hx hb dX2_under_45 (lv_at hl 4 rfl) ?_
          refine hp_iald (n := 500) (g := B) hx hb C0 hf hB (vp_in_nI (n := j) (N := 500) (by omega) (by omega)) dX2_under_47 ?_
          rw [nI_clamp (n := j) (by omega)]
          refine lv_iload_n hx hb dX2_under_48 rfl (lv_at hl 1 rfl) ?_
          refine lv_iload_n hx hb dX2_under_49 rfl (lv_at hl 2 rfl) ?_
          refine hp_ki (hp_rS (As := [.int (B j), .int x, .int l0]) (rest := [.int (nI ((List.range j).countP (fun j => decide (l0 ≤ L j) && (B j &&& mskI l0 == x))))]) ⟨hx, hb, hml, hown, hts⟩ C0 hf hS (c_X2_begins l D cy base fc (B j) x l0) (va_cwS 3 hts gX2_under_X2_begins rfl rfl rfl (by decide +kernel) ⟨Nat.le_of_ble_eq_true rfl, Nat.le_of_ble_eq_true rfl⟩) rfl hl.1 rfl (Nat.le_of_ble_eq_true rfl) dX2_under_50 ⟨Nat.le_of_ble_eq_true rfl, Nat.le_of_ble_eq_true rfl⟩) hS (fun r_1 u_1 H locs hq_1 hf hS => ?_)
          obtain ⟨hr_1, hu⟩ := hq_1
          rw [hu] at hf
          have hbg : r_1 = 0 ↔ ¬ B j &&& mskI l0 = x := by rw [hr_1]; split <;> simp_all
          refine lv_if_eq (tgt := 60) hx hb dX2_under_53 (by decide) (fun h53 => ?_) (fun h53 => ?_)
          · refine lv_iconst (v := 0) hx hb dX2_under_60 (by decide) ?_
            refine lv_iadd hx hb dX2_under_61 ?_
            refine lv_istore_n (lv' := [(3, .int ((nI ((List.range j).countP (fun j => decide (l0 ≤ L j) && (B j &&& mskI l0 == x)))) + 0)), (0, .ref qm), (1, .int x), (2, .int l0), (4, .int (nI j))]) hx hb dX2_under_62 rfl hl (by decide) rfl (fun ls hl => ?_)
            refine lv_iinc (v := ((nI j) + 1)) (lv' := [(4, .int ((nI j) + 1)), (3, .int ((nI ((List.range j).countP (fun j => decide (l0 ≤ L j) && (B j &&& mskI l0 == x)))) + 0)), (0, .ref qm), (1, .int x), (2, .int l0)]) hx hb dX2_under_63 hl (k := 4) rfl rfl (by decide) rfl (fun ls hl => ?_)
            refine lv_goto (tgt := 20) hx hb dX2_under_66 (by decide) ?_
            have hct : (List.range (j + 1)).countP (fun j => decide (l0 ≤ L j) && (B j &&& mskI l0 == x)) = (List.range j).countP (fun j => decide (l0 ≤ L j) && (B j &&& mskI l0 == x)) + 0 := by
              rw [List.range_succ, List.countP_append, List.countP_singleton, show (decide (l0 ≤ L j) && (B j &&& mskI l0 == x)) = false from by simp [hbg.mp h53]]
              rfl
            rw [nI_1, show nI ((List.range j).countP (fun j => decide (l0 ≤ L j) && (B j &&& mskI l0 == x))) + 0 = nI ((List.range (j + 1)).countP (fun j => decide (l0 ≤ L j) && (B j &&& mskI l0 == x))) by rw [hct]; exact nI_add _ 0] at hl
            exact ih (j + 1) fc ls _ _ hok efc hm hB hL hH (by omega) (by omega) hf hS (lv_sub hl [2, 3, 4, 1, 0] rfl)
          · refine lv_iconst (v := 1) hx hb dX2_under_56 (by decide) ?_
            refine lv_goto (tgt := 61) hx hb dX2_under_57 (by decide) ?_
            refine lv_iadd hx hb dX2_under_61 ?_
            refine lv_istore_n (lv' := [(3, .int ((nI ((List.range j).countP (fun j => decide (l0 ≤ L j) && (B j &&& mskI l0 == x)))) + 1)), (0, .ref qm), (1, .int x), (2, .int l0), (4, .int (nI j))]) hx hb dX2_under_62 rfl hl (by decide) rfl (fun ls hl => ?_)
            refine lv_iinc (v := ((nI j) + 1)) (lv' := [(4, .int ((nI j) + 1)), (3, .int ((nI ((List.range j).countP (fun j => decide (l0 ≤ L j) && (B j &&& mskI l0 == x)))) + 1)), (0, .ref qm), (1, .int x), (2, .int l0)]) hx hb dX2_under_63 hl (k := 4) rfl rfl (by decide) rfl (fun ls hl => ?_)
            refine lv_goto (tgt := 20) hx hb dX2_under_66 (by decide) ?_
            have hct : (List.range (j + 1)).countP (fun j => decide (l0 ≤ L j) && (B j &&& mskI l0 == x)) = (List.range j).countP (fun j => decide (l0 ≤ L j) && (B j &&& mskI l0 == x)) + 1 := by
              rw [List.range_succ, List.countP_append, List.countP_singleton, show (decide (l0 ≤ L j) && (B j &&& mskI l0 == x)) = true from by simp [Int32.not_lt.mp h38, Classical.not_not.mp ((not_congr hbg).mp h53)]]
              rfl
            rw [nI_1, show nI ((List.range j).countP (fun j => decide (l0 ≤ L j) && (B j &&& mskI l0 == x))) + 1 = nI ((List.range (j + 1)).countP (fun j => decide (l0 ≤ L j) && (B j &&& mskI l0 == x))) by rw [hct]; exact nI_add _ 1] at hl
            exact ih (j + 1) fc ls _ _ hok efc hm hB hL hH (by omega) (by omega) hf hS (lv_sub hl [2, 3, 4, 1, 0] rfl)
  refine lv_aload_n hx hb dX2_under_0 rfl (lv_at hl 0 rfl) ?_
  refine lv_iconst (v := 0) hx hb dX2_under_1 (by decide) ?_
  refine hp_put (ci := 2) (v := .int 0) (C := RX2) (T := TX2) (N := 8) hx hb hts hin2 tyX2 tyX2_ok nmX2 hown C0 hf hS hm rfl 0 (by decide) (hts (.fieldLink RX2 25 "RouteTrieModel" "code" "I") (by decide +kernel)) (fun _ h9 => h9) rfl rfl rfl (Nat.le_of_ble_eq_true rfl) dX2_under_2 (fun f_1 H locs ef_1 hf hS => ?_)
  have hc_1 : f_1 qm = some (.inr (2, [.int 0, .ref ab, .ref al, .ref ah, .int (nI n), .ref nb, .ref nl, .int nc])) := by rw [ef_1]; exact va_up_self _ _ _
  have hc_1_ab : f_1 ab = some (.inl (cy, 500, .inl B)) := by rw [ef_1, va_up_ne _ _ (hp_dif hB hm (by simp))]; exact hB
  have hc_1_al : f_1 al = some (.inl (cy, 500, .inl L)) := by rw [ef_1, va_up_ne _ _ (hp_dif hL hm (by simp))]; exact hL
  have hc_1_ah : f_1 ah = some (.inl (cy, 500, .inl Hh)) := by rw [ef_1, va_up_ne _ _ (hp_dif hH hm (by simp))]; exact hH
  refine lv_iload_n hx hb dX2_under_5 rfl (lv_at hl 1 rfl) ?_
  refine lv_iload_n hx hb dX2_under_6 rfl (lv_at hl 2 rfl) ?_
  refine hp_ki (hp_rS (As := [.int x, .int l0]) (rest := []) ⟨hx, hb, hml, hown, hts⟩ C0 hf hS (c_X2_isPrefix l D cy base f_1 x l0) (va_cwS 2 hts gX2_under_X2_isPrefix rfl rfl rfl (by decide +kernel) ⟨Nat.le_of_ble_eq_true rfl, Nat.le_of_ble_eq_true rfl⟩) rfl hl.1 rfl (Nat.le_of_ble_eq_true rfl) dX2_under_7 ⟨Nat.le_of_ble_eq_true rfl, Nat.le_of_ble_eq_true rfl⟩) hS (fun r_2 u_2 H locs hq_2 hf hS => ?_)
  obtain ⟨hr_2, hu⟩ := hq_2
  rw [hu] at hf
  have hpf := ite1 hr_2
  refine lv_if_ne (tgt := 15) hx hb dX2_under_10 (by decide) (fun h10 => ?_) (fun h10 => ?_)
  · refine lv_iconst (v := 0) hx hb dX2_under_15 (by decide) ?_
    refine lv_istore_n (lv' := [(3, .int 0), (0, .ref qm), (1, .int x), (2, .int l0)]) hx hb dX2_under_16 rfl hl (by decide) rfl (fun ls hl => ?_)
    refine lv_iconst (v := 0) hx hb dX2_under_17 (by decide) ?_
    refine lv_istore (lv' := [(4, .int 0), (3, .int 0), (0, .ref qm), (1, .int x), (2, .int l0)]) hx hb dX2_under_18 hl (by decide) rfl (fun ls hl => ?_)
    exact loop (n + 1) 0 f_1 ls _ _ (hpf.mp h10) ef_1 hc_1 hc_1_ab hc_1_al hc_1_ah (by omega) (by omega) hf hS (lv_sub hl [2, 3, 4, 1, 0] rfl)
  · refine lv_iconst (v := (-1)) hx hb dX2_under_13 (by decide) ?_
    exact hp_iret (v := (-1)) hx hb hr hlocks C0 hf hS (by first | exact Nat.le_refl _ | omega) (by first | exact Nat.le_refl _ | omega) dX2_under_14 (⟨Or.inl ⟨(not_congr hpf).mp (fun z => z h10), rfl⟩, ef_1⟩)
