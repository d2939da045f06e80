/-! joined -/
theorem g1_n {n : Nat} {x : Int32} (hn : n < 32) : g1I (nI n) x ↔ bi x n = true := by rw [g1_bi (by omega)]; exact ⟨fun h => h.2, fun h => ⟨hn, h⟩⟩
set_option maxHeartbeats 4000000 in
set_option maxRecDepth 100000 in
theorem c_X1_joined_none (l : Launch) (D : va_G) (cy : ClassId) (base : Nat) (f : AH) (q fr : Nat)  : Met l yX1_joined wsX1_joined ({ frames := 4, cells := 1, slots := 6, locals := 58 }) (va_Pc [.ref q, .null, .ref fr] (hp_B D cy base f)) (va_Qq (fun (r : Option Nat) (u : AH) => r = some fr ∧ u = f) (hp_B D cy base) (hp_A base)) 1 6 (hp_A base) := by
  refine Met.ofW (cc := cX1_joined) (maxL := 5) (ret := (some (.object "RouteTrie$Node"))) (by decide) rfl ?_
  intro p e s m args below meth c s₁ B hml hv
  obtain ⟨rfl, hf, C0⟩ := hv
  have hx := B.exec
  have hb := B.bytes
  have hr := B.returns
  have hts := atoms_spec (ws := wsX1_joined) B.pre
  have hown : s.vm.findClass RX1 = some m.cls := findClass_of_methodNamed B.named
  have hlocks := B.notSynchronized
  have hS : va_S (hp_A base) s.heap s.heap [] := va_S.rf
  have hl := lv_entry ([.ref q, .null, .ref fr]) (n := 5) (Nat.le_of_ble_eq_true rfl)
  rw [lg_entry_eq]
  generalize (lg_sl ([.ref q, .null, .ref fr]) ++ List.replicate (5 - (lg_sl ([.ref q, .null, .ref fr])).length) Slot.unset).toArray = ls at hl ⊢
  have hl : lv_has ls 5 [(0, .ref q), (1, .null), (2, .ref fr)] := hl
  refine lv_aload_nN hx hb dX1_joined_0 rfl (lv_at hl 1 rfl) ?_
  refine lv_ifnonnullN hx hb dX1_joined_1 ?_
  refine lv_aload_n hx hb dX1_joined_4 rfl (lv_at hl 2 rfl) ?_
  exact hp_aret (r := some fr) hx hb hr hlocks C0 hf hS (by first | exact Nat.le_refl _ | omega) (by first | exact Nat.le_refl _ | omega) dX1_joined_5 (⟨rfl, rfl⟩)
set_option maxHeartbeats 4000000 in
set_option maxRecDepth 100000 in
theorem c_X1_joined_some (l : Launch) (D : va_G) (cy : ClassId) (base : Nat) (f : AH) (q root : Nat) (cnt : Int32) (c2 : Nat) (cb : Int32) (cl : Nat) (chh : Int32) (cr : Nat) (cz co : Option Nat) (fr : Nat) (xb : Int32) (xl : Nat) (xh xr : Int32) (hq : f q = some (trO root cnt)) (hc2 : f c2 = some (ndE cb (nI cl) chh (nI cr) cz co)) (hfr : f fr = some (ndE xb (nI xl) xh xr none none)) (hne : c2 ≠ fr) (hcl : cl ≤ 32) (hx0 : px xb xl) (hnb : ¬ (cl ≤ xl ∧ ag cb xb cl)) : Met l yX1_joined wsX1_joined ({ frames := 4, cells := 1, slots := 6, locals := 58 }) (va_Pc [.ref q, .ref c2, .ref fr] (hp_B D cy base f)) (va_Qq (fun (r : Option Nat) (u : AH) => ((xl < cl ∧ ag xb cb xl) ∧ r = some fr ∧ u = va_up f fr (some (ndE xb (nI xl) xh (nI (cr + 1)) (if bi cb xl = true then none else some c2) (if bi cb xl = true then some c2 else none)))) ∨ ∃ (k g : Nat), k < xl ∧ k < cl ∧ ag cb xb k ∧ (¬ bi cb k = bi xb k) ∧ r = some g ∧ f g = none ∧ g ≠ q ∧ u = va_up (va_up f q (some (trO root (cnt + 1)))) g (some (ndE (fb xb k) (nI k) (-1) (nI (cr + 1)) (if bi xb k = true then some c2 else some fr) (if bi xb k = true then some fr else some c2)))) (hp_B D cy base) (hp_A base)) 1 6 (hp_A base) := by
  refine Met.ofW (cc := cX1_joined) (maxL := 5) (ret := (some (.object "RouteTrie$Node"))) (by decide) rfl ?_
  intro p e s m args below meth c s₁ B hml hv
  obtain ⟨rfl, hf, C0⟩ := hv
  have hx := B.exec
  have hb := B.bytes
  have hr := B.returns
  have hts := atoms_spec (ws := wsX1_joined) B.pre
  have hown : s.vm.findClass RX1 = some m.cls := findClass_of_methodNamed B.named
  have hlocks := B.notSynchronized
  have hin0 : ∀ w ∈ wsX00, w ∈ wsX1_joined := by decide +kernel
  have hin1 : ∀ w ∈ wsX10, w ∈ wsX1_joined := by decide +kernel
  have hS : va_S (hp_A base) s.heap s.heap [] := va_S.rf
  have hl := lv_entry ([.ref q, .ref c2, .ref fr]) (n := 5) (Nat.le_of_ble_eq_true rfl)
  rw [lg_entry_eq]
  generalize (lg_sl ([.ref q, .ref c2, .ref fr]) ++ List.replicate (5 - (lg_sl ([.ref q, .ref c2, .ref fr])).length) Slot.unset).toArray = ls at hl ⊢
  have hl : lv_has ls 5 [(0, .ref q), (1, .ref c2), (2, .ref fr)] := hl
  refine lv_aload_n hx hb dX1_joined_0 rfl (lv_at hl 1 rfl) ?_
  refine lv_ifnonnull (tgt := 6) hx hb dX1_joined_1 (by decide) ?_
  refine lv_aload_n hx hb dX1_joined_6 rfl (lv_at hl 1 rfl) ?_
  refine lv_aload_n hx hb dX1_joined_7 rfl (lv_at hl 2 rfl) ?_
  refine hp_ki (hp_rS (As := [.ref c2, .ref fr]) (rest := []) ⟨hx, hb, hml, hown, hts⟩ C0 hf hS (c_X1_commonLength l D cy base f c2 fr cb cl chh (nI cr) cz co xb xl xh xr none none hcl hx0.1 hc2 hfr) (va_cwS 2 hts gX1_joined_X1_commonLength rfl rfl rfl (by decide +kernel) ⟨Nat.le_of_ble_eq_true rfl, Nat.le_of_ble_eq_true rfl⟩) rfl hl.1 rfl (Nat.le_of_ble_eq_true rfl) dX1_joined_8 ⟨Nat.le_of_ble_eq_true rfl, Nat.le_of_ble_eq_true rfl⟩) hS (fun r_1 u_1 H locs hq_1 hf hS => ?_)
  obtain ⟨⟨k, rfl, k1, k2, k3, k4⟩, hu⟩ := hq_1
  rw [hu] at hf
  have x32 := hx0.1
  refine lv_istore_n (lv' := [(3, .int (nI k)), (0, .ref q), (1, .ref c2), (2, .ref fr)]) hx hb dX1_joined_11 rfl hl (by decide) rfl (fun ls hl => ?_)
  refine lv_aload_n hx hb dX1_joined_12 rfl (lv_at hl 3 rfl) ?_
  refine lv_astore (lv' := [(4, .ref fr), (3, .int (nI k)), (0, .ref q), (1, .ref c2), (2, .ref fr)]) hx hb dX1_joined_13 hl (by decide) rfl (fun ls hl => ?_)
  refine lv_iload_n hx hb dX1_joined_15 rfl (lv_at hl 1 rfl) ?_
  refine lv_aload_n hx hb dX1_joined_16 rfl (lv_at hl 4 rfl) ?_
  refine hp_getN (ci := 0) (v := .int (nI xl)) (own := RX1) (ref := RX0) (host := RX1) (index := 53) (C := RX0) (T := TX0) (N := 6) hx hb hts hin0 hown C0 hf hfr rfl 1 (by decide) (by decide +kernel) (fun _ h9 => h9) rfl dX1_joined_17 ?_
  refine lv_icmp_ge (tgt := 45) hx hb dX1_joined_20 (by decide) (fun h20 => ?_) (fun h20 => ?_)
  · have hke : k = xl := by have := (nI_leI (a := xl) (b := k) (by omega) (by omega)).mp h20; omega
    subst hke
    have hlt : k < cl := by rcases Nat.lt_or_ge k cl with z | z; exact z; exact absurd ⟨z, ag_mono k3 z⟩ hnb
    refine lv_aload hx hb dX1_joined_45 (lv_at hl 0 rfl) ?_
    refine lv_aload_n hx hb dX1_joined_47 rfl (lv_at hl 3 rfl) ?_
    refine hp_kv (hp_rVN (C := RX0) (As := [.ref c2]) (rest := []) ⟨hx, hb, hml, hown, hts⟩ C0 hf hS (c_X0_hang l D cy base f fr xb (nI k) xh xr none none c2 cb (nI cl) chh (nI cr) cz co hfr hc2) ⟨va_cnB (host := RX1) (index := 99) 1 hts gX1_joined_X0_hang_n99 rfl rfl rfl (C0.2.2 _ (by decide +kernel)) (hts (.initialized RX0) (by decide +kernel)) (by decide +kernel) ⟨Nat.le_of_ble_eq_true rfl, Nat.le_of_ble_eq_true rfl⟩, hts (.instanceMethod yX0_hang) (by decide +kernel), hts (.selects RX0 yX0_hang yX0_hang) (by decide +kernel)⟩ hfr rfl rfl hl.1 rfl (Nat.le_of_ble_eq_true rfl) dX1_joined_48 ⟨Nat.le_of_ble_eq_true rfl, Nat.le_of_ble_eq_true rfl⟩) hS (fun u_2 H locs hq_2 hf hS => ?_)
    rcases hq_2 with ⟨dy, ey⟩ | ⟨dy, ey⟩
    · rw [g1_n (by omega)] at dy
      have ky_fr : u_2 fr = some (.inr (0, [.int xb, .int (nI k), .int xh, .int xr, .null, .ref c2])) := by rw [ey]; exact va_up_self _ _ _
      have ky_c2 : u_2 c2 = some (.inr (0, [.int cb, .int (nI cl), .int chh, .int (nI cr), va_rf cz, va_rf co])) := by rw [ey, va_up_ne _ _ hne]; exact hc2
      refine lv_aload hx hb dX1_joined_51 (lv_at hl 0 rfl) ?_
      refine lv_aload_n hx hb dX1_joined_53 rfl (lv_at hl 3 rfl) ?_
      refine hp_getN (ci := 0) (v := .int (nI cr)) (own := RX1) (ref := RX0) (host := RX1) (index := 25) (C := RX0) (T := TX0) (N := 6) hx hb hts hin0 hown C0 hf ky_c2 rfl 3 (by decide) (by decide +kernel) (fun _ h9 => h9) rfl dX1_joined_54 ?_
      refine lv_iconst (v := 1) hx hb dX1_joined_57 (by decide) ?_
      refine lv_iadd hx hb dX1_joined_58 ?_
      refine hp_putN (ci := 0) (v := .int ((nI cr) + 1)) (own := RX1) (ref := RX0) (host := RX1) (index := 25) (C := RX0) (T := TX0) (N := 6) hx hb hts hin0 tyX0 tyX0_ok nmX0 hown C0 hf hS ky_fr rfl 3 (by decide) (by decide +kernel) (fun _ h9 => h9) rfl rfl rfl (Nat.le_of_ble_eq_true rfl) dX1_joined_59 (fun f_3 H locs ef_3 hf hS => ?_)
      have hc_3 : f_3 fr = some (.inr (0, [.int xb, .int (nI k), .int xh, .int ((nI cr) + 1), .null, .ref c2])) := by rw [ef_3]; exact va_up_self _ _ _
      have hc_3_c2 : f_3 c2 = some (.inr (0, [.int cb, .int (nI cl), .int chh, .int (nI cr), va_rf cz, va_rf co])) := by rw [ef_3, va_up_ne _ _ hne]; exact ky_c2
      refine lv_aload hx hb dX1_joined_62 (lv_at hl 0 rfl) ?_
      exact hp_aret (r := some fr) hx hb hr hlocks C0 hf hS (by first | exact Nat.le_refl _ | omega) (by first | exact Nat.le_refl _ | omega) dX1_joined_64 (Or.inl ⟨⟨hlt, ag_sy k3⟩, rfl, by rw [ef_3, ey, bx_uu, if_pos dy, if_pos dy, nI_1]; rfl⟩)
    · rw [g1_n (by omega)] at dy
      have ky_fr : u_2 fr = some (.inr (0, [.int xb, .int (nI k), .int xh, .int xr, .ref c2, .null])) := by rw [ey]; exact va_up_self _ _ _
      have ky_c2 : u_2 c2 = some (.inr (0, [.int cb, .int (nI cl), .int chh, .int (nI cr), va_rf cz, va_rf co])) := by rw [ey, va_up_ne _ _ hne]; exact hc2
      refine lv_aload hx hb dX1_joined_51 (lv_at hl 0 rfl) ?_
      refine lv_aload_n hx hb dX1_joined_53 rfl (lv_at hl 3 rfl) ?_
      refine hp_getN (ci := 0) (v := .int (nI cr)) (own := RX1) (ref := RX0) (host := RX1) (index := 25) (C := RX0) (T := TX0) (N := 6) hx hb hts hin0 hown C0 hf ky_c2 rfl 3 (by decide) (by decide +kernel) (fun _ h9 => h9) rfl dX1_joined_54 ?_
      refine lv_iconst (v := 1) hx hb dX1_joined_57 (by decide) ?_
      refine lv_iadd hx hb dX1_joined_58 ?_
      refine hp_putN (ci := 0) (v := .int ((nI cr) + 1)) (own := RX1) (ref := RX0) (host := RX1) (index := 25) (C := RX0) (T := TX0) (N := 6) hx hb hts hin0 tyX0 tyX0_ok nmX0 hown C0 hf hS ky_fr rfl 3 (by decide) (by decide +kernel) (fun _ h9 => h9) rfl rfl rfl (Nat.le_of_ble_eq_true rfl) dX1_joined_59 (fun f_4 H locs ef_4 hf hS => ?_)
      have hc_4 : f_4 fr = some (.inr (0, [.int xb, .int (nI k), .int xh, .int ((nI cr) + 1), .ref c2, .null])) := by rw [ef_4]; exact va_up_self _ _ _
      have hc_4_c2 : f_4 c2 = some (.inr (0, [.int cb, .int (nI cl), .int chh, .int (nI cr), va_rf cz, va_rf co])) := by rw [ef_4, va_up_ne _ _ hne]; exact ky_c2
      refine lv_aload hx hb dX1_joined_62 (lv_at hl 0 rfl) ?_
      exact hp_aret (r := some fr) hx hb hr hlocks C0 hf hS (by first | exact Nat.le_refl _ | omega) (by first | exact Nat.le_refl _ | omega) dX1_joined_64 (Or.inl ⟨⟨hlt, ag_sy k3⟩, rfl, by rw [ef_4, ey, bx_uu, if_neg dy, if_neg dy, nI_1]; rfl⟩)
  · have hkl : k < xl := Nat.not_le.mp (fun z => h20 ((nI_leI (by omega) (by omega)).mpr z))
    have hkc : k < cl := by rcases Nat.lt_or_ge k cl with z | z; exact z; exact absurd ⟨by omega, ag_mono k3 z⟩ hnb
    have hkd := k4 hkc hkl
    refine lv_aload_n hx hb dX1_joined_23 rfl (lv_at hl 2 rfl) ?_
    refine lv_aload_n hx hb dX1_joined_24 rfl (lv_at hl 4 rfl) ?_
    refine hp_getN (ci := 0) (v := .int xb) (own := RX1) (ref := RX0) (host := RX1) (index := 62) (C := RX0) (T := TX0) (N := 6) hx hb hts hin0 hown C0 hf hfr rfl 0 (by decide) (by decide +kernel) (fun _ h9 => h9) rfl dX1_joined_25 ?_
    refine lv_iload_n hx hb dX1_joined_28 rfl (lv_at hl 1 rfl) ?_
    refine hp_ki (hp_rS (As := [.int xb, .int (nI k)]) (rest := [.ref q]) ⟨hx, hb, hml, hown, hts⟩ C0 hf hS (c_X1_firstBits l D cy base f xb (nI k)) (va_cwS 2 hts gX1_joined_X1_firstBits rfl rfl rfl (by decide +kernel) ⟨Nat.le_of_ble_eq_true rfl, Nat.le_of_ble_eq_true rfl⟩) rfl hl.1 rfl (Nat.le_of_ble_eq_true rfl) dX1_joined_29 ⟨Nat.le_of_ble_eq_true rfl, Nat.le_of_ble_eq_true rfl⟩) hS (fun r_5 u_5 H locs hq_5 hf hS => ?_)
    obtain ⟨rfl, hu⟩ := hq_5
    rw [hu] at hf
    rw [fbI_fb]
    refine lv_iload_n hx hb dX1_joined_32 rfl (lv_at hl 1 rfl) ?_
    refine lv_iconst (v := (-1)) hx hb dX1_joined_33 (by decide) ?_
    refine hp_kq (hp_rV (C := RX1) (As := [.int (fb xb k), .int (nI k), .int (-1)]) (rest := []) ⟨hx, hb, hml, hown, hts⟩ C0 hf hS (c_X1_newNode l D cy base f q root cnt (fb xb k) (nI k) (-1) hq) (cwV 3 hts gX1_joined_X1_newNode rfl rfl rfl (by decide +kernel) ⟨Nat.le_of_ble_eq_true rfl, Nat.le_of_ble_eq_true rfl⟩) hq rfl rfl hl.1 rfl (Nat.le_of_ble_eq_true rfl) dX1_joined_34 ⟨Nat.le_of_ble_eq_true rfl, Nat.le_of_ble_eq_true rfl⟩) hS (fun r_6 u_6 H locs hq_6 hf hS => ?_)
    obtain ⟨g, rfl, hg0, hgq, hu⟩ := hq_6
    have n1 : c2 ≠ g := fun e => by rw [e, hg0] at hc2; cases hc2
    have n2 : fr ≠ g := fun e => by rw [e, hg0] at hfr; cases hfr
    have n3 : c2 ≠ q := hp_dif hc2 hq (by simp)
    have n4 : fr ≠ q := hp_dif hfr hq (by simp)
    have kc2 : u_6 c2 = some (ndE cb (nI cl) chh (nI cr) cz co) := by rw [hu, va_up_ne _ _ n1, va_up_ne _ _ n3]; exact hc2
    have kfr : u_6 fr = some (ndE xb (nI xl) xh xr none none) := by rw [hu, va_up_ne _ _ n2, va_up_ne _ _ n4]; exact hfr
    have kg : u_6 g = some (ndE (fb xb k) (nI k) (-1) (if (-1 : Int32) = -1 then 0 else 1) none none) := by rw [hu]; exact va_up_self _ _ _
    refine lv_astore (lv' := [(4, .ref g), (3, .int (nI k)), (0, .ref q), (1, .ref c2), (2, .ref fr)]) hx hb dX1_joined_37 hl (by decide) rfl (fun ls hl => ?_)
    refine lv_aload hx hb dX1_joined_39 (lv_at hl 0 rfl) ?_
    refine lv_aload_n hx hb dX1_joined_41 rfl (lv_at hl 4 rfl) ?_
    refine hp_kv (hp_rVN (C := RX0) (As := [.ref fr]) (rest := []) ⟨hx, hb, hml, hown, hts⟩ C0 hf hS (c_X0_hang l D cy base u_6 g (fb xb k) (nI k) (-1) (if (-1 : Int32) = -1 then 0 else 1) none none fr xb (nI xl) xh xr none none kg kfr) ⟨va_cnB (host := RX1) (index := 99) 1 hts gX1_joined_X0_hang_n99 rfl rfl rfl (C0.2.2 _ (by decide +kernel)) (hts (.initialized RX0) (by decide +kernel)) (by decide +kernel) ⟨Nat.le_of_ble_eq_true rfl, Nat.le_of_ble_eq_true rfl⟩, hts (.instanceMethod yX0_hang) (by decide +kernel), hts (.selects RX0 yX0_hang yX0_hang) (by decide +kernel)⟩ kg rfl rfl hl.1 rfl (Nat.le_of_ble_eq_true rfl) dX1_joined_42 ⟨Nat.le_of_ble_eq_true rfl, Nat.le_of_ble_eq_true rfl⟩) hS (fun u_7 H locs hq_7 hf hS => ?_)
    rcases hq_7 with ⟨dx, ex⟩ | ⟨dx, ex⟩
    · rw [g1_n (by omega)] at dx
      have kx_g : u_7 g = some (.inr (0, [.int (fb xb k), .int (nI k), .int (-1), .int (if (-1 : Int32) = -1 then 0 else 1), .null, .ref fr])) := by rw [ex]; exact va_up_self _ _ _
      have kx_c2 : u_7 c2 = some (.inr (0, [.int cb, .int (nI cl), .int chh, .int (nI cr), va_rf cz, va_rf co])) := by rw [ex, va_up_ne _ _ n1]; exact kc2
      have kx_fr : u_7 fr = some (.inr (0, [.int xb, .int (nI xl), .int xh, .int xr, .null, .null])) := by rw [ex, va_up_ne _ _ n2]; exact kfr
      refine lv_aload hx hb dX1_joined_45 (lv_at hl 0 rfl) ?_
      refine lv_aload_n hx hb dX1_joined_47 rfl (lv_at hl 3 rfl) ?_
      refine hp_kv (hp_rVN (C := RX0) (As := [.ref c2]) (rest := []) ⟨hx, hb, hml, hown, hts⟩ C0 hf hS (c_X0_hang l D cy base u_7 g (fb xb k) (nI k) (-1) (if (-1 : Int32) = -1 then 0 else 1) none (some fr) c2 cb (nI cl) chh (nI cr) cz co kx_g kx_c2) ⟨va_cnB (host := RX1) (index := 99) 1 hts gX1_joined_X0_hang_n99 rfl rfl rfl (C0.2.2 _ (by decide +kernel)) (hts (.initialized RX0) (by decide +kernel)) (by decide +kernel) ⟨Nat.le_of_ble_eq_true rfl, Nat.le_of_ble_eq_true rfl⟩, hts (.instanceMethod yX0_hang) (by decide +kernel), hts (.selects RX0 yX0_hang yX0_hang) (by decide +kernel)⟩ kx_g rfl rfl hl.1 rfl (Nat.le_of_ble_eq_true rfl) dX1_joined_48 ⟨Nat.le_of_ble_eq_true rfl, Nat.le_of_ble_eq_true rfl⟩) hS (fun u_8 H locs hq_8 hf hS => ?_)
      rcases hq_8 with ⟨dy, ey⟩ | ⟨dy, ey⟩
      · rw [g1_n (by omega)] at dy
        have ky_g : u_8 g = some (.inr (0, [.int (fb xb k), .int (nI k), .int (-1), .int (if (-1 : Int32) = -1 then 0 else 1), .null, .ref c2])) := by rw [ey]; exact va_up_self _ _ _
        have ky_c2 : u_8 c2 = some (.inr (0, [.int cb, .int (nI cl), .int chh, .int (nI cr), va_rf cz, va_rf co])) := by rw [ey, va_up_ne _ _ n1]; exact kx_c2
        have ky_fr : u_8 fr = some (.inr (0, [.int xb, .int (nI xl), .int xh, .int xr, .null, .null])) := by rw [ey, va_up_ne _ _ n2]; exact kx_fr
        refine lv_aload hx hb dX1_joined_51 (lv_at hl 0 rfl) ?_
        refine lv_aload_n hx hb dX1_joined_53 rfl (lv_at hl 3 rfl) ?_
        refine hp_getN (ci := 0) (v := .int (nI cr)) (own := RX1) (ref := RX0) (host := RX1) (index := 25) (C := RX0) (T := TX0) (N := 6) hx hb hts hin0 hown C0 hf ky_c2 rfl 3 (by decide) (by decide +kernel) (fun _ h9 => h9) rfl dX1_joined_54 ?_
        refine lv_iconst (v := 1) hx hb dX1_joined_57 (by decide) ?_
        refine lv_iadd hx hb dX1_joined_58 ?_
        refine hp_putN (ci := 0) (v := .int ((nI cr) + 1)) (own := RX1) (ref := RX0) (host := RX1) (index := 25) (C := RX0) (T := TX0) (N := 6) hx hb hts hin0 tyX0 tyX0_ok nmX0 hown C0 hf hS ky_g rfl 3 (by decide) (by decide +kernel) (fun _ h9 => h9) rfl rfl rfl (Nat.le_of_ble_eq_true rfl) dX1_joined_59 (fun f_9 H locs ef_9 hf hS => ?_)
        have hc_9 : f_9 g = some (.inr (0, [.int (fb xb k), .int (nI k), .int (-1), .int ((nI cr) + 1), .null, .ref c2])) := by rw [ef_9]; exact va_up_self _ _ _
        have hc_9_c2 : f_9 c2 = some (.inr (0, [.int cb, .int (nI cl), .int chh, .int (nI cr), va_rf cz, va_rf co])) := by rw [ef_9, va_up_ne _ _ n1]; exact ky_c2
        have hc_9_fr : f_9 fr = some (.inr (0, [.int xb, .int (nI xl), .int xh, .int xr, .null, .null])) := by rw [ef_9, va_up_ne _ _ n2]; exact ky_fr
        refine lv_aload hx hb dX1_joined_62 (lv_at hl 0 rfl) ?_
        exact hp_aret (r := some g) hx hb hr hlocks C0 hf hS (by first | exact Nat.le_refl _ | omega) (by first | exact Nat.le_refl _ | omega) dX1_joined_64 (absurd (dy.trans dx.symm) hkd)
      · rw [g1_n (by omega)] at dy
        have ky_g : u_8 g = some (.inr (0, [.int (fb xb k), .int (nI k), .int (-1), .int (if (-1 : Int32) = -1 then 0 else 1), .ref c2, .ref fr])) := by rw [ey]; exact va_up_self _ _ _
        have ky_c2 : u_8 c2 = some (.inr (0, [.int cb, .int (nI cl), .int chh, .int (nI cr), va_rf cz, va_rf co])) := by rw [ey, va_up_ne _ _ n1]; exact kx_c2
        have ky_fr : u_8 fr = some (.inr (0, [.int xb, .int (nI xl), .int xh, .int xr, .null, .null])) := by rw [ey, va_up_ne _ _ n2]; exact kx_fr
        refine lv_aload hx hb dX1_joined_51 (lv_at hl 0 rfl) ?_
        refine lv_aload_n hx hb dX1_joined_53 rfl (lv_at hl 3 rfl) ?_
        refine hp_getN (ci := 0) (v := .int (nI cr)) (own := RX1) (ref := RX0) (host := RX1) (index := 25) (C := RX0) (T := TX0) (N := 6) hx hb hts hin0 hown C0 hf ky_c2 rfl 3 (by decide) (by decide +kernel) (fun _ h9 => h9) rfl dX1_joined_54 ?_
        refine lv_iconst (v := 1) hx hb dX1_joined_57 (by decide) ?_
        refine lv_iadd hx hb dX1_joined_58 ?_
        refine hp_putN (ci := 0) (v := .int ((nI cr) + 1)) (own := RX1) (ref := RX0) (host := RX1) (index := 25) (C := RX0) (T := TX0) (N := 6) hx hb hts hin0 tyX0 tyX0_ok nmX0 hown C0 hf hS ky_g rfl 3 (by decide) (by decide +kernel) (fun _ h9 => h9) rfl rfl rfl (Nat.le_of_ble_eq_true rfl) dX1_joined_59 (fun f_10 H locs ef_10 hf hS => ?_)
        have hc_10 : f_10 g = some (.inr (0, [.int (fb xb k), .int (nI k), .int (-1), .int ((nI cr) + 1), .ref c2, .ref fr])) := by rw [ef_10]; exact va_up_self _ _ _
        have hc_10_c2 : f_10 c2 = some (.inr (0, [.int cb, .int (nI cl), .int chh, .int (nI cr), va_rf cz, va_rf co])) := by rw [ef_10, va_up_ne _ _ n1]; exact ky_c2
        have hc_10_fr : f_10 fr = some (.inr (0, [.int xb, .int (nI xl), .int xh, .int xr, .null, .null])) := by rw [ef_10, va_up_ne _ _ n2]; exact ky_fr
        refine lv_aload hx hb dX1_joined_62 (lv_at hl 0 rfl) ?_
        exact hp_aret (r := some g) hx hb hr hlocks C0 hf hS (by first | exact Nat.le_refl _ | omega) (by first | exact Nat.le_refl _ | omega) dX1_joined_64 (Or.inr ⟨k, g, hkl, hkc, k3, hkd, rfl, hg0, hgq, by rw [ef_10, ey, ex, bx_uu, bx_uu, hu, bx_uu, if_pos dx, if_pos dx, nI_1]; rfl⟩)
    · rw [g1_n (by omega)] at dx
      have kx_g : u_7 g = some (.inr (0, [.int (fb xb k), .int (nI k), .int (-1), .int (if (-1 : Int32) = -1 then 0 else 1), .ref fr, .null])) := by rw [ex]; exact va_up_self _ _ _
      have kx_c2 : u_7 c2 = some (.inr (0, [.int cb, .int (nI cl), .int chh, .int (nI cr), va_rf cz, va_rf co])) := by rw [ex, va_up_ne _ _ n1]; exact kc2
      have kx_fr : u_7 fr = some (.inr (0, [.int xb, .int (nI xl), .int xh, .int xr, .null, .null])) := by rw [ex, va_up_ne _ _ n2]; exact kfr
      refine lv_aload hx hb dX1_joined_45 (lv_at hl 0 rfl) ?_
      refine lv_aload_n hx hb dX1_joined_47 rfl (lv_at hl 3 rfl) ?_
      refine hp_kv (hp_rVN (C := RX0) (As := [.ref c2]) (rest := []) ⟨hx, hb, hml, hown, hts⟩ C0 hf hS (c_X0_hang l D cy base u_7 g (fb xb k) (nI k) (-1) (if (-1 : Int32) = -1 then 0 else 1) (some fr) none c2 cb (nI cl) chh (nI cr) cz co kx_g kx_c2) ⟨va_cnB (host := RX1) (index := 99) 1 hts gX1_joined_X0_hang_n99 rfl rfl rfl (C0.2.2 _ (by decide +kernel)) (hts (.initialized RX0) (by decide +kernel)) (by decide +kernel) ⟨Nat.le_of_ble_eq_true rfl, Nat.le_of_ble_eq_true rfl⟩, hts (.instanceMethod yX0_hang) (by decide +kernel), hts (.selects RX0 yX0_hang yX0_hang) (by decide +kernel)⟩ kx_g rfl rfl hl.1 rfl (Nat.le_of_ble_eq_true rfl) dX1_joined_48 ⟨Nat.le_of_ble_eq_true rfl, Nat.le_of_ble_eq_true rfl⟩) hS (fun u_11 H locs hq_11 hf hS => ?_)
      rcases hq_11 with ⟨dy, ey⟩ | ⟨dy, ey⟩
      · rw [g1_n (by omega)] at dy
        have ky_g : u_11 g = some (.inr (0, [.int (fb xb k), .int (nI k), .int (-1), .int (if (-1 : Int32) = -1 then 0 else 1), .ref fr, .ref c2])) := by rw [ey]; exact va_up_self _ _ _
        have ky_c2 : u_11 c2 = some (.inr (0, [.int cb, .int (nI cl), .int chh, .int (nI cr), va_rf cz, va_rf co])) := by rw [ey, va_up_ne _ _ n1]; exact kx_c2
        have ky_fr : u_11 fr = some (.inr (0, [.int xb, .int (nI xl), .int xh, .int xr, .null, .null])) := by rw [ey, va_up_ne _ _ n2]; exact kx_fr
        refine lv_aload hx hb dX1_joined_51 (lv_at hl 0 rfl) ?_
        refine lv_aload_n hx hb dX1_joined_53 rfl (lv_at hl 3 rfl) ?_
        refine hp_getN (ci := 0) (v := .int (nI cr)) (own := RX1) (ref := RX0) (host := RX1) (index := 25) (C := RX0) (T := TX0) (N := 6) hx hb hts hin0 hown C0 hf ky_c2 rfl 3 (by decide) (by decide +kernel) (fun _ h9 => h9) rfl dX1_joined_54 ?_
        refine lv_iconst (v := 1) hx hb dX1_joined_57 (by decide) ?_
        refine lv_iadd hx hb dX1_joined_58 ?_
        refine hp_putN (ci := 0) (v := .int ((nI cr) + 1)) (own := RX1) (ref := RX0) (host := RX1) (index := 25) (C := RX0) (T := TX0) (N := 6) hx hb hts hin0 tyX0 tyX0_ok nmX0 hown C0 hf hS ky_g rfl 3 (by decide) (by decide +kernel) (fun _ h9 => h9) rfl rfl rfl (Nat.le_of_ble_eq_true rfl) dX1_joined_59 (fun f_12 H locs ef_12 hf hS => ?_)
        have hc_12 : f_12 g = some (.inr (0, [.int (fb xb k), .int (nI k), .int (-1), .int ((nI cr) + 1), .ref fr, .ref c2])) := by rw [ef_12]; exact va_up_self _ _ _
        have hc_12_c2 : f_12 c2 = some (.inr (0, [.int cb, .int (nI cl), .int chh, .int (nI cr), va_rf cz, va_rf co])) := by rw [ef_12, va_up_ne _ _ n1]; exact ky_c2
        have hc_12_fr : f_12 fr = some (.inr (0, [.int xb, .int (nI xl), .int xh, .int xr, .null, .null])) := by rw [ef_12, va_up_ne _ _ n2]; exact ky_fr
        refine lv_aload hx hb dX1_joined_62 (lv_at hl 0 rfl) ?_
        exact hp_aret (r := some g) hx hb hr hlocks C0 hf hS (by first | exact Nat.le_refl _ | omega) (by first | exact Nat.le_refl _ | omega) dX1_joined_64 (Or.inr ⟨k, g, hkl, hkc, k3, hkd, rfl, hg0, hgq, by rw [ef_12, ey, ex, bx_uu, bx_uu, hu, bx_uu, if_neg dx, if_neg dx, nI_1]; rfl⟩)
      · rw [g1_n (by omega)] at dy
        have ky_g : u_11 g = some (.inr (0, [.int (fb xb k), .int (nI k), .int (-1), .int (if (-1 : Int32) = -1 then 0 else 1), .ref c2, .null])) := by rw [ey]; exact va_up_self _ _ _
        have ky_c2 : u_11 c2 = some (.inr (0, [.int cb, .int (nI cl), .int chh, .int (nI cr), va_rf cz, va_rf co])) := by rw [ey, va_up_ne _ _ n1]; exact kx_c2
        have ky_fr : u_11 fr = some (.inr (0, [.int xb, .int (nI xl), .int xh, .int xr, .null, .null])) := by rw [ey, va_up_ne _ _ n2]; exact kx_fr
        refine lv_aload hx hb dX1_joined_51 (lv_at hl 0 rfl) ?_
        refine lv_aload_n hx hb dX1_joined_53 rfl (lv_at hl 3 rfl) ?_
        refine hp_getN (ci := 0) (v := .int (nI cr)) (own := RX1) (ref := RX0) (host := RX1) (index := 25) (C := RX0) (T := TX0) (N := 6) hx hb hts hin0 hown C0 hf ky_c2 rfl 3 (by decide) (by decide +kernel) (fun _ h9 => h9) rfl dX1_joined_54 ?_
        refine lv_iconst (v := 1) hx hb dX1_joined_57 (by decide) ?_
        refine lv_iadd hx hb dX1_joined_58 ?_
        refine hp_putN (ci := 0) (v := .int ((nI cr) + 1)) (own := RX1) (ref := RX0) (host := RX1) (index := 25) (C := RX0) (T := TX0) (N := 6) hx hb hts hin0 tyX0 tyX0_ok nmX0 hown C0 hf hS ky_g rfl 3 (by decide) (by decide +kernel) (fun _ h9 => h9) rfl rfl rfl (Nat.le_of_ble_eq_true rfl) dX1_joined_59 (fun f_13 H locs ef_13 hf hS => ?_)
        have hc_13 : f_13 g = some (.inr (0, [.int (fb xb k), .int (nI k), .int (-1), .int ((nI cr) + 1), .ref c2, .null])) := by rw [ef_13]; exact va_up_self _ _ _
        have hc_13_c2 : f_13 c2 = some (.inr (0, [.int cb, .int (nI cl), .int chh, .int (nI cr), va_rf cz, va_rf co])) := by rw [ef_13, va_up_ne _ _ n1]; exact ky_c2
        have hc_13_fr : f_13 fr = some (.inr (0, [.int xb, .int (nI xl), .int xh, .int xr, .null, .null])) := by rw [ef_13, va_up_ne _ _ n2]; exact ky_fr
        refine lv_aload hx hb dX1_joined_62 (lv_at hl 0 rfl) ?_
        exact hp_aret (r := some g) hx hb hr hlocks C0 hf hS (by first | exact Nat.le_refl _ | omega) (by first | exact Nat.le_refl _ | omega) dX1_joined_64 (absurd (by revert dx dy; cases bi cb k <;> cases bi xb k <;> simp) hkd)
