/-! the law: its loop and its start -/
theorem und_eq {N : List Nat} {t : NT} {root n : Nat} {B L : Nat → Int32} {lam : Nat → Nat} {Hh : Nat → Int32} (R : REL N t root n B L lam Hh) {x l0 r r' : Int32} (h1 : ((¬ okP x l0) ∧ r = -1) ∨ ∃ (k : Nat) (ro : Option Nat), l0 = nI k ∧ px x k ∧ TMp N t x k ro ∧ r = ro.elim 0 (fun a => nI (tR t a))) (h2 : ((¬ okP x l0) ∧ r' = -1) ∨ (okP x l0 ∧ r' = nI ((List.range n).countP (fun j => decide (l0 ≤ L j) && (B j &&& mskI l0 == x))))) : r = r' := by
  rcases h1 with ⟨a1, a2⟩ | ⟨k, ro, a1, a2, a3, a4⟩
  · rcases h2 with ⟨-, b2⟩ | ⟨b1, -⟩
    · rw [a2, b2]
    · exact absurd b1 a1
  · subst a1
    rcases h2 with ⟨b1, -⟩ | ⟨-, b2⟩
    · exact absurd ⟨k, rfl, a2⟩ b1
    · rw [a4, b2]; exact rel_under R a2 a3
theorem law_go {Ls i : Nat} (hL : Ls ≤ 2048) (hi : i ≤ Ls + 3) (h : ¬ nI Ls - 4 < nI i) : i + 4 ≤ Ls := by
  rw [Int32.lt_iff_toInt_lt] at h
  have h1 : (nI Ls - 4).toInt = (Ls : Int) - 4 := pk_sub_toInt (a := Ls) (b := 4) (by omega) (by omega)
  rw [h1, nI_toInt (by omega)] at h
  omega
set_option maxHeartbeats 4000000 in
set_option maxRecDepth 100000 in
theorem law_loop {p : Program} {l : Launch} {e : Env} {s : State} {m : MethodId} {below : List Frame} {meth : Method} {c : Code} {D : va_G} {cy : ClassId} {b Ls : Nat} {xs : Nat → Int32} (hL : Ls ≤ 2048) (A0 : lw_At p s m meth c b Ls xs) (C0 : hp_C D cy s.heap.size s) (q qm ab al ah nb nl : Nat) (hd : DSt ab al ah nb nl) :
    ∀ (c0 i ce sl : Nat) (f : AH) (ls : Array Slot) (H : Heap) (locs : List Loc), Ls + 5 ≤ i + c0 → i ≤ Ls + 3 → ce ≤ 8 + i → sl ≤ 3600 + 12 * i → LwS cy f q qm ab al ah nb nl i → hp_ok D s.heap.size f H → va_S (hp_A s.heap.size) s.heap H locs → lv_has ls 4 [(0, .ref b), (1, .ref q), (2, .ref qm), (3, .int (nI i))] → W p l e room_1 s m #[Value.ref b] below meth c H locs ce sl (lw_Z below #[Value.ref b] s) (F0 m 18 ls []) := by
  obtain ⟨hx, hb, hr, hml, hown, hts, hX0, hbl, hlocks, hgv⟩ := A0
  have hown : s.vm.findClass RL = some m.cls := hown
  have hts : ∀ w ∈ wsL_law, w.before #[Value.ref b] s = true := fun w h => hts w (wsL_law_in w h)
  have hbA : ¬ hp_A s.heap.size b := Nat.not_le.mpr hbl
  obtain ⟨d1, d2, d3, d4, d5, d6, d7, d8, d9, d10⟩ := id hd
  intro c0
  induction c0 with
  | zero => intro i _ _ _ _ _ _ h1 h2; exact absurd h1 (by omega)
  | succ c0 ih =>
    intro i ce sl f ls H locs hc0 hi hce hsl hLS hf hS hl
    obtain ⟨N, t, root, n, B, L, lam, Hh, hX, hM, hn, hR, hN⟩ := hLS
    obtain ⟨cd, nc, NB, NL, m1, m2, m3, m4, m5, m6⟩ := id hM
    have hbd : N.length < 2 ^ 30 := by omega
    have hst := hR.1.1
    refine lv_iload_n hx hb dL_law_18 rfl (lv_at hl 3 rfl) ?_
    refine lv_aload_n hx hb dL_law_19 rfl (lv_at hl 0 rfl) ?_
    refine va_slen hx hb hX0 hbl hbA hS dL_law_20 ?_
    rw [show Int32.ofNat Ls = nI Ls from rfl]
    refine lv_iconst (v := 4) hx hb dL_law_21 (by decide) ?_
    refine lv_isub hx hb dL_law_22 ?_
    refine lv_icmp_gt (tgt := 379) hx hb dL_law_23 (by decide) (fun h23 => ?_) (fun h23 => ?_)
    · refine lv_iconst (v := 1) hx hb dL_law_379 (by decide) ?_
      refine va_forget (fun z hz => hS.2.2 z hz) ?_
      refine W.widen (k := 600000) (n := 7302250) (by omega) (by omega) ?_
      exact lw_ret hx hb hr hlocks dL_law_380
    · have hgo : i + 4 ≤ Ls := law_go hL hi h23
      refine lv_aload_n hx hb dL_law_26 rfl (lv_at hl 0 rfl) ?_
      refine lv_iload_n hx hb dL_law_27 rfl (lv_at hl 3 rfl) ?_
      refine va_sld hx hb hX0 hbl hbA hS (vp_in_nI (n := i) (by omega) (by omega)) dL_law_28 ?_
      rw [nI_clamp (n := i) (by omega)]
      refine lv_bipush (v := 15) hx hb dL_law_29 (by decide) ?_
      refine lv_iand hx hb dL_law_31 ?_
      obtain ⟨sv, hsv⟩ : ∃ sv : Int32, sv = ((xs i) &&& 15) := ⟨_, rfl⟩
      rw [← hsv]
      by_cases hw0 : sv = 0
      · refine lv_tableIn (tgt := 92) (off := 60) hx hb dL_law_32 (by rw [hw0]; decide) (by rw [hw0]; decide) (by rw [hw0]; decide) (by decide) ?_
        refine lv_aload_n hx hb dL_law_92 rfl (lv_at hl 1 rfl) ?_
        refine hp_kv (hp_rV (C := RX1) (As := []) (rest := []) ⟨hx, hb, hml, hown, hts⟩ C0 hf hS (c_X1_init_ l D cy _ f q N t root (nI N.length) hX.1 hX.2 hst.1.1) (cwV 0 hts gL_law_X1_init_ rfl rfl rfl (by decide +kernel) ⟨Nat.le_of_ble_eq_true rfl, Nat.le_of_ble_eq_true rfl⟩) hX.1 rfl rfl hl.1 rfl (Nat.le_of_ble_eq_true rfl) dL_law_93 ⟨by show _ ≤ 600000; omega, by show _ ≤ 7302250; omega⟩) hS (fun u_1 H locs hq_1 hf hS => ?_)
        obtain ⟨cd1, nc1, NB1, NL1, n1, n2, n3, n4, n5, n6⟩ := ms_fr hX hM (hq_1.2.2)
        refine lv_aload_n hx hb dL_law_96 rfl (lv_at hl 2 rfl) ?_
        refine hp_kv (hp_rV (C := RX2) (As := []) (rest := []) ⟨hx, hb, hml, hown, hts⟩ C0 hf hS (c_X2_init_ l D cy _ u_1 qm ab al ah nb nl cd1 nc1 n B L Hh NB1 NL1  n1 n2 n3 n4 hn) (cwV 0 hts gL_law_X2_init_ rfl rfl rfl (by decide +kernel) ⟨Nat.le_of_ble_eq_true rfl, Nat.le_of_ble_eq_true rfl⟩) n1 rfl rfl hl.1 rfl (Nat.le_of_ble_eq_true rfl) dL_law_97 ⟨by show _ ≤ 600000; omega, by show _ ≤ 7302250; omega⟩) hS (fun u_2 H locs hq_2 hf hS => ?_)
        have hLn : LwS cy u_2 q qm ab al ah nb nl (i + 4) := step_init hX hR hq_1.1 hq_1.2.1 n1 n2 n3 n4 n5 n6 hq_2
        refine lv_goto (tgt := 373) hx hb dL_law_100 (by decide) ?_
        refine lv_iinc (v := ((nI i) + 4)) (lv' := [(3, .int ((nI i) + 4)), (0, .ref b), (1, .ref q), (2, .ref qm)]) hx hb dL_law_373 hl (k := 3) rfl rfl (by decide) rfl (fun ls hl => ?_)
        refine lv_goto (tgt := 18) hx hb dL_law_376 (by decide) ?_
        rw [show nI i + 4 = nI (i + 4) from nI_add i 4] at hl
        exact ih (i + 4) _ _ u_2 ls _ _ (by omega) (by omega) (by omega) (by omega) hLn hf hS (lv_sub hl [1, 2, 3, 0] rfl)
      by_cases hw1 : sv = 1
      · refine lv_tableIn (tgt := 103) (off := 71) hx hb dL_law_32 (by rw [hw1]; decide) (by rw [hw1]; decide) (by rw [hw1]; decide) (by decide) ?_
        refine lv_aload_n hx hb dL_law_103 rfl (lv_at hl 1 rfl) ?_
        refine lv_aload_n hx hb dL_law_104 rfl (lv_at hl 0 rfl) ?_
        refine lv_iload_n hx hb dL_law_105 rfl (lv_at hl 3 rfl) ?_
        refine lv_iconst (v := 1) hx hb dL_law_106 (by decide) ?_
        refine lv_iadd hx hb dL_law_107 ?_
        rw [show (((nI i) + 1) : Int32) = nI (i + 1) from nI_add i 1]
        refine va_sld hx hb hX0 hbl hbA hS (vp_in_nI (n := (i + 1)) (by omega) (by omega)) dL_law_108 ?_
        rw [nI_clamp (n := (i + 1)) (by omega)]
        refine lv_aload_n hx hb dL_law_109 rfl (lv_at hl 0 rfl) ?_
        refine lv_iload_n hx hb dL_law_110 rfl (lv_at hl 3 rfl) ?_
        refine lv_iconst (v := 2) hx hb dL_law_111 (by decide) ?_
        refine lv_iadd hx hb dL_law_112 ?_
        rw [show (((nI i) + 2) : Int32) = nI (i + 2) from nI_add i 2]
        refine va_sld hx hb hX0 hbl hbA hS (vp_in_nI (n := (i + 2)) (by omega) (by omega)) dL_law_113 ?_
        rw [nI_clamp (n := (i + 2)) (by omega)]
        refine lv_aload_n hx hb dL_law_114 rfl (lv_at hl 0 rfl) ?_
        refine lv_iload_n hx hb dL_law_115 rfl (lv_at hl 3 rfl) ?_
        refine lv_iconst (v := 3) hx hb dL_law_116 (by decide) ?_
        refine lv_iadd hx hb dL_law_117 ?_
        rw [show (((nI i) + 3) : Int32) = nI (i + 3) from nI_add i 3]
        refine va_sld hx hb hX0 hbl hbA hS (vp_in_nI (n := (i + 3)) (by omega) (by omega)) dL_law_118 ?_
        rw [nI_clamp (n := (i + 3)) (by omega)]
        refine hp_ki (hp_rV (C := RX1) (As := [.int (xs (i + 1)), .int (xs (i + 2)), .int (xs (i + 3))]) (rest := []) ⟨hx, hb, hml, hown, hts⟩ C0 hf hS (c_X1_insert l D cy _ f q N t root (xs (i + 1)) (xs (i + 2)) (xs (i + 3)) hX.1 hX.2 hR.1 hbd) (cwV 3 hts gL_law_X1_insert rfl rfl rfl (by decide +kernel) ⟨Nat.le_of_ble_eq_true rfl, Nat.le_of_ble_eq_true rfl⟩) hX.1 rfl rfl hl.1 rfl (Nat.le_of_ble_eq_true rfl) dL_law_119 ⟨by show _ ≤ 600000; omega, by show _ ≤ 7302250; omega⟩) hS (fun r_3 u_3 H locs hq_3 hf hS => ?_)
        obtain ⟨cd1, nc1, NB1, NL1, n1, n2, n3, n4, n5, n6⟩ := ms_fr hX hM (in_fr hq_3)
        refine lv_aload_n hx hb dL_law_122 rfl (lv_at hl 2 rfl) ?_
        refine lv_aload_n hx hb dL_law_123 rfl (lv_at hl 0 rfl) ?_
        refine lv_iload_n hx hb dL_law_124 rfl (lv_at hl 3 rfl) ?_
        refine lv_iconst (v := 1) hx hb dL_law_125 (by decide) ?_
        refine lv_iadd hx hb dL_law_126 ?_
        rw [show (((nI i) + 1) : Int32) = nI (i + 1) from nI_add i 1]
        refine va_sld hx hb hX0 hbl hbA hS (vp_in_nI (n := (i + 1)) (by omega) (by omega)) dL_law_127 ?_
        rw [nI_clamp (n := (i + 1)) (by omega)]
        refine lv_aload_n hx hb dL_law_128 rfl (lv_at hl 0 rfl) ?_
        refine lv_iload_n hx hb dL_law_129 rfl (lv_at hl 3 rfl) ?_
        refine lv_iconst (v := 2) hx hb dL_law_130 (by decide) ?_
        refine lv_iadd hx hb dL_law_131 ?_
        rw [show (((nI i) + 2) : Int32) = nI (i + 2) from nI_add i 2]
        refine va_sld hx hb hX0 hbl hbA hS (vp_in_nI (n := (i + 2)) (by omega) (by omega)) dL_law_132 ?_
        rw [nI_clamp (n := (i + 2)) (by omega)]
        refine lv_aload_n hx hb dL_law_133 rfl (lv_at hl 0 rfl) ?_
        refine lv_iload_n hx hb dL_law_134 rfl (lv_at hl 3 rfl) ?_
        refine lv_iconst (v := 3) hx hb dL_law_135 (by decide) ?_
        refine lv_iadd hx hb dL_law_136 ?_
        rw [show (((nI i) + 3) : Int32) = nI (i + 3) from nI_add i 3]
        refine va_sld hx hb hX0 hbl hbA hS (vp_in_nI (n := (i + 3)) (by omega) (by omega)) dL_law_137 ?_
        rw [nI_clamp (n := (i + 3)) (by omega)]
        refine hp_ki (hp_rV (C := RX2) (As := [.int (xs (i + 1)), .int (xs (i + 2)), .int (xs (i + 3))]) (rest := [.int r_3]) ⟨hx, hb, hml, hown, hts⟩ C0 hf hS (c_X2_insert l D cy _ u_3 qm ab al ah nb nl cd1 nc1 n B L Hh NB1 NL1 (xs (i + 1)) (xs (i + 2)) (xs (i + 3)) n1 n2 n3 n4 hn d1 d2 d3) (cwV 3 hts gL_law_X2_insert rfl rfl rfl (by decide +kernel) ⟨Nat.le_of_ble_eq_true rfl, Nat.le_of_ble_eq_true rfl⟩) n1 rfl rfl hl.1 rfl (Nat.le_of_ble_eq_true rfl) dL_law_138 ⟨by show _ ≤ 600000; omega, by show _ ≤ 7302250; omega⟩) hS (fun r_4 u_4 H locs hq_4 hf hS => ?_)
        obtain ⟨heq, hLn⟩ := step_ins (i := i) hd hX hM hn hR hN hq_3 n1 n2 n3 n4 n5 n6 hq_4
        refine lv_icmp_eq (tgt := 373) hx hb dL_law_141 (by decide) (fun h141 => ?_) (fun h141 => ?_)
        · refine lv_iinc (v := ((nI i) + 4)) (lv' := [(3, .int ((nI i) + 4)), (0, .ref b), (1, .ref q), (2, .ref qm)]) hx hb dL_law_373 hl (k := 3) rfl rfl (by decide) rfl (fun ls hl => ?_)
          refine lv_goto (tgt := 18) hx hb dL_law_376 (by decide) ?_
          rw [show nI i + 4 = nI (i + 4) from nI_add i 4] at hl
          exact ih (i + 4) _ _ u_4 ls _ _ (by omega) (by omega) (by omega) (by omega) hLn hf hS (lv_sub hl [1, 2, 3, 0] rfl)
        · exact absurd heq h141
      by_cases hw2 : sv = 2
      · refine lv_tableIn (tgt := 146) (off := 114) hx hb dL_law_32 (by rw [hw2]; decide) (by rw [hw2]; decide) (by rw [hw2]; decide) (by decide) ?_
        refine lv_aload_n hx hb dL_law_146 rfl (lv_at hl 1 rfl) ?_
        refine lv_aload_n hx hb dL_law_147 rfl (lv_at hl 0 rfl) ?_
        refine lv_iload_n hx hb dL_law_148 rfl (lv_at hl 3 rfl) ?_
        refine lv_iconst (v := 1) hx hb dL_law_149 (by decide) ?_
        refine lv_iadd hx hb dL_law_150 ?_
        rw [show (((nI i) + 1) : Int32) = nI (i + 1) from nI_add i 1]
        refine va_sld hx hb hX0 hbl hbA hS (vp_in_nI (n := (i + 1)) (by omega) (by omega)) dL_law_151 ?_
        rw [nI_clamp (n := (i + 1)) (by omega)]
        refine lv_aload_n hx hb dL_law_152 rfl (lv_at hl 0 rfl) ?_
        refine lv_iload_n hx hb dL_law_153 rfl (lv_at hl 3 rfl) ?_
        refine lv_iconst (v := 2) hx hb dL_law_154 (by decide) ?_
        refine lv_iadd hx hb dL_law_155 ?_
        rw [show (((nI i) + 2) : Int32) = nI (i + 2) from nI_add i 2]
        refine va_sld hx hb hX0 hbl hbA hS (vp_in_nI (n := (i + 2)) (by omega) (by omega)) dL_law_156 ?_
        rw [nI_clamp (n := (i + 2)) (by omega)]
        refine hp_ki (hp_rV (C := RX1) (As := [.int (xs (i + 1)), .int (xs (i + 2))]) (rest := []) ⟨hx, hb, hml, hown, hts⟩ C0 hf hS (c_X1_remove l D cy _ f q N t root (xs (i + 1)) (xs (i + 2)) hX.1 hX.2 hR.1) (cwV 2 hts gL_law_X1_remove rfl rfl rfl (by decide +kernel) ⟨Nat.le_of_ble_eq_true rfl, Nat.le_of_ble_eq_true rfl⟩) hX.1 rfl rfl hl.1 rfl (Nat.le_of_ble_eq_true rfl) dL_law_157 ⟨by show _ ≤ 600000; omega, by show _ ≤ 7302250; omega⟩) hS (fun r_5 u_5 H locs hq_5 hf hS => ?_)
        obtain ⟨cd1, nc1, NB1, NL1, n1, n2, n3, n4, n5, n6⟩ := ms_fr hX hM (rm_fr hq_5)
        refine lv_aload_n hx hb dL_law_160 rfl (lv_at hl 2 rfl) ?_
        refine lv_aload_n hx hb dL_law_161 rfl (lv_at hl 0 rfl) ?_
        refine lv_iload_n hx hb dL_law_162 rfl (lv_at hl 3 rfl) ?_
        refine lv_iconst (v := 1) hx hb dL_law_163 (by decide) ?_
        refine lv_iadd hx hb dL_law_164 ?_
        rw [show (((nI i) + 1) : Int32) = nI (i + 1) from nI_add i 1]
        refine va_sld hx hb hX0 hbl hbA hS (vp_in_nI (n := (i + 1)) (by omega) (by omega)) dL_law_165 ?_
        rw [nI_clamp (n := (i + 1)) (by omega)]
        refine lv_aload_n hx hb dL_law_166 rfl (lv_at hl 0 rfl) ?_
        refine lv_iload_n hx hb dL_law_167 rfl (lv_at hl 3 rfl) ?_
        refine lv_iconst (v := 2) hx hb dL_law_168 (by decide) ?_
        refine lv_iadd hx hb dL_law_169 ?_
        rw [show (((nI i) + 2) : Int32) = nI (i + 2) from nI_add i 2]
        refine va_sld hx hb hX0 hbl hbA hS (vp_in_nI (n := (i + 2)) (by omega) (by omega)) dL_law_170 ?_
        rw [nI_clamp (n := (i + 2)) (by omega)]
        refine hp_ki (hp_rV (C := RX2) (As := [.int (xs (i + 1)), .int (xs (i + 2))]) (rest := [.int r_5]) ⟨hx, hb, hml, hown, hts⟩ C0 hf hS (c_X2_remove l D cy _ u_5 qm ab al ah nb nl cd1 nc1 n B L Hh NB1 NL1 (xs (i + 1)) (xs (i + 2)) n1 n2 n3 n4 hn d1 d2 d3) (cwV 2 hts gL_law_X2_remove rfl rfl rfl (by decide +kernel) ⟨Nat.le_of_ble_eq_true rfl, Nat.le_of_ble_eq_true rfl⟩) n1 rfl rfl hl.1 rfl (Nat.le_of_ble_eq_true rfl) dL_law_171 ⟨by show _ ≤ 600000; omega, by show _ ≤ 7302250; omega⟩) hS (fun r_6 u_6 H locs hq_6 hf hS => ?_)
        obtain ⟨heq, hLn⟩ := step_rem (i := i) hd hX hn hR hN hq_5 n1 n2 n3 n4 n5 n6 hq_6
        refine lv_icmp_eq (tgt := 373) hx hb dL_law_174 (by decide) (fun h174 => ?_) (fun h174 => ?_)
        · refine lv_iinc (v := ((nI i) + 4)) (lv' := [(3, .int ((nI i) + 4)), (0, .ref b), (1, .ref q), (2, .ref qm)]) hx hb dL_law_373 hl (k := 3) rfl rfl (by decide) rfl (fun ls hl => ?_)
          refine lv_goto (tgt := 18) hx hb dL_law_376 (by decide) ?_
          rw [show nI i + 4 = nI (i + 4) from nI_add i 4] at hl
          exact ih (i + 4) _ _ u_6 ls _ _ (by omega) (by omega) (by omega) (by omega) hLn hf hS (lv_sub hl [1, 2, 3, 0] rfl)
        · exact absurd heq h174
      by_cases hw3 : sv = 3
      · refine lv_tableIn (tgt := 179) (off := 147) hx hb dL_law_32 (by rw [hw3]; decide) (by rw [hw3]; decide) (by rw [hw3]; decide) (by decide) ?_
        refine lv_aload_n hx hb dL_law_179 rfl (lv_at hl 1 rfl) ?_
        refine lv_aload_n hx hb dL_law_180 rfl (lv_at hl 0 rfl) ?_
        refine lv_iload_n hx hb dL_law_181 rfl (lv_at hl 3 rfl) ?_
        refine lv_iconst (v := 1) hx hb dL_law_182 (by decide) ?_
        refine lv_iadd hx hb dL_law_183 ?_
        rw [show (((nI i) + 1) : Int32) = nI (i + 1) from nI_add i 1]
        refine va_sld hx hb hX0 hbl hbA hS (vp_in_nI (n := (i + 1)) (by omega) (by omega)) dL_law_184 ?_
        rw [nI_clamp (n := (i + 1)) (by omega)]
        refine hp_ki (hp_rV (C := RX1) (As := [.int (xs (i + 1))]) (rest := []) ⟨hx, hb, hml, hown, hts⟩ C0 hf hS (c_X1_lookup l D cy _ f q N t root (nI N.length) (xs (i + 1)) hX.1 hX.2 hst) (cwV 1 hts gL_law_X1_lookup rfl rfl rfl (by decide +kernel) ⟨Nat.le_of_ble_eq_true rfl, Nat.le_of_ble_eq_true rfl⟩) hX.1 rfl rfl hl.1 rfl (Nat.le_of_ble_eq_true rfl) dL_law_185 ⟨by show _ ≤ 600000; omega, by show _ ≤ 7302250; omega⟩) hS (fun r_7 u_7 H locs hq_7 hf hS => ?_)
        obtain ⟨hxr, hu⟩ := hq_7
        rw [hu] at hf
        refine lv_aload_n hx hb dL_law_188 rfl (lv_at hl 2 rfl) ?_
        refine lv_aload_n hx hb dL_law_189 rfl (lv_at hl 0 rfl) ?_
        refine lv_iload_n hx hb dL_law_190 rfl (lv_at hl 3 rfl) ?_
        refine lv_iconst (v := 1) hx hb dL_law_191 (by decide) ?_
        refine lv_iadd hx hb dL_law_192 ?_
        rw [show (((nI i) + 1) : Int32) = nI (i + 1) from nI_add i 1]
        refine va_sld hx hb hX0 hbl hbA hS (vp_in_nI (n := (i + 1)) (by omega) (by omega)) dL_law_193 ?_
        rw [nI_clamp (n := (i + 1)) (by omega)]
        refine hp_ki (hp_rV (C := RX2) (As := [.int (xs (i + 1))]) (rest := [.int r_7]) ⟨hx, hb, hml, hown, hts⟩ C0 hf hS (c_X2_lookup l D cy _ f qm ab al ah nb nl cd nc n B L Hh NB NL (xs (i + 1)) m1 m2 m3 m4 hn) (cwV 1 hts gL_law_X2_lookup rfl rfl rfl (by decide +kernel) ⟨Nat.le_of_ble_eq_true rfl, Nat.le_of_ble_eq_true rfl⟩) m1 rfl rfl hl.1 rfl (Nat.le_of_ble_eq_true rfl) dL_law_194 ⟨by show _ ≤ 600000; omega, by show _ ≤ 7302250; omega⟩) hS (fun r_8 u_8 H locs hq_8 hf hS => ?_)
        obtain ⟨hmr, hu2⟩ := hq_8
        have hLn : LwS cy u_8 q qm ab al ah nb nl (i + 4) := ls_read hX m1 m2 m3 m4 m5 m6 hn hR hN hu2
        have heq : r_7 = r_8 := by obtain ⟨ro, k1, k2⟩ := hxr; exact rel_look hR (G := Hh) (g := tH t) (fun _ _ _ _ _ _ z => z) k1 k2 hmr
        refine lv_icmp_eq (tgt := 373) hx hb dL_law_197 (by decide) (fun h197 => ?_) (fun h197 => ?_)
        · refine lv_iinc (v := ((nI i) + 4)) (lv' := [(3, .int ((nI i) + 4)), (0, .ref b), (1, .ref q), (2, .ref qm)]) hx hb dL_law_373 hl (k := 3) rfl rfl (by decide) rfl (fun ls hl => ?_)
          refine lv_goto (tgt := 18) hx hb dL_law_376 (by decide) ?_
          rw [show nI i + 4 = nI (i + 4) from nI_add i 4] at hl
          exact ih (i + 4) _ _ u_8 ls _ _ (by omega) (by omega) (by omega) (by omega) hLn hf hS (lv_sub hl [1, 2, 3, 0] rfl)
        · exact absurd heq h197
      by_cases hw4 : sv = 4
      · refine lv_tableIn (tgt := 202) (off := 170) hx hb dL_law_32 (by rw [hw4]; decide) (by rw [hw4]; decide) (by rw [hw4]; decide) (by decide) ?_
        refine lv_aload_n hx hb dL_law_202 rfl (lv_at hl 1 rfl) ?_
        refine lv_aload_n hx hb dL_law_203 rfl (lv_at hl 0 rfl) ?_
        refine lv_iload_n hx hb dL_law_204 rfl (lv_at hl 3 rfl) ?_
        refine lv_iconst (v := 1) hx hb dL_law_205 (by decide) ?_
        refine lv_iadd hx hb dL_law_206 ?_
        rw [show (((nI i) + 1) : Int32) = nI (i + 1) from nI_add i 1]
        refine va_sld hx hb hX0 hbl hbA hS (vp_in_nI (n := (i + 1)) (by omega) (by omega)) dL_law_207 ?_
        rw [nI_clamp (n := (i + 1)) (by omega)]
        refine hp_ki (hp_rV (C := RX1) (As := [.int (xs (i + 1))]) (rest := []) ⟨hx, hb, hml, hown, hts⟩ C0 hf hS (c_X1_lookupLen l D cy _ f q N t root (nI N.length) (xs (i + 1)) hX.1 hX.2 hst) (cwV 1 hts gL_law_X1_lookupLen rfl rfl rfl (by decide +kernel) ⟨Nat.le_of_ble_eq_true rfl, Nat.le_of_ble_eq_true rfl⟩) hX.1 rfl rfl hl.1 rfl (Nat.le_of_ble_eq_true rfl) dL_law_208 ⟨by show _ ≤ 600000; omega, by show _ ≤ 7302250; omega⟩) hS (fun r_9 u_9 H locs hq_9 hf hS => ?_)
        obtain ⟨hxr, hu⟩ := hq_9
        rw [hu] at hf
        refine lv_aload_n hx hb dL_law_211 rfl (lv_at hl 2 rfl) ?_
        refine lv_aload_n hx hb dL_law_212 rfl (lv_at hl 0 rfl) ?_
        refine lv_iload_n hx hb dL_law_213 rfl (lv_at hl 3 rfl) ?_
        refine lv_iconst (v := 1) hx hb dL_law_214 (by decide) ?_
        refine lv_iadd hx hb dL_law_215 ?_
        rw [show (((nI i) + 1) : Int32) = nI (i + 1) from nI_add i 1]
        refine va_sld hx hb hX0 hbl hbA hS (vp_in_nI (n := (i + 1)) (by omega) (by omega)) dL_law_216 ?_
        rw [nI_clamp (n := (i + 1)) (by omega)]
        refine hp_ki (hp_rV (C := RX2) (As := [.int (xs (i + 1))]) (rest := [.int r_9]) ⟨hx, hb, hml, hown, hts⟩ C0 hf hS (c_X2_lookupLen l D cy _ f qm ab al ah nb nl cd nc n B L Hh NB NL (xs (i + 1)) m1 m2 m3 m4 hn) (cwV 1 hts gL_law_X2_lookupLen rfl rfl rfl (by decide +kernel) ⟨Nat.le_of_ble_eq_true rfl, Nat.le_of_ble_eq_true rfl⟩) m1 rfl rfl hl.1 rfl (Nat.le_of_ble_eq_true rfl) dL_law_217 ⟨by show _ ≤ 600000; omega, by show _ ≤ 7302250; omega⟩) hS (fun r_10 u_10 H locs hq_10 hf hS => ?_)
        obtain ⟨hmr, hu2⟩ := hq_10
        have hLn : LwS cy u_10 q qm ab al ah nb nl (i + 4) := ls_read hX m1 m2 m3 m4 m5 m6 hn hR hN hu2
        have heq : r_9 = r_10 := by obtain ⟨ro, k1, k2⟩ := hxr; exact rel_look hR (G := L) (g := fun a => nI (tL t a)) (fun j _ hj _ _ z _ => by rw [(hR.2.1.1 j hj).1, z]) k1 k2 hmr
        refine lv_icmp_eq (tgt := 373) hx hb dL_law_220 (by decide) (fun h220 => ?_) (fun h220 => ?_)
        · refine lv_iinc (v := ((nI i) + 4)) (lv' := [(3, .int ((nI i) + 4)), (0, .ref b), (1, .ref q), (2, .ref qm)]) hx hb dL_law_373 hl (k := 3) rfl rfl (by decide) rfl (fun ls hl => ?_)
          refine lv_goto (tgt := 18) hx hb dL_law_376 (by decide) ?_
          rw [show nI i + 4 = nI (i + 4) from nI_add i 4] at hl
          exact ih (i + 4) _ _ u_10 ls _ _ (by omega) (by omega) (by omega) (by omega) hLn hf hS (lv_sub hl [1, 2, 3, 0] rfl)
        · exact absurd heq h220
      by_cases hw5 : sv = 5
      · refine lv_tableIn (tgt := 225) (off := 193) hx hb dL_law_32 (by rw [hw5]; decide) (by rw [hw5]; decide) (by rw [hw5]; decide) (by decide) ?_
        refine lv_aload_n hx hb dL_law_225 rfl (lv_at hl 1 rfl) ?_
        refine lv_aload_n hx hb dL_law_226 rfl (lv_at hl 0 rfl) ?_
        refine lv_iload_n hx hb dL_law_227 rfl (lv_at hl 3 rfl) ?_
        refine lv_iconst (v := 1) hx hb dL_law_228 (by decide) ?_
        refine lv_iadd hx hb dL_law_229 ?_
        rw [show (((nI i) + 1) : Int32) = nI (i + 1) from nI_add i 1]
        refine va_sld hx hb hX0 hbl hbA hS (vp_in_nI (n := (i + 1)) (by omega) (by omega)) dL_law_230 ?_
        rw [nI_clamp (n := (i + 1)) (by omega)]
        refine lv_aload_n hx hb dL_law_231 rfl (lv_at hl 0 rfl) ?_
        refine lv_iload_n hx hb dL_law_232 rfl (lv_at hl 3 rfl) ?_
        refine lv_iconst (v := 2) hx hb dL_law_233 (by decide) ?_
        refine lv_iadd hx hb dL_law_234 ?_
        rw [show (((nI i) + 2) : Int32) = nI (i + 2) from nI_add i 2]
        refine va_sld hx hb hX0 hbl hbA hS (vp_in_nI (n := (i + 2)) (by omega) (by omega)) dL_law_235 ?_
        rw [nI_clamp (n := (i + 2)) (by omega)]
        refine hp_ki (hp_rV (C := RX1) (As := [.int (xs (i + 1)), .int (xs (i + 2))]) (rest := []) ⟨hx, hb, hml, hown, hts⟩ C0 hf hS (c_X1_exact l D cy _ f q N t root (nI N.length) (xs (i + 1)) (xs (i + 2)) hX.1 hX.2 hst) (cwV 2 hts gL_law_X1_exact rfl rfl rfl (by decide +kernel) ⟨Nat.le_of_ble_eq_true rfl, Nat.le_of_ble_eq_true rfl⟩) hX.1 rfl rfl hl.1 rfl (Nat.le_of_ble_eq_true rfl) dL_law_236 ⟨by show _ ≤ 600000; omega, by show _ ≤ 7302250; omega⟩) hS (fun r_11 u_11 H locs hq_11 hf hS => ?_)
        obtain ⟨hxr, hu⟩ := hq_11
        rw [hu] at hf
        refine lv_aload_n hx hb dL_law_239 rfl (lv_at hl 2 rfl) ?_
        refine lv_aload_n hx hb dL_law_240 rfl (lv_at hl 0 rfl) ?_
        refine lv_iload_n hx hb dL_law_241 rfl (lv_at hl 3 rfl) ?_
        refine lv_iconst (v := 1) hx hb dL_law_242 (by decide) ?_
        refine lv_iadd hx hb dL_law_243 ?_
        rw [show (((nI i) + 1) : Int32) = nI (i + 1) from nI_add i 1]
        refine va_sld hx hb hX0 hbl hbA hS (vp_in_nI (n := (i + 1)) (by omega) (by omega)) dL_law_244 ?_
        rw [nI_clamp (n := (i + 1)) (by omega)]
        refine lv_aload_n hx hb dL_law_245 rfl (lv_at hl 0 rfl) ?_
        refine lv_iload_n hx hb dL_law_246 rfl (lv_at hl 3 rfl) ?_
        refine lv_iconst (v := 2) hx hb dL_law_247 (by decide) ?_
        refine lv_iadd hx hb dL_law_248 ?_
        rw [show (((nI i) + 2) : Int32) = nI (i + 2) from nI_add i 2]
        refine va_sld hx hb hX0 hbl hbA hS (vp_in_nI (n := (i + 2)) (by omega) (by omega)) dL_law_249 ?_
        rw [nI_clamp (n := (i + 2)) (by omega)]
        refine hp_ki (hp_rV (C := RX2) (As := [.int (xs (i + 1)), .int (xs (i + 2))]) (rest := [.int r_11]) ⟨hx, hb, hml, hown, hts⟩ C0 hf hS (c_X2_exact l D cy _ f qm ab al ah nb nl cd nc n B L Hh NB NL (xs (i + 1)) (xs (i + 2)) m1 m2 m3 m4 hn) (cwV 2 hts gL_law_X2_exact rfl rfl rfl (by decide +kernel) ⟨Nat.le_of_ble_eq_true rfl, Nat.le_of_ble_eq_true rfl⟩) m1 rfl rfl hl.1 rfl (Nat.le_of_ble_eq_true rfl) dL_law_250 ⟨by show _ ≤ 600000; omega, by show _ ≤ 7302250; omega⟩) hS (fun r_12 u_12 H locs hq_12 hf hS => ?_)
        obtain ⟨hmr, hu2⟩ := hq_12
        have hLn : LwS cy u_12 q qm ab al ah nb nl (i + 4) := ls_read hX m1 m2 m3 m4 m5 m6 hn hR hN hu2
        have heq : r_11 = r_12 := by obtain ⟨ro, k1, k2⟩ := hxr; exact rel_exact hR k1 k2 hmr
        refine lv_icmp_eq (tgt := 373) hx hb dL_law_253 (by decide) (fun h253 => ?_) (fun h253 => ?_)
        · refine lv_iinc (v := ((nI i) + 4)) (lv' := [(3, .int ((nI i) + 4)), (0, .ref b), (1, .ref q), (2, .ref qm)]) hx hb dL_law_373 hl (k := 3) rfl rfl (by decide) rfl (fun ls hl => ?_)
          refine lv_goto (tgt := 18) hx hb dL_law_376 (by decide) ?_
          rw [show nI i + 4 = nI (i + 4) from nI_add i 4] at hl
          exact ih (i + 4) _ _ u_12 ls _ _ (by omega) (by omega) (by omega) (by omega) hLn hf hS (lv_sub hl [1, 2, 3, 0] rfl)
        · exact absurd heq h253
      by_cases hw6 : sv = 6
      · refine lv_tableIn (tgt := 258) (off := 226) hx hb dL_law_32 (by rw [hw6]; decide) (by rw [hw6]; decide) (by rw [hw6]; decide) (by decide) ?_
        refine lv_aload_n hx hb dL_law_258 rfl (lv_at hl 1 rfl) ?_
        refine lv_aload_n hx hb dL_law_259 rfl (lv_at hl 0 rfl) ?_
        refine lv_iload_n hx hb dL_law_260 rfl (lv_at hl 3 rfl) ?_
        refine lv_iconst (v := 1) hx hb dL_law_261 (by decide) ?_
        refine lv_iadd hx hb dL_law_262 ?_
        rw [show (((nI i) + 1) : Int32) = nI (i + 1) from nI_add i 1]
        refine va_sld hx hb hX0 hbl hbA hS (vp_in_nI (n := (i + 1)) (by omega) (by omega)) dL_law_263 ?_
        rw [nI_clamp (n := (i + 1)) (by omega)]
        refine lv_aload_n hx hb dL_law_264 rfl (lv_at hl 0 rfl) ?_
        refine lv_iload_n hx hb dL_law_265 rfl (lv_at hl 3 rfl) ?_
        refine lv_iconst (v := 2) hx hb dL_law_266 (by decide) ?_
        refine lv_iadd hx hb dL_law_267 ?_
        rw [show (((nI i) + 2) : Int32) = nI (i + 2) from nI_add i 2]
        refine va_sld hx hb hX0 hbl hbA hS (vp_in_nI (n := (i + 2)) (by omega) (by omega)) dL_law_268 ?_
        rw [nI_clamp (n := (i + 2)) (by omega)]
        refine hp_ki (hp_rV (C := RX1) (As := [.int (xs (i + 1)), .int (xs (i + 2))]) (rest := []) ⟨hx, hb, hml, hown, hts⟩ C0 hf hS (c_X1_under l D cy _ f q N t root (nI N.length) (xs (i + 1)) (xs (i + 2)) hX.1 hX.2 hst) (cwV 2 hts gL_law_X1_under rfl rfl rfl (by decide +kernel) ⟨Nat.le_of_ble_eq_true rfl, Nat.le_of_ble_eq_true rfl⟩) hX.1 rfl rfl hl.1 rfl (Nat.le_of_ble_eq_true rfl) dL_law_269 ⟨by show _ ≤ 600000; omega, by show _ ≤ 7302250; omega⟩) hS (fun r_13 u_13 H locs hq_13 hf hS => ?_)
        obtain ⟨hxr, hu⟩ := hq_13
        rw [hu] at hf
        refine lv_aload_n hx hb dL_law_272 rfl (lv_at hl 2 rfl) ?_
        refine lv_aload_n hx hb dL_law_273 rfl (lv_at hl 0 rfl) ?_
        refine lv_iload_n hx hb dL_law_274 rfl (lv_at hl 3 rfl) ?_
        refine lv_iconst (v := 1) hx hb dL_law_275 (by decide) ?_
        refine lv_iadd hx hb dL_law_276 ?_
        rw [show (((nI i) + 1) : Int32) = nI (i + 1) from nI_add i 1]
        refine va_sld hx hb hX0 hbl hbA hS (vp_in_nI (n := (i + 1)) (by omega) (by omega)) dL_law_277 ?_
        rw [nI_clamp (n := (i + 1)) (by omega)]
        refine lv_aload_n hx hb dL_law_278 rfl (lv_at hl 0 rfl) ?_
        refine lv_iload_n hx hb dL_law_279 rfl (lv_at hl 3 rfl) ?_
        refine lv_iconst (v := 2) hx hb dL_law_280 (by decide) ?_
        refine lv_iadd hx hb dL_law_281 ?_
        rw [show (((nI i) + 2) : Int32) = nI (i + 2) from nI_add i 2]
        refine va_sld hx hb hX0 hbl hbA hS (vp_in_nI (n := (i + 2)) (by omega) (by omega)) dL_law_282 ?_
        rw [nI_clamp (n := (i + 2)) (by omega)]
        refine hp_ki (hp_rV (C := RX2) (As := [.int (xs (i + 1)), .int (xs (i + 2))]) (rest := [.int r_13]) ⟨hx, hb, hml, hown, hts⟩ C0 hf hS (c_X2_under l D cy _ f qm ab al ah nb nl cd nc n B L Hh NB NL (xs (i + 1)) (xs (i + 2)) m1 m2 m3 m4 hn) (cwV 2 hts gL_law_X2_under rfl rfl rfl (by decide +kernel) ⟨Nat.le_of_ble_eq_true rfl, Nat.le_of_ble_eq_true rfl⟩) m1 rfl rfl hl.1 rfl (Nat.le_of_ble_eq_true rfl) dL_law_283 ⟨by show _ ≤ 600000; omega, by show _ ≤ 7302250; omega⟩) hS (fun r_14 u_14 H locs hq_14 hf hS => ?_)
        obtain ⟨hmr, hu2⟩ := hq_14
        have hLn : LwS cy u_14 q qm ab al ah nb nl (i + 4) := ls_read hX m1 m2 m3 m4 m5 m6 hn hR hN hu2
        have heq : r_13 = r_14 := und_eq hR hxr hmr
        refine lv_icmp_eq (tgt := 373) hx hb dL_law_286 (by decide) (fun h286 => ?_) (fun h286 => ?_)
        · refine lv_iinc (v := ((nI i) + 4)) (lv' := [(3, .int ((nI i) + 4)), (0, .ref b), (1, .ref q), (2, .ref qm)]) hx hb dL_law_373 hl (k := 3) rfl rfl (by decide) rfl (fun ls hl => ?_)
          refine lv_goto (tgt := 18) hx hb dL_law_376 (by decide) ?_
          rw [show nI i + 4 = nI (i + 4) from nI_add i 4] at hl
          exact ih (i + 4) _ _ u_14 ls _ _ (by omega) (by omega) (by omega) (by omega) hLn hf hS (lv_sub hl [1, 2, 3, 0] rfl)
        · exact absurd heq h286
      by_cases hw7 : sv = 7
      · refine lv_tableIn (tgt := 291) (off := 259) hx hb dL_law_32 (by rw [hw7]; decide) (by rw [hw7]; decide) (by rw [hw7]; decide) (by decide) ?_
        refine lv_aload_n hx hb dL_law_291 rfl (lv_at hl 1 rfl) ?_
        refine lv_aload_n hx hb dL_law_292 rfl (lv_at hl 0 rfl) ?_
        refine lv_iload_n hx hb dL_law_293 rfl (lv_at hl 3 rfl) ?_
        refine lv_iconst (v := 1) hx hb dL_law_294 (by decide) ?_
        refine lv_iadd hx hb dL_law_295 ?_
        rw [show (((nI i) + 1) : Int32) = nI (i + 1) from nI_add i 1]
        refine va_sld hx hb hX0 hbl hbA hS (vp_in_nI (n := (i + 1)) (by omega) (by omega)) dL_law_296 ?_
        rw [nI_clamp (n := (i + 1)) (by omega)]
        refine lv_aload_n hx hb dL_law_297 rfl (lv_at hl 0 rfl) ?_
        refine lv_iload_n hx hb dL_law_298 rfl (lv_at hl 3 rfl) ?_
        refine lv_iconst (v := 2) hx hb dL_law_299 (by decide) ?_
        refine lv_iadd hx hb dL_law_300 ?_
        rw [show (((nI i) + 2) : Int32) = nI (i + 2) from nI_add i 2]
        refine va_sld hx hb hX0 hbl hbA hS (vp_in_nI (n := (i + 2)) (by omega) (by omega)) dL_law_301 ?_
        rw [nI_clamp (n := (i + 2)) (by omega)]
        refine hp_ki (hp_rV (C := RX1) (As := [.int (xs (i + 1)), .int (xs (i + 2))]) (rest := []) ⟨hx, hb, hml, hown, hts⟩ C0 hf hS (c_X1_route l D cy _ f q N t root (nI N.length) (xs (i + 1)) (xs (i + 2)) hX.1 hX.2 hst hR.1.2.1 hbd) (cwV 2 hts gL_law_X1_route rfl rfl rfl (by decide +kernel) ⟨Nat.le_of_ble_eq_true rfl, Nat.le_of_ble_eq_true rfl⟩) hX.1 rfl rfl hl.1 rfl (Nat.le_of_ble_eq_true rfl) dL_law_302 ⟨by show _ ≤ 600000; omega, by show _ ≤ 7302250; omega⟩) hS (fun r_15 u_15 H locs hq_15 hf hS => ?_)
        obtain ⟨hxr, hu⟩ := hq_15
        rw [hu] at hf
        refine lv_aload_n hx hb dL_law_305 rfl (lv_at hl 2 rfl) ?_
        refine lv_aload_n hx hb dL_law_306 rfl (lv_at hl 0 rfl) ?_
        refine lv_iload_n hx hb dL_law_307 rfl (lv_at hl 3 rfl) ?_
        refine lv_iconst (v := 1) hx hb dL_law_308 (by decide) ?_
        refine lv_iadd hx hb dL_law_309 ?_
        rw [show (((nI i) + 1) : Int32) = nI (i + 1) from nI_add i 1]
        refine va_sld hx hb hX0 hbl hbA hS (vp_in_nI (n := (i + 1)) (by omega) (by omega)) dL_law_310 ?_
        rw [nI_clamp (n := (i + 1)) (by omega)]
        refine lv_aload_n hx hb dL_law_311 rfl (lv_at hl 0 rfl) ?_
        refine lv_iload_n hx hb dL_law_312 rfl (lv_at hl 3 rfl) ?_
        refine lv_iconst (v := 2) hx hb dL_law_313 (by decide) ?_
        refine lv_iadd hx hb dL_law_314 ?_
        rw [show (((nI i) + 2) : Int32) = nI (i + 2) from nI_add i 2]
        refine va_sld hx hb hX0 hbl hbA hS (vp_in_nI (n := (i + 2)) (by omega) (by omega)) dL_law_315 ?_
        rw [nI_clamp (n := (i + 2)) (by omega)]
        refine hp_ki (hp_rV (C := RX2) (As := [.int (xs (i + 1)), .int (xs (i + 2))]) (rest := [.int r_15]) ⟨hx, hb, hml, hown, hts⟩ C0 hf hS (c_X2_route l D cy _ f qm ab al ah nb nl cd nc n B L Hh NB NL (xs (i + 1)) (xs (i + 2)) m1 m2 m3 m4 hn) (cwV 2 hts gL_law_X2_route rfl rfl rfl (by decide +kernel) ⟨Nat.le_of_ble_eq_true rfl, Nat.le_of_ble_eq_true rfl⟩) m1 rfl rfl hl.1 rfl (Nat.le_of_ble_eq_true rfl) dL_law_316 ⟨by show _ ≤ 600000; omega, by show _ ≤ 7302250; omega⟩) hS (fun r_16 u_16 H locs hq_16 hf hS => ?_)
        obtain ⟨hmr, hu2⟩ := hq_16
        have hLn : LwS cy u_16 q qm ab al ah nb nl (i + 4) := ls_read hX m1 m2 m3 m4 m5 m6 hn hR hN hu2
        have heq : r_15 = r_16 := by obtain ⟨ro, k1, k2⟩ := hxr; exact rel_route hR hn k1 k2 hmr
        refine lv_icmp_eq (tgt := 373) hx hb dL_law_319 (by decide) (fun h319 => ?_) (fun h319 => ?_)
        · refine lv_iinc (v := ((nI i) + 4)) (lv' := [(3, .int ((nI i) + 4)), (0, .ref b), (1, .ref q), (2, .ref qm)]) hx hb dL_law_373 hl (k := 3) rfl rfl (by decide) rfl (fun ls hl => ?_)
          refine lv_goto (tgt := 18) hx hb dL_law_376 (by decide) ?_
          rw [show nI i + 4 = nI (i + 4) from nI_add i 4] at hl
          exact ih (i + 4) _ _ u_16 ls _ _ (by omega) (by omega) (by omega) (by omega) hLn hf hS (lv_sub hl [1, 2, 3, 0] rfl)
        · exact absurd heq h319
      by_cases hw8 : sv = 8
      · refine lv_tableIn (tgt := 324) (off := 292) hx hb dL_law_32 (by rw [hw8]; decide) (by rw [hw8]; decide) (by rw [hw8]; decide) (by decide) ?_
        refine lv_aload_n hx hb dL_law_324 rfl (lv_at hl 1 rfl) ?_
        refine hp_ki (hp_rV (C := RX1) (As := []) (rest := []) ⟨hx, hb, hml, hown, hts⟩ C0 hf hS (c_X1_count l D cy _ f q N t root (nI N.length)  hX.1 hX.2 hst) (cwV 0 hts gL_law_X1_count rfl rfl rfl (by decide +kernel) ⟨Nat.le_of_ble_eq_true rfl, Nat.le_of_ble_eq_true rfl⟩) hX.1 rfl rfl hl.1 rfl (Nat.le_of_ble_eq_true rfl) dL_law_325 ⟨by show _ ≤ 600000; omega, by show _ ≤ 7302250; omega⟩) hS (fun r_17 u_17 H locs hq_17 hf hS => ?_)
        obtain ⟨hxr, hu⟩ := hq_17
        rw [hu] at hf
        refine lv_aload_n hx hb dL_law_328 rfl (lv_at hl 2 rfl) ?_
        refine hp_ki (hp_rV (C := RX2) (As := []) (rest := [.int r_17]) ⟨hx, hb, hml, hown, hts⟩ C0 hf hS (c_X2_count l D cy _ f qm ab al ah nb nl cd nc n B L Hh NB NL  m1 m2 m3 m4 hn) (cwV 0 hts gL_law_X2_count rfl rfl rfl (by decide +kernel) ⟨Nat.le_of_ble_eq_true rfl, Nat.le_of_ble_eq_true rfl⟩) m1 rfl rfl hl.1 rfl (Nat.le_of_ble_eq_true rfl) dL_law_329 ⟨by show _ ≤ 600000; omega, by show _ ≤ 7302250; omega⟩) hS (fun r_18 u_18 H locs hq_18 hf hS => ?_)
        obtain ⟨hmr, hu2⟩ := hq_18
        have hLn : LwS cy u_18 q qm ab al ah nb nl (i + 4) := ls_read hX m1 m2 m3 m4 m5 m6 hn hR hN hu2
        have heq : r_17 = r_18 := by rw [hxr, hmr, rel_count hR]
        refine lv_icmp_eq (tgt := 373) hx hb dL_law_332 (by decide) (fun h332 => ?_) (fun h332 => ?_)
        · refine lv_iinc (v := ((nI i) + 4)) (lv' := [(3, .int ((nI i) + 4)), (0, .ref b), (1, .ref q), (2, .ref qm)]) hx hb dL_law_373 hl (k := 3) rfl rfl (by decide) rfl (fun ls hl => ?_)
          refine lv_goto (tgt := 18) hx hb dL_law_376 (by decide) ?_
          rw [show nI i + 4 = nI (i + 4) from nI_add i 4] at hl
          exact ih (i + 4) _ _ u_18 ls _ _ (by omega) (by omega) (by omega) (by omega) hLn hf hS (lv_sub hl [1, 2, 3, 0] rfl)
        · exact absurd heq h332
      by_cases hw9 : sv = 9
      · refine lv_tableIn (tgt := 337) (off := 305) hx hb dL_law_32 (by rw [hw9]; decide) (by rw [hw9]; decide) (by rw [hw9]; decide) (by decide) ?_
        refine lv_aload_n hx hb dL_law_337 rfl (lv_at hl 1 rfl) ?_
        refine hp_ki (hp_rV (C := RX1) (As := []) (rest := []) ⟨hx, hb, hml, hown, hts⟩ C0 hf hS (c_X1_nodes l D cy _ f q root (nI N.length) hX.1) (cwV 0 hts gL_law_X1_nodes rfl rfl rfl (by decide +kernel) ⟨Nat.le_of_ble_eq_true rfl, Nat.le_of_ble_eq_true rfl⟩) hX.1 rfl rfl hl.1 rfl (Nat.le_of_ble_eq_true rfl) dL_law_338 ⟨by show _ ≤ 600000; omega, by show _ ≤ 7302250; omega⟩) hS (fun r_19 u_19 H locs hq_19 hf hS => ?_)
        obtain ⟨hxr, hu⟩ := hq_19
        rw [hu] at hf
        refine lv_aload_n hx hb dL_law_341 rfl (lv_at hl 2 rfl) ?_
        refine hp_ki (hp_rV (C := RX2) (As := []) (rest := [.int r_19]) ⟨hx, hb, hml, hown, hts⟩ C0 hf hS (c_X2_nodes l D cy _ f qm ab al ah nb nl cd nc n B L NB NL lam  m1 m2 m3 m5 m6 hn (fun j hj => ⟨(hR.2.1.1 j hj).1, (hR.2.1.1 j hj).2.1.1⟩) d10 d4 d5 d6 d7) (cwV 0 hts gL_law_X2_nodes rfl rfl rfl (by decide +kernel) ⟨Nat.le_of_ble_eq_true rfl, Nat.le_of_ble_eq_true rfl⟩) m1 rfl rfl hl.1 rfl (Nat.le_of_ble_eq_true rfl) dL_law_342 ⟨by show _ ≤ 600000; omega, by show _ ≤ 7302250; omega⟩) hS (fun r_20 u_20 H locs hq_20 hf hS => ?_)
        obtain ⟨kk, NBx, NLx, z1, z2, z3, z4, z5, z6, z7⟩ := hq_20
        have hLn : LwS cy u_20 q qm ab al ah nb nl (i + 4) := ls_nodes hd hX m1 m2 m3 m4 m5 m6 hn hR hN z4 z5 z6 z7
        have heq : r_19 = r_20 := by rw [hxr, z3, rel_nodes hR z2]
        refine lv_icmp_eq (tgt := 373) hx hb dL_law_345 (by decide) (fun h345 => ?_) (fun h345 => ?_)
        · refine lv_iinc (v := ((nI i) + 4)) (lv' := [(3, .int ((nI i) + 4)), (0, .ref b), (1, .ref q), (2, .ref qm)]) hx hb dL_law_373 hl (k := 3) rfl rfl (by decide) rfl (fun ls hl => ?_)
          refine lv_goto (tgt := 18) hx hb dL_law_376 (by decide) ?_
          rw [show nI i + 4 = nI (i + 4) from nI_add i 4] at hl
          exact ih (i + 4) _ _ u_20 ls _ _ (by omega) (by omega) (by omega) (by omega) hLn hf hS (lv_sub hl [1, 2, 3, 0] rfl)
        · exact absurd heq h345
      by_cases hw10 : sv = 10
      · refine lv_tableIn (tgt := 350) (off := 318) hx hb dL_law_32 (by rw [hw10]; decide) (by rw [hw10]; decide) (by rw [hw10]; decide) (by decide) ?_
        refine lv_aload_n hx hb dL_law_350 rfl (lv_at hl 1 rfl) ?_
        refine lv_aload_n hx hb dL_law_351 rfl (lv_at hl 0 rfl) ?_
        refine lv_iload_n hx hb dL_law_352 rfl (lv_at hl 3 rfl) ?_
        refine lv_iconst (v := 1) hx hb dL_law_353 (by decide) ?_
        refine lv_iadd hx hb dL_law_354 ?_
        rw [show (((nI i) + 1) : Int32) = nI (i + 1) from nI_add i 1]
        refine va_sld hx hb hX0 hbl hbA hS (vp_in_nI (n := (i + 1)) (by omega) (by omega)) dL_law_355 ?_
        rw [nI_clamp (n := (i + 1)) (by omega)]
        refine hp_ki (hp_rV (C := RX1) (As := [.int (xs (i + 1))]) (rest := []) ⟨hx, hb, hml, hown, hts⟩ C0 hf hS (c_X1_depth l D cy _ f q N t root (nI N.length) (xs (i + 1)) hX.1 hX.2 hst) (cwV 1 hts gL_law_X1_depth rfl rfl rfl (by decide +kernel) ⟨Nat.le_of_ble_eq_true rfl, Nat.le_of_ble_eq_true rfl⟩) hX.1 rfl rfl hl.1 rfl (Nat.le_of_ble_eq_true rfl) dL_law_356 ⟨by show _ ≤ 600000; omega, by show _ ≤ 7302250; omega⟩) hS (fun r_21 u_21 H locs hq_21 hf hS => ?_)
        obtain ⟨hxr, hu⟩ := hq_21
        rw [hu] at hf
        refine lv_aload_n hx hb dL_law_359 rfl (lv_at hl 2 rfl) ?_
        refine lv_aload_n hx hb dL_law_360 rfl (lv_at hl 0 rfl) ?_
        refine lv_iload_n hx hb dL_law_361 rfl (lv_at hl 3 rfl) ?_
        refine lv_iconst (v := 1) hx hb dL_law_362 (by decide) ?_
        refine lv_iadd hx hb dL_law_363 ?_
        rw [show (((nI i) + 1) : Int32) = nI (i + 1) from nI_add i 1]
        refine va_sld hx hb hX0 hbl hbA hS (vp_in_nI (n := (i + 1)) (by omega) (by omega)) dL_law_364 ?_
        rw [nI_clamp (n := (i + 1)) (by omega)]
        refine hp_ki (hp_rV (C := RX2) (As := [.int (xs (i + 1))]) (rest := [.int r_21]) ⟨hx, hb, hml, hown, hts⟩ C0 hf hS (c_X2_depth l D cy _ f qm ab al ah nb nl cd nc n B L NB NL lam (xs (i + 1)) m1 m2 m3 m5 m6 hn (fun j hj => ⟨(hR.2.1.1 j hj).1, (hR.2.1.1 j hj).2.1.1⟩) d10 d4 d5 d6 d7) (cwV 1 hts gL_law_X2_depth rfl rfl rfl (by decide +kernel) ⟨Nat.le_of_ble_eq_true rfl, Nat.le_of_ble_eq_true rfl⟩) m1 rfl rfl hl.1 rfl (Nat.le_of_ble_eq_true rfl) dL_law_365 ⟨by show _ ≤ 600000; omega, by show _ ≤ 7302250; omega⟩) hS (fun r_22 u_22 H locs hq_22 hf hS => ?_)
        obtain ⟨kk, NBx, NLx, z1, z2, z3, z4, z5, z6, z7⟩ := hq_22
        have hLn : LwS cy u_22 q qm ab al ah nb nl (i + 4) := ls_nodes hd hX m1 m2 m3 m4 m5 m6 hn hR hN z4 z5 z6 z7
        have heq : r_21 = r_22 := by rw [hxr, z3, rel_depth hR z2]
        refine lv_icmp_eq (tgt := 373) hx hb dL_law_368 (by decide) (fun h368 => ?_) (fun h368 => ?_)
        · refine lv_iinc (v := ((nI i) + 4)) (lv' := [(3, .int ((nI i) + 4)), (0, .ref b), (1, .ref q), (2, .ref qm)]) hx hb dL_law_373 hl (k := 3) rfl rfl (by decide) rfl (fun ls hl => ?_)
          refine lv_goto (tgt := 18) hx hb dL_law_376 (by decide) ?_
          rw [show nI i + 4 = nI (i + 4) from nI_add i 4] at hl
          exact ih (i + 4) _ _ u_22 ls _ _ (by omega) (by omega) (by omega) (by omega) hLn hf hS (lv_sub hl [1, 2, 3, 0] rfl)
        · exact absurd heq h368
      have tw0 : sv.toInt ≠ 0 := fun z => hw0 (Int32.toInt_inj.mp (z.trans (by decide)))
      have tw1 : sv.toInt ≠ 1 := fun z => hw1 (Int32.toInt_inj.mp (z.trans (by decide)))
      have tw2 : sv.toInt ≠ 2 := fun z => hw2 (Int32.toInt_inj.mp (z.trans (by decide)))
      have tw3 : sv.toInt ≠ 3 := fun z => hw3 (Int32.toInt_inj.mp (z.trans (by decide)))
      have tw4 : sv.toInt ≠ 4 := fun z => hw4 (Int32.toInt_inj.mp (z.trans (by decide)))
      have tw5 : sv.toInt ≠ 5 := fun z => hw5 (Int32.toInt_inj.mp (z.trans (by decide)))
      have tw6 : sv.toInt ≠ 6 := fun z => hw6 (Int32.toInt_inj.mp (z.trans (by decide)))
      have tw7 : sv.toInt ≠ 7 := fun z => hw7 (Int32.toInt_inj.mp (z.trans (by decide)))
      have tw8 : sv.toInt ≠ 8 := fun z => hw8 (Int32.toInt_inj.mp (z.trans (by decide)))
      have tw9 : sv.toInt ≠ 9 := fun z => hw9 (Int32.toInt_inj.mp (z.trans (by decide)))
      have tw10 : sv.toInt ≠ 10 := fun z => hw10 (Int32.toInt_inj.mp (z.trans (by decide)))
      refine lv_tableOut (tgt := 373) hx hb dL_law_32 (by omega) (by decide) ?_
      have hLn : LwS cy f q qm ab al ah nb nl (i + 4) := ⟨N, t, root, n, B, L, lam, Hh, hX, hM, hn, hR, by omega⟩
      refine lv_iinc (v := ((nI i) + 4)) (lv' := [(3, .int ((nI i) + 4)), (0, .ref b), (1, .ref q), (2, .ref qm)]) hx hb dL_law_373 hl (k := 3) rfl rfl (by decide) rfl (fun ls hl => ?_)
      refine lv_goto (tgt := 18) hx hb dL_law_376 (by decide) ?_
      rw [show nI i + 4 = nI (i + 4) from nI_add i 4] at hl
      exact ih (i + 4) _ _ f ls _ _ (by omega) (by omega) (by omega) (by omega) hLn hf hS (lv_sub hl [1, 2, 3, 0] rfl)
