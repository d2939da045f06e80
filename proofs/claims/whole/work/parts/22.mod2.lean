/-! the reference's writing methods -/
def insF (g : Nat → Int32) (k n : Nat) (x : Int32) : Nat → Int32 := fun j => if j < k then g j else if j = k then x else if j ≤ n then g (j - 1) else g j
def shG (g : Nat → Int32) (k n : Nat) : Nat → Int32 := fun j => if j ≤ k then g j else if j ≤ n then g (j - 1) else g j
theorem shG_n (g : Nat → Int32) (n : Nat) : shG g n n = g := by
  funext j; unfold shG
  by_cases h : j ≤ n
  · rw [if_pos h]
  · rw [if_neg h, if_neg h]
theorem shG_step {g : Nat → Int32} {k n : Nat} (h0 : 0 < k) (hk : k ≤ n) : upd (shG g k n) k (shG g k n (k - 1)) = shG g (k - 1) n := by
  funext j; unfold upd shG
  by_cases e : j = k
  · subst e; rw [if_pos rfl, if_pos (by omega), if_neg (by omega), if_pos hk]
  · rw [if_neg e]
    by_cases h1 : j ≤ k
    · rw [if_pos h1, if_pos (by omega)]
    · rw [if_neg h1, if_neg (show ¬ j ≤ k - 1 by omega)]
theorem shG_end {g : Nat → Int32} {k n : Nat} {x : Int32} : upd (shG g k n) k x = insF g k n x := by
  funext j; unfold upd shG insF
  by_cases e : j = k
  · subst e; rw [if_pos rfl, if_neg (by omega), if_pos rfl]
  · rw [if_neg e]
    by_cases h1 : j ≤ k
    · rw [if_pos h1, if_pos (by omega)]
    · rw [if_neg h1, if_neg (show ¬ j < k by omega), if_neg e]
theorem shG_at {g : Nat → Int32} {k n : Nat} (h : 0 < k) : shG g k n (k - 1) = g (k - 1) := by unfold shG; rw [if_pos (by omega)]
def dlG (g : Nat → Int32) (i k : Nat) : Nat → Int32 := fun j => if j < i then g j else if j < k then g (j + 1) else g j
theorem dlG_0 (g : Nat → Int32) (i : Nat) : dlG g i i = g := by
  funext j; unfold dlG
  by_cases h : j < i
  · rw [if_pos h]
  · rw [if_neg h, if_neg h]
theorem dlG_step {g : Nat → Int32} {i k : Nat} (hk : i ≤ k) : upd (dlG g i k) k (dlG g i k (k + 1)) = dlG g i (k + 1) := by
  funext j; unfold upd dlG
  by_cases e : j = k
  · subst e; rw [if_pos rfl, if_neg (by omega), if_neg (by omega), if_neg (by omega), if_pos (by omega)]
  · rw [if_neg e]
    by_cases h1 : j < i
    · rw [if_pos h1, if_pos h1]
    · rw [if_neg h1, if_neg h1]
      by_cases h2 : j < k
      · rw [if_pos h2, if_pos (by omega)]
      · rw [if_neg h2, if_neg (by omega)]
def FM4 (f u : AH) (a b c d : Nat) : Prop := ∀ x, x ≠ a → x ≠ b → x ≠ c → x ≠ d → u x = f x
def MIp (cy : ClassId) (f : AH) (qm ab al ah nb nl : Nat) (nc : Int32) (n : Nat) (B L Hh : Nat → Int32) (x l0 h r : Int32) (u : AH) : Prop :=
  (((¬ okP x l0) ∨ h < 0) ∧ r = -1 ∧ u = va_up f qm (some (mdO 0 ab al ah (nI n) nb nl nc))) ∨ (okP x l0 ∧ (¬ h < 0) ∧ ((∃ i : Nat, i < n ∧ B i = x ∧ L i = l0 ∧ r = 0 ∧ u = va_up (va_up f qm (some (mdO 0 ab al ah (nI n) nb nl nc))) ah (some (arO cy 500 (upd Hh i h)))) ∨
    ((∀ j, j < n → ¬ (B j = x ∧ L j = l0)) ∧ ((n = 500 ∧ r = -2 ∧ u = va_up f qm (some (mdO 0 ab al ah (nI n) nb nl nc))) ∨ (n < 500 ∧ r = 1 ∧ ∃ k : Nat, k ≤ n ∧ (∀ j, k ≤ j → j < n → bfr x l0 (B j) (L j)) ∧ (0 < k → ¬ bfr x l0 (B (k - 1)) (L (k - 1))) ∧ u qm = some (mdO 0 ab al ah (nI (n + 1)) nb nl nc) ∧ u ab = some (arO cy 500 (insF B k n x)) ∧ u al = some (arO cy 500 (insF L k n l0)) ∧ u ah = some (arO cy 500 (insF Hh k n h)) ∧ FM4 f u qm ab al ah)))))
def MRp (cy : ClassId) (f : AH) (qm ab al ah nb nl : Nat) (nc : Int32) (n : Nat) (B L Hh : Nat → Int32) (x l0 r : Int32) (u : AH) : Prop :=
  ((∀ j, j < n → ¬ (B j = x ∧ L j = l0)) ∧ r = 0 ∧ u = va_up f qm (some (mdO 0 ab al ah (nI n) nb nl nc))) ∨ ∃ i : Nat, i < n ∧ B i = x ∧ L i = l0 ∧ r = 1 ∧ u qm = some (mdO 0 ab al ah (nI (n - 1)) nb nl nc) ∧ u ab = some (arO cy 500 (dlG B i (n - 1))) ∧ u al = some (arO cy 500 (dlG L i (n - 1))) ∧ u ah = some (arO cy 500 (dlG Hh i (n - 1))) ∧ FM4 f u qm ab al ah
set_option maxHeartbeats 4000000 in
set_option maxRecDepth 100000 in
theorem c_X2_insert (l : Launch) (D : va_G) (cy : ClassId) (base : Nat) (f : AH) (qm ab al ah nb nl : Nat) (cd nc : Int32) (n : Nat) (B L Hh NB NL : Nat → Int32) (x l0 h : Int32) (hm : f qm = some (mdO cd ab al ah (nI n) nb nl nc)) (hB : f ab = some (arO cy 500 B)) (hL : f al = some (arO cy 500 L)) (hH : f ah = some (arO cy 500 Hh)) (hn : n ≤ 500) (d1 : ab ≠ al) (d2 : ab ≠ ah) (d3 : al ≠ ah) : Met l yX2_insert wsX2_insert ({ frames := 2, cells := 0, slots := 0, locals := 41 }) (va_Pc [.ref qm, .int x, .int l0, .int h] (hp_B D cy base f)) (va_Qi (fun (r : Int32) (u : AH) => MIp cy f qm ab al ah nb nl nc n B L Hh x l0 h r u) (hp_B D cy base) (hp_A base)) 0 0 (hp_A base) := by
  refine Met.ofW (cc := cX2_insert) (maxL := 6) (ret := (some .int)) (by decide) rfl ?_
  intro p e s m args below meth c s₁ Bd hml hv
  obtain ⟨rfl, hf, C0⟩ := hv
  have hx := Bd.exec
  have hb := Bd.bytes
  have hr := Bd.returns
  have hts := atoms_spec (ws := wsX2_insert) Bd.pre
  have hown : s.vm.findClass RX2 = some m.cls := findClass_of_methodNamed Bd.named
  have hlocks := Bd.notSynchronized
  have hin2 : ∀ w ∈ wsX20, w ∈ wsX2_insert := by decide +kernel
  have hS : va_S (hp_A base) s.heap s.heap [] := va_S.rf
  have hl := lv_entry ([.ref qm, .int x, .int l0, .int h]) (n := 6) (Nat.le_of_ble_eq_true rfl)
  rw [lg_entry_eq]
  generalize (lg_sl ([.ref qm, .int x, .int l0, .int h]) ++ List.replicate (6 - (lg_sl ([.ref qm, .int x, .int l0, .int h])).length) Slot.unset).toArray = ls at hl ⊢
  have hl : lv_has ls 6 [(0, .ref qm), (1, .int x), (2, .int l0), (3, .int h)] := hl
  have loop : ∀ (c0 k : Nat) (fc : AH) (ls : Array Slot) (H : Heap) (locs : List Loc), k ≤ c0 → k ≤ n → n < 500 → okP x l0 → (¬ h < 0) → (∀ j, j < n → ¬ (B j = x ∧ L j = l0)) → (∀ j, k ≤ j → j < n → bfr x l0 (B j) (L j)) → fc qm = some (mdO 0 ab al ah (nI n) nb nl nc) → fc ab = some (arO cy 500 (shG B k n)) → fc al = some (arO cy 500 (shG L k n)) → fc ah = some (arO cy 500 (shG Hh k n)) → FM4 f fc qm ab al ah → hp_ok D base fc H → va_S (hp_A base) s.heap H locs → lv_has ls 6 [(0, .ref qm), (1, .int x), (2, .int l0), (3, .int h), (4, .int (-1)), (5, .int (nI k))] → W p l e (headSpec wsX2_insert ({ frames := 2, cells := 0, slots := 0, locals := 41 } : Room)).room s m #[Value.ref qm, Value.int x, Value.int l0, Value.int h] below meth c H locs 0 0 (MQ below (va_Qi (fun (r : Int32) (u : AH) => MIp cy f qm ab al ah nb nl nc n B L Hh x l0 h r u) (hp_B D cy base) (hp_A base)) #[Value.ref qm, Value.int x, Value.int l0, Value.int h] s 0 0 (hp_A base)) (F0 m 62 ls []) := by
    intro c0
    induction c0 with
    | zero =>
      intro k fc ls H locs hkc hk hn5 hok hh hno hI hm hB hL hH hF hf hS hl
      refine lv_iload hx hb dX2_insert_62 (lv_at hl 5 rfl) ?_
      refine lv_if_le (tgt := 134) hx hb dX2_insert_64 (by decide) (fun h64 => ?_) (fun h64 => ?_)
      · have hk0 : k = 0 := Nat.le_zero.mp ((nI_leI (b := 0) (by omega) (by omega)).mp h64)
        have hbk : 0 < k → ¬ bfr x l0 (B (k - 1)) (L (k - 1)) := fun g => absurd g (by omega)
        refine lv_aload_n hx hb dX2_insert_134 rfl (lv_at hl 0 rfl) ?_
        refine hp_get (ci := 2) (v := .ref ab) (C := RX2) (T := TX2) (N := 8) hx hb hts hin2 hown C0 hf hm rfl 1 (by decide) (hts (.fieldLink RX2 7 "RouteTrieModel" "bits" "[I") (by decide +kernel)) (fun _ h9 => h9) rfl dX2_insert_135 ?_
        refine lv_iload hx hb dX2_insert_138 (lv_at hl 5 rfl) ?_
        refine lv_iload_n hx hb dX2_insert_140 rfl (lv_at hl 1 rfl) ?_
        refine hp_iast (n := 500) (g := (shG B k n)) hx hb C0 hf hS hB (vp_in_nI (n := k) (N := 500) (by omega) (by omega)) dX2_insert_141 (fun f_1 H locs ef_1 hf hS => ?_)
        rw [nI_clamp (n := k) (by omega)] at ef_1
        have hc_1 : f_1 ab = some (.inl (cy, 500, .inl (upd (shG B k n) k x))) := by rw [ef_1]; exact va_up_self _ _ _
        have hc_1_qm : f_1 qm = some (.inr (2, [.int 0, .ref ab, .ref al, .ref ah, .int (nI n), .ref nb, .ref nl, .int nc])) := by rw [ef_1, va_up_ne _ _ (hp_dif hm hB (by simp))]; exact hm
        have hc_1_al : f_1 al = some (.inl (cy, 500, .inl (shG L k n))) := by rw [ef_1, va_up_ne _ _ (Ne.symm d1)]; exact hL
        have hc_1_ah : f_1 ah = some (.inl (cy, 500, .inl (shG Hh k n))) := by rw [ef_1, va_up_ne _ _ (Ne.symm d2)]; exact hH
        refine lv_aload_n hx hb dX2_insert_142 rfl (lv_at hl 0 rfl) ?_
        refine hp_get (ci := 2) (v := .ref al) (C := RX2) (T := TX2) (N := 8) hx hb hts hin2 hown C0 hf hc_1_qm rfl 2 (by decide) (hts (.fieldLink RX2 13 "RouteTrieModel" "lengths" "[I") (by decide +kernel)) (fun _ h9 => h9) rfl dX2_insert_143 ?_
        refine lv_iload hx hb dX2_insert_146 (lv_at hl 5 rfl) ?_
        refine lv_iload_n hx hb dX2_insert_148 rfl (lv_at hl 2 rfl) ?_
        refine hp_iast (n := 500) (g := (shG L k n)) hx hb C0 hf hS hc_1_al (vp_in_nI (n := k) (N := 500) (by omega) (by omega)) dX2_insert_149 (fun f_2 H locs ef_2 hf hS => ?_)
        rw [nI_clamp (n := k) (by omega)] at ef_2
        have hc_2 : f_2 al = some (.inl (cy, 500, .inl (upd (shG L k n) k l0))) := by rw [ef_2]; exact va_up_self _ _ _
        have hc_2_qm : f_2 qm = some (.inr (2, [.int 0, .ref ab, .ref al, .ref ah, .int (nI n), .ref nb, .ref nl, .int nc])) := by rw [ef_2, va_up_ne _ _ (hp_dif hc_1_qm hc_1_al (by simp))]; exact hc_1_qm
        have hc_2_ah : f_2 ah = some (.inl (cy, 500, .inl (shG Hh k n))) := by rw [ef_2, va_up_ne _ _ (Ne.symm d3)]; exact hc_1_ah
        have hc_2_ab : f_2 ab = some (.inl (cy, 500, .inl (upd (shG B k n) k x))) := by rw [ef_2, va_up_ne _ _ d1]; exact hc_1
        refine lv_aload_n hx hb dX2_insert_150 rfl (lv_at hl 0 rfl) ?_
        refine hp_get (ci := 2) (v := .ref ah) (C := RX2) (T := TX2) (N := 8) hx hb hts hin2 hown C0 hf hc_2_qm rfl 3 (by decide) (hts (.fieldLink RX2 16 "RouteTrieModel" "hops" "[I") (by decide +kernel)) (fun _ h9 => h9) rfl dX2_insert_151 ?_
        refine lv_iload hx hb dX2_insert_154 (lv_at hl 5 rfl) ?_
        refine lv_iload_n hx hb dX2_insert_156 rfl (lv_at hl 3 rfl) ?_
        refine hp_iast (n := 500) (g := (shG Hh k n)) hx hb C0 hf hS hc_2_ah (vp_in_nI (n := k) (N := 500) (by omega) (by omega)) dX2_insert_157 (fun f_3 H locs ef_3 hf hS => ?_)
        rw [nI_clamp (n := k) (by omega)] at ef_3
        have hc_3 : f_3 ah = some (.inl (cy, 500, .inl (upd (shG Hh k n) k h))) := by rw [ef_3]; exact va_up_self _ _ _
        have hc_3_qm : f_3 qm = some (.inr (2, [.int 0, .ref ab, .ref al, .ref ah, .int (nI n), .ref nb, .ref nl, .int nc])) := by rw [ef_3, va_up_ne _ _ (hp_dif hc_2_qm hc_2_ah (by simp))]; exact hc_2_qm
        have hc_3_ab : f_3 ab = some (.inl (cy, 500, .inl (upd (shG B k n) k x))) := by rw [ef_3, va_up_ne _ _ d2]; exact hc_2_ab
        have hc_3_al : f_3 al = some (.inl (cy, 500, .inl (upd (shG L k n) k l0))) := by rw [ef_3, va_up_ne _ _ d3]; exact hc_2
        refine lv_aload_n hx hb dX2_insert_158 rfl (lv_at hl 0 rfl) ?_
        refine lv_dup hx hb dX2_insert_159 rfl ?_
        refine hp_get (ci := 2) (v := .int (nI n)) (C := RX2) (T := TX2) (N := 8) hx hb hts hin2 hown C0 hf hc_3_qm rfl 4 (by decide) (hts (.fieldLink RX2 29 "RouteTrieModel" "size" "I") (by decide +kernel)) (fun _ h9 => h9) rfl dX2_insert_160 ?_
        refine lv_iconst (v := 1) hx hb dX2_insert_163 (by decide) ?_
        refine lv_iadd hx hb dX2_insert_164 ?_
        refine hp_put (ci := 2) (v := .int ((nI n) + 1)) (C := RX2) (T := TX2) (N := 8) hx hb hts hin2 tyX2 tyX2_ok nmX2 hown C0 hf hS hc_3_qm rfl 4 (by decide) (hts (.fieldLink RX2 29 "RouteTrieModel" "size" "I") (by decide +kernel)) (fun _ h9 => h9) rfl rfl rfl (Nat.le_of_ble_eq_true rfl) dX2_insert_165 (fun f_4 H locs ef_4 hf hS => ?_)
        have hc_4 : f_4 qm = some (.inr (2, [.int 0, .ref ab, .ref al, .ref ah, .int ((nI n) + 1), .ref nb, .ref nl, .int nc])) := by rw [ef_4]; exact va_up_self _ _ _
        have hc_4_ab : f_4 ab = some (.inl (cy, 500, .inl (upd (shG B k n) k x))) := by rw [ef_4, va_up_ne _ _ (hp_dif hc_3_ab hc_3_qm (by simp))]; exact hc_3_ab
        have hc_4_al : f_4 al = some (.inl (cy, 500, .inl (upd (shG L k n) k l0))) := by rw [ef_4, va_up_ne _ _ (hp_dif hc_3_al hc_3_qm (by simp))]; exact hc_3_al
        have hc_4_ah : f_4 ah = some (.inl (cy, 500, .inl (upd (shG Hh k n) k h))) := by rw [ef_4, va_up_ne _ _ (hp_dif hc_3 hc_3_qm (by simp))]; exact hc_3
        refine lv_iconst (v := 1) hx hb dX2_insert_168 (by decide) ?_
        exact hp_iret (v := 1) hx hb hr hlocks C0 hf hS (by first | exact Nat.le_refl _ | omega) (by first | exact Nat.le_refl _ | omega) dX2_insert_169 (Or.inr ⟨hok, hh, Or.inr ⟨hno, Or.inr ⟨hn5, rfl, k, hk, hI, hbk, by rw [hc_4, nI_1], by rw [← shG_end]; exact hc_4_ab, by rw [← shG_end]; exact hc_4_al, by rw [← shG_end]; exact hc_4_ah, fun y g1 g2 g3 g4 => by rw [ef_4, va_up_ne _ _ g1, ef_3, va_up_ne _ _ g4, ef_2, va_up_ne _ _ g3, ef_1, va_up_ne _ _ g2]; exact hF y g1 g2 g3 g4⟩⟩⟩)
      · have hk0 : 0 < k := Nat.pos_of_ne_zero (fun e => h64 (by rw [e]; exact Int32.le_refl _))
        exact absurd hk0 (by omega)
    | succ c0 ih =>
      intro k fc ls H locs hkc hk hn5 hok hh hno hI hm hB hL hH hF hf hS hl
      refine lv_iload hx hb dX2_insert_62 (lv_at hl 5 rfl) ?_
      refine lv_if_le (tgt := 134) hx hb dX2_insert_64 (by decide) (fun h64 => ?_) (fun h64 => ?_)
      · have hk0 : k = 0 := Nat.le_zero.mp ((nI_leI (b := 0) (by omega) (by omega)).mp h64)
        have hbk : 0 < k → ¬ bfr x l0 (B (k - 1)) (L (k - 1)) := fun g => absurd g (by omega)
        refine lv_aload_n hx hb dX2_insert_134 rfl (lv_at hl 0 rfl) ?_
        refine hp_get (ci := 2) (v := .ref ab) (C := RX2) (T := TX2) (N := 8) hx hb hts hin2 hown C0 hf hm rfl 1 (by decide) (hts (.fieldLink RX2 7 "RouteTrieModel" "bits" "[I") (by decide +kernel)) (fun _ h9 => h9) rfl dX2_insert_135 ?_
        refine lv_iload hx hb dX2_insert_138 (lv_at hl 5 rfl) ?_
        refine lv_iload_n hx hb dX2_insert_140 rfl (lv_at hl 1 rfl) ?_
        refine hp_iast (n := 500) (g := (shG B k n)) hx hb C0 hf hS hB (vp_in_nI (n := k) (N := 500) (by omega) (by omega)) dX2_insert_141 (fun f_1 H locs ef_1 hf hS => ?_)
        rw [nI_clamp (n := k) (by omega)] at ef_1
        have hc_1 : f_1 ab = some (.inl (cy, 500, .inl (upd (shG B k n) k x))) := by rw [ef_1]; exact va_up_self _ _ _
        have hc_1_qm : f_1 qm = some (.inr (2, [.int 0, .ref ab, .ref al, .ref ah, .int (nI n), .ref nb, .ref nl, .int nc])) := by rw [ef_1, va_up_ne _ _ (hp_dif hm hB (by simp))]; exact hm
        have hc_1_al : f_1 al = some (.inl (cy, 500, .inl (shG L k n))) := by rw [ef_1, va_up_ne _ _ (Ne.symm d1)]; exact hL
        have hc_1_ah : f_1 ah = some (.inl (cy, 500, .inl (shG Hh k n))) := by rw [ef_1, va_up_ne _ _ (Ne.symm d2)]; exact hH
        refine lv_aload_n hx hb dX2_insert_142 rfl (lv_at hl 0 rfl) ?_
        refine hp_get (ci := 2) (v := .ref al) (C := RX2) (T := TX2) (N := 8) hx hb hts hin2 hown C0 hf hc_1_qm rfl 2 (by decide) (hts (.fieldLink RX2 13 "RouteTrieModel" "lengths" "[I") (by decide +kernel)) (fun _ h9 => h9) rfl dX2_insert_143 ?_
        refine lv_iload hx hb dX2_insert_146 (lv_at hl 5 rfl) ?_
        refine lv_iload_n hx hb dX2_insert_148 rfl (lv_at hl 2 rfl) ?_
        refine hp_iast (n := 500) (g := (shG L k n)) hx hb C0 hf hS hc_1_al (vp_in_nI (n := k) (N := 500) (by omega) (by omega)) dX2_insert_149 (fun f_2 H locs ef_2 hf hS => ?_)
        rw [nI_clamp (n := k) (by omega)] at ef_2
        have hc_2 : f_2 al = some (.inl (cy, 500, .inl (upd (shG L k n) k l0))) := by rw [ef_2]; exact va_up_self _ _ _
        have hc_2_qm : f_2 qm = some (.inr (2, [.int 0, .ref ab, .ref al, .ref ah, .int (nI n), .ref nb, .ref nl, .int nc])) := by rw [ef_2, va_up_ne _ _ (hp_dif hc_1_qm hc_1_al (by simp))]; exact hc_1_qm
        have hc_2_ah : f_2 ah = some (.inl (cy, 500, .inl (shG Hh k n))) := by rw [ef_2, va_up_ne _ _ (Ne.symm d3)]; exact hc_1_ah
        have hc_2_ab : f_2 ab = some (.inl (cy, 500, .inl (upd (shG B k n) k x))) := by rw [ef_2, va_up_ne _ _ d1]; exact hc_1
        refine lv_aload_n hx hb dX2_insert_150 rfl (lv_at hl 0 rfl) ?_
        refine hp_get (ci := 2) (v := .ref ah) (C := RX2) (T := TX2) (N := 8) hx hb hts hin2 hown C0 hf hc_2_qm rfl 3 (by decide) (hts (.fieldLink RX2 16 "RouteTrieModel" "hops" "[I") (by decide +kernel)) (fun _ h9 => h9) rfl dX2_insert_151 ?_
        refine lv_iload hx hb dX2_insert_154 (lv_at hl 5 rfl) ?_
        refine lv_iload_n hx hb dX2_insert_156 rfl (lv_at hl 3 rfl) ?_
        refine hp_iast (n := 500) (g := (shG Hh k n)) hx hb C0 hf hS hc_2_ah (vp_in_nI (n := k) (N := 500) (by omega) (by omega)) dX2_insert_157 (fun f_3 H locs ef_3 hf hS => ?_)
        rw [nI_clamp (n := k) (by omega)] at ef_3
        have hc_3 : f_3 ah = some (.inl (cy, 500, .inl (upd (shG Hh k n) k h))) := by rw [ef_3]; exact va_up_self _ _ _
        have hc_3_qm : f_3 qm = some (.inr (2, [.int 0, .ref ab, .ref al, .ref ah, .int (nI n), .ref nb, .ref nl, .int nc])) := by rw [ef_3, va_up_ne _ _ (hp_dif hc_2_qm hc_2_ah (by simp))]; exact hc_2_qm
        have hc_3_ab : f_3 ab = some (.inl (cy, 500, .inl (upd (shG B k n) k x))) := by rw [ef_3, va_up_ne _ _ d2]; exact hc_2_ab
        have hc_3_al : f_3 al = some (.inl (cy, 500, .inl (upd (shG L k n) k l0))) := by rw [ef_3, va_up_ne _ _ d3]; exact hc_2
        refine lv_aload_n hx hb dX2_insert_158 rfl (lv_at hl 0 rfl) ?_
        refine lv_dup hx hb dX2_insert_159 rfl ?_
        refine hp_get (ci := 2) (v := .int (nI n)) (C := RX2) (T := TX2) (N := 8) hx hb hts hin2 hown C0 hf hc_3_qm rfl 4 (by decide) (hts (.fieldLink RX2 29 "RouteTrieModel" "size" "I") (by decide +kernel)) (fun _ h9 => h9) rfl dX2_insert_160 ?_
        refine lv_iconst (v := 1) hx hb dX2_insert_163 (by decide) ?_
        refine lv_iadd hx hb dX2_insert_164 ?_
        refine hp_put (ci := 2) (v := .int ((nI n) + 1)) (C := RX2) (T := TX2) (N := 8) hx hb hts hin2 tyX2 tyX2_ok nmX2 hown C0 hf hS hc_3_qm rfl 4 (by decide) (hts (.fieldLink RX2 29 "RouteTrieModel" "size" "I") (by decide +kernel)) (fun _ h9 => h9) rfl rfl rfl (Nat.le_of_ble_eq_true rfl) dX2_insert_165 (fun f_4 H locs ef_4 hf hS => ?_)
        have hc_4 : f_4 qm = some (.inr (2, [.int 0, .ref ab, .ref al, .ref ah, .int ((nI n) + 1), .ref nb, .ref nl, .int nc])) := by rw [ef_4]; exact va_up_self _ _ _
        have hc_4_ab : f_4 ab = some (.inl (cy, 500, .inl (upd (shG B k n) k x))) := by rw [ef_4, va_up_ne _ _ (hp_dif hc_3_ab hc_3_qm (by simp))]; exact hc_3_ab
        have hc_4_al : f_4 al = some (.inl (cy, 500, .inl (upd (shG L k n) k l0))) := by rw [ef_4, va_up_ne _ _ (hp_dif hc_3_al hc_3_qm (by simp))]; exact hc_3_al
        have hc_4_ah : f_4 ah = some (.inl (cy, 500, .inl (upd (shG Hh k n) k h))) := by rw [ef_4, va_up_ne _ _ (hp_dif hc_3 hc_3_qm (by simp))]; exact hc_3
        refine lv_iconst (v := 1) hx hb dX2_insert_168 (by decide) ?_
        exact hp_iret (v := 1) hx hb hr hlocks C0 hf hS (by first | exact Nat.le_refl _ | omega) (by first | exact Nat.le_refl _ | omega) dX2_insert_169 (Or.inr ⟨hok, hh, Or.inr ⟨hno, Or.inr ⟨hn5, rfl, k, hk, hI, hbk, by rw [hc_4, nI_1], by rw [← shG_end]; exact hc_4_ab, by rw [← shG_end]; exact hc_4_al, by rw [← shG_end]; exact hc_4_ah, fun y g1 g2 g3 g4 => by rw [ef_4, va_up_ne _ _ g1, ef_3, va_up_ne _ _ g4, ef_2, va_up_ne _ _ g3, ef_1, va_up_ne _ _ g2]; exact hF y g1 g2 g3 g4⟩⟩⟩)
      · have hk0 : 0 < k := Nat.pos_of_ne_zero (fun e => h64 (by rw [e]; exact Int32.le_refl _))
        refine lv_aload_n hx hb dX2_insert_67 rfl (lv_at hl 0 rfl) ?_
        refine lv_iload_n hx hb dX2_insert_68 rfl (lv_at hl 1 rfl) ?_
        refine lv_iload_n hx hb dX2_insert_69 rfl (lv_at hl 2 rfl) ?_
        refine lv_iload hx hb dX2_insert_70 (lv_at hl 5 rfl) ?_
        refine lv_iconst (v := 1) hx hb dX2_insert_72 (by decide) ?_
        refine lv_isub hx hb dX2_insert_73 ?_
        rw [show (((nI k) - 1) : Int32) = nI (k - 1) from (pk_sub (a := k) (b := 1) (by omega))]
        refine hp_ki (hp_rV (C := RX2) (As := [.int x, .int l0, .int (nI (k - 1))]) (rest := []) ⟨hx, hb, hml, hown, hts⟩ C0 hf hS (c_X2_isBefore l D cy base fc qm ab al ah nb nl 0 nc n (shG B k n) (shG L k n) (shG Hh k n) NB NL x l0 (k - 1) hm hB hL hH (by omega) (by omega)) (cwV 3 hts gX2_insert_X2_isBefore rfl rfl rfl (by decide +kernel) ⟨Nat.le_of_ble_eq_true rfl, Nat.le_of_ble_eq_true rfl⟩) hm rfl rfl hl.1 rfl (Nat.le_of_ble_eq_true rfl) dX2_insert_74 ⟨Nat.le_of_ble_eq_true rfl, Nat.le_of_ble_eq_true rfl⟩) hS (fun r_5 u_5 H locs hq_5 hf hS => ?_)
        obtain ⟨hr_5, hu⟩ := hq_5
        rw [hu] at hf
        have hbf := ite1 hr_5
        rw [shG_at hk0, shG_at hk0] at hbf
        refine lv_if_eq (tgt := 134) hx hb dX2_insert_77 (by decide) (fun h77 => ?_) (fun h77 => ?_)
        · have hbk : 0 < k → ¬ bfr x l0 (B (k - 1)) (L (k - 1)) := fun _ => (not_congr hbf).mp (fun z => z h77)
          refine lv_aload_n hx hb dX2_insert_134 rfl (lv_at hl 0 rfl) ?_
          refine hp_get (ci := 2) (v := .ref ab) (C := RX2) (T := TX2) (N := 8) hx hb hts hin2 hown C0 hf hm rfl 1 (by decide) (hts (.fieldLink RX2 7 "RouteTrieModel" "bits" "[I") (by decide +kernel)) (fun _ h9 => h9) rfl dX2_insert_135 ?_
          refine lv_iload hx hb dX2_insert_138 (lv_at hl 5 rfl) ?_
          refine lv_iload_n hx hb dX2_insert_140 rfl (lv_at hl 1 rfl) ?_
          refine hp_iast (n := 500) (g := (shG B k n)) hx hb C0 hf hS hB (vp_in_nI (n := k) (N := 500) (by omega) (by omega)) dX2_insert_141 (fun f_6 H locs ef_6 hf hS => ?_)
          rw [nI_clamp (n := k) (by omega)] at ef_6
          have hc_6 : f_6 ab = some (.inl (cy, 500, .inl (upd (shG B k n) k x))) := by rw [ef_6]; exact va_up_self _ _ _
          have hc_6_qm : f_6 qm = some (.inr (2, [.int 0, .ref ab, .ref al, .ref ah, .int (nI n), .ref nb, .ref nl, .int nc])) := by rw [ef_6, va_up_ne _ _ (hp_dif hm hB (by simp))]; exact hm
          have hc_6_al : f_6 al = some (.inl (cy, 500, .inl (shG L k n))) := by rw [ef_6, va_up_ne _ _ (Ne.symm d1)]; exact hL
          have hc_6_ah : f_6 ah = some (.inl (cy, 500, .inl (shG Hh k n))) := by rw [ef_6, va_up_ne _ _ (Ne.symm d2)]; exact hH
          refine lv_aload_n hx hb dX2_insert_142 rfl (lv_at hl 0 rfl) ?_
          refine hp_get (ci := 2) (v := .ref al) (C := RX2) (T := TX2) (N := 8) hx hb hts hin2 hown C0 hf hc_6_qm rfl 2 (by decide) (hts (.fieldLink RX2 13 "RouteTrieModel" "lengths" "[I") (by decide +kernel)) (fun _ h9 => h9) rfl dX2_insert_143 ?_
          refine lv_iload hx hb dX2_insert_146 (lv_at hl 5 rfl) ?_
          refine lv_iload_n hx hb dX2_insert_148 rfl (lv_at hl 2 rfl) ?_
          refine hp_iast (n := 500) (g := (shG L k n)) hx hb C0 hf hS hc_6_al (vp_in_nI (n := k) (N := 500) (by omega) (by omega)) dX2_insert_149 (fun f_7 H locs ef_7 hf hS => ?_)
          rw [nI_clamp (n := k) (by omega)] at ef_7
          have hc_7 : f_7 al = some (.inl (cy, 500, .inl (upd (shG L k n) k l0))) := by rw [ef_7]; exact va_up_self _ _ _
          have hc_7_qm : f_7 qm = some (.inr (2, [.int 0, .ref ab, .ref al, .ref ah, .int (nI n), .ref nb, .ref nl, .int nc])) := by rw [ef_7, va_up_ne _ _ (hp_dif hc_6_qm hc_6_al (by simp))]; exact hc_6_qm
          have hc_7_ah : f_7 ah = some (.inl (cy, 500, .inl (shG Hh k n))) := by rw [ef_7, va_up_ne _ _ (Ne.symm d3)]; exact hc_6_ah
          have hc_7_ab : f_7 ab = some (.inl (cy, 500, .inl (upd (shG B k n) k x))) := by rw [ef_7, va_up_ne _ _ d1]; exact hc_6
          refine lv_aload_n hx hb dX2_insert_150 rfl (lv_at hl 0 rfl) ?_
          refine hp_get (ci := 2) (v := .ref ah) (C := RX2) (T := TX2) (N := 8) hx hb hts hin2 hown C0 hf hc_7_qm rfl 3 (by decide) (hts (.fieldLink RX2 16 "RouteTrieModel" "hops" "[I") (by decide +kernel)) (fun _ h9 => h9) rfl dX2_insert_151 ?_
          refine lv_iload hx hb dX2_insert_154 (lv_at hl 5 rfl) ?_
          refine lv_iload_n hx hb dX2_insert_156 rfl (lv_at hl 3 rfl) ?_
          refine hp_iast (n := 500) (g := (shG Hh k n)) hx hb C0 hf hS hc_7_ah (vp_in_nI (n := k) (N := 500) (by omega) (by omega)) dX2_insert_157 (fun f_8 H locs ef_8 hf hS => ?_)
          rw [nI_clamp (n := k) (by omega)] at ef_8
          have hc_8 : f_8 ah = some (.inl (cy, 500, .inl (upd (shG Hh k n) k h))) := by rw [ef_8]; exact va_up_self _ _ _
          have hc_8_qm : f_8 qm = some (.inr (2, [.int 0, .ref ab, .ref al, .ref ah, .int (nI n), .ref nb, .ref nl, .int nc])) := by rw [ef_8, va_up_ne _ _ (hp_dif hc_7_qm hc_7_ah (by simp))]; exact hc_7_qm
          have hc_8_ab : f_8 ab = some (.inl (cy, 500, .inl (upd (shG B k n) k x))) := by rw [ef_8, va_up_ne _ _ d2]; exact hc_7_ab
          have hc_8_al : f_8 al = some (.inl (cy, 500, .inl (upd (shG L k n) k l0))) := by rw [ef_8, va_up_ne _ _ d3]; exact hc_7
          refine lv_aload_n hx hb dX2_insert_158 rfl (lv_at hl 0 rfl) ?_
          refine lv_dup hx hb dX2_insert_159 rfl ?_
          refine hp_get (ci := 2) (v := .int (nI n)) (C := RX2) (T := TX2) (N := 8) hx hb hts hin2 hown C0 hf hc_8_qm rfl 4 (by decide) (hts (.fieldLink RX2 29 "RouteTrieModel" "size" "I") (by decide +kernel)) (fun _ h9 => h9) rfl dX2_insert_160 ?_
          refine lv_iconst (v := 1) hx hb dX2_insert_163 (by decide) ?_
          refine lv_iadd hx hb dX2_insert_164 ?_
          refine hp_put (ci := 2) (v := .int ((nI n) + 1)) (C := RX2) (T := TX2) (N := 8) hx hb hts hin2 tyX2 tyX2_ok nmX2 hown C0 hf hS hc_8_qm rfl 4 (by decide) (hts (.fieldLink RX2 29 "RouteTrieModel" "size" "I") (by decide +kernel)) (fun _ h9 => h9) rfl rfl rfl (Nat.le_of_ble_eq_true rfl) dX2_insert_165 (fun f_9 H locs ef_9 hf hS => ?_)
          have hc_9 : f_9 qm = some (.inr (2, [.int 0, .ref ab, .ref al, .ref ah, .int ((nI n) + 1), .ref nb, .ref nl, .int nc])) := by rw [ef_9]; exact va_up_self _ _ _
          have hc_9_ab : f_9 ab = some (.inl (cy, 500, .inl (upd (shG B k n) k x))) := by rw [ef_9, va_up_ne _ _ (hp_dif hc_8_ab hc_8_qm (by simp))]; exact hc_8_ab
          have hc_9_al : f_9 al = some (.inl (cy, 500, .inl (upd (shG L k n) k l0))) := by rw [ef_9, va_up_ne _ _ (hp_dif hc_8_al hc_8_qm (by simp))]; exact hc_8_al
          have hc_9_ah : f_9 ah = some (.inl (cy, 500, .inl (upd (shG Hh k n) k h))) := by rw [ef_9, va_up_ne _ _ (hp_dif hc_8 hc_8_qm (by simp))]; exact hc_8
          refine lv_iconst (v := 1) hx hb dX2_insert_168 (by decide) ?_
          exact hp_iret (v := 1) hx hb hr hlocks C0 hf hS (by first | exact Nat.le_refl _ | omega) (by first | exact Nat.le_refl _ | omega) dX2_insert_169 (Or.inr ⟨hok, hh, Or.inr ⟨hno, Or.inr ⟨hn5, rfl, k, hk, hI, hbk, by rw [hc_9, nI_1], by rw [← shG_end]; exact hc_9_ab, by rw [← shG_end]; exact hc_9_al, by rw [← shG_end]; exact hc_9_ah, fun y g1 g2 g3 g4 => by rw [ef_9, va_up_ne _ _ g1, ef_8, va_up_ne _ _ g4, ef_7, va_up_ne _ _ g3, ef_6, va_up_ne _ _ g2]; exact hF y g1 g2 g3 g4⟩⟩⟩)
        · refine lv_aload_n hx hb dX2_insert_80 rfl (lv_at hl 0 rfl) ?_
          refine hp_get (ci := 2) (v := .ref ab) (C := RX2) (T := TX2) (N := 8) hx hb hts hin2 hown C0 hf hm rfl 1 (by decide) (hts (.fieldLink RX2 7 "RouteTrieModel" "bits" "[I") (by decide +kernel)) (fun _ h9 => h9) rfl dX2_insert_81 ?_
          refine lv_iload hx hb dX2_insert_84 (lv_at hl 5 rfl) ?_
          refine lv_aload_n hx hb dX2_insert_86 rfl (lv_at hl 0 rfl) ?_
          refine hp_get (ci := 2) (v := .ref ab) (C := RX2) (T := TX2) (N := 8) hx hb hts hin2 hown C0 hf hm rfl 1 (by decide) (hts (.fieldLink RX2 7 "RouteTrieModel" "bits" "[I") (by decide +kernel)) (fun _ h9 => h9) rfl dX2_insert_87 ?_
          refine lv_iload hx hb dX2_insert_90 (lv_at hl 5 rfl) ?_
          refine lv_iconst (v := 1) hx hb dX2_insert_92 (by decide) ?_
          refine lv_isub hx hb dX2_insert_93 ?_
          rw [show (((nI k) - 1) : Int32) = nI (k - 1) from (pk_sub (a := k) (b := 1) (by omega))]
          refine hp_iald (n := 500) (g := (shG B k n)) hx hb C0 hf hB (vp_in_nI (n := (k - 1)) (N := 500) (by omega) (by omega)) dX2_insert_94 ?_
          rw [nI_clamp (n := (k - 1)) (by omega)]
          refine hp_iast (n := 500) (g := (shG B k n)) hx hb C0 hf hS hB (vp_in_nI (n := k) (N := 500) (by omega) (by omega)) dX2_insert_95 (fun f_10 H locs ef_10 hf hS => ?_)
          rw [nI_clamp (n := k) (by omega)] at ef_10
          have hc_10 : f_10 ab = some (.inl (cy, 500, .inl (upd (shG B k n) k ((shG B k n) (k - 1))))) := by rw [ef_10]; exact va_up_self _ _ _
          have hc_10_qm : f_10 qm = some (.inr (2, [.int 0, .ref ab, .ref al, .ref ah, .int (nI n), .ref nb, .ref nl, .int nc])) := by rw [ef_10, va_up_ne _ _ (hp_dif hm hB (by simp))]; exact hm
          have hc_10_al : f_10 al = some (.inl (cy, 500, .inl (shG L k n))) := by rw [ef_10, va_up_ne _ _ (Ne.symm d1)]; exact hL
          have hc_10_ah : f_10 ah = some (.inl (cy, 500, .inl (shG Hh k n))) := by rw [ef_10, va_up_ne _ _ (Ne.symm d2)]; exact hH
          refine lv_aload_n hx hb dX2_insert_96 rfl (lv_at hl 0 rfl) ?_
          refine hp_get (ci := 2) (v := .ref al) (C := RX2) (T := TX2) (N := 8) hx hb hts hin2 hown C0 hf hc_10_qm rfl 2 (by decide) (hts (.fieldLink RX2 13 "RouteTrieModel" "lengths" "[I") (by decide +kernel)) (fun _ h9 => h9) rfl dX2_insert_97 ?_
          refine lv_iload hx hb dX2_insert_100 (lv_at hl 5 rfl) ?_
          refine lv_aload_n hx hb dX2_insert_102 rfl (lv_at hl 0 rfl) ?_
          refine hp_get (ci := 2) (v := .ref al) (C := RX2) (T := TX2) (N := 8) hx hb hts hin2 hown C0 hf hc_10_qm rfl 2 (by decide) (hts (.fieldLink RX2 13 "RouteTrieModel" "lengths" "[I") (by decide +kernel)) (fun _ h9 => h9) rfl dX2_insert_103 ?_
          refine lv_iload hx hb dX2_insert_106 (lv_at hl 5 rfl) ?_
          refine lv_iconst (v := 1) hx hb dX2_insert_108 (by decide) ?_
          refine lv_isub hx hb dX2_insert_109 ?_
          rw [show (((nI k) - 1) : Int32) = nI (k - 1) from (pk_sub (a := k) (b := 1) (by omega))]
          refine hp_iald (n := 500) (g := (shG L k n)) hx hb C0 hf hc_10_al (vp_in_nI (n := (k - 1)) (N := 500) (by omega) (by omega)) dX2_insert_110 ?_
          rw [nI_clamp (n := (k - 1)) (by omega)]
          refine hp_iast (n := 500) (g := (shG L k n)) hx hb C0 hf hS hc_10_al (vp_in_nI (n := k) (N := 500) (by omega) (by omega)) dX2_insert_111 (fun f_11 H locs ef_11 hf hS => ?_)
          rw [nI_clamp (n := k) (by omega)] at ef_11
          have hc_11 : f_11 al = some (.inl (cy, 500, .inl (upd (shG L k n) k ((shG L k n) (k - 1))))) := by rw [ef_11]; exact va_up_self _ _ _
          have hc_11_qm : f_11 qm = some (.inr (2, [.int 0, .ref ab, .ref al, .ref ah, .int (nI n), .ref nb, .ref nl, .int nc])) := by rw [ef_11, va_up_ne _ _ (hp_dif hc_10_qm hc_10_al (by simp))]; exact hc_10_qm
          have hc_11_ah : f_11 ah = some (.inl (cy, 500, .inl (shG Hh k n))) := by rw [ef_11, va_up_ne _ _ (Ne.symm d3)]; exact hc_10_ah
          have hc_11_ab : f_11 ab = some (.inl (cy, 500, .inl (upd (shG B k n) k ((shG B k n) (k - 1))))) := by rw [ef_11, va_up_ne _ _ d1]; exact hc_10
          refine lv_aload_n hx hb dX2_insert_112 rfl (lv_at hl 0 rfl) ?_
          refine hp_get (ci := 2) (v := .ref ah) (C := RX2) (T := TX2) (N := 8) hx hb hts hin2 hown C0 hf hc_11_qm rfl 3 (by decide) (hts (.fieldLink RX2 16 "RouteTrieModel" "hops" "[I") (by decide +kernel)) (fun _ h9 => h9) rfl dX2_insert_113 ?_
          refine lv_iload hx hb dX2_insert_116 (lv_at hl 5 rfl) ?_
          refine lv_aload_n hx hb dX2_insert_118 rfl (lv_at hl 0 rfl) ?_
          refine hp_get (ci := 2) (v := .ref ah) (C := RX2) (T := TX2) (N := 8) hx hb hts hin2 hown C0 hf hc_11_qm rfl 3 (by decide) (hts (.fieldLink RX2 16 "RouteTrieModel" "hops" "[I") (by decide +kernel)) (fun _ h9 => h9) rfl dX2_insert_119 ?_
          refine lv_iload hx hb dX2_insert_122 (lv_at hl 5 rfl) ?_
          refine lv_iconst (v := 1) hx hb dX2_insert_124 (by decide) ?_
          refine lv_isub hx hb dX2_insert_125 ?_
          rw [show (((nI k) - 1) : Int32) = nI (k - 1) from (pk_sub (a := k) (b := 1) (by omega))]
          refine hp_iald (n := 500) (g := (shG Hh k n)) hx hb C0 hf hc_11_ah (vp_in_nI (n := (k - 1)) (N := 500) (by omega) (by omega)) dX2_insert_126 ?_
          rw [nI_clamp (n := (k - 1)) (by omega)]
          refine hp_iast (n := 500) (g := (shG Hh k n)) hx hb C0 hf hS hc_11_ah (vp_in_nI (n := k) (N := 500) (by omega) (by omega)) dX2_insert_127 (fun f_12 H locs ef_12 hf hS => ?_)
          rw [nI_clamp (n := k) (by omega)] at ef_12
          have hc_12 : f_12 ah = some (.inl (cy, 500, .inl (upd (shG Hh k n) k ((shG Hh k n) (k - 1))))) := by rw [ef_12]; exact va_up_self _ _ _
          have hc_12_qm : f_12 qm = some (.inr (2, [.int 0, .ref ab, .ref al, .ref ah, .int (nI n), .ref nb, .ref nl, .int nc])) := by rw [ef_12, va_up_ne _ _ (hp_dif hc_11_qm hc_11_ah (by simp))]; exact hc_11_qm
          have hc_12_ab : f_12 ab = some (.inl (cy, 500, .inl (upd (shG B k n) k ((shG B k n) (k - 1))))) := by rw [ef_12, va_up_ne _ _ d2]; exact hc_11_ab
          have hc_12_al : f_12 al = some (.inl (cy, 500, .inl (upd (shG L k n) k ((shG L k n) (k - 1))))) := by rw [ef_12, va_up_ne _ _ d3]; exact hc_11
          refine lv_iinc (v := ((nI k) + (-1))) (lv' := [(5, .int ((nI k) + (-1))), (0, .ref qm), (1, .int x), (2, .int l0), (3, .int h), (4, .int (-1))]) hx hb dX2_insert_128 hl (k := 5) rfl rfl (by decide) rfl (fun ls hl => ?_)
          refine lv_goto (tgt := 62) hx hb dX2_insert_131 (by decide) ?_
          rw [sb_m1 hk0] at hl
          exact ih (k - 1) f_12 ls _ _ (by omega) (by omega) hn5 hok hh hno (fun j g1 g2 => by
            rcases Nat.lt_or_ge j k with q | q
            · rw [show j = k - 1 by omega]; exact hbf.mp h77
            · exact hI j q g2) hc_12_qm (by rw [← shG_step hk0 hk]; exact hc_12_ab) (by rw [← shG_step hk0 hk]; exact hc_12_al) (by rw [← shG_step hk0 hk]; exact hc_12) (fun y g1 g2 g3 g4 => by rw [ef_12, va_up_ne _ _ g4, ef_11, va_up_ne _ _ g3, ef_10, va_up_ne _ _ g2]; exact hF y g1 g2 g3 g4) hf hS (lv_sub hl [1, 2, 3, 4, 5, 0] rfl)
  refine lv_aload_n hx hb dX2_insert_0 rfl (lv_at hl 0 rfl) ?_
  refine lv_iconst (v := 0) hx hb dX2_insert_1 (by decide) ?_
  refine hp_put (ci := 2) (v := .int 0) (C := RX2) (T := TX2) (N := 8) hx hb hts hin2 tyX2 tyX2_ok nmX2 hown C0 hf hS hm rfl 0 (by decide) (hts (.fieldLink RX2 25 "RouteTrieModel" "code" "I") (by decide +kernel)) (fun _ h9 => h9) rfl rfl rfl (Nat.le_of_ble_eq_true rfl) dX2_insert_2 (fun f_1 H locs ef_1 hf hS => ?_)
  have hc_1 : f_1 qm = some (.inr (2, [.int 0, .ref ab, .ref al, .ref ah, .int (nI n), .ref nb, .ref nl, .int nc])) := by rw [ef_1]; exact va_up_self _ _ _
  have hc_1_ab : f_1 ab = some (.inl (cy, 500, .inl B)) := by rw [ef_1, va_up_ne _ _ (hp_dif hB hm (by simp))]; exact hB
  have hc_1_al : f_1 al = some (.inl (cy, 500, .inl L)) := by rw [ef_1, va_up_ne _ _ (hp_dif hL hm (by simp))]; exact hL
  have hc_1_ah : f_1 ah = some (.inl (cy, 500, .inl Hh)) := by rw [ef_1, va_up_ne _ _ (hp_dif hH hm (by simp))]; exact hH
  refine lv_iload_n hx hb dX2_insert_5 rfl (lv_at hl 1 rfl) ?_
  refine lv_iload_n hx hb dX2_insert_6 rfl (lv_at hl 2 rfl) ?_
  refine hp_ki (hp_rS (As := [.int x, .int l0]) (rest := []) ⟨hx, hb, hml, hown, hts⟩ C0 hf hS (c_X2_isPrefix l D cy base f_1 x l0) (va_cwS 2 hts gX2_insert_X2_isPrefix rfl rfl rfl (by decide +kernel) ⟨Nat.le_of_ble_eq_true rfl, Nat.le_of_ble_eq_true rfl⟩) rfl hl.1 rfl (Nat.le_of_ble_eq_true rfl) dX2_insert_7 ⟨Nat.le_of_ble_eq_true rfl, Nat.le_of_ble_eq_true rfl⟩) hS (fun r_2 u_2 H locs hq_2 hf hS => ?_)
  obtain ⟨hr_2, hu⟩ := hq_2
  rw [hu] at hf
  have hpf := ite1 hr_2
  refine lv_if_eq (tgt := 17) hx hb dX2_insert_10 (by decide) (fun h10 => ?_) (fun h10 => ?_)
  · refine lv_iconst (v := (-1)) hx hb dX2_insert_17 (by decide) ?_
    exact hp_iret (v := (-1)) hx hb hr hlocks C0 hf hS (by first | exact Nat.le_refl _ | omega) (by first | exact Nat.le_refl _ | omega) dX2_insert_18 (Or.inl ⟨Or.inl ((not_congr hpf).mp (fun z => z h10)), rfl, ef_1⟩)
  · refine lv_iload_n hx hb dX2_insert_13 rfl (lv_at hl 3 rfl) ?_
    refine lv_if_ge (tgt := 19) hx hb dX2_insert_14 (by decide) (fun h14 => ?_) (fun h14 => ?_)
    · refine lv_aload_n hx hb dX2_insert_19 rfl (lv_at hl 0 rfl) ?_
      refine lv_iload_n hx hb dX2_insert_20 rfl (lv_at hl 1 rfl) ?_
      refine lv_iload_n hx hb dX2_insert_21 rfl (lv_at hl 2 rfl) ?_
      refine hp_ki (hp_rV (C := RX2) (As := [.int x, .int l0]) (rest := []) ⟨hx, hb, hml, hown, hts⟩ C0 hf hS (c_X2_find l D cy base f_1 qm ab al ah nb nl 0 nc n B L Hh NB NL x l0 hc_1 hc_1_ab hc_1_al hc_1_ah hn) (cwV 2 hts gX2_insert_X2_find rfl rfl rfl (by decide +kernel) ⟨Nat.le_of_ble_eq_true rfl, Nat.le_of_ble_eq_true rfl⟩) hc_1 rfl rfl hl.1 rfl (Nat.le_of_ble_eq_true rfl) dX2_insert_22 ⟨Nat.le_of_ble_eq_true rfl, Nat.le_of_ble_eq_true rfl⟩) hS (fun r_3 u_3 H locs hq_3 hf hS => ?_)
      obtain ⟨hr_3, hu⟩ := hq_3
      rw [hu] at hf
      refine lv_istore (lv' := [(4, .int r_3), (0, .ref qm), (1, .int x), (2, .int l0), (3, .int h)]) hx hb dX2_insert_25 hl (by decide) rfl (fun ls hl => ?_)
      refine lv_iload hx hb dX2_insert_27 (lv_at hl 0 rfl) ?_
      refine lv_iconst (v := (-1)) hx hb dX2_insert_29 (by decide) ?_
      refine lv_icmp_eq (tgt := 43) hx hb dX2_insert_30 (by decide) (fun h30 => ?_) (fun h30 => ?_)
      · have hno : ∀ j, j < n → ¬ (B j = x ∧ L j = l0) := hr_3.elim (fun ⟨i, a1, a2, _, _⟩ => absurd (a2.symm.trans h30) (nI_m1 (by omega))) (fun g => g.2)
        rw [h30] at hl
        have hl : lv_has ls 6 [(4, .int (-1)), (0, .ref qm), (1, .int x), (2, .int l0), (3, .int h)] := hl
        refine lv_aload_n hx hb dX2_insert_43 rfl (lv_at hl 1 rfl) ?_
        refine hp_get (ci := 2) (v := .int (nI n)) (C := RX2) (T := TX2) (N := 8) hx hb hts hin2 hown C0 hf hc_1 rfl 4 (by decide) (hts (.fieldLink RX2 29 "RouteTrieModel" "size" "I") (by decide +kernel)) (fun _ h9 => h9) rfl dX2_insert_44 ?_
        refine lv_sipush (v := 500) hx hb dX2_insert_47 (by decide) ?_
        refine lv_icmp_ne (tgt := 56) hx hb dX2_insert_50 (by decide) (fun h50 => ?_) (fun h50 => ?_)
        · refine lv_aload_n hx hb dX2_insert_56 rfl (lv_at hl 1 rfl) ?_
          refine hp_get (ci := 2) (v := .int (nI n)) (C := RX2) (T := TX2) (N := 8) hx hb hts hin2 hown C0 hf hc_1 rfl 4 (by decide) (hts (.fieldLink RX2 29 "RouteTrieModel" "size" "I") (by decide +kernel)) (fun _ h9 => h9) rfl dX2_insert_57 ?_
          refine lv_istore (lv' := [(5, .int (nI n)), (4, .int (-1)), (0, .ref qm), (1, .int x), (2, .int l0), (3, .int h)]) hx hb dX2_insert_60 hl (by decide) rfl (fun ls hl => ?_)
          have hn5 : n < 500 := Nat.lt_of_le_of_ne hn (fun e => h50 (by rw [e]; rfl))
          exact loop n n f_1 ls _ _ (Nat.le_refl _) (Nat.le_refl _) hn5 (hpf.mp h10) (Int32.not_lt.mpr h14) hno (fun j g1 g2 => absurd g2 (by omega)) hc_1 (by rw [shG_n]; exact hc_1_ab) (by rw [shG_n]; exact hc_1_al) (by rw [shG_n]; exact hc_1_ah) (fun y g1 _ _ _ => by rw [ef_1, va_up_ne _ _ g1]) hf hS (lv_sub hl [2, 3, 4, 5, 1, 0] rfl)
        · refine lv_bipush (v := (-2)) hx hb dX2_insert_53 (by decide) ?_
          exact hp_iret (v := (-2)) hx hb hr hlocks C0 hf hS (by first | exact Nat.le_refl _ | omega) (by first | exact Nat.le_refl _ | omega) dX2_insert_55 (Or.inr ⟨hpf.mp h10, Int32.not_lt.mpr h14, Or.inr ⟨hno, Or.inl ⟨(nI_eq (b := 500) (by omega) (by omega)).mp h50, rfl, ef_1⟩⟩⟩)
      · obtain ⟨i, hi1, rfl, hi2, hi3⟩ := hr_3.elim id (fun g => absurd g.1 h30)
        refine lv_aload_n hx hb dX2_insert_33 rfl (lv_at hl 1 rfl) ?_
        refine hp_get (ci := 2) (v := .ref ah) (C := RX2) (T := TX2) (N := 8) hx hb hts hin2 hown C0 hf hc_1 rfl 3 (by decide) (hts (.fieldLink RX2 16 "RouteTrieModel" "hops" "[I") (by decide +kernel)) (fun _ h9 => h9) rfl dX2_insert_34 ?_
        refine lv_iload hx hb dX2_insert_37 (lv_at hl 0 rfl) ?_
        refine lv_iload_n hx hb dX2_insert_39 rfl (lv_at hl 4 rfl) ?_
        refine hp_iast (n := 500) (g := Hh) hx hb C0 hf hS hc_1_ah (vp_in_nI (n := i) (N := 500) (by omega) (by omega)) dX2_insert_40 (fun f_4 H locs ef_4 hf hS => ?_)
        rw [nI_clamp (n := i) (by omega)] at ef_4
        have hc_4 : f_4 ah = some (.inl (cy, 500, .inl (upd Hh i h))) := by rw [ef_4]; exact va_up_self _ _ _
        have hc_4_ab : f_4 ab = some (.inl (cy, 500, .inl B)) := by rw [ef_4, va_up_ne _ _ d2]; exact hc_1_ab
        have hc_4_al : f_4 al = some (.inl (cy, 500, .inl L)) := by rw [ef_4, va_up_ne _ _ d3]; exact hc_1_al
        have hc_4_qm : f_4 qm = some (.inr (2, [.int 0, .ref ab, .ref al, .ref ah, .int (nI n), .ref nb, .ref nl, .int nc])) := by rw [ef_4, va_up_ne _ _ (hp_dif hc_1 hc_1_ah (by simp))]; exact hc_1
        refine lv_iconst (v := 0) hx hb dX2_insert_41 (by decide) ?_
        exact hp_iret (v := 0) hx hb hr hlocks C0 hf hS (by first | exact Nat.le_refl _ | omega) (by first | exact Nat.le_refl _ | omega) dX2_insert_42 (Or.inr ⟨hpf.mp h10, Int32.not_lt.mpr h14, Or.inl ⟨i, hi1, hi2, hi3, rfl, by rw [ef_4, ef_1]; rfl⟩⟩)
    · refine lv_iconst (v := (-1)) hx hb dX2_insert_17 (by decide) ?_
      exact hp_iret (v := (-1)) hx hb hr hlocks C0 hf hS (by first | exact Nat.le_refl _ | omega) (by first | exact Nat.le_refl _ | omega) dX2_insert_18 (Or.inl ⟨Or.inr (Int32.not_le.mp h14), rfl, ef_1⟩)
set_option maxHeartbeats 4000000 in
set_option maxRecDepth 100000 in
theorem c_X2_remove (l : Launch) (D : va_G) (cy : ClassId) (base : Nat) (f : AH) (qm ab al ah nb nl : Nat) (cd nc : Int32) (n : Nat) (B L Hh NB NL : Nat → Int32) (x l0 : Int32) (hm : f qm = some (mdO cd ab al ah (nI n) nb nl nc)) (hB : f ab = some (arO cy 500 B)) (hL : f al = some (arO cy 500 L)) (hH : f ah = some (arO cy 500 Hh)) (hn : n ≤ 500) (d1 : ab ≠ al) (d2 : ab ≠ ah) (d3 : al ≠ ah) : Met l yX2_remove wsX2_remove ({ frames := 1, cells := 0, slots := 0, locals := 23 }) (va_Pc [.ref qm, .int x, .int l0] (hp_B D cy base f)) (va_Qi (fun (r : Int32) (u : AH) => MRp cy f qm ab al ah nb nl nc n B L Hh x l0 r u) (hp_B D cy base) (hp_A base)) 0 0 (hp_A base) := by
  refine Met.ofW (cc := cX2_remove) (maxL := 5) (ret := (some .boolean)) (by decide) rfl ?_
  intro p e s m args below meth c s₁ Bd hml hv
  obtain ⟨rfl, hf, C0⟩ := hv
  have hx := Bd.exec
  have hb := Bd.bytes
  have hr := Bd.returns
  have hts := atoms_spec (ws := wsX2_remove) Bd.pre
  have hown : s.vm.findClass RX2 = some m.cls := findClass_of_methodNamed Bd.named
  have hlocks := Bd.notSynchronized
  have hin2 : ∀ w ∈ wsX20, w ∈ wsX2_remove := by decide +kernel
  have hS : va_S (hp_A base) s.heap s.heap [] := va_S.rf
  have hl := lv_entry ([.ref qm, .int x, .int l0]) (n := 5) (Nat.le_of_ble_eq_true rfl)
  rw [lg_entry_eq]
  generalize (lg_sl ([.ref qm, .int x, .int l0]) ++ List.replicate (5 - (lg_sl ([.ref qm, .int x, .int l0])).length) Slot.unset).toArray = ls at hl ⊢
  have hl : lv_has ls 5 [(0, .ref qm), (1, .int x), (2, .int l0)] := hl
  have loop : ∀ (c0 i k : Nat) (fc : AH) (ls : Array Slot) (H : Heap) (locs : List Loc), n ≤ c0 + k → i ≤ k → k < n → B i = x → L i = l0 → fc qm = some (mdO 0 ab al ah (nI n) nb nl nc) → fc ab = some (arO cy 500 (dlG B i k)) → fc al = some (arO cy 500 (dlG L i k)) → fc ah = some (arO cy 500 (dlG Hh i k)) → FM4 f fc qm ab al ah → hp_ok D base fc H → va_S (hp_A base) s.heap H locs → lv_has ls 5 [(0, .ref qm), (1, .int x), (2, .int l0), (3, .int (nI i)), (4, .int (nI k))] → W p l e (headSpec wsX2_remove ({ frames := 1, cells := 0, slots := 0, locals := 23 } : Room)).room s m #[Value.ref qm, Value.int x, Value.int l0] below meth c H locs 0 0 (MQ below (va_Qi (fun (r : Int32) (u : AH) => MRp cy f qm ab al ah nb nl nc n B L Hh x l0 r u) (hp_B D cy base) (hp_A base)) #[Value.ref qm, Value.int x, Value.int l0] s 0 0 (hp_A base)) (F0 m 22 ls []) := by
    intro c0
    induction c0 with
    | zero => intro i k _ _ _ _ h1 h2 h3; exact absurd h3 (by omega)
    | succ c0 ih =>
      intro i k fc ls H locs hkc hik hk hBi hLi hm hB hL hH hF hf hS hl
      refine lv_iload hx hb dX2_remove_22 (lv_at hl 4 rfl) ?_
      refine lv_iconst (v := 1) hx hb dX2_remove_24 (by decide) ?_
      refine lv_iadd hx hb dX2_remove_25 ?_
      rw [show (((nI k) + 1) : Int32) = nI (k + 1) from (nI_1 k)]
      refine lv_aload_n hx hb dX2_remove_26 rfl (lv_at hl 0 rfl) ?_
      refine hp_get (ci := 2) (v := .int (nI n)) (C := RX2) (T := TX2) (N := 8) hx hb hts hin2 hown C0 hf hm rfl 4 (by decide) (hts (.fieldLink RX2 29 "RouteTrieModel" "size" "I") (by decide +kernel)) (fun _ h9 => h9) rfl dX2_remove_27 ?_
      refine lv_icmp_ge (tgt := 87) hx hb dX2_remove_30 (by decide) (fun h30 => ?_) (fun h30 => ?_)
      · have hke : k = n - 1 := by have := (nI_leI (a := n) (b := k + 1) (by omega) (by omega)).mp h30; omega
        refine lv_aload_n hx hb dX2_remove_87 rfl (lv_at hl 0 rfl) ?_
        refine lv_dup hx hb dX2_remove_88 rfl ?_
        refine hp_get (ci := 2) (v := .int (nI n)) (C := RX2) (T := TX2) (N := 8) hx hb hts hin2 hown C0 hf hm rfl 4 (by decide) (hts (.fieldLink RX2 29 "RouteTrieModel" "size" "I") (by decide +kernel)) (fun _ h9 => h9) rfl dX2_remove_89 ?_
        refine lv_iconst (v := 1) hx hb dX2_remove_92 (by decide) ?_
        refine lv_isub hx hb dX2_remove_93 ?_
        refine hp_put (ci := 2) (v := .int ((nI n) - 1)) (C := RX2) (T := TX2) (N := 8) hx hb hts hin2 tyX2 tyX2_ok nmX2 hown C0 hf hS hm rfl 4 (by decide) (hts (.fieldLink RX2 29 "RouteTrieModel" "size" "I") (by decide +kernel)) (fun _ h9 => h9) rfl rfl rfl (Nat.le_of_ble_eq_true rfl) dX2_remove_94 (fun f_1 H locs ef_1 hf hS => ?_)
        have hc_1 : f_1 qm = some (.inr (2, [.int 0, .ref ab, .ref al, .ref ah, .int ((nI n) - 1), .ref nb, .ref nl, .int nc])) := by rw [ef_1]; exact va_up_self _ _ _
        have hc_1_ab : f_1 ab = some (.inl (cy, 500, .inl (dlG B i k))) := by rw [ef_1, va_up_ne _ _ (hp_dif hB hm (by simp))]; exact hB
        have hc_1_al : f_1 al = some (.inl (cy, 500, .inl (dlG L i k))) := by rw [ef_1, va_up_ne _ _ (hp_dif hL hm (by simp))]; exact hL
        have hc_1_ah : f_1 ah = some (.inl (cy, 500, .inl (dlG Hh i k))) := by rw [ef_1, va_up_ne _ _ (hp_dif hH hm (by simp))]; exact hH
        refine lv_iconst (v := 1) hx hb dX2_remove_97 (by decide) ?_
        exact hp_zret (v := 1) hx hb hr hlocks C0 hf hS (by first | exact Nat.le_refl _ | omega) (by first | exact Nat.le_refl _ | omega) dX2_remove_98 (by decide) (Or.inr ⟨i, by omega, hBi, hLi, rfl, by rw [hc_1, show (1 : Int32) = nI 1 from rfl, pk_sub (by omega)], by rw [← hke]; exact hc_1_ab, by rw [← hke]; exact hc_1_al, by rw [← hke]; exact hc_1_ah, fun y g1 g2 g3 g4 => by rw [ef_1, va_up_ne _ _ g1]; exact hF y g1 g2 g3 g4⟩)
      · have hk1 : k + 1 < n := Nat.not_le.mp (fun q => h30 ((nI_leI (by omega) (by omega)).mpr q))
        refine lv_aload_n hx hb dX2_remove_33 rfl (lv_at hl 0 rfl) ?_
        refine hp_get (ci := 2) (v := .ref ab) (C := RX2) (T := TX2) (N := 8) hx hb hts hin2 hown C0 hf hm rfl 1 (by decide) (hts (.fieldLink RX2 7 "RouteTrieModel" "bits" "[I") (by decide +kernel)) (fun _ h9 => h9) rfl dX2_remove_34 ?_
        refine lv_iload hx hb dX2_remove_37 (lv_at hl 4 rfl) ?_
        refine lv_aload_n hx hb dX2_remove_39 rfl (lv_at hl 0 rfl) ?_
        refine hp_get (ci := 2) (v := .ref ab) (C := RX2) (T := TX2) (N := 8) hx hb hts hin2 hown C0 hf hm rfl 1 (by decide) (hts (.fieldLink RX2 7 "RouteTrieModel" "bits" "[I") (by decide +kernel)) (fun _ h9 => h9) rfl dX2_remove_40 ?_
        refine lv_iload hx hb dX2_remove_43 (lv_at hl 4 rfl) ?_
        refine lv_iconst (v := 1) hx hb dX2_remove_45 (by decide) ?_
        refine lv_iadd hx hb dX2_remove_46 ?_
        rw [show (((nI k) + 1) : Int32) = nI (k + 1) from (nI_1 k)]
        refine hp_iald (n := 500) (g := (dlG B i k)) hx hb C0 hf hB (vp_in_nI (n := (k + 1)) (N := 500) (by omega) (by omega)) dX2_remove_47 ?_
        rw [nI_clamp (n := (k + 1)) (by omega)]
        refine hp_iast (n := 500) (g := (dlG B i k)) hx hb C0 hf hS hB (vp_in_nI (n := k) (N := 500) (by omega) (by omega)) dX2_remove_48 (fun f_2 H locs ef_2 hf hS => ?_)
        rw [nI_clamp (n := k) (by omega)] at ef_2
        have hc_2 : f_2 ab = some (.inl (cy, 500, .inl (upd (dlG B i k) k ((dlG B i k) (k + 1))))) := by rw [ef_2]; exact va_up_self _ _ _
        have hc_2_qm : f_2 qm = some (.inr (2, [.int 0, .ref ab, .ref al, .ref ah, .int (nI n), .ref nb, .ref nl, .int nc])) := by rw [ef_2, va_up_ne _ _ (hp_dif hm hB (by simp))]; exact hm
        have hc_2_al : f_2 al = some (.inl (cy, 500, .inl (dlG L i k))) := by rw [ef_2, va_up_ne _ _ (Ne.symm d1)]; exact hL
        have hc_2_ah : f_2 ah = some (.inl (cy, 500, .inl (dlG Hh i k))) := by rw [ef_2, va_up_ne _ _ (Ne.symm d2)]; exact hH
        refine lv_aload_n hx hb dX2_remove_49 rfl (lv_at hl 0 rfl) ?_
        refine hp_get (ci := 2) (v := .ref al) (C := RX2) (T := TX2) (N := 8) hx hb hts hin2 hown C0 hf hc_2_qm rfl 2 (by decide) (hts (.fieldLink RX2 13 "RouteTrieModel" "lengths" "[I") (by decide +kernel)) (fun _ h9 => h9) rfl dX2_remove_50 ?_
        refine lv_iload hx hb dX2_remove_53 (lv_at hl 4 rfl) ?_
        refine lv_aload_n hx hb dX2_remove_55 rfl (lv_at hl 0 rfl) ?_
        refine hp_get (ci := 2) (v := .ref al) (C := RX2) (T := TX2) (N := 8) hx hb hts hin2 hown C0 hf hc_2_qm rfl 2 (by decide) (hts (.fieldLink RX2 13 "RouteTrieModel" "lengths" "[I") (by decide +kernel)) (fun _ h9 => h9) rfl dX2_remove_56 ?_
        refine lv_iload hx hb dX2_remove_59 (lv_at hl 4 rfl) ?_
        refine lv_iconst (v := 1) hx hb dX2_remove_61 (by decide) ?_
        refine lv_iadd hx hb dX2_remove_62 ?_
        rw [show (((nI k) + 1) : Int32) = nI (k + 1) from (nI_1 k)]
        refine hp_iald (n := 500) (g := (dlG L i k)) hx hb C0 hf hc_2_al (vp_in_nI (n := (k + 1)) (N := 500) (by omega) (by omega)) dX2_remove_63 ?_
        rw [nI_clamp (n := (k + 1)) (by omega)]
        refine hp_iast (n := 500) (g := (dlG L i k)) hx hb C0 hf hS hc_2_al (vp_in_nI (n := k) (N := 500) (by omega) (by omega)) dX2_remove_64 (fun f_3 H locs ef_3 hf hS => ?_)
        rw [nI_clamp (n := k) (by omega)] at ef_3
        have hc_3 : f_3 al = some (.inl (cy, 500, .inl (upd (dlG L i k) k ((dlG L i k) (k + 1))))) := by rw [ef_3]; exact va_up_self _ _ _
        have hc_3_qm : f_3 qm = some (.inr (2, [.int 0, .ref ab, .ref al, .ref ah, .int (nI n), .ref nb, .ref nl, .int nc])) := by rw [ef_3, va_up_ne _ _ (hp_dif hc_2_qm hc_2_al (by simp))]; exact hc_2_qm
        have hc_3_ah : f_3 ah = some (.inl (cy, 500, .inl (dlG Hh i k))) := by rw [ef_3, va_up_ne _ _ (Ne.symm d3)]; exact hc_2_ah
        have hc_3_ab : f_3 ab = some (.inl (cy, 500, .inl (upd (dlG B i k) k ((dlG B i k) (k + 1))))) := by rw [ef_3, va_up_ne _ _ d1]; exact hc_2
        refine lv_aload_n hx hb dX2_remove_65 rfl (lv_at hl 0 rfl) ?_
        refine hp_get (ci := 2) (v := .ref ah) (C := RX2) (T := TX2) (N := 8) hx hb hts hin2 hown C0 hf hc_3_qm rfl 3 (by decide) (hts (.fieldLink RX2 16 "RouteTrieModel" "hops" "[I") (by decide +kernel)) (fun _ h9 => h9) rfl dX2_remove_66 ?_
        refine lv_iload hx hb dX2_remove_69 (lv_at hl 4 rfl) ?_
        refine lv_aload_n hx hb dX2_remove_71 rfl (lv_at hl 0 rfl) ?_
        refine hp_get (ci := 2) (v := .ref ah) (C := RX2) (T := TX2) (N := 8) hx hb hts hin2 hown C0 hf hc_3_qm rfl 3 (by decide) (hts (.fieldLink RX2 16 "RouteTrieModel" "hops" "[I") (by decide +kernel)) (fun _ h9 => h9) rfl dX2_remove_72 ?_
        refine lv_iload hx hb dX2_remove_75 (lv_at hl 4 rfl) ?_
        refine lv_iconst (v := 1) hx hb dX2_remove_77 (by decide) ?_
        refine lv_iadd hx hb dX2_remove_78 ?_
        rw [show (((nI k) + 1) : Int32) = nI (k + 1) from (nI_1 k)]
        refine hp_iald (n := 500) (g := (dlG Hh i k)) hx hb C0 hf hc_3_ah (vp_in_nI (n := (k + 1)) (N := 500) (by omega) (by omega)) dX2_remove_79 ?_
        rw [nI_clamp (n := (k + 1)) (by omega)]
        refine hp_iast (n := 500) (g := (dlG Hh i k)) hx hb C0 hf hS hc_3_ah (vp_in_nI (n := k) (N := 500) (by omega) (by omega)) dX2_remove_80 (fun f_4 H locs ef_4 hf hS => ?_)
        rw [nI_clamp (n := k) (by omega)] at ef_4
        have hc_4 : f_4 ah = some (.inl (cy, 500, .inl (upd (dlG Hh i k) k ((dlG Hh i k) (k + 1))))) := by rw [ef_4]; exact va_up_self _ _ _
        have hc_4_qm : f_4 qm = some (.inr (2, [.int 0, .ref ab, .ref al, .ref ah, .int (nI n), .ref nb, .ref nl, .int nc])) := by rw [ef_4, va_up_ne _ _ (hp_dif hc_3_qm hc_3_ah (by simp))]; exact hc_3_qm
        have hc_4_ab : f_4 ab = some (.inl (cy, 500, .inl (upd (dlG B i k) k ((dlG B i k) (k + 1))))) := by rw [ef_4, va_up_ne _ _ d2]; exact hc_3_ab
        have hc_4_al : f_4 al = some (.inl (cy, 500, .inl (upd (dlG L i k) k ((dlG L i k) (k + 1))))) := by rw [ef_4, va_up_ne _ _ d3]; exact hc_3
        refine lv_iinc (v := ((nI k) + 1)) (lv' := [(4, .int ((nI k) + 1)), (0, .ref qm), (1, .int x), (2, .int l0), (3, .int (nI i))]) hx hb dX2_remove_81 hl (k := 4) rfl rfl (by decide) rfl (fun ls hl => ?_)
        refine lv_goto (tgt := 22) hx hb dX2_remove_84 (by decide) ?_
        rw [nI_1] at hl
        exact ih i (k + 1) f_4 ls _ _ (by omega) (by omega) hk1 hBi hLi hc_4_qm (by rw [← dlG_step hik]; exact hc_4_ab) (by rw [← dlG_step hik]; exact hc_4_al) (by rw [← dlG_step hik]; exact hc_4) (fun y g1 g2 g3 g4 => by rw [ef_4, va_up_ne _ _ g4, ef_3, va_up_ne _ _ g3, ef_2, va_up_ne _ _ g2]; exact hF y g1 g2 g3 g4) hf hS (lv_sub hl [1, 2, 3, 4, 0] rfl)
  refine lv_aload_n hx hb dX2_remove_0 rfl (lv_at hl 0 rfl) ?_
  refine lv_iconst (v := 0) hx hb dX2_remove_1 (by decide) ?_
  refine hp_put (ci := 2) (v := .int 0) (C := RX2) (T := TX2) (N := 8) hx hb hts hin2 tyX2 tyX2_ok nmX2 hown C0 hf hS hm rfl 0 (by decide) (hts (.fieldLink RX2 25 "RouteTrieModel" "code" "I") (by decide +kernel)) (fun _ h9 => h9) rfl rfl rfl (Nat.le_of_ble_eq_true rfl) dX2_remove_2 (fun f_1 H locs ef_1 hf hS => ?_)
  have hc_1 : f_1 qm = some (.inr (2, [.int 0, .ref ab, .ref al, .ref ah, .int (nI n), .ref nb, .ref nl, .int nc])) := by rw [ef_1]; exact va_up_self _ _ _
  have hc_1_ab : f_1 ab = some (.inl (cy, 500, .inl B)) := by rw [ef_1, va_up_ne _ _ (hp_dif hB hm (by simp))]; exact hB
  have hc_1_al : f_1 al = some (.inl (cy, 500, .inl L)) := by rw [ef_1, va_up_ne _ _ (hp_dif hL hm (by simp))]; exact hL
  have hc_1_ah : f_1 ah = some (.inl (cy, 500, .inl Hh)) := by rw [ef_1, va_up_ne _ _ (hp_dif hH hm (by simp))]; exact hH
  refine lv_aload_n hx hb dX2_remove_5 rfl (lv_at hl 0 rfl) ?_
  refine lv_iload_n hx hb dX2_remove_6 rfl (lv_at hl 1 rfl) ?_
  refine lv_iload_n hx hb dX2_remove_7 rfl (lv_at hl 2 rfl) ?_
  refine hp_ki (hp_rV (C := RX2) (As := [.int x, .int l0]) (rest := []) ⟨hx, hb, hml, hown, hts⟩ C0 hf hS (c_X2_find l D cy base f_1 qm ab al ah nb nl 0 nc n B L Hh NB NL x l0 hc_1 hc_1_ab hc_1_al hc_1_ah hn) (cwV 2 hts gX2_remove_X2_find rfl rfl rfl (by decide +kernel) ⟨Nat.le_of_ble_eq_true rfl, Nat.le_of_ble_eq_true rfl⟩) hc_1 rfl rfl hl.1 rfl (Nat.le_of_ble_eq_true rfl) dX2_remove_8 ⟨Nat.le_of_ble_eq_true rfl, Nat.le_of_ble_eq_true rfl⟩) hS (fun r_2 u_2 H locs hq_2 hf hS => ?_)
  obtain ⟨hr_2, hu⟩ := hq_2
  rw [hu] at hf
  refine lv_istore_n (lv' := [(3, .int r_2), (0, .ref qm), (1, .int x), (2, .int l0)]) hx hb dX2_remove_11 rfl hl (by decide) rfl (fun ls hl => ?_)
  refine lv_iload_n hx hb dX2_remove_12 rfl (lv_at hl 0 rfl) ?_
  refine lv_iconst (v := (-1)) hx hb dX2_remove_13 (by decide) ?_
  refine lv_icmp_ne (tgt := 19) hx hb dX2_remove_14 (by decide) (fun h14 => ?_) (fun h14 => ?_)
  · obtain ⟨i, hi1, rfl, hi2, hi3⟩ := hr_2.elim id (fun g => absurd g.1 h14)
    refine lv_iload_n hx hb dX2_remove_19 rfl (lv_at hl 0 rfl) ?_
    refine lv_istore (lv' := [(4, .int (nI i)), (3, .int (nI i)), (0, .ref qm), (1, .int x), (2, .int l0)]) hx hb dX2_remove_20 hl (by decide) rfl (fun ls hl => ?_)
    exact loop n i i f_1 ls _ _ (by omega) (Nat.le_refl _) hi1 hi2 hi3 hc_1 (by rw [dlG_0]; exact hc_1_ab) (by rw [dlG_0]; exact hc_1_al) (by rw [dlG_0]; exact hc_1_ah) (fun y g1 _ _ _ => by rw [ef_1, va_up_ne _ _ g1]) hf hS (lv_sub hl [2, 3, 4, 1, 0] rfl)
  · refine lv_iconst (v := 0) hx hb dX2_remove_17 (by decide) ?_
    exact hp_zret (v := 0) hx hb hr hlocks C0 hf hS (by first | exact Nat.le_refl _ | omega) (by first | exact Nat.le_refl _ | omega) dX2_remove_18 (by decide) (Or.inl ⟨hr_2.elim (fun ⟨i, a1, a2, _, _⟩ => absurd (a2.symm.trans h14) (nI_m1 (by omega))) (fun g => g.2), rfl, ef_1⟩)
set_option maxHeartbeats 4000000 in
set_option maxRecDepth 100000 in
theorem c_X2_init (l : Launch) (D : va_G) (cy : ClassId) (base : Nat) (f : AH) (qm : Nat) (hm : f qm = some (.inr (2, [.int 0, .null, .null, .null, .int 0, .null, .null, .int 0]))) : Met l yX2_init wsX2_init ({ frames := 1, cells := 5, slots := 3500, locals := 12 }) (va_Pc [.ref qm] (hp_B D cy base f)) (va_Qv (fun (u : AH) => ∃ ab al ah nb nl : Nat, (ab ≠ al ∧ ab ≠ ah ∧ al ≠ ah ∧ ab ≠ nb ∧ ab ≠ nl ∧ al ≠ nb ∧ al ≠ nl ∧ ah ≠ nb ∧ ah ≠ nl ∧ nb ≠ nl) ∧ u qm = some (mdO 0 ab al ah 0 nb nl 0) ∧ u ab = some (arO cy 500 (fun _ => 0)) ∧ u al = some (arO cy 500 (fun _ => 0)) ∧ u ah = some (arO cy 500 (fun _ => 0)) ∧ u nb = some (arO cy 1000 (fun _ => 0)) ∧ u nl = some (arO cy 1000 (fun _ => 0)) ∧ ∀ b v, f b = some v → b ≠ qm → u b = some v) (hp_B D cy base) (hp_A base)) 5 3500 (hp_A base) := by
  refine Met.ofW (cc := cX2_init) (maxL := 1) (ret := none) (by decide) rfl ?_
  intro p e s m args below meth c s₁ Bd hml hv
  obtain ⟨rfl, hf, C0⟩ := hv
  have hx := Bd.exec
  have hb := Bd.bytes
  have hr := Bd.returns
  have hts := atoms_spec (ws := wsX2_init) Bd.pre
  have hown : s.vm.findClass RX2 = some m.cls := findClass_of_methodNamed Bd.named
  have hlocks := Bd.notSynchronized
  have hin : meth.name = "<init>" := (name_of_methodNamed Bd.named Bd.method).1
  have hin2 : ∀ w ∈ wsX20, w ∈ wsX2_init := by decide +kernel
  have hS : va_S (hp_A base) s.heap s.heap [] := va_S.rf
  have hl := lv_entry ([.ref qm]) (n := 1) (Nat.le_of_ble_eq_true rfl)
  rw [lg_entry_eq]
  generalize (lg_sl ([.ref qm]) ++ List.replicate (1 - (lg_sl ([.ref qm])).length) Slot.unset).toArray = ls at hl ⊢
  have hl : lv_has ls 1 [(0, .ref qm)] := hl
  refine lv_aload_n hx hb dX2_init_0 rfl (lv_at hl 0 rfl) ?_
  refine W.objInit hx hb hown (hts (.methodLink RX2 1 objectInit) (by decide +kernel)) (hts (.instanceMethod objectInit) (by decide +kernel)) (hts (.code objectInit ⟨#[0xb1]⟩ 1 none) (by decide +kernel)) rfl (by rw [hml]; exact hl.1) rfl dX2_init_1 (Nat.le_of_ble_eq_true rfl) (Nat.le_of_ble_eq_true rfl) ?_
  refine W.eq (g2 := F0 m 4 ls []) rfl ?_
  refine lv_aload_n hx hb dX2_init_4 rfl (lv_at hl 0 rfl) ?_
  refine lv_sipush (v := 500) hx hb dX2_init_5 (by decide) ?_
  refine hp_newi (N' := 500) hx hb (hts (.arrayClass .int) (by decide +kernel)) C0 hf hS C0.1 (by decide) (by decide) (by decide) (Nat.le_of_ble_eq_true rfl) (Nat.le_of_ble_eq_true rfl) dX2_init_8 (fun ab f_1 H hn_ab ef_1 hf hS => ?_)
  have hc_1 : f_1 ab = some (arO cy 500 (fun _ => 0)) := by rw [ef_1]; exact va_up_self _ _ _
  have n_qm_ab : qm ≠ ab := fun e => by rw [← e, hm] at hn_ab; cases hn_ab
  have hc_1_qm : f_1 qm = some (.inr (2, [.int 0, .null, .null, .null, .int 0, .null, .null, .int 0])) := by rw [ef_1, va_up_ne _ _ n_qm_ab]; exact hm
  refine hp_putF (ci := 2) (v := .ref ab) (C := RX2) (T := TX2) (N := 8) hx hb hts hin2 tyX2 tyX2_ok nmX2 hown C0 hf hS hc_1_qm rfl 1 (by decide) (hts (.fieldLink RX2 7 "RouteTrieModel" "bits" "[I") (by decide +kernel)) (fun _ h9 => h9) rfl hin rfl rfl rfl (Nat.le_of_ble_eq_true rfl) dX2_init_10 (fun f_2 H locs ef_2 hf hS => ?_)
  have hc_2 : f_2 qm = some (.inr (2, [.int 0, .ref ab, .null, .null, .int 0, .null, .null, .int 0])) := by rw [ef_2]; exact va_up_self _ _ _
  have hc_2_ab : f_2 ab = some (.inl (cy, 500, .inl (fun _ => 0))) := by rw [ef_2, va_up_ne _ _ (Ne.symm n_qm_ab)]; exact hc_1
  refine lv_aload_n hx hb dX2_init_13 rfl (lv_at hl 0 rfl) ?_
  refine lv_sipush (v := 500) hx hb dX2_init_14 (by decide) ?_
  refine hp_newi (N' := 500) hx hb (hts (.arrayClass .int) (by decide +kernel)) C0 hf hS C0.1 (by decide) (by decide) (by decide) (Nat.le_of_ble_eq_true rfl) (Nat.le_of_ble_eq_true rfl) dX2_init_17 (fun al f_3 H hn_al ef_3 hf hS => ?_)
  have hc_3 : f_3 al = some (arO cy 500 (fun _ => 0)) := by rw [ef_3]; exact va_up_self _ _ _
  have n_ab_al : ab ≠ al := fun e => by rw [← e, hc_2_ab] at hn_al; cases hn_al
  have hc_3_ab : f_3 ab = some (.inl (cy, 500, .inl (fun _ => 0))) := by rw [ef_3, va_up_ne _ _ n_ab_al]; exact hc_2_ab
  have n_qm_al : qm ≠ al := fun e => by rw [← e, hc_2] at hn_al; cases hn_al
  have hc_3_qm : f_3 qm = some (.inr (2, [.int 0, .ref ab, .null, .null, .int 0, .null, .null, .int 0])) := by rw [ef_3, va_up_ne _ _ n_qm_al]; exact hc_2
  refine hp_putF (ci := 2) (v := .ref al) (C := RX2) (T := TX2) (N := 8) hx hb hts hin2 tyX2 tyX2_ok nmX2 hown C0 hf hS hc_3_qm rfl 2 (by decide) (hts (.fieldLink RX2 13 "RouteTrieModel" "lengths" "[I") (by decide +kernel)) (fun _ h9 => h9) rfl hin rfl rfl rfl (Nat.le_of_ble_eq_true rfl) dX2_init_19 (fun f_4 H locs ef_4 hf hS => ?_)
  have hc_4 : f_4 qm = some (.inr (2, [.int 0, .ref ab, .ref al, .null, .int 0, .null, .null, .int 0])) := by rw [ef_4]; exact va_up_self _ _ _
  have hc_4_ab : f_4 ab = some (.inl (cy, 500, .inl (fun _ => 0))) := by rw [ef_4, va_up_ne _ _ (Ne.symm n_qm_ab)]; exact hc_3_ab
  have hc_4_al : f_4 al = some (.inl (cy, 500, .inl (fun _ => 0))) := by rw [ef_4, va_up_ne _ _ (Ne.symm n_qm_al)]; exact hc_3
  refine lv_aload_n hx hb dX2_init_22 rfl (lv_at hl 0 rfl) ?_
  refine lv_sipush (v := 500) hx hb dX2_init_23 (by decide) ?_
  refine hp_newi (N' := 500) hx hb (hts (.arrayClass .int) (by decide +kernel)) C0 hf hS C0.1 (by decide) (by decide) (by decide) (Nat.le_of_ble_eq_true rfl) (Nat.le_of_ble_eq_true rfl) dX2_init_26 (fun ah f_5 H hn_ah ef_5 hf hS => ?_)
  have hc_5 : f_5 ah = some (arO cy 500 (fun _ => 0)) := by rw [ef_5]; exact va_up_self _ _ _
  have n_ab_ah : ab ≠ ah := fun e => by rw [← e, hc_4_ab] at hn_ah; cases hn_ah
  have hc_5_ab : f_5 ab = some (.inl (cy, 500, .inl (fun _ => 0))) := by rw [ef_5, va_up_ne _ _ n_ab_ah]; exact hc_4_ab
  have n_al_ah : al ≠ ah := fun e => by rw [← e, hc_4_al] at hn_ah; cases hn_ah
  have hc_5_al : f_5 al = some (.inl (cy, 500, .inl (fun _ => 0))) := by rw [ef_5, va_up_ne _ _ n_al_ah]; exact hc_4_al
  have n_qm_ah : qm ≠ ah := fun e => by rw [← e, hc_4] at hn_ah; cases hn_ah
  have hc_5_qm : f_5 qm = some (.inr (2, [.int 0, .ref ab, .ref al, .null, .int 0, .null, .null, .int 0])) := by rw [ef_5, va_up_ne _ _ n_qm_ah]; exact hc_4
  refine hp_putF (ci := 2) (v := .ref ah) (C := RX2) (T := TX2) (N := 8) hx hb hts hin2 tyX2 tyX2_ok nmX2 hown C0 hf hS hc_5_qm rfl 3 (by decide) (hts (.fieldLink RX2 16 "RouteTrieModel" "hops" "[I") (by decide +kernel)) (fun _ h9 => h9) rfl hin rfl rfl rfl (Nat.le_of_ble_eq_true rfl) dX2_init_28 (fun f_6 H locs ef_6 hf hS => ?_)
  have hc_6 : f_6 qm = some (.inr (2, [.int 0, .ref ab, .ref al, .ref ah, .int 0, .null, .null, .int 0])) := by rw [ef_6]; exact va_up_self _ _ _
  have hc_6_ab : f_6 ab = some (.inl (cy, 500, .inl (fun _ => 0))) := by rw [ef_6, va_up_ne _ _ (Ne.symm n_qm_ab)]; exact hc_5_ab
  have hc_6_al : f_6 al = some (.inl (cy, 500, .inl (fun _ => 0))) := by rw [ef_6, va_up_ne _ _ (Ne.symm n_qm_al)]; exact hc_5_al
  have hc_6_ah : f_6 ah = some (.inl (cy, 500, .inl (fun _ => 0))) := by rw [ef_6, va_up_ne _ _ (Ne.symm n_qm_ah)]; exact hc_5
  refine lv_aload_n hx hb dX2_init_31 rfl (lv_at hl 0 rfl) ?_
  refine lv_sipush (v := 1000) hx hb dX2_init_32 (by decide) ?_
  refine hp_newi (N' := 1000) hx hb (hts (.arrayClass .int) (by decide +kernel)) C0 hf hS C0.1 (by decide) (by decide) (by decide) (Nat.le_of_ble_eq_true rfl) (Nat.le_of_ble_eq_true rfl) dX2_init_35 (fun nb f_7 H hn_nb ef_7 hf hS => ?_)
  have hc_7 : f_7 nb = some (arO cy 1000 (fun _ => 0)) := by rw [ef_7]; exact va_up_self _ _ _
  have n_ab_nb : ab ≠ nb := fun e => by rw [← e, hc_6_ab] at hn_nb; cases hn_nb
  have hc_7_ab : f_7 ab = some (.inl (cy, 500, .inl (fun _ => 0))) := by rw [ef_7, va_up_ne _ _ n_ab_nb]; exact hc_6_ab
  have n_al_nb : al ≠ nb := fun e => by rw [← e, hc_6_al] at hn_nb; cases hn_nb
  have hc_7_al : f_7 al = some (.inl (cy, 500, .inl (fun _ => 0))) := by rw [ef_7, va_up_ne _ _ n_al_nb]; exact hc_6_al
  have n_ah_nb : ah ≠ nb := fun e => by rw [← e, hc_6_ah] at hn_nb; cases hn_nb
  have hc_7_ah : f_7 ah = some (.inl (cy, 500, .inl (fun _ => 0))) := by rw [ef_7, va_up_ne _ _ n_ah_nb]; exact hc_6_ah
  have n_qm_nb : qm ≠ nb := fun e => by rw [← e, hc_6] at hn_nb; cases hn_nb
  have hc_7_qm : f_7 qm = some (.inr (2, [.int 0, .ref ab, .ref al, .ref ah, .int 0, .null, .null, .int 0])) := by rw [ef_7, va_up_ne _ _ n_qm_nb]; exact hc_6
  refine hp_putF (ci := 2) (v := .ref nb) (C := RX2) (T := TX2) (N := 8) hx hb hts hin2 tyX2 tyX2_ok nmX2 hown C0 hf hS hc_7_qm rfl 5 (by decide) (hts (.fieldLink RX2 19 "RouteTrieModel" "nodeBits" "[I") (by decide +kernel)) (fun _ h9 => h9) rfl hin rfl rfl rfl (Nat.le_of_ble_eq_true rfl) dX2_init_37 (fun f_8 H locs ef_8 hf hS => ?_)
  have hc_8 : f_8 qm = some (.inr (2, [.int 0, .ref ab, .ref al, .ref ah, .int 0, .ref nb, .null, .int 0])) := by rw [ef_8]; exact va_up_self _ _ _
  have hc_8_ab : f_8 ab = some (.inl (cy, 500, .inl (fun _ => 0))) := by rw [ef_8, va_up_ne _ _ (Ne.symm n_qm_ab)]; exact hc_7_ab
  have hc_8_al : f_8 al = some (.inl (cy, 500, .inl (fun _ => 0))) := by rw [ef_8, va_up_ne _ _ (Ne.symm n_qm_al)]; exact hc_7_al
  have hc_8_ah : f_8 ah = some (.inl (cy, 500, .inl (fun _ => 0))) := by rw [ef_8, va_up_ne _ _ (Ne.symm n_qm_ah)]; exact hc_7_ah
  have hc_8_nb : f_8 nb = some (.inl (cy, 1000, .inl (fun _ => 0))) := by rw [ef_8, va_up_ne _ _ (Ne.symm n_qm_nb)]; exact hc_7
  refine lv_aload_n hx hb dX2_init_40 rfl (lv_at hl 0 rfl) ?_
  refine lv_sipush (v := 1000) hx hb dX2_init_41 (by decide) ?_
  refine hp_newi (N' := 1000) hx hb (hts (.arrayClass .int) (by decide +kernel)) C0 hf hS C0.1 (by decide) (by decide) (by decide) (Nat.le_of_ble_eq_true rfl) (Nat.le_of_ble_eq_true rfl) dX2_init_44 (fun nl f_9 H hn_nl ef_9 hf hS => ?_)
  have hc_9 : f_9 nl = some (arO cy 1000 (fun _ => 0)) := by rw [ef_9]; exact va_up_self _ _ _
  have n_ab_nl : ab ≠ nl := fun e => by rw [← e, hc_8_ab] at hn_nl; cases hn_nl
  have hc_9_ab : f_9 ab = some (.inl (cy, 500, .inl (fun _ => 0))) := by rw [ef_9, va_up_ne _ _ n_ab_nl]; exact hc_8_ab
  have n_al_nl : al ≠ nl := fun e => by rw [← e, hc_8_al] at hn_nl; cases hn_nl
  have hc_9_al : f_9 al = some (.inl (cy, 500, .inl (fun _ => 0))) := by rw [ef_9, va_up_ne _ _ n_al_nl]; exact hc_8_al
  have n_ah_nl : ah ≠ nl := fun e => by rw [← e, hc_8_ah] at hn_nl; cases hn_nl
  have hc_9_ah : f_9 ah = some (.inl (cy, 500, .inl (fun _ => 0))) := by rw [ef_9, va_up_ne _ _ n_ah_nl]; exact hc_8_ah
  have n_nb_nl : nb ≠ nl := fun e => by rw [← e, hc_8_nb] at hn_nl; cases hn_nl
  have hc_9_nb : f_9 nb = some (.inl (cy, 1000, .inl (fun _ => 0))) := by rw [ef_9, va_up_ne _ _ n_nb_nl]; exact hc_8_nb
  have n_qm_nl : qm ≠ nl := fun e => by rw [← e, hc_8] at hn_nl; cases hn_nl
  have hc_9_qm : f_9 qm = some (.inr (2, [.int 0, .ref ab, .ref al, .ref ah, .int 0, .ref nb, .null, .int 0])) := by rw [ef_9, va_up_ne _ _ n_qm_nl]; exact hc_8
  refine hp_putF (ci := 2) (v := .ref nl) (C := RX2) (T := TX2) (N := 8) hx hb hts hin2 tyX2 tyX2_ok nmX2 hown C0 hf hS hc_9_qm rfl 6 (by decide) (hts (.fieldLink RX2 22 "RouteTrieModel" "nodeLengths" "[I") (by decide +kernel)) (fun _ h9 => h9) rfl hin rfl rfl rfl (Nat.le_of_ble_eq_true rfl) dX2_init_46 (fun f_10 H locs ef_10 hf hS => ?_)
  have hc_10 : f_10 qm = some (.inr (2, [.int 0, .ref ab, .ref al, .ref ah, .int 0, .ref nb, .ref nl, .int 0])) := by rw [ef_10]; exact va_up_self _ _ _
  have hc_10_ab : f_10 ab = some (.inl (cy, 500, .inl (fun _ => 0))) := by rw [ef_10, va_up_ne _ _ (Ne.symm n_qm_ab)]; exact hc_9_ab
  have hc_10_al : f_10 al = some (.inl (cy, 500, .inl (fun _ => 0))) := by rw [ef_10, va_up_ne _ _ (Ne.symm n_qm_al)]; exact hc_9_al
  have hc_10_ah : f_10 ah = some (.inl (cy, 500, .inl (fun _ => 0))) := by rw [ef_10, va_up_ne _ _ (Ne.symm n_qm_ah)]; exact hc_9_ah
  have hc_10_nb : f_10 nb = some (.inl (cy, 1000, .inl (fun _ => 0))) := by rw [ef_10, va_up_ne _ _ (Ne.symm n_qm_nb)]; exact hc_9_nb
  have hc_10_nl : f_10 nl = some (.inl (cy, 1000, .inl (fun _ => 0))) := by rw [ef_10, va_up_ne _ _ (Ne.symm n_qm_nl)]; exact hc_9
  exact hp_vret hx hb hr hlocks C0 hf hS (by first | exact Nat.le_refl _ | omega) (by first | exact Nat.le_refl _ | omega) dX2_init_49 (⟨ab, al, ah, nb, nl, ⟨n_ab_al, n_ab_ah, n_al_ah, n_ab_nb, n_ab_nl, n_al_nb, n_al_nl, n_ah_nb, n_ah_nl, n_nb_nl⟩, hc_10, hc_10_ab, hc_10_al, hc_10_ah, hc_10_nb, hc_10_nl, fun b v g1 g2 => by
        have v_1 : f_1 b = some v := by rw [ef_1, va_up_ne _ _ (fun e => by rw [← e, g1] at hn_ab; cases hn_ab)]; exact g1
        have v_2 : f_2 b = some v := by rw [ef_2, va_up_ne _ _ g2]; exact v_1
        have v_3 : f_3 b = some v := by rw [ef_3, va_up_ne _ _ (fun e => by rw [← e, v_2] at hn_al; cases hn_al)]; exact v_2
        have v_4 : f_4 b = some v := by rw [ef_4, va_up_ne _ _ g2]; exact v_3
        have v_5 : f_5 b = some v := by rw [ef_5, va_up_ne _ _ (fun e => by rw [← e, v_4] at hn_ah; cases hn_ah)]; exact v_4
        have v_6 : f_6 b = some v := by rw [ef_6, va_up_ne _ _ g2]; exact v_5
        have v_7 : f_7 b = some v := by rw [ef_7, va_up_ne _ _ (fun e => by rw [← e, v_6] at hn_nb; cases hn_nb)]; exact v_6
        have v_8 : f_8 b = some v := by rw [ef_8, va_up_ne _ _ g2]; exact v_7
        have v_9 : f_9 b = some v := by rw [ef_9, va_up_ne _ _ (fun e => by rw [← e, v_8] at hn_nl; cases hn_nl)]; exact v_8
        have v_10 : f_10 b = some v := by rw [ef_10, va_up_ne _ _ g2]; exact v_9
        exact v_10⟩)
