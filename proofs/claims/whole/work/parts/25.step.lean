/-! how the relation moves -/
def insG {α : Type} (g : Nat → α) (k n : Nat) (x : α) : Nat → α := fun j => if j < k then g j else if j = k then x else if j ≤ n then g (j - 1) else g j
def delG {α : Type} (g : Nat → α) (i k : Nat) : Nat → α := fun j => if j < i then g j else if j < k then g (j + 1) else g j
theorem insF_G (g : Nat → Int32) (k n : Nat) (x : Int32) : insF g k n x = insG g k n x := rfl
theorem dlG_G (g : Nat → Int32) (i k : Nat) : dlG g i k = delG g i k := rfl
theorem insG_lt {α : Type} {g : Nat → α} {k n j : Nat} {x : α} (h : j < k) : insG g k n x j = g j := by unfold insG; rw [if_pos h]
theorem insG_eq {α : Type} {g : Nat → α} {k n : Nat} {x : α} : insG g k n x k = x := by unfold insG; rw [if_neg (Nat.lt_irrefl _), if_pos rfl]
theorem insG_gt {α : Type} {g : Nat → α} {k n j : Nat} {x : α} (h : k < j) (h2 : j ≤ n) : insG g k n x j = g (j - 1) := by unfold insG; rw [if_neg (by omega), if_neg (by omega), if_pos h2]
theorem delG_lt {α : Type} {g : Nat → α} {i k j : Nat} (h : j < i) : delG g i k j = g j := by unfold delG; rw [if_pos h]
theorem delG_ge {α : Type} {g : Nat → α} {i k j : Nat} (h : i ≤ j) (h2 : j < k) : delG g i k j = g (j + 1) := by unfold delG; rw [if_neg (by omega), if_pos h2]
theorem perm_ins {α : Type} (g : Nat → α) {p n : Nat} (x : α) (hp : p ≤ n) : ((List.range (n + 1)).map (insG g p n x)).Perm (x :: (List.range n).map g) := by
  have e : (List.range (n + 1)).map (insG g p n x) = ((List.range n).map g).take p ++ x :: ((List.range n).map g).drop p := by
    refine List.ext_getElem (by simp; omega) (fun j h1 h2 => ?_)
    rw [List.getElem_map, List.getElem_range, List.getElem_append]
    have hl : (((List.range n).map g).take p).length = p := by simp; omega
    have hj : j < n + 1 := by simpa using h1
    split
    · next h =>
      rw [hl] at h
      rw [List.getElem_take, List.getElem_map, List.getElem_range, insG_lt h]
    · next h =>
      rw [hl] at h
      rw [List.getElem_cons]
      split
      · next h3 =>
        rw [hl] at h3
        rw [show j = p by omega, insG_eq]
      · next h3 =>
        rw [hl] at h3
        rw [List.getElem_drop, List.getElem_map, List.getElem_range, insG_gt (by omega) (by omega)]
        congr 1
        rw [hl]; omega
  rw [e]
  refine List.perm_middle.trans ?_
  rw [List.take_append_drop]
theorem perm_del {α : Type} (g : Nat → α) {i n : Nat} (hi : i < n) : ((List.range n).map g).Perm (g i :: (List.range (n - 1)).map (delG g i (n - 1))) := by
  have h := perm_ins (delG g i (n - 1)) (p := i) (n := n - 1) (g i) (by omega)
  rw [show n - 1 + 1 = n by omega] at h
  refine List.Perm.trans (List.Perm.of_eq ?_) h
  refine List.map_congr_left fun j hj => ?_
  have hj := List.mem_range.mp hj
  rcases Nat.lt_trichotomy j i with q | q | q
  · rw [insG_lt q, delG_lt q]
  · subst q; rw [insG_eq]
  · rw [insG_gt q (by omega), delG_ge (by omega) (by omega)]
    congr 1; omega
theorem bfr_key {x b : Int32} {k m : Nat} (hk : k ≤ 32) (hm : m ≤ 32) : bfr x (nI k) b (nI m) ↔ key x k < key b m := by
  unfold bfr
  rw [ul_iff, nI_ltI (by omega) (by omega)]
  unfold key
  constructor
  · intro h
    rcases h with h | ⟨h1, h2⟩
    · omega
    · rw [h1]; omega
  · intro h
    by_cases e : x = b
    · subst e; exact Or.inr ⟨rfl, by omega⟩
    · left
      have : x.toBitVec.toNat ≠ b.toBitVec.toNat := fun z => e (nat_eq z)
      omega
theorem key_inj {x b : Int32} {k m : Nat} (hk : k ≤ 32) (hm : m ≤ 32) (h : key x k = key b m) : x = b ∧ k = m := by
  unfold key at h
  have h1 : x.toBitVec.toNat = b.toBitVec.toNat := by omega
  exact ⟨nat_eq h1, by omega⟩
theorem rel_init {root : Nat} {t : NT} (h : t root = (0, 0, -1, 0, none, none)) (B L Hh : Nat → Int32) (lam : Nat → Nat) : REL [root] t root 0 B L lam Hh := by
  have hR : isR t root = false := by unfold isR; simp only [tH]; rw [h]; rfl
  have hc : ∀ d, ch t root d = none := fun d => by unfold ch; simp only [tO, tZ]; rw [h]; cases d <;> rfl
  have hL : tL t root = 0 := by simp only [tL]; rw [h]
  have hB : tB t root = 0 := by simp only [tB]; rw [h]
  have one : ∀ a ∈ [root], a = root := fun a ha => List.mem_singleton.mp ha
  refine ⟨⟨⟨⟨List.mem_singleton.mpr rfl, hL⟩, List.nodup_cons.mpr ⟨List.not_mem_nil, List.nodup_nil⟩, fun a ha => ?_, fun a ha b hb _ _ => ?_, fun a ha d c k => ?_, fun a ha x hx k => ?_⟩, fun a ha => ?_, fun b hb g => ?_⟩, ⟨fun i hi => absurd hi (by omega), fun i j _ hj => absurd hj (by omega)⟩, ?_⟩
  · rw [one a ha, hB, hL]; exact px_0
  · rw [one a ha, one b hb]
  · rw [one a ha, hc] at k; cases k
  · rw [one a ha, one x hx] at k; omega
  · rw [one a ha]
    have e : tR t root = 0 := by simp only [tR]; rw [h]
    rw [e, List.countP_cons, hR]; rfl
  · exact absurd (one b hb) g
  · unfold rts
    rw [List.filter_cons, hR]
    exact List.Perm.refl _
section STEP
variable {N : List Nat} {t : NT} {root n : Nat} {B L : Nat → Int32} {lam : Nat → Nat} {Hh : Nat → Int32}
theorem rel_hop (R : REL N t root n B L lam Hh) {a i : Nat} {h : Int32} (ha : a ∈ N) (hR : isR t a = true) (hi : i < n) (e1 : B i = tB t a) (e2 : lam i = tL t a) (hh : ¬ h = -1) : REL N (va_up t a (sethop (t a) h)) root n B L lam (upd Hh i h) := by
  obtain ⟨⟨hs, hr, hf⟩, hw, hp⟩ := R
  have R0 : REL N t root n B L lam Hh := ⟨⟨hs, hr, hf⟩, hw, hp⟩
  obtain ⟨t', et⟩ : ∃ t', t' = va_up t a (sethop (t a) h) := ⟨_, rfl⟩
  rw [← et]
  have ta : t' a = sethop (t a) h := by rw [et, va_up_self]
  have tn : ∀ b, b ≠ a → t' b = t b := fun b e => by rw [et, va_up_ne _ _ e]
  have dat : ∀ b, tB t' b = tB t b ∧ tL t' b = tL t b ∧ tZ t' b = tZ t b ∧ tO t' b = tO t b ∧ tR t' b = tR t b := fun b => by
    simp only [tB, tL, tZ, tO, tR]
    by_cases e : b = a
    · subst e; rw [ta]; exact ⟨rfl, rfl, rfl, rfl, rfl⟩
    · rw [tn b e]; exact ⟨rfl, rfl, rfl, rfl, rfl⟩
  have hRa : isR t' a = true := by rw [isR_iff]; simp only [tH]; rw [ta]; exact hh
  have hR' : ∀ b, isR t' b = isR t b := fun b => by
    by_cases e : b = a
    · rw [e, hRa, hR]
    · exact isR_eq (by simp only [tH]; rw [tn b e])
  have hs' : ST N t' root := st_same hs (fun b _ => ⟨(dat b).1, (dat b).2.1, (dat b).2.2.1, (dat b).2.2.2.1⟩)
  refine ⟨⟨hs', fun b hb => ?_, fun b hb g1 g2 d => ?_⟩, ⟨fun j hj => ⟨(hw.1 j hj).1, (hw.1 j hj).2.1, ?_⟩, hw.2⟩, ?_⟩
  · rw [(dat b).2.2.2.2, hr b hb]
    exact cnt_congr fun y _ => by rw [hR', pb_eq (dat b).1 (dat b).2.1 (dat y).1 (dat y).2.1]
  · rw [hR'] at g2
    have := hf b hb g1 g2 d
    unfold ch at this ⊢
    rw [(dat b).2.2.1, (dat b).2.2.2.1]
    exact this
  · by_cases e : j = i
    · rw [e, pk_us]; exact hh
    · rw [pk_un e]; exact (hw.1 j hj).2.2
  · obtain ⟨M, m1, m2, m3, m4⟩ := rts_one (t := t) (t' := t') ha hs.2.1 (fun b _ e => by unfold rdt; simp only [tB, tL, tH]; rw [tn b e])
    rw [rts_cons, hR, if_pos rfl] at m2
    rw [rts_cons, hRa, if_pos rfl, m4] at m3
    -- the row's place
    have q1 := perm_del (fun j => ((B j, lam j, Hh j) : RT)) hi
    have q2 := perm_del (fun j => ((B j, lam j, upd Hh i h j) : RT)) hi
    have eqd : (List.range (n - 1)).map (delG (fun j => ((B j, lam j, upd Hh i h j) : RT)) i (n - 1)) = (List.range (n - 1)).map (delG (fun j => ((B j, lam j, Hh j) : RT)) i (n - 1)) := by
      refine List.map_congr_left fun j hj => ?_
      have hj := List.mem_range.mp hj
      rcases Nat.lt_or_ge j i with q | q
      · rw [delG_lt q, delG_lt q, pk_un (by omega)]
      · rw [delG_ge q hj, delG_ge q hj, pk_un (by omega)]
    rw [eqd] at q2
    have eH : Hh i = tH t a := by
      obtain ⟨i', i1, i2, i3, i4⟩ := rel_ix R0 ha hR
      have : i' = i := rel_inj R0 i1 hi (i2.trans e1.symm) (i3.trans e2.symm)
      rw [← this]; exact i4
    have e3 : rdt t a = (B i, lam i, Hh i) := by unfold rdt; rw [e1, e2, eH]
    have e4 : rdt t' a = (B i, lam i, upd Hh i h i) := by unfold rdt; rw [(dat a).1, (dat a).2.1, e1, e2, pk_us]; simp only [tH]; rw [ta]; rfl
    have rest := (m2.symm.trans (hp.trans q1))
    rw [e3] at rest
    refine m3.trans (List.Perm.trans ?_ q2.symm)
    rw [e4]
    exact List.Perm.cons _ rest.cons_inv
theorem rel_ins (R : REL N t root n B L lam Hh) {N' : List Nat} {t' : NT} {x h : Int32} {k p : Nat} (C : CI N' t' root) (hp : ((x, k, h) :: rts N t).Perm (rts N' t')) (hx : px x k) (hh : ¬ h = -1) (hpn : p ≤ n)
    (h1 : ∀ j, p ≤ j → j < n → bfr x (nI k) (B j) (L j)) (h2 : 0 < p → ¬ bfr x (nI k) (B (p - 1)) (L (p - 1))) (h3 : ∀ j, j < n → ¬ (B j = x ∧ L j = nI k)) :
    REL N' t' root (n + 1) (insF B p n x) (insF L p n (nI k)) (insG lam p n k) (insF Hh p n h) := by
  have hw := R.2.1
  have kb : ∀ j, j < n → (bfr x (nI k) (B j) (L j) ↔ key x k < key (B j) (lam j)) := fun j hj => by
    rw [(hw.1 j hj).1]; exact bfr_key hx.1 (hw.1 j hj).2.1.1
  have mono : ∀ i j, i ≤ j → j < n → key (B i) (lam i) ≤ key (B j) (lam j) := fun i j h hj => by
    rcases Nat.lt_or_ge i j with g | g
    · exact Nat.le_of_lt (hw.2 i j g hj)
    · rw [show i = j by omega]; exact Nat.le_refl _
  have lowK : ∀ j, j < p → key (B j) (lam j) < key x k := fun j hj => by
    have a1 : ¬ key x k < key (B (p - 1)) (lam (p - 1)) := fun g => h2 (by omega) ((kb (p - 1) (by omega)).mpr g)
    have a2 : key (B (p - 1)) (lam (p - 1)) ≠ key x k := fun g => by
      obtain ⟨g1, g2⟩ := key_inj (hw.1 (p - 1) (by omega)).2.1.1 hx.1 g
      exact h3 (p - 1) (by omega) ⟨g1, by rw [(hw.1 (p - 1) (by omega)).1, g2]⟩
    have a3 := mono j (p - 1) (by omega) (by omega)
    omega
  refine ⟨C, ⟨fun i hi => ?_, fun i j hij hj => ?_⟩, hp.symm.trans ((List.Perm.cons _ R.2.2).trans ?_)⟩
  · rw [insF_G, insF_G, insF_G]
    rcases Nat.lt_trichotomy i p with q | q | q
    · rw [insG_lt q, insG_lt q, insG_lt q, insG_lt q]; exact hw.1 i (by omega)
    · subst q; rw [insG_eq, insG_eq, insG_eq, insG_eq]; exact ⟨rfl, hx, hh⟩
    · rw [insG_gt q (by omega), insG_gt q (by omega), insG_gt q (by omega), insG_gt q (by omega)]; exact hw.1 (i - 1) (by omega)
  · rw [insF_G]
    rcases Nat.lt_trichotomy i p with q | q | q
    · rw [insG_lt q, insG_lt q]
      rcases Nat.lt_trichotomy j p with w | w | w
      · rw [insG_lt w, insG_lt w]; exact hw.2 i j hij (by omega)
      · subst w; rw [insG_eq, insG_eq]; exact lowK i q
      · rw [insG_gt w (by omega), insG_gt w (by omega)]; exact hw.2 i (j - 1) (by omega) (by omega)
    · subst q
      rw [insG_eq, insG_eq, insG_gt hij (by omega), insG_gt hij (by omega)]
      exact (kb (j - 1) (by omega)).mp (h1 (j - 1) (by omega) (by omega))
    · rw [insG_gt q (by omega), insG_gt q (by omega), insG_gt (by omega) (by omega), insG_gt (by omega) (by omega)]
      exact hw.2 (i - 1) (j - 1) (by omega) (by omega)
  · have q := perm_ins (fun j => ((B j, lam j, Hh j) : RT)) (p := p) (n := n) (x, k, h) hpn
    refine q.symm.trans (List.Perm.of_eq ?_)
    refine List.map_congr_left fun j hj => ?_
    have hj := List.mem_range.mp hj
    rw [insF_G, insF_G]
    rcases Nat.lt_trichotomy j p with q | q | q
    · rw [insG_lt q, insG_lt q, insG_lt q, insG_lt q]
    · subst q; rw [insG_eq, insG_eq, insG_eq, insG_eq]
    · rw [insG_gt q (by omega), insG_gt q (by omega), insG_gt q (by omega), insG_gt q (by omega)]
theorem rel_del (R : REL N t root n B L lam Hh) {N' : List Nat} {t' : NT} {a i : Nat} (ha : a ∈ N) (hR : isR t a = true) (C : CI N' t' root) (hp : (rts N t).Perm (rdt t a :: rts N' t')) (hi : i < n) (e1 : B i = tB t a) (e2 : lam i = tL t a) :
    REL N' t' root (n - 1) (dlG B i (n - 1)) (dlG L i (n - 1)) (delG lam i (n - 1)) (dlG Hh i (n - 1)) := by
  have hw := R.2.1
  have eH : Hh i = tH t a := by
    obtain ⟨i', i1, i2, i3, i4⟩ := rel_ix R ha hR
    have : i' = i := rel_inj R i1 hi (i2.trans e1.symm) (i3.trans e2.symm)
    rw [← this]; exact i4
  refine ⟨C, ⟨fun j hj => ?_, fun j j2 hij hj => ?_⟩, ?_⟩
  · rw [dlG_G, dlG_G, dlG_G]
    rcases Nat.lt_or_ge j i with q | q
    · rw [delG_lt q, delG_lt q, delG_lt q, delG_lt q]; exact hw.1 j (by omega)
    · rw [delG_ge q hj, delG_ge q hj, delG_ge q hj, delG_ge q hj]; exact hw.1 (j + 1) (by omega)
  · rw [dlG_G]
    rcases Nat.lt_or_ge j i with q | q
    · rw [delG_lt q, delG_lt q]
      rcases Nat.lt_or_ge j2 i with w | w
      · rw [delG_lt w, delG_lt w]; exact hw.2 j j2 hij (by omega)
      · rw [delG_ge w hj, delG_ge w hj]; exact hw.2 j (j2 + 1) (by omega) (by omega)
    · rw [delG_ge q (by omega), delG_ge q (by omega), delG_ge (by omega) hj, delG_ge (by omega) hj]
      exact hw.2 (j + 1) (j2 + 1) (by omega) (by omega)
  · have q := perm_del (fun j => ((B j, lam j, Hh j) : RT)) hi
    have w := (hp.symm.trans (R.2.2.trans q))
    rw [show rdt t a = (B i, lam i, Hh i) by unfold rdt; rw [e1, e2, eH]] at w
    refine w.cons_inv.trans (List.Perm.of_eq ?_)
    refine List.map_congr_left fun j hj => ?_
    have hj := List.mem_range.mp hj
    rw [dlG_G, dlG_G]
    rcases Nat.lt_or_ge j i with q | q
    · rw [delG_lt q, delG_lt q, delG_lt q, delG_lt q]
    · rw [delG_ge q hj, delG_ge q hj, delG_ge q hj, delG_ge q hj]
theorem rel_le (R : REL N t root n B L lam Hh) (hn : n ≤ 500) : tR t root ≤ 500 := by rw [rel_count R]; exact hn
/-- the same route is looked for on both sides -/
theorem rel_find (R : REL N t root n B L lam Hh) {x : Int32} {k : Nat} (hk : k ≤ 32) : (∃ i, i < n ∧ B i = x ∧ L i = nI k) ↔ ∃ a ∈ N, isR t a = true ∧ tL t a = k ∧ tB t a = x := by
  constructor
  · intro ⟨i, i1, i2, i3⟩
    obtain ⟨a, a1, a2, a3, a4, -⟩ := rel_node R i1
    refine ⟨a, a1, a2, ?_, a3.trans i2⟩
    rw [a4]
    have hw := R.2.1.1 i i1
    rw [hw.1] at i3
    exact (nI_eq (by have := hw.2.1.1; omega) (by omega)).mp i3
  · intro ⟨a, a1, a2, a3, a4⟩
    obtain ⟨i, i1, i2, i3, -⟩ := rel_ix R a1 a2
    exact ⟨i, i1, i2.trans a4, by rw [(R.2.1.1 i i1).1, i3, a3]⟩
end STEP
