/-! the tree and the rows of the reference: the same routes -/
def mkR (n : Nat) (B : Nat → Int32) (lam : Nat → Nat) (Hh : Nat → Int32) : List RT := (List.range n).map (fun i => (B i, lam i, Hh i))
def MW (n : Nat) (B L : Nat → Int32) (lam : Nat → Nat) (Hh : Nat → Int32) : Prop := (∀ i, i < n → L i = nI (lam i) ∧ px (B i) (lam i) ∧ ¬ Hh i = -1) ∧ ∀ i j, i < j → j < n → key (B i) (lam i) < key (B j) (lam j)
def REL (N : List Nat) (t : NT) (root n : Nat) (B L : Nat → Int32) (lam : Nat → Nat) (Hh : Nat → Int32) : Prop := CI N t root ∧ MW n B L lam Hh ∧ (rts N t).Perm (mkR n B lam Hh)
theorem mem_mkR {n : Nat} {B : Nat → Int32} {lam : Nat → Nat} {Hh : Nat → Int32} {e : RT} : e ∈ mkR n B lam Hh ↔ ∃ i, i < n ∧ e = (B i, lam i, Hh i) := by
  unfold mkR
  rw [List.mem_map]
  constructor
  · intro ⟨i, h1, h2⟩; exact ⟨i, List.mem_range.mp h1, h2.symm⟩
  · intro ⟨i, h1, h2⟩; exact ⟨i, List.mem_range.mpr h1, h2.symm⟩
theorem mem_rts {N : List Nat} {t : NT} {e : RT} : e ∈ rts N t ↔ ∃ a ∈ N, isR t a = true ∧ rdt t a = e := by
  unfold rts
  rw [List.mem_map]
  constructor
  · intro ⟨a, h1, h2⟩; obtain ⟨h3, h4⟩ := List.mem_filter.mp h1; exact ⟨a, h3, h4, h2⟩
  · intro ⟨a, h1, h2, h3⟩; exact ⟨a, List.mem_filter.mpr ⟨h1, h2⟩, h3⟩
section REL
variable {N : List Nat} {t : NT} {root n : Nat} {B L : Nat → Int32} {lam : Nat → Nat} {Hh : Nat → Int32}
theorem rel_node (R : REL N t root n B L lam Hh) {i : Nat} (hi : i < n) : ∃ a ∈ N, isR t a = true ∧ tB t a = B i ∧ tL t a = lam i ∧ tH t a = Hh i := by
  obtain ⟨a, h1, h2, h3⟩ := mem_rts.mp (R.2.2.mem_iff.mpr (mem_mkR.mpr ⟨i, hi, rfl⟩))
  unfold rdt at h3
  simp only [Prod.mk.injEq] at h3
  exact ⟨a, h1, h2, h3⟩
theorem rel_ix (R : REL N t root n B L lam Hh) {a : Nat} (ha : a ∈ N) (hR : isR t a = true) : ∃ i, i < n ∧ B i = tB t a ∧ lam i = tL t a ∧ Hh i = tH t a := by
  obtain ⟨i, h1, h2⟩ := mem_mkR.mp (R.2.2.mem_iff.mp (mem_rts.mpr ⟨a, ha, hR, rfl⟩))
  unfold rdt at h2
  simp only [Prod.mk.injEq] at h2
  exact ⟨i, h1, h2.1.symm, h2.2.1.symm, h2.2.2.symm⟩
theorem rel_inj (R : REL N t root n B L lam Hh) {i j : Nat} (hi : i < n) (hj : j < n) (e1 : B i = B j) (e2 : lam i = lam j) : i = j := by
  rcases Nat.lt_trichotomy i j with q | q | q
  · have := R.2.1.2 i j q hj; rw [e1, e2] at this; omega
  · exact q
  · have := R.2.1.2 j i q hi; rw [e1, e2] at this; omega
theorem rel_cnt (R : REL N t root n B L lam Hh) (p : RT → Bool) : N.countP (fun y => isR t y && p (rdt t y)) = (List.range n).countP (fun i => p (B i, lam i, Hh i)) := by
  have h1 : (rts N t).countP p = (mkR n B lam Hh).countP p := R.2.2.countP_eq p
  unfold rts mkR at h1
  rw [List.countP_map, List.countP_map, List.countP_filter] at h1
  rw [cnt_congr (q := fun a => (p ∘ rdt t) a && isR t a) (fun y _ => by show (isR t y && p (rdt t y)) = (p (rdt t y) && isR t y); rw [Bool.and_comm]), h1]
  rfl
theorem rel_exact (R : REL N t root n B L lam Hh) {x l0 r r' : Int32} {ro : Option Nat} (h1 : RAp N t x l0 ro) (h2 : r = ro.elim (-1) (tH t)) (h3 : (∃ i : Nat, i < n ∧ r' = Hh i ∧ B i = x ∧ L i = l0) ∨ (r' = -1 ∧ ∀ j, j < n → ¬ (B j = x ∧ L j = l0))) : r = r' := by
  cases ro with
  | none =>
    rw [h2]
    rcases h3 with ⟨i, i1, i2, i3, i4⟩ | ⟨i1, -⟩
    · obtain ⟨a, a1, a2, a3, a4, a5⟩ := rel_node R i1
      exact absurd (a3.trans i3) (h1.2 rfl a a1 (isR_iff.mp a2) (by rw [a4, ← (R.2.1.1 i i1).1]; exact i4.symm))
    · exact i1.symm
  | some a =>
    obtain ⟨a1, a2, a3, a4⟩ := h1.1 a rfl
    obtain ⟨i, i1, i2, i3, i4⟩ := rel_ix R a1 (isR_iff.mpr a4)
    rcases h3 with ⟨j, j1, j2, j3, j4⟩ | ⟨-, j1⟩
    · have hj := (R.2.1.1 j j1)
      have e : i = j := rel_inj R i1 j1 (by rw [i2, a3, j3]) (by
        rw [i3]
        exact (nI_eq (by have := (R.1.1.2.2.1 a a1).1; omega) (by have := hj.2.1.1; omega)).mp (by rw [← a2, ← hj.1, j4]))
      subst e
      rw [h2, j2, i4]; rfl
    · exact absurd ⟨i2.trans a3, by rw [(R.2.1.1 i i1).1, i3, ← a2]⟩ (j1 i i1)
theorem rel_look (R : REL N t root n B L lam Hh) {x r r' : Int32} {ro : Option Nat} {G : Nat → Int32} {g : Nat → Int32} (hG : ∀ i a, i < n → a ∈ N → B i = tB t a → lam i = tL t a → Hh i = tH t a → G i = g a) (h1 : LRp N t x ro) (h2 : r = ro.elim (-1) g)
    (h3 : (∃ i : Nat, i < n ∧ r' = G i ∧ x &&& mskI (L i) = B i ∧ ∀ j, j < n → x &&& mskI (L j) = B j → L j ≤ L i) ∨ (r' = -1 ∧ ∀ j, j < n → ¬ x &&& mskI (L j) = B j)) : r = r' := by
  have bg : ∀ i, i < n → (x &&& mskI (L i) = B i ↔ ag (B i) x (lam i)) := fun i hi => by
    obtain ⟨e1, e2, -⟩ := R.2.1.1 i hi
    rw [e1, msk_mk]
    exact px_fb e2
  cases ro with
  | none =>
    rw [h2]
    rcases h3 with ⟨i, i1, i2, i3, i4⟩ | ⟨i1, -⟩
    · obtain ⟨a, a1, a2, a3, a4, a5⟩ := rel_node R i1
      exact absurd (h1.2 rfl a a1 (by rw [a3, a4]; exact (bg i i1).mp i3)) (isR_iff.mp a2)
    · exact i1.symm
  | some a =>
    obtain ⟨a1, a2, a3, a4⟩ := h1.1 a rfl
    obtain ⟨i, i1, i2, i3, i4⟩ := rel_ix R a1 (isR_iff.mpr a3)
    have hi := R.2.1.1 i i1
    rcases h3 with ⟨j, j1, j2, j3, j4⟩ | ⟨-, j1⟩
    · have hj := R.2.1.1 j j1
      obtain ⟨b, b1, b2, b3, b4, b5⟩ := rel_node R j1
      have l1 : tL t b ≤ tL t a := a4 b b1 (by rw [b3, b4]; exact (bg j j1).mp j3) (isR_iff.mp b2)
      have l2 : lam i ≤ lam j := by
        have := j4 i i1 ((bg i i1).mpr (by rw [i2, i3]; exact a2))
        rw [hi.1, hj.1] at this
        exact (nI_leI (by have := hi.2.1.1; omega) (by have := hj.2.1.1; omega)).mp this
      have e : lam i = lam j := by omega
      have e2 : i = j := rel_inj R i1 j1 (px_inj hi.2.1 (e ▸ hj.2.1) (ag_tr (by rw [i2, i3]; exact a2) (ag_sy (by rw [e]; exact (bg j j1).mp j3)))) e
      subst e2
      rw [h2, j2]
      exact (hG i a i1 a1 i2 i3 i4).symm
    · exact absurd ((bg i i1).mpr (by rw [i2, i3]; exact a2)) (j1 i i1)
theorem rel_under (R : REL N t root n B L lam Hh) {x : Int32} {k : Nat} {ro : Option Nat} (hk : px x k) (h1 : TMp N t x k ro) : ro.elim (0 : Int32) (fun a => nI (tR t a)) = nI ((List.range n).countP (fun j => decide (nI k ≤ L j) && (B j &&& mskI (nI k) == x))) := by
  have e1 : (List.range n).countP (fun j => decide (nI k ≤ L j) && (B j &&& mskI (nI k) == x)) = N.countP (fun y => isR t y && (decide (k ≤ tL t y) && (fb (tB t y) k == x))) := by
    refine Eq.trans ?_ (rel_cnt R (fun e => decide (k ≤ e.2.1) && (fb e.1 k == x))).symm
    refine cnt_congr fun i hi => ?_
    have hi := List.mem_range.mp hi
    rw [(R.2.1.1 i hi).1, msk_mk]
    congr 1
    exact decide_eq_decide.mpr (nI_leI (by have := hk.1; omega) (by have := (R.2.1.1 i hi).2.1.1; omega))
  rw [e1]
  have hs := R.1.1
  have hP : ∀ y ∈ N, ((decide (k ≤ tL t y) && (fb (tB t y) k == x)) = true ↔ (k ≤ tL t y ∧ ag x (tB t y) k)) := fun y _ => by
    rw [Bool.and_eq_true, decide_eq_true_eq, beq_iff_eq, px_fb hk]
  cases ro with
  | none =>
    rw [List.countP_eq_zero.mpr (fun y hy => by
      rw [Bool.and_eq_true, hP y hy]
      exact fun g => h1.2 rfl y hy g.2.1 g.2.2)]
    rfl
  | some a =>
    obtain ⟨a1, a2, a3, a4⟩ := h1.1 a rfl
    show nI (tR t a) = _
    rw [R.1.2.1 a a1]
    congr 1
    refine cnt_congr fun y hy => ?_
    congr 1
    refine bool_eq ?_
    rw [hP y hy, pb_iff (hs.2.2.1 a a1)]
    constructor
    · intro ⟨g1, g2⟩; exact ⟨by omega, ag_tr a3 (ag_mono g2 a2)⟩
    · intro ⟨g1, g2⟩; exact a4 y hy g1 g2
theorem rel_count (R : REL N t root n B L lam Hh) : tR t root = n := by
  have hs := R.1.1
  rw [R.1.2.1 root hs.1.1]
  have h1 := rel_cnt R (fun _ => true)
  rw [cnt_congr (q := fun y => isR t y && (fun _ => true) (rdt t y)) (fun y hy => by
    congr 1
    refine bool_eq ⟨fun _ => rfl, fun _ => ?_⟩
    rw [pb_iff (hs.2.2.1 root hs.1.1), hs.1.2]
    exact ⟨Nat.zero_le _, ag_0⟩), h1]
  rw [List.countP_eq_length.mpr (fun _ _ => rfl), List.length_range]
theorem cnt_range (n i : Nat) (hi : i ≤ n) : (List.range n).countP (fun j => decide (j < i)) = i := by
  induction n with
  | zero => rw [Nat.le_zero.mp hi]; rfl
  | succ n ih =>
    rw [List.range_succ, List.countP_append, List.countP_singleton]
    rcases Nat.lt_or_ge n i with q | q
    · have e : i = n + 1 := by omega
      subst e
      rw [List.countP_eq_length.mpr (fun j hj => by have := List.mem_range.mp hj; simp; omega), List.length_range]
      simp
    · rw [ih q]; simp [Nat.not_lt.mpr q]
theorem rel_lo (R : REL N t root n B L lam Hh) {i a : Nat} (hi : i < n) (e1 : B i = tB t a) (e2 : lam i = tL t a) : lo N t a = i := by
  unfold lo
  have h1 := rel_cnt R (fun e => decide (key e.1 e.2.1 < key (tB t a) (tL t a)))
  have h2 : N.countP (fun y => isR t y && decide (key (tB t y) (tL t y) < key (tB t a) (tL t a))) = (List.range n).countP (fun i => decide (key (B i) (lam i) < key (tB t a) (tL t a))) := h1
  rw [h2, ← e1, ← e2]
  refine (cnt_congr fun j hj => ?_).trans (cnt_range n i (by omega))
  have hj := List.mem_range.mp hj
  refine decide_eq_decide.mpr ⟨fun g => ?_, fun g => R.2.1.2 j i g hi⟩
  rcases Nat.lt_trichotomy j i with q | q | q
  · exact q
  · subst q; omega
  · have := R.2.1.2 i j q hj; omega
theorem rel_route (R : REL N t root n B L lam Hh) (hn : n ≤ 500) {k w r r' : Int32} {ro : Option Nat} (h1 : IOp N t root k ro) (h2 : r = ro.elim 0 (rtA t w)) (h3 : ((k < 0 ∨ nI n ≤ k) ∧ r' = 0) ∨ ∃ i : Nat, i < n ∧ k = nI i ∧ r' = if w = 0 then B i else if w = 1 then L i else if w = 2 then Hh i else 0) : r = r' := by
  have hc := rel_count R
  cases ro with
  | none =>
    rw [h2]
    rcases h3 with ⟨-, i2⟩ | ⟨i, i1, i2, i3⟩
    · exact i2.symm
    · rcases h1.2 rfl with q | q
      · rw [i2] at q; exact absurd q (nI_pos (by omega))
      · rw [i2, hc, nI_leI (by omega) (by omega)] at q; omega
  | some a =>
    obtain ⟨a1, a2, a3, a4⟩ := h1.1 a rfl
    obtain ⟨j, j1, j2, j3, j4⟩ := rel_ix R a1 a2
    have hlo := rel_lo R j1 j2 j3
    rw [hlo] at a3
    rcases h3 with ⟨q | q, -⟩ | ⟨i, i1, i2, i3⟩
    · rw [a3] at q; exact absurd q (nI_pos (by omega))
    · rw [a3, nI_leI (by omega) (by omega)] at q; omega
    · have e : i = j := (nI_eq (by omega) (by omega)).mp (i2.symm.trans a3)
      subst e
      rw [h2, i3]
      show rtA t w a = _
      unfold rtA
      rw [← j2, ← j3, ← j4, (R.2.1.1 i i1).1]
/-! the nodes -/
theorem below_route (C : CI N t root) : ∀ (m c : Nat), 33 ≤ tL t c + m → c ∈ N → c ≠ root → ∃ y ∈ N, isR t y = true ∧ pb t c y = true := by
  intro m
  induction m with
  | zero => intro c h hc; have := (C.1.2.2.1 c hc).1; omega
  | succ m ih =>
    intro c h hc hcr
    cases hR : isR t c with
    | true => exact ⟨c, hc, hR, (pb_iff (C.1.2.2.1 c hc)).mpr ⟨Nat.le_refl _, ag_rf⟩⟩
    | false =>
      cases hz : ch t c false with
      | none => exact absurd hz (C.2.2 c hc hcr hR false)
      | some z =>
        obtain ⟨z1, z2, z3, z4⟩ := C.1.2.2.2.2.1 c hc false z hz
        obtain ⟨y, y1, y2, y3⟩ := ih z (by omega) z1 (fun e => by rw [e, C.1.1.2] at z2; omega)
        rw [pb_iff (C.1.2.2.1 z z1)] at y3
        exact ⟨y, y1, y2, (pb_iff (C.1.2.2.1 c hc)).mpr ⟨by omega, ag_tr z3 (ag_mono y3.2 (by omega))⟩⟩
theorem interval {o y w : Nat} (C : CI N t root) (ho : o ∈ N) (hy : y ∈ N) (hw : w ∈ N) (h1 : pb t o w = true) (h2 : key (tB t o) (tL t o) ≤ key (tB t y) (tL t y)) (h3 : key (tB t y) (tL t y) ≤ key (tB t w) (tL t w)) : pb t o y = true := by
  have po := C.1.2.2.1 o ho
  have py := C.1.2.2.1 y hy
  have pw := C.1.2.2.1 w hw
  rw [pb_iff po] at h1 ⊢
  have hag : ag (tB t o) (tB t y) (tL t o) := by
    refine Classical.byContradiction fun q => ?_
    obtain ⟨⟨n1, n2⟩, n3⟩ := dif_lt h1.2 q
    have k1 : ¬ (tB t y).toBitVec.toNat < (tB t o).toBitVec.toNat := fun g => by have := (key_lt py.1 po.1 n2).mpr g; omega
    have k2 : (tB t y).toBitVec.toNat < (tB t w).toBitVec.toNat := by
      rcases Nat.lt_or_ge (key (tB t y) (tL t y)) (key (tB t w) (tL t w)) with g | g
      · exact (key_lt py.1 pw.1 n1).mp g
      · exfalso
        apply n1
        apply nat_eq
        have := py.1
        have := pw.1
        unfold key at g h3
        omega
    exact k1 (n3.mp k2)
  refine ⟨?_, hag⟩
  rcases Nat.lt_or_ge (tL t y) (tL t o) with q | q
  · exfalso
    have e : tB t y = tB t o := by
      refine bi_ext fun i _ => ?_
      by_cases hi : i < tL t o
      · exact (hag i hi).symm
      · rw [px_bi po (by omega), px_bi py (by omega)]
    unfold key at h2
    rw [e] at h2
    omega
  · exact q
theorem node_in (R : REL N t root n B L lam Hh) {a : Nat} (ha : a ∈ N) (har : a ≠ root) : PPa n B L (tB t a) (nI (tL t a)) ∨ PPb n B lam (tB t a) (nI (tL t a)) := by
  have C := R.1
  have hs := C.1
  cases hR : isR t a with
  | true =>
    obtain ⟨i, i1, i2, i3, i4⟩ := rel_ix R ha hR
    exact Or.inl ⟨i, i1, i2, by rw [(R.2.1.1 i i1).1, i3]⟩
  | false =>
    right
    cases hz : ch t a false with
    | none => exact absurd hz (C.2.2 a ha har hR false)
    | some z =>
      cases ho : ch t a true with
      | none => exact absurd ho (C.2.2 a ha har hR true)
      | some o =>
        obtain ⟨z1, z2, z3, z4⟩ := hs.2.2.2.2.1 a ha false z hz
        obtain ⟨o1, o2, o3, o4⟩ := hs.2.2.2.2.1 a ha true o ho
        obtain ⟨y0, y01, y02, y03⟩ := below_route C 33 z (by omega) z1 (fun e => by rw [e, hs.1.2] at z2; omega)
        obtain ⟨y1, y11, y12, y13⟩ := below_route C 33 o (by omega) o1 (fun e => by rw [e, hs.1.2] at o2; omega)
        obtain ⟨j0, j01, j02, j03, -⟩ := rel_ix R y01 y02
        obtain ⟨j1, j11, j12, j13, -⟩ := rel_ix R y11 y12
        have pa := hs.2.2.1 a ha
        have po := hs.2.2.1 o o1
        rw [← io_child hs ha hz y01, eb_iff pa] at y03
        have ky0 : key (tB t a) (tL t a) < key (tB t y0) (tL t y0) := key_pre pa (hs.2.2.1 y0 y01).1 y03.1 y03.2.1
        have ky0o : key (tB t y0) (tL t y0) < key (tB t o) (tL t o) := (lo_key hs ha ho y01).mpr (Or.inr (Or.inr ⟨rfl, y03⟩))
        have ky1 : key (tB t o) (tL t o) ≤ key (tB t y1) (tL t y1) := by
          have g := (pb_iff po).mp y13
          rcases Nat.lt_or_ge (tL t o) (tL t y1) with q | q
          · exact Nat.le_of_lt (key_pre po (hs.2.2.1 y1 y11).1 q g.2)
          · rw [hs.2.2.2.1 o o1 y1 y11 (by omega) g.2]; exact Nat.le_refl _
        obtain ⟨i, ⟨i1, i2⟩, i3⟩ := pk_least (fun i => i < n ∧ key (tB t o) (tL t o) ≤ key (B i) (lam i)) ⟨j1, j11, by rw [j12, j13]; exact ky1⟩
        have ij1 : i ≤ j1 := Nat.not_lt.mp (fun q => i3 j1 q ⟨j11, by rw [j12, j13]; exact ky1⟩)
        have mono : ∀ p q, p ≤ q → q < n → key (B p) (lam p) ≤ key (B q) (lam q) := fun p q h hq => by
          rcases Nat.lt_or_ge p q with g | g
          · exact Nat.le_of_lt (R.2.1.2 p q g hq)
          · rw [show p = q by omega]; exact Nat.le_refl _
        have j0i : j0 < i := Nat.not_le.mp (fun q => by
          have := mono i j0 q j01
          rw [j02, j03] at this
          omega)
        have hpre : key (B (i - 1)) (lam (i - 1)) < key (tB t o) (tL t o) := Nat.not_le.mp (fun q => i3 (i - 1) (by omega) ⟨by omega, q⟩)
        obtain ⟨u, u1, u2, u3, u4, -⟩ := rel_node R i1
        obtain ⟨v, v1, v2, v3, v4, -⟩ := rel_node R (show i - 1 < n by omega)
        have hu : pb t o u = true := interval C o1 u1 y11 y13 (by rw [u3, u4]; exact i2) (by rw [u3, u4, ← j12, ← j13]; exact mono i j1 ij1 j11)
        rw [← io_child hs ha ho u1, eb_iff pa] at hu
        have hv : tL t a < tL t v ∧ ag (tB t a) (tB t v) (tL t a) ∧ bi (tB t v) (tL t a) = false := by
          have k1 : key (tB t y0) (tL t y0) ≤ key (tB t v) (tL t v) := by rw [v3, v4, ← j02, ← j03]; exact mono j0 (i - 1) (by omega) (by omega)
          rcases (lo_key hs ha ho v1).mp (by rw [v3, v4]; exact hpre) with g | g | g
          · omega
          · rw [g] at k1; omega
          · exact g.2
        rw [u3, u4] at hu
        rw [v3, v4] at hv
        refine ⟨i, tL t a, by omega, i1, ⟨by omega, by omega, ag_tr (ag_sy hu.2.1) hv.2.1, fun _ _ => by rw [hu.2.2, hv.2.2]; decide⟩, ?_, rfl⟩
        exact ((px_fb pa).mpr hu.2.1).symm
theorem in_node (R : REL N t root n B L lam Hh) {y m : Int32} (h : PPa n B L y m ∨ PPb n B lam y m) : ∃ a ∈ N, tB t a = y ∧ nI (tL t a) = m := by
  rcases h with ⟨i, i1, i2, i3⟩ | ⟨i, k, i0, i1, ⟨k1, k2, k3, k4⟩, i2, i3⟩
  · obtain ⟨a, a1, a2, a3, a4, a5⟩ := rel_node R i1
    exact ⟨a, a1, by rw [a3, i2], by rw [a4, ← (R.2.1.1 i i1).1, i3]⟩
  · obtain ⟨u, u1, u2, u3, u4, -⟩ := rel_node R i1
    obtain ⟨v, v1, v2, v3, v4, -⟩ := rel_node R (show i - 1 < n by omega)
    obtain ⟨a, a1, a2, a3, a4, a5, a6⟩ := st_meet R.1.1 u1 v1
    rw [u3] at a4
    rw [v3] at a5
    rw [u3, v3, u4, v4] at a6
    rw [u4] at a2
    rw [v4] at a3
    have e : tL t a = k := cm_uniq (B := B) (lam := lam) (i := i) ⟨a2, a3, ag_tr (ag_sy a4) a5, fun g1 g2 => a6 g1 g2⟩ ⟨k1, k2, k3, k4⟩
    refine ⟨a, a1, ?_, by rw [e, i3]⟩
    rw [i2, ← e]
    exact ((px_fb (R.1.1.2.2.1 a a1)).mpr a4).symm
theorem nodes_perm (R : REL N t root n B L lam Hh) {k : Nat} {NB NL : Nat → Int32} (h : NDp k NB NL (fun y m => PPa n B L y m ∨ PPb n B lam y m)) : (N.map (fun a => (tB t a, nI (tL t a)))).Perm (((0 : Int32), (0 : Int32)) :: (List.range k).map (fun j => (NB j, NL j))) := by
  have hs := R.1.1
  have hr0 : tB t root = 0 := by have := hs.2.2.1 root hs.1.1; rw [hs.1.2] at this; exact px_inj this px_0 ag_0
  have l32 : ∀ a ∈ N, tL t a ≤ 32 := fun a ha => (hs.2.2.1 a ha).1
  have nz : ∀ a ∈ N, a ≠ root → ¬ nI (tL t a) = 0 := fun a ha har e => by
    have e2 : tL t a = 0 := (nI_eq (b := 0) (by have := l32 a ha; omega) (by omega)).mp e
    exact har (hs.2.2.2.1 a ha root hs.1.1 (by rw [e2, hs.1.2]) (by rw [e2]; exact ag_0))
  refine (List.perm_ext_iff_of_nodup ?_ ?_).mpr fun e => ?_
  · refine (List.pairwise_map).mpr (List.Pairwise.imp_of_mem (R := fun a b => a ≠ b) ?_ hs.2.1)
    intro a b ha hb hne e
    simp only [Prod.mk.injEq] at e
    have el : tL t a = tL t b := (nI_eq (by have := l32 a ha; omega) (by have := l32 b hb; omega)).mp e.2
    exact hne (hs.2.2.2.1 a ha b hb el (by rw [e.1]; exact ag_rf))
  · refine List.nodup_cons.mpr ⟨?_, ?_⟩
    · intro g
      obtain ⟨j, j1, j2⟩ := List.mem_map.mp g
      simp only [Prod.mk.injEq] at j2
      exact ((h.2 0 0).mp ⟨j, List.mem_range.mp j1, j2.1, j2.2⟩).1 rfl
    · refine (List.pairwise_map).mpr (List.Pairwise.imp_of_mem (R := fun a b => a < b) ?_ List.pairwise_lt_range)
      intro a b ha hb hlt e
      simp only [Prod.mk.injEq] at e
      exact h.1 a b hlt (List.mem_range.mp hb) e
  · obtain ⟨y, m⟩ := e
    rw [List.mem_map, List.mem_cons, List.mem_map]
    constructor
    · intro ⟨a, a1, a2⟩
      simp only [Prod.mk.injEq] at a2
      by_cases har : a = root
      · left
        rw [← a2.1, ← a2.2, har, hr0, hs.1.2]; rfl
      · right
        obtain ⟨j, j1, j2, j3⟩ := (h.2 y m).mpr ⟨by rw [← a2.2]; exact nz a a1 har, by rw [← a2.1, ← a2.2]; exact node_in R a1 har⟩
        exact ⟨j, List.mem_range.mpr j1, by rw [j2, j3]⟩
    · intro g
      rcases g with g | ⟨j, j1, j2⟩
      · simp only [Prod.mk.injEq] at g
        exact ⟨root, hs.1.1, by rw [hr0, hs.1.2, g.1, g.2]; rfl⟩
      · simp only [Prod.mk.injEq] at j2
        obtain ⟨-, q⟩ := (h.2 y m).mp ⟨j, List.mem_range.mp j1, j2.1, j2.2⟩
        obtain ⟨a, a1, a2, a3⟩ := in_node R q
        exact ⟨a, a1, by rw [a2, a3]⟩
theorem rel_nodes (R : REL N t root n B L lam Hh) {k : Nat} {NB NL : Nat → Int32} (h : NDp k NB NL (fun y m => PPa n B L y m ∨ PPb n B lam y m)) : N.length = k + 1 := by
  have := (nodes_perm R h).length_eq
  rw [List.length_map, List.length_cons, List.length_map, List.length_range] at this
  exact this
theorem rel_depth (R : REL N t root n B L lam Hh) {k : Nat} {NB NL : Nat → Int32} (h : NDp k NB NL (fun y m => PPa n B L y m ∨ PPb n B lam y m)) (x : Int32) : N.countP (fun y => fb x (tL t y) == tB t y) = (List.range k).countP (fun j => x &&& mskI (NL j) == NB j) + 1 := by
  have := (nodes_perm R h).countP_eq (fun e : Int32 × Int32 => x &&& mskI e.2 == e.1)
  rw [List.countP_map, List.countP_cons, List.countP_map] at this
  have h0 : (x &&& mskI 0 == 0) = true := by
    rw [beq_iff_eq, show mskI 0 = 0 from rfl]
    exact b_ext fun i _ => by rw [b_and, bt_0]; simp
  rw [h0, if_pos rfl] at this
  exact this
end REL
