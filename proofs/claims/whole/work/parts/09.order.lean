/-! order and counts -/
def key (x : Int32) (n : Nat) : Nat := x.toBitVec.toNat * 64 + n
theorem nat_eq {x y : Int32} (h : x.toBitVec.toNat = y.toBitVec.toNat) : x = y := Int32.toBitVec_inj.mp (BitVec.eq_of_toNat_eq h)
theorem key_pre {x y : Int32} {n m : Nat} (hx : px x n) (hm : m ≤ 32) (h : n < m) (ha : ag x y n) : key x n < key y m := by
  unfold key
  by_cases e : x = y
  · subst e; omega
  · have h1 : ul x y := by
      obtain ⟨k, k1, k2, k3⟩ := first_dif e
      have hk : n ≤ k := Nat.not_lt.mp (fun q => k3 (ha k q))
      have h0 := px_bi hx hk
      exact ⟨k, k1, k2, h0, by cases hy : bi y k <;> simp_all⟩
    have h2 := ul_nat h1
    have := hx.1
    omega
theorem dif_lt {a y z : Int32} {n : Nat} (h1 : ag a z n) (h2 : ¬ ag a y n) : (¬ y = z ∧ ¬ y = a) ∧ (y.toBitVec.toNat < z.toBitVec.toNat ↔ y.toBitVec.toNat < a.toBitVec.toNat) := by
  have n1 : ¬ y = z := fun e => h2 (by rw [e]; exact h1)
  have n2 : ¬ y = a := fun e => h2 (by rw [e]; exact ag_rf)
  refine ⟨⟨n1, n2⟩, ?_⟩
  rw [← ul_iff, ← ul_iff]
  obtain ⟨k, k1, k2, k3⟩ := first_dif n2
  have hk : k < n := Nat.not_le.mp (fun q => h2 (ag_sy (ag_mono k2 q)))
  have a1 : ag y z k := ag_tr k2 (ag_mono h1 (by omega))
  have e1 := h1 k hk
  -- the first difference decides
  have dec : ∀ w : Int32, ag y w k → (¬ bi y k = bi w k) → (ul y w ↔ bi w k = true) := by
    intro w g1 g2
    constructor
    · intro ⟨j, j1, j2, j3, j4⟩
      rcases Nat.lt_trichotomy j k with q | q | q
      · have := g1 j q; rw [j3, j4] at this; cases this
      · subst q; exact j4
      · exact absurd (j2 k q) g2
    · intro g3
      exact ⟨k, k1, g1, by cases hy : bi y k <;> simp_all, g3⟩
  rw [dec z a1 (by rw [← e1]; exact k3), dec a k2 k3, e1]
theorem key_lt {x y : Int32} {n m : Nat} (hn : n ≤ 32) (hm : m ≤ 32) (h : ¬ x = y) : key x n < key y m ↔ x.toBitVec.toNat < y.toBitVec.toNat := by
  unfold key
  have : x.toBitVec.toNat ≠ y.toBitVec.toNat := fun e => h (nat_eq e)
  omega
/-- y among a and what lies below a: where it stands against z, a node below a -/
theorem lo_key {N : List Nat} {t : NT} {root a z y : Nat} {d : Bool} (h : ST N t root) (ha : a ∈ N) (hz : ch t a d = some z) (hy : y ∈ N) :
    key (tB t y) (tL t y) < key (tB t z) (tL t z) ↔ (key (tB t y) (tL t y) < key (tB t a) (tL t a) ∨ y = a ∨ (d = true ∧ tL t a < tL t y ∧ ag (tB t a) (tB t y) (tL t a) ∧ bi (tB t y) (tL t a) = false)) := by
  obtain ⟨⟨h1, h1'⟩, h2, h3, h4, h5, h6⟩ := h
  obtain ⟨z1, z2, z3, z4⟩ := h5 a ha d z hz
  have pa := h3 a ha
  have pz := h3 z z1
  have py := h3 y hy
  have haz := key_pre pa pz.1 z2 z3
  by_cases hag : ag (tB t a) (tB t y) (tL t a)
  · rcases Nat.lt_trichotomy (tL t y) (tL t a) with q | q | q
    · have e : tB t y = tB t a := by
        refine bi_ext fun i _ => ?_
        by_cases hi : i < tL t a
        · exact (hag i hi).symm
        · rw [px_bi pa (by omega), px_bi py (by omega)]
      have h7 : key (tB t y) (tL t y) < key (tB t a) (tL t a) := by unfold key; rw [e]; omega
      exact ⟨fun _ => Or.inl h7, fun _ => by omega⟩
    · have e : y = a := (h4 a ha y hy q.symm hag).symm
      subst e
      exact ⟨fun _ => Or.inr (Or.inl rfl), fun _ => haz⟩
    · have hnl : ¬ key (tB t y) (tL t y) < key (tB t a) (tL t a) := by have := key_pre pa py.1 q hag; omega
      have hne : ¬ y = a := fun e => by subst e; omega
      obtain ⟨c, k1, k2, k3⟩ := h6 a ha y hy q hag
      by_cases hb : bi (tB t y) (tL t a) = d
      · rw [hb, hz] at k1
        have ec := Option.some.inj k1
        rw [← ec] at k2 k3
        have hge : key (tB t z) (tL t z) ≤ key (tB t y) (tL t y) := by
          rcases Nat.lt_or_ge (tL t z) (tL t y) with r | r
          · exact Nat.le_of_lt (key_pre pz py.1 r k3)
          · have : z = y := h4 z z1 y hy (by omega) k3
            rw [this]; exact Nat.le_refl _
        refine ⟨fun g => by omega, fun g => ?_⟩
        rcases g with g | g | ⟨g1, -, -, g4⟩
        · exact absurd g hnl
        · exact absurd g hne
        · rw [hb, g1] at g4; cases g4
      · have hzy : ¬ tB t y = tB t z := fun e => hb (by rw [e]; exact z4)
        rw [key_lt py.1 pz.1 hzy, ← ul_iff]
        have ay : ag (tB t y) (tB t z) (tL t a) := ag_tr (ag_sy hag) z3
        have la : tL t a < 32 := by have := py.1; omega
        cases d with
        | true =>
          have hb' : bi (tB t y) (tL t a) = false := by cases hh : bi (tB t y) (tL t a) <;> simp_all
          exact ⟨fun _ => Or.inr (Or.inr ⟨rfl, q, hag, hb'⟩), fun _ => ⟨tL t a, la, ay, hb', z4⟩⟩
        | false =>
          have hb' : bi (tB t y) (tL t a) = true := by cases hh : bi (tB t y) (tL t a) <;> simp_all
          have hzl : ul (tB t z) (tB t y) := ⟨tL t a, la, ag_sy ay, z4, hb'⟩
          refine ⟨fun g => ?_, fun g => ?_⟩
          · have := ul_nat g; have := ul_nat hzl; omega
          · rcases g with g | g | ⟨g1, -⟩
            · exact absurd g hnl
            · exact absurd g hne
            · cases g1
  · obtain ⟨⟨n1, n2⟩, n3⟩ := dif_lt z3 hag
    rw [key_lt py.1 pz.1 n1, key_lt py.1 pa.1 n2, n3]
    refine ⟨Or.inl, fun g => ?_⟩
    rcases g with g | g | ⟨-, -, g3, -⟩
    · exact g
    · subst g; exact absurd ag_rf hag
    · exact absurd g3 hag
def isR (t : NT) (a : Nat) : Bool := !(tH t a == -1)
theorem isR_iff {t : NT} {a : Nat} : isR t a = true ↔ ¬ tH t a = -1 := by simp [isR]
/-- y is a or lies below a -/
def pb (t : NT) (a y : Nat) : Bool := decide (tL t a ≤ tL t y) && (fb (tB t y) (tL t a) == tB t a)
theorem pb_iff {t : NT} {a y : Nat} (h : px (tB t a) (tL t a)) : pb t a y = true ↔ (tL t a ≤ tL t y ∧ ag (tB t a) (tB t y) (tL t a)) := by
  simp only [pb, Bool.and_eq_true, decide_eq_true_eq, beq_iff_eq, px_fb h]
def eb (t : NT) (a : Nat) (d : Bool) (y : Nat) : Bool := decide (tL t a < tL t y) && (fb (tB t y) (tL t a) == tB t a) && (bi (tB t y) (tL t a) == d)
theorem eb_iff {t : NT} {a y : Nat} {d : Bool} (h : px (tB t a) (tL t a)) : eb t a d y = true ↔ (tL t a < tL t y ∧ ag (tB t a) (tB t y) (tL t a) ∧ bi (tB t y) (tL t a) = d) := by
  simp only [eb, Bool.and_eq_true, decide_eq_true_eq, beq_iff_eq, px_fb h, and_assoc]
def RC (N : List Nat) (t : NT) : Prop := ∀ a ∈ N, tR t a = N.countP (fun y => isR t y && pb t a y)
theorem cnt_congr {α : Type} {l : List α} {p q : α → Bool} (h : ∀ y ∈ l, p y = q y) : l.countP p = l.countP q := by
  induction l with
  | nil => rfl
  | cons a l ih => rw [List.countP_cons, List.countP_cons, ih (fun y hy => h y (List.mem_cons_of_mem _ hy)), h a List.mem_cons_self]
theorem cnt_le {α : Type} {l : List α} {p : α → Bool} : l.countP p ≤ l.length := List.countP_le_length
theorem bool_eq {a b : Bool} (h : a = true ↔ b = true) : a = b := by cases a <;> cases b <;> simp_all
theorem io_child {N : List Nat} {t : NT} {root a c y : Nat} {d : Bool} (h : ST N t root) (ha : a ∈ N) (hc : ch t a d = some c) (hy : y ∈ N) : eb t a d y = pb t c y := by
  obtain ⟨-, -, h3, -, h5, h6⟩ := h
  obtain ⟨c1, c2, c3, c4⟩ := h5 a ha d c hc
  refine bool_eq ?_
  rw [eb_iff (h3 a ha), pb_iff (h3 c c1)]
  constructor
  · intro ⟨g1, g2, g3⟩
    obtain ⟨c', k1, k2, k3⟩ := h6 a ha y hy g1 g2
    rw [g3, hc] at k1
    have e := Option.some.inj k1
    rw [← e] at k2 k3
    exact ⟨k2, k3⟩
  · intro ⟨g1, g2⟩
    exact ⟨by omega, ag_tr c3 (ag_mono g2 (by omega)), by rw [← g2 _ c2]; exact c4⟩
theorem io_none {N : List Nat} {t : NT} {root a y : Nat} {d : Bool} (h : ST N t root) (ha : a ∈ N) (hc : ch t a d = none) (hy : y ∈ N) : eb t a d y = false := by
  obtain ⟨-, -, h3, -, h5, h6⟩ := h
  cases he : eb t a d y with
  | false => rfl
  | true =>
    obtain ⟨g1, g2, g3⟩ := (eb_iff (h3 a ha)).mp he
    obtain ⟨c', k1, k2, k3⟩ := h6 a ha y hy g1 g2
    rw [g3, hc] at k1
    cases k1
/-- what lies on a side of a -/
def sd (N : List Nat) (t : NT) (a : Nat) (d : Bool) : Nat := N.countP (fun y => isR t y && eb t a d y)
def slf (t : NT) (a : Nat) : Nat := if isR t a = true then 1 else 0
theorem cnt_slf {N : List Nat} {t : NT} {a : Nat} (hn : N.Nodup) (ha : a ∈ N) : N.countP (fun y => isR t y && (y == a)) = slf t a := by
  unfold slf
  split
  · next h =>
    rw [← cnt_one hn ha]
    refine cnt_congr fun y _ => bool_eq ?_
    simp only [Bool.and_eq_true, beq_iff_eq]
    exact ⟨fun g => g.2, fun g => ⟨by rw [g]; exact h, g⟩⟩
  · next h =>
    refine List.countP_eq_zero.mpr fun y _ => ?_
    simp only [Bool.and_eq_true, beq_iff_eq]
    exact fun g => h (by rw [← g.2]; exact g.1)
theorem sd_child {N : List Nat} {t : NT} {root a c : Nat} {d : Bool} (h : ST N t root) (hr : RC N t) (ha : a ∈ N) (hc : ch t a d = some c) : sd N t a d = tR t c := by
  rw [hr c (h.2.2.2.2.1 a ha d c hc).1]
  exact cnt_congr fun y hy => by rw [io_child h ha hc hy]
theorem sd_none {N : List Nat} {t : NT} {root a : Nat} {d : Bool} (h : ST N t root) (ha : a ∈ N) (hc : ch t a d = none) : sd N t a d = 0 :=
  List.countP_eq_zero.mpr fun y hy => by rw [io_none h ha hc hy]; simp
theorem io_split {N : List Nat} {t : NT} {root a : Nat} (h : ST N t root) (hr : RC N t) (ha : a ∈ N) : tR t a = slf t a + sd N t a false + sd N t a true := by
  have pa := h.2.2.1 a ha
  rw [hr a ha, ← cnt_slf h.2.1 ha, sd, sd]
  rw [cnt_split (p := fun y => isR t y && pb t a y) (q := fun y => (isR t y && (y == a)) || (isR t y && eb t a false y)) (r := fun y => isR t y && eb t a true y),
    cnt_split (p := fun y => (isR t y && (y == a)) || (isR t y && eb t a false y)) (q := fun y => isR t y && (y == a)) (r := fun y => isR t y && eb t a false y)]
  · intro y hy
    simp only [Bool.or_eq_true, Bool.and_eq_true, beq_iff_eq, eb_iff pa]
    refine ⟨trivial, fun g => ?_⟩
    have e := g.1.2
    have := g.2.2.1
    rw [e] at this
    omega
  · intro y hy
    simp only [Bool.or_eq_true, Bool.and_eq_true, beq_iff_eq, eb_iff pa, pb_iff pa]
    constructor
    · constructor
      · intro ⟨g1, g2, g3⟩
        by_cases e : y = a
        · exact Or.inl (Or.inl ⟨g1, e⟩)
        · have hlt : tL t a < tL t y := by
            rcases Nat.lt_or_ge (tL t a) (tL t y) with q | q
            · exact q
            · exact absurd (h.2.2.2.1 a ha y hy (by omega) g3).symm e
          cases hb : bi (tB t y) (tL t a) with
          | false => exact Or.inl (Or.inr ⟨g1, hlt, g3, rfl⟩)
          | true => exact Or.inr ⟨g1, hlt, g3, rfl⟩
      · intro g
        rcases g with (⟨g1, g2⟩ | ⟨g1, g2, g3, g4⟩) | ⟨g1, g2, g3, g4⟩
        · rw [g2]; exact ⟨by rw [← g2]; exact g1, Nat.le_refl _, ag_rf⟩
        · exact ⟨g1, by omega, g3⟩
        · exact ⟨g1, by omega, g3⟩
    · intro ⟨g1, g2⟩
      rcases g1 with ⟨-, g⟩ | ⟨-, g⟩
      · have := g2.2.1; rw [g] at this; omega
      · rw [g.2.2] at g2; exact absurd g2.2.2.2 (by decide)
/-- how many routes stand before a -/
def lo (N : List Nat) (t : NT) (a : Nat) : Nat := N.countP (fun y => isR t y && decide (key (tB t y) (tL t y) < key (tB t a) (tL t a)))
theorem lo_zero {N : List Nat} {t : NT} {root a z : Nat} (h : ST N t root) (ha : a ∈ N) (hz : ch t a false = some z) : lo N t z = lo N t a + slf t a := by
  rw [← cnt_slf h.2.1 ha, lo, lo]
  refine cnt_split fun y hy => ?_
  simp only [Bool.and_eq_true, decide_eq_true_eq, beq_iff_eq, lo_key h ha hz hy]
  refine ⟨⟨fun ⟨g1, g2⟩ => ?_, fun g => ?_⟩, fun ⟨g1, g2⟩ => ?_⟩
  · rcases g2 with g2 | g2 | ⟨g2, -⟩
    · exact Or.inl ⟨g1, g2⟩
    · exact Or.inr ⟨g1, g2⟩
    · cases g2
  · rcases g with ⟨g1, g2⟩ | ⟨g1, g2⟩
    · exact ⟨g1, Or.inl g2⟩
    · exact ⟨g1, Or.inr (Or.inl g2)⟩
  · rw [g2.2] at g1; omega
theorem lo_one {N : List Nat} {t : NT} {root a z : Nat} (h : ST N t root) (ha : a ∈ N) (hz : ch t a true = some z) : lo N t z = lo N t a + slf t a + sd N t a false := by
  have pa := h.2.2.1 a ha
  rw [← cnt_slf h.2.1 ha, lo, lo, sd]
  rw [cnt_split (p := fun y => isR t y && decide (key (tB t y) (tL t y) < key (tB t z) (tL t z))) (q := fun y => (isR t y && decide (key (tB t y) (tL t y) < key (tB t a) (tL t a))) || (isR t y && (y == a))) (r := fun y => isR t y && eb t a false y),
    cnt_split (p := fun y => (isR t y && decide (key (tB t y) (tL t y) < key (tB t a) (tL t a))) || (isR t y && (y == a))) (q := fun y => isR t y && decide (key (tB t y) (tL t y) < key (tB t a) (tL t a))) (r := fun y => isR t y && (y == a))]
  · intro y hy
    simp only [Bool.or_eq_true, Bool.and_eq_true, beq_iff_eq, decide_eq_true_eq]
    refine ⟨trivial, fun ⟨g1, g2⟩ => ?_⟩
    rw [g2.2] at g1; omega
  · intro y hy
    simp only [Bool.or_eq_true, Bool.and_eq_true, beq_iff_eq, decide_eq_true_eq, lo_key h ha hz hy, eb_iff pa]
    refine ⟨⟨fun ⟨g1, g2⟩ => ?_, fun g => ?_⟩, fun ⟨g1, g2⟩ => ?_⟩
    · rcases g2 with g2 | g2 | ⟨-, g2⟩
      · exact Or.inl (Or.inl ⟨g1, g2⟩)
      · exact Or.inl (Or.inr ⟨g1, g2⟩)
      · exact Or.inr ⟨g1, g2⟩
    · rcases g with (⟨g1, g2⟩ | ⟨g1, g2⟩) | ⟨g1, g2⟩
      · exact ⟨g1, Or.inl g2⟩
      · exact ⟨g1, Or.inr (Or.inl g2)⟩
      · exact ⟨g1, Or.inr (Or.inr ⟨trivial, g2⟩)⟩
    · rcases g1 with ⟨-, g⟩ | ⟨-, g⟩
      · have := key_pre pa (h.2.2.1 y hy).1 g2.2.1 g2.2.2.1
        omega
      · have := g2.2.1; rw [g] at this; omega
theorem lo_root {N : List Nat} {t : NT} {root : Nat} (h : ST N t root) : lo N t root = 0 := by
  refine List.countP_eq_zero.mpr fun y hy => ?_
  have hb : tB t root = 0 := by have := h.2.2.1 root h.1.1; rw [h.1.2] at this; exact px_inj this px_0 ag_0
  simp only [Bool.and_eq_true, decide_eq_true_eq, hb, h.1.2]
  intro g
  have := g.2
  simp [key] at this
/-! depth -/
def dpq (t : NT) (x : Int32) (o : Option Nat) (y : Nat) : Bool := match o with
  | some a => (fb x (tL t a) == tB t a) && decide (tL t a ≤ tL t y)
  | none => false
def dpc (N : List Nat) (t : NT) (x : Int32) (o : Option Nat) : Nat := N.countP (fun y => (fb x (tL t y) == tB t y) && dpq t x o y)
theorem dp_step {N : List Nat} {t : NT} {root a : Nat} {x : Int32} (h : ST N t root) (ha : a ∈ N) (hax : ag (tB t a) x (tL t a)) : dpc N t x (some a) = 1 + dpc N t x (ch t a (bi x (tL t a))) := by
  have b1 : ∀ y ∈ N, (fb x (tL t y) = tB t y ↔ ag (tB t y) x (tL t y)) := fun y hy => px_fb (h.2.2.1 y hy)
  rw [← cnt_one h.2.1 ha, dpc, dpc]
  refine cnt_split fun y hy => ?_
  cases hc : ch t a (bi x (tL t a)) with
  | none =>
    simp only [dpq, Bool.and_eq_true, beq_iff_eq, decide_eq_true_eq, b1 y hy, b1 a ha]
    refine ⟨⟨fun ⟨g1, g2, g3⟩ => ?_, fun g => ?_⟩, fun g => by simp at g⟩
    · rcases Nat.lt_or_ge (tL t a) (tL t y) with q | q
      · obtain ⟨c, k1, -⟩ := st_step h ha hax hy g1 q
        rw [hc] at k1; cases k1
      · exact Or.inl (h.2.2.2.1 a ha y hy (by omega) (ag_tr hax (ag_sy (by rw [show tL t a = tL t y by omega]; exact g1)))).symm
    · rcases g with g | g
      · subst g; exact ⟨hax, hax, Nat.le_refl _⟩
      · simp at g
  | some c =>
    obtain ⟨c1, c2, c3, c4⟩ := h.2.2.2.2.1 a ha _ c hc
    simp only [dpq, Bool.and_eq_true, beq_iff_eq, decide_eq_true_eq, b1 y hy, b1 a ha, b1 c c1]
    refine ⟨⟨fun ⟨g1, g2, g3⟩ => ?_, fun g => ?_⟩, fun ⟨g, g1, g2, g3⟩ => ?_⟩
    · rcases Nat.lt_or_ge (tL t a) (tL t y) with q | q
      · obtain ⟨c', k1, k2, k3⟩ := st_step h ha hax hy g1 q
        rw [hc] at k1
        have e := Option.some.inj k1
        rw [← e] at k2 k3
        exact Or.inr ⟨g1, k3, k2⟩
      · exact Or.inl (h.2.2.2.1 a ha y hy (by omega) (ag_tr hax (ag_sy (by rw [show tL t a = tL t y by omega]; exact g1)))).symm
    · rcases g with g | ⟨g1, g2, g3⟩
      · subst g; exact ⟨hax, hax, Nat.le_refl _⟩
      · exact ⟨g1, hax, by omega⟩
    · rw [g] at g3; omega
theorem dp_root {N : List Nat} {t : NT} {root : Nat} {x : Int32} (h : ST N t root) : dpc N t x (some root) = N.countP (fun y => fb x (tL t y) == tB t y) := by
  refine cnt_congr fun y _ => bool_eq ?_
  simp only [dpq, Bool.and_eq_true, beq_iff_eq, decide_eq_true_eq]
  refine ⟨fun g => g.1, fun g => ⟨g, ?_, by rw [h.1.2]; omega⟩⟩
  exact (px_fb (h.2.2.1 root h.1.1)).mpr (by rw [h.1.2]; exact ag_0)
theorem dp_no {N : List Nat} {t : NT} {root a : Nat} {x : Int32} (h : ST N t root) (ha : a ∈ N) (hax : ¬ ag (tB t a) x (tL t a)) : dpc N t x (some a) = 0 := by
  refine List.countP_eq_zero.mpr fun y _ => ?_
  simp only [dpq, Bool.and_eq_true, beq_iff_eq]
  exact fun g => hax ((px_fb (h.2.2.1 a ha)).mp g.2.1)
theorem dp_none {N : List Nat} {t : NT} {x : Int32} : dpc N t x none = 0 := List.countP_eq_zero.mpr fun y _ => by simp [dpq]
