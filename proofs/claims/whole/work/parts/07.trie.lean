/-! the tree as a set of nodes: t gives each node's bits, length, hop, routes, children -/
abbrev NR : Type := Int32 × Nat × Int32 × Nat × Option Nat × Option Nat
abbrev NT : Type := Nat → NR
abbrev tB (t : NT) (a : Nat) : Int32 := (t a).1
abbrev tL (t : NT) (a : Nat) : Nat := (t a).2.1
abbrev tH (t : NT) (a : Nat) : Int32 := (t a).2.2.1
abbrev tR (t : NT) (a : Nat) : Nat := (t a).2.2.2.1
abbrev tZ (t : NT) (a : Nat) : Option Nat := (t a).2.2.2.2.1
abbrev tO (t : NT) (a : Nat) : Option Nat := (t a).2.2.2.2.2
def ch (t : NT) (a : Nat) (d : Bool) : Option Nat := if d = true then tO t a else tZ t a
def ST (N : List Nat) (t : NT) (root : Nat) : Prop :=
  (root ∈ N ∧ tL t root = 0) ∧ N.Nodup ∧ (∀ a ∈ N, px (tB t a) (tL t a)) ∧ (∀ a ∈ N, ∀ b ∈ N, tL t a = tL t b → ag (tB t a) (tB t b) (tL t a) → a = b) ∧
  (∀ a ∈ N, ∀ d c, ch t a d = some c → c ∈ N ∧ tL t a < tL t c ∧ ag (tB t a) (tB t c) (tL t a) ∧ bi (tB t c) (tL t a) = d) ∧
  (∀ a ∈ N, ∀ x ∈ N, tL t a < tL t x → ag (tB t a) (tB t x) (tL t a) → ∃ c, ch t a (bi (tB t x) (tL t a)) = some c ∧ tL t c ≤ tL t x ∧ ag (tB t c) (tB t x) (tL t c))
/-- from a node that begins x, the way on toward x leads to every longer one that does -/
theorem st_step {N : List Nat} {t : NT} {root a y : Nat} {x : Int32} (h : ST N t root) (ha : a ∈ N) (hax : ag (tB t a) x (tL t a)) (hy : y ∈ N) (hyx : ag (tB t y) x (tL t y)) (hl : tL t a < tL t y) :
    ∃ c, ch t a (bi x (tL t a)) = some c ∧ tL t c ≤ tL t y ∧ ag (tB t c) x (tL t c) := by
  obtain ⟨-, -, -, -, -, h6⟩ := h
  obtain ⟨c, h1, h2, h3⟩ := h6 a ha y hy hl (ag_tr hax (ag_sy (ag_mono hyx (by omega))))
  rw [hyx _ hl] at h1
  exact ⟨c, h1, h2, ag_tr h3 (ag_mono hyx h2)⟩
theorem st_ins {N : List Nat} {t : NT} {root q a n : Nat} {x : Int32} (h : ST N t root) (hq : q ∉ N) (ha : a ∈ N) (hn : tL t a < n) (hx : px x n) (hag : ag (tB t a) x (tL t a))
    (hc : ∀ c, ch t a (bi x (tL t a)) = some c → n < tL t c ∧ ag x (tB t c) n) (t' : NT) (e1 : ∀ b ∈ N, tB t' b = tB t b ∧ tL t' b = tL t b) (e2 : tB t' q = x ∧ tL t' q = n)
    (e3 : ∀ b ∈ N, ∀ d, ¬ (b = a ∧ d = bi x (tL t a)) → ch t' b d = ch t b d) (e3' : ch t' a (bi x (tL t a)) = some q)
    (e4 : ∀ c, ch t a (bi x (tL t a)) = some c → ch t' q (bi (tB t c) n) = some c) (e5 : ∀ d c, ch t' q d = some c → ch t a (bi x (tL t a)) = some c ∧ bi (tB t c) n = d) : ST (q :: N) t' root := by
  obtain ⟨⟨h1, h1'⟩, h2, h3, h4, h5, h6⟩ := h
  have nq : ∀ b ∈ N, b ≠ q := fun b hb e => hq (e ▸ hb)
  -- a node of N that q begins is not at its length or shorter
  have below : ∀ y ∈ N, tL t a < tL t y → ag (tB t a) (tB t y) (tL t a) → bi (tB t y) (tL t a) = bi x (tL t a) → n < tL t y ∧ ag x (tB t y) n ∧ ∃ c, ch t a (bi x (tL t a)) = some c ∧ tL t c ≤ tL t y ∧ ag (tB t c) (tB t y) (tL t c) := by
    intro y hy g1 g2 g3
    obtain ⟨c, k1, k2, k3⟩ := h6 a ha y hy g1 g2
    rw [g3] at k1
    obtain ⟨m1, m2⟩ := hc c k1
    exact ⟨by omega, ag_tr m2 (ag_mono k3 (by omega)), c, k1, k2, k3⟩
  refine ⟨⟨List.mem_cons_of_mem _ h1, by rw [(e1 root h1).2]; exact h1'⟩, List.nodup_cons.mpr ⟨hq, h2⟩, ?_, ?_, ?_, ?_⟩
  · intro b hb
    rcases List.mem_cons.mp hb with rfl | hb
    · rw [e2.1, e2.2]; exact hx
    · rw [(e1 b hb).1, (e1 b hb).2]; exact h3 b hb
  · have key : ∀ b ∈ N, tL t b = n → ag x (tB t b) n → False := by
      intro b hb g1 g2
      obtain ⟨k1, -⟩ := below b hb (by omega) (ag_tr hag (ag_mono g2 (by omega))) (g2 _ hn).symm
      omega
    intro b hb b' hb' g1 g2
    rcases List.mem_cons.mp hb with k0 | hb1 <;> rcases List.mem_cons.mp hb' with k0' | hb2
    · rw [k0, k0']
    · rw [k0, e2.2, (e1 b' hb2).2] at g1
      rw [k0, e2.1, e2.2, (e1 b' hb2).1] at g2
      exact (key b' hb2 g1.symm g2).elim
    · rw [k0', e2.2, (e1 b hb1).2] at g1
      rw [k0', e2.1, (e1 b hb1).1, (e1 b hb1).2, g1] at g2
      exact (key b hb1 g1 (ag_sy g2)).elim
    · rw [(e1 b hb1).2, (e1 b' hb2).2] at g1
      rw [(e1 b hb1).1, (e1 b hb1).2, (e1 b' hb2).1] at g2
      exact h4 b hb1 b' hb2 g1 g2
  · intro b hb d c hcc
    rcases List.mem_cons.mp hb with rfl | hb
    · obtain ⟨k1, k2⟩ := e5 d c hcc
      obtain ⟨m1, m2⟩ := hc c k1
      have hcN := (h5 a ha _ c k1).1
      rw [e2.1, e2.2, (e1 c hcN).1, (e1 c hcN).2]
      exact ⟨List.mem_cons_of_mem _ hcN, m1, m2, k2⟩
    · rw [(e1 b hb).1, (e1 b hb).2]
      by_cases hbd : b = a ∧ d = bi x (tL t a)
      · obtain ⟨rfl, rfl⟩ := hbd
        rw [e3'] at hcc
        cases hcc
        rw [e2.1, e2.2]
        exact ⟨List.mem_cons_self, hn, hag, rfl⟩
      · rw [e3 b hb d hbd] at hcc
        obtain ⟨k1, k2, k3, k4⟩ := h5 b hb d c hcc
        rw [(e1 c k1).1, (e1 c k1).2]
        exact ⟨List.mem_cons_of_mem _ k1, k2, k3, k4⟩
  · intro b hb y hy g1 g2
    rcases List.mem_cons.mp hb with k0 | hb1 <;> rcases List.mem_cons.mp hy with k0' | hy1
    · subst k0; subst k0'; omega
    · rw [k0, e2.2, (e1 y hy1).2] at g1
      rw [k0, e2.1, e2.2, (e1 y hy1).1] at g2
      rw [k0, e2.2, (e1 y hy1).1, (e1 y hy1).2]
      obtain ⟨-, -, c, k1, k2, k3⟩ := below y hy1 (by omega) (ag_tr hag (ag_mono g2 (by omega))) (g2 _ hn).symm
      obtain ⟨m1, m2⟩ := hc c k1
      have hcN := (h5 a ha _ c k1).1
      refine ⟨c, ?_, by rw [(e1 c hcN).2]; exact k2, by rw [(e1 c hcN).1, (e1 c hcN).2]; exact k3⟩
      rw [← k3 n m1]
      exact e4 c k1
    · rw [k0', e2.2, (e1 b hb1).2] at g1
      rw [k0', e2.1, (e1 b hb1).1, (e1 b hb1).2] at g2
      rw [k0', e2.1, e2.2, (e1 b hb1).2]
      by_cases hba : b = a
      · subst hba
        exact ⟨q, e3', by rw [e2.2]; exact Nat.le_refl n, by rw [e2.1]; exact ag_rf⟩
      · -- b begins x; it lies above a
        have hlt : tL t b < tL t a := by
          rcases Nat.lt_trichotomy (tL t b) (tL t a) with k | k | k
          · exact k
          · exact absurd (h4 b hb1 a ha k (ag_tr g2 (ag_sy (by rw [k]; exact hag)))) hba
          · obtain ⟨k1, -⟩ := below b hb1 k (ag_tr hag (ag_sy (ag_mono g2 (by omega)))) (g2 _ k)
            omega
        obtain ⟨c, k1, k2, k3⟩ := h6 b hb1 a ha hlt (ag_tr g2 (ag_sy (ag_mono hag (by omega))))
        rw [hag _ hlt] at k1
        have hcN := (h5 b hb1 _ c k1).1
        refine ⟨c, ?_, by rw [(e1 c hcN).2]; omega, by rw [(e1 c hcN).1, (e1 c hcN).2]; exact ag_tr k3 (ag_mono hag k2)⟩
        rw [e3 b hb1 _ (fun k => hba k.1)]
        exact k1
    · rw [(e1 b hb1).2, (e1 y hy1).2] at g1
      rw [(e1 b hb1).1, (e1 b hb1).2, (e1 y hy1).1] at g2
      rw [(e1 b hb1).2, (e1 y hy1).1, (e1 y hy1).2]
      by_cases hbd : b = a ∧ bi (tB t y) (tL t b) = bi x (tL t a)
      · obtain ⟨rfl, hd⟩ := hbd
        obtain ⟨k1, k2, -⟩ := below y hy1 g1 g2 hd
        rw [hd]
        exact ⟨q, e3', by rw [e2.2]; omega, by rw [e2.1, e2.2]; exact k2⟩
      · obtain ⟨c, k1, k2, k3⟩ := h6 b hb1 y hy1 g1 g2
        have hcN := (h5 b hb1 _ c k1).1
        refine ⟨c, ?_, by rw [(e1 c hcN).2]; exact k2, by rw [(e1 c hcN).1, (e1 c hcN).2]; exact k3⟩
        rw [e3 b hb1 _ hbd]
        exact k1
theorem st_del {N : List Nat} {t : NT} {root g p : Nat} {d : Bool} {one : Option Nat} (h : ST N t root) (hg : g ∈ N) (hgr : g ≠ root) (hp : p ∈ N) (hpg : ch t p d = some g)
    (ho : ∀ d' c, ch t g d' = some c → one = some c) (ho' : ∀ c, one = some c → ∃ d', ch t g d' = some c) (t' : NT) (e1 : ∀ b ∈ N, b ≠ g → tB t' b = tB t b ∧ tL t' b = tL t b)
    (e3 : ∀ b ∈ N, b ≠ g → ∀ d', ¬ (b = p ∧ d' = d) → ch t' b d' = ch t b d') (e3' : ch t' p d = one) : ST (N.erase g) t' root := by
  obtain ⟨⟨h1, h1'⟩, h2, h3, h4, h5, h6⟩ := h
  have hm : ∀ b, b ∈ N.erase g ↔ b ≠ g ∧ b ∈ N := fun b => h2.mem_erase_iff
  obtain ⟨p1, p2, p3, p4⟩ := h5 p hp d g hpg
  have pne : p ≠ g := fun e => by subst e; omega
  -- only p points to g
  have only : ∀ b ∈ N, ∀ d', ch t b d' = some g → b = p ∧ d' = d := by
    intro b hb d' hh
    obtain ⟨q1, q2, q3, q4⟩ := h5 b hb d' g hh
    have hbp : b = p := by
      rcases Nat.lt_trichotomy (tL t b) (tL t p) with k | k | k
      · obtain ⟨c, k1, k2, k3⟩ := h6 b hb p hp k (ag_tr q3 (ag_sy (ag_mono p3 (by omega))))
        rw [p3 _ k, q4, hh] at k1
        cases k1
        omega
      · exact h4 b hb p hp k (ag_tr q3 (ag_sy (by rw [k]; exact p3)))
      · obtain ⟨c, k1, k2, k3⟩ := h6 p hp b hb k (ag_tr p3 (ag_sy (ag_mono q3 (by omega))))
        rw [q3 _ k, p4, hpg] at k1
        cases k1
        omega
    subst hbp
    exact ⟨rfl, by rw [← q4, ← p4]⟩
  refine ⟨⟨(hm _).mpr ⟨Ne.symm hgr, h1⟩, by rw [(e1 root h1 (Ne.symm hgr)).2]; exact h1'⟩, h2.erase g, ?_, ?_, ?_, ?_⟩
  · intro b hb
    obtain ⟨n1, n2⟩ := (hm b).mp hb
    rw [(e1 b n2 n1).1, (e1 b n2 n1).2]; exact h3 b n2
  · intro b hb b' hb' g1 g2
    obtain ⟨n1, n2⟩ := (hm b).mp hb
    obtain ⟨n3, n4⟩ := (hm b').mp hb'
    rw [(e1 b n2 n1).2, (e1 b' n4 n3).2] at g1
    rw [(e1 b n2 n1).1, (e1 b n2 n1).2, (e1 b' n4 n3).1] at g2
    exact h4 b n2 b' n4 g1 g2
  · intro b hb d' c hcc
    obtain ⟨n1, n2⟩ := (hm b).mp hb
    rw [(e1 b n2 n1).1, (e1 b n2 n1).2]
    by_cases hbd : b = p ∧ d' = d
    · obtain ⟨rfl, rfl⟩ := hbd
      rw [e3'] at hcc
      obtain ⟨d2, k1⟩ := ho' c hcc
      obtain ⟨m1, m2, m3, m4⟩ := h5 g hg d2 c k1
      have cg : c ≠ g := fun e => by subst e; omega
      rw [(e1 c m1 cg).1, (e1 c m1 cg).2]
      exact ⟨(hm c).mpr ⟨cg, m1⟩, by omega, ag_tr p3 (ag_mono m3 (by omega)), by rw [← m3 _ p2]; exact p4⟩
    · rw [e3 b n2 n1 d' hbd] at hcc
      obtain ⟨k1, k2, k3, k4⟩ := h5 b n2 d' c hcc
      have cg : c ≠ g := fun e => by subst e; exact hbd (only b n2 d' hcc)
      rw [(e1 c k1 cg).1, (e1 c k1 cg).2]
      exact ⟨(hm c).mpr ⟨cg, k1⟩, k2, k3, k4⟩
  · intro b hb y hy g1 g2
    obtain ⟨n1, n2⟩ := (hm b).mp hb
    obtain ⟨n3, n4⟩ := (hm y).mp hy
    rw [(e1 b n2 n1).2, (e1 y n4 n3).2] at g1
    rw [(e1 b n2 n1).1, (e1 b n2 n1).2, (e1 y n4 n3).1] at g2
    rw [(e1 b n2 n1).2, (e1 y n4 n3).1, (e1 y n4 n3).2]
    obtain ⟨c, k1, k2, k3⟩ := h6 b n2 y n4 g1 g2
    by_cases hbd : b = p ∧ bi (tB t y) (tL t b) = d
    · obtain ⟨rfl, hd⟩ := hbd
      rw [hd, hpg] at k1
      cases k1
      have hlt : tL t g < tL t y := by
        rcases Nat.lt_or_ge (tL t g) (tL t y) with k | k
        · exact k
        · exact absurd (h4 g hg y n4 (by omega) k3).symm n3
      obtain ⟨c2, m1, m2, m3⟩ := h6 g hg y n4 hlt k3
      have hone := ho _ c2 m1
      obtain ⟨r1, r2, -, -⟩ := h5 g hg _ c2 m1
      have cg : c2 ≠ g := fun e => by subst e; omega
      rw [hd, e3']
      exact ⟨c2, hone, by rw [(e1 c2 r1 cg).2]; exact m2, by rw [(e1 c2 r1 cg).1, (e1 c2 r1 cg).2]; exact m3⟩
    · have hcN := (h5 b n2 _ c k1).1
      have cg : c ≠ g := fun e => by subst e; exact hbd (only b n2 _ k1)
      refine ⟨c, ?_, by rw [(e1 c hcN cg).2]; exact k2, by rw [(e1 c hcN cg).1, (e1 c hcN cg).2]; exact k3⟩
      rw [e3 b n2 n1 _ hbd]
      exact k1
theorem st_same {N : List Nat} {t t' : NT} {root : Nat} (h : ST N t root) (e : ∀ a ∈ N, tB t' a = tB t a ∧ tL t' a = tL t a ∧ tZ t' a = tZ t a ∧ tO t' a = tO t a) : ST N t' root := by
  obtain ⟨⟨h1, h1'⟩, h2, h3, h4, h5, h6⟩ := h
  have ec : ∀ a ∈ N, ∀ d, ch t' a d = ch t a d := fun a ha d => by unfold ch; rw [(e a ha).2.2.1, (e a ha).2.2.2]
  refine ⟨⟨h1, by rw [(e _ h1).2.1]; exact h1'⟩, h2, ?_, ?_, ?_, ?_⟩
  · intro a ha; rw [(e a ha).1, (e a ha).2.1]; exact h3 a ha
  · intro a ha b hb; rw [(e a ha).1, (e a ha).2.1, (e b hb).1, (e b hb).2.1]; exact h4 a ha b hb
  · intro a ha d c hc
    rw [ec a ha] at hc
    obtain ⟨k1, k2, k3, k4⟩ := h5 a ha d c hc
    rw [(e a ha).1, (e a ha).2.1, (e c k1).1, (e c k1).2.1]
    exact ⟨k1, k2, k3, k4⟩
  · intro a ha x hx
    rw [(e a ha).1, (e a ha).2.1, (e x hx).1, (e x hx).2.1, ec a ha]
    intro g1 g2
    obtain ⟨c, k1, k2, k3⟩ := h6 a ha x hx g1 g2
    have hcN := (h5 a ha _ c k1).1
    exact ⟨c, k1, by rw [(e c hcN).2.1]; exact k2, by rw [(e c hcN).1, (e c hcN).2.1]; exact k3⟩
/-- where two nodes part there is a node -/
theorem st_meet {N : List Nat} {t : NT} {root : Nat} (h : ST N t root) {x y : Nat} (hx : x ∈ N) (hy : y ∈ N) : ∃ a ∈ N, tL t a ≤ tL t x ∧ tL t a ≤ tL t y ∧ ag (tB t a) (tB t x) (tL t a) ∧ ag (tB t a) (tB t y) (tL t a) ∧ (tL t a < tL t x → tL t a < tL t y → bi (tB t x) (tL t a) ≠ bi (tB t y) (tL t a)) := by
  obtain ⟨⟨h1, h1'⟩, h2, h3, h4, h5, h6⟩ := h
  have go : ∀ k a, a ∈ N → 33 ≤ tL t a + k → tL t a ≤ tL t x → tL t a ≤ tL t y → ag (tB t a) (tB t x) (tL t a) → ag (tB t a) (tB t y) (tL t a) → ∃ a ∈ N, tL t a ≤ tL t x ∧ tL t a ≤ tL t y ∧ ag (tB t a) (tB t x) (tL t a) ∧ ag (tB t a) (tB t y) (tL t a) ∧ (tL t a < tL t x → tL t a < tL t y → bi (tB t x) (tL t a) ≠ bi (tB t y) (tL t a)) := by
    intro k
    induction k with
    | zero =>
      intro a ha hk
      have := (h3 a ha).1
      omega
    | succ k ih =>
      intro a ha hk g1 g2 g3 g4
      by_cases hc : tL t a < tL t x ∧ tL t a < tL t y ∧ bi (tB t x) (tL t a) = bi (tB t y) (tL t a)
      · obtain ⟨c1, c2, c3⟩ := hc
        obtain ⟨c, m1, m2, m3⟩ := h6 a ha x hx c1 g3
        obtain ⟨c', m1', m2', m3'⟩ := h6 a ha y hy c2 g4
        rw [c3, m1'] at m1
        have ec := Option.some.inj m1
        rw [← ec] at m2 m3
        obtain ⟨r1, r2, -, -⟩ := h5 a ha _ c' m1'
        exact ih c' r1 (by omega) m2 m2' m3 m3'
      · exact ⟨a, ha, g1, g2, g3, g4, fun c1 c2 c3 => hc ⟨c1, c2, c3⟩⟩
  exact go 33 root h1 (by omega) (by omega) (by omega) (by rw [h1']; exact ag_0) (by rw [h1']; exact ag_0)
/-! counting -/
theorem cnt_split {α : Type} {l : List α} {p q r : α → Bool} (h : ∀ y ∈ l, (p y = true ↔ (q y = true ∨ r y = true)) ∧ ¬ (q y = true ∧ r y = true)) : l.countP p = l.countP q + l.countP r := by
  induction l with
  | nil => rfl
  | cons a l ih =>
    have h1 := h a List.mem_cons_self
    have h2 := ih (fun y hy => h y (List.mem_cons_of_mem _ hy))
    rw [List.countP_cons, List.countP_cons, List.countP_cons, h2]
    cases hp : p a <;> cases hq : q a <;> cases hr : r a <;> simp [hp, hq, hr] at h1 ⊢ <;> omega
theorem cnt_one {l : List Nat} (hn : l.Nodup) {a : Nat} (ha : a ∈ l) : l.countP (fun y => y == a) = 1 := by
  induction l with
  | nil => cases ha
  | cons b l ih =>
    obtain ⟨n1, n2⟩ := List.nodup_cons.mp hn
    rw [List.countP_cons]
    rcases List.mem_cons.mp ha with rfl | h
    · have : l.countP (fun y => y == a) = 0 := List.countP_eq_zero.mpr (fun y hy => by simp; exact fun e => n1 (e ▸ hy))
      rw [this]; simp
    · have hne : ¬ b = a := fun e => n1 (e ▸ h)
      rw [ih n2 h]; simp [hne]
