theorem fk_of {N : List Nat} {t t' : NT} {root : Nat} (hf : FK N t root) (eh : ∀ b ∈ N, isR t' b = isR t b) (ec : ∀ b ∈ N, ∀ d, ch t' b d = none → ch t b d = none) : ∀ b ∈ N, b ≠ root → isR t' b = false → ∀ d, ch t' b d ≠ none :=
  fun b hb g1 g2 d g3 => hf b hb g1 (by rw [← eh b hb]; exact g2) d (ec b hb d g3)
theorem grow_BC {N : List Nat} {t : NT} {root a l q : Nat} {x h : Int32} (C : CI N t root) (ha : a ∈ N) (hax : ag (tB t a) x (tL t a)) (hal : tL t a < l) (hx : px x l) (hq : q ∉ N) (hh : ¬ h = -1)
    (hc : ∀ c, ch t a (bi x (tL t a)) = some c → l < tL t c ∧ ag x (tB t c) l) (t' : NT) (eN : ∀ y ∈ N, t' y = if y = a then setch (inc t x l a) (bi x (tL t a)) (some q) else inc t x l y)
    (eq : tB t' q = x ∧ tL t' q = l ∧ tH t' q = h ∧ tR t' q = (ch t a (bi x (tL t a))).elim 0 (tR t) + 1) (eqc : ∀ d, ch t' q d = (ch t a (bi x (tL t a))).elim none (fun c => if d = bi (tB t c) l then some c else none)) :
    CI (q :: N) t' root ∧ ((x, l, h) :: rts N t).Perm (rts (q :: N) t') := by
  obtain ⟨hs, hr, hf⟩ := C
  have eB : ∀ y ∈ N, tB t' y = tB t y := fun y hy => by
    show (t' y).1 = _
    rw [eN y hy]; split
    · next e => subst e; exact inc_B t x l y
    · exact inc_B t x l y
  have eL : ∀ y ∈ N, tL t' y = tL t y := fun y hy => by
    show (t' y).2.1 = _
    rw [eN y hy]; split
    · next e => subst e; exact inc_L t x l y
    · exact inc_L t x l y
  have eH : ∀ y ∈ N, tH t' y = tH t y := fun y hy => by
    show (t' y).2.2.1 = _
    rw [eN y hy]; split
    · next e => subst e; exact inc_H t x l y
    · exact inc_H t x l y
  have eR : ∀ y ∈ N, tR t' y = tR (inc t x l) y := fun y hy => by
    show (t' y).2.2.2.1 = _
    rw [eN y hy]; split
    · next e => subst e; rfl
    · rfl
  have ec : ∀ y ∈ N, ∀ d, ch t' y d = if y = a ∧ d = bi x (tL t a) then some q else ch t y d := fun y hy d => by
    by_cases e : y = a
    · subst e
      have e2 := eN y hy
      rw [if_pos rfl] at e2
      rw [ch_setch e2]
      by_cases g : d = bi x (tL t y)
      · rw [if_pos g, if_pos ⟨rfl, g⟩]
      · rw [if_neg g, show (if y = y ∧ d = bi x (tL t y) then some q else ch t y d) = ch t y d from if_neg (fun k => g k.2), ← inc_ch t x l y d]; rfl
    · rw [if_neg (fun k => e k.1), ← inc_ch t x l y d]
      have e2 := eN y hy
      rw [if_neg e] at e2
      unfold ch; simp only [tO, tZ, e2]
  have hRq : isR t' q = true := by rw [isR_iff, eq.2.2.1]; exact hh
  obtain ⟨k1, k2⟩ := ci_ins (hp := h) hs hr hq ha hal hx hax hc t' ⟨eq.1, eq.2.1, eq.2.2.1⟩ (fun b hb => ⟨eB b hb, eL b hb, eH b hb⟩) ec eqc (fun b hb => by
    rw [eR b hb, inc_R, hRq, Bool.true_and]
    congr 2
    unfold pb bgx
    rw [eq.1, eq.2.1, eB b hb, eL b hb, Bool.and_comm]) (by rw [eq.2.2.2, hRq]; rfl)
  refine ⟨⟨k1, k2, fun b hb g1 g2 => ?_⟩, ?_⟩
  · rcases List.mem_cons.mp hb with k0 | hb1
    · rw [k0, hRq] at g2; cases g2
    · exact fk_of hf (fun b hb => isR_eq (eH b hb)) (fun b hb d g => by
        rw [ec b hb d] at g
        split at g
        · cases g
        · exact g) b hb1 g1 g2
  · rw [rts_cons, hRq, if_pos rfl, rts_congr (t := t) (t' := t') (fun b hb => by unfold rdt; rw [eB b hb, eL b hb, eH b hb])]
    rw [show rdt t' q = (x, l, h) by unfold rdt; rw [eq.1, eq.2.1, eq.2.2.1]]
theorem grow_D {N : List Nat} {t : NT} {root a l q g c k : Nat} {x h : Int32} (C : CI N t root) (ha : a ∈ N) (hax : ag (tB t a) x (tL t a)) (hal : tL t a < l) (hx : px x l) (hq : q ∉ N) (hg : g ∉ N) (hqg : q ≠ g) (hh : ¬ h = -1)
    (hc : ch t a (bi x (tL t a)) = some c) (kl : k < l) (kc : k < tL t c) (kag : ag (tB t c) x k) (kd : ¬ bi (tB t c) k = bi x k) (t' : NT) (eN : ∀ y ∈ N, t' y = if y = a then setch (inc t x l a) (bi x (tL t a)) (some g) else inc t x l y)
    (eq : t' q = (x, l, h, 1, none, none)) (eg : tB t' g = fb x k ∧ tL t' g = k ∧ tH t' g = -1 ∧ tR t' g = tR t c + 1) (egc : ∀ d, ch t' g d = if d = bi x k then some q else some c) :
    CI (q :: g :: N) t' root ∧ ((x, l, h) :: rts N t).Perm (rts (q :: g :: N) t') := by
  obtain ⟨hs, hr, hf⟩ := C
  have k32 : k ≤ 32 := by have := hx.1; omega
  obtain ⟨c1, c2, c3, c4⟩ := hs.2.2.2.2.1 a ha _ c hc
  have hak : tL t a < k := by
    rcases Nat.lt_trichotomy (tL t a) k with z | z | z
    · exact z
    · exact absurd (by rw [← z]; exact c4) kd
    · exact absurd ((c3 k z).symm.trans (hax k z)) kd
  have ga : g ≠ a := fun e => hg (e ▸ ha)
  have gN : ∀ y ∈ N, y ≠ g := fun y hy e => hg (e ▸ hy)
  have hbk : bi (fb x k) (tL t a) = bi x (tL t a) := fb_ag k32 _ hak
  -- the fork alone
  obtain ⟨t1, et1⟩ : ∃ t1 : NT, t1 = fun y => if y = g then (fb x k, k, (-1 : Int32), tR t c, if bi (tB t c) k = true then none else some c, if bi (tB t c) k = true then some c else none) else if y = a then setch (t a) (bi x (tL t a)) (some g) else t y := ⟨_, rfl⟩
  have t1g : t1 g = (fb x k, k, (-1 : Int32), tR t c, if bi (tB t c) k = true then none else some c, if bi (tB t c) k = true then some c else none) := by rw [et1]; simp
  have t1N : ∀ y ∈ N, t1 y = if y = a then setch (t a) (bi x (tL t a)) (some g) else t y := fun y hy => by rw [et1]; simp [gN y hy]
  have d1 : ∀ y ∈ N, tB t1 y = tB t y ∧ tL t1 y = tL t y ∧ tH t1 y = tH t y ∧ tR t1 y = tR t y := fun y hy => by
    simp only [tB, tL, tH, tR]
    rw [t1N y hy]; split
    · next e => subst e; exact ⟨rfl, rfl, rfl, rfl⟩
    · exact ⟨rfl, rfl, rfl, rfl⟩
  have c1' : ∀ y ∈ N, ∀ d, ch t1 y d = if y = a ∧ d = bi x (tL t a) then some g else ch t y d := fun y hy d => by
    by_cases e : y = a
    · subst e
      have e2 := t1N y hy
      rw [if_pos rfl] at e2
      rw [ch_setch e2]
      by_cases z : d = bi x (tL t y)
      · rw [if_pos z, if_pos ⟨rfl, z⟩]
      · rw [if_neg z, show (if y = y ∧ d = bi x (tL t y) then some g else ch t y d) = ch t y d from if_neg (fun k => z k.2)]; rfl
    · rw [if_neg (fun k => e k.1)]
      have e2 := t1N y hy
      rw [if_neg e] at e2
      unfold ch; simp only [tO, tZ, e2]
  have hRg1 : isR t1 g = false := by unfold isR; simp only [tH]; rw [t1g]; rfl
  have cg1 : ∀ d, ch t1 g d = if d = bi (tB t c) k then some c else none := fun d => by
    unfold ch; simp only [tO, tZ]; rw [t1g]
    cases d <;> cases bi (tB t c) k <;> simp
  obtain ⟨s1, r1⟩ := ci_ins (hp := -1) (q := g) (n := k) (x := fb x k) hs hr hg ha hak (fb_px k32) (ag_tr hax (ag_sy (ag_mono (fb_ag k32) (by omega)))) (fun c' e => by
      rw [hbk, hc] at e; cases e
      exact ⟨kc, ag_tr (fb_ag k32) (ag_sy kag)⟩) t1 ⟨by simp only [tB]; rw [t1g], by simp only [tL]; rw [t1g], by simp only [tH]; rw [t1g]⟩ (fun b hb => ⟨(d1 b hb).1, (d1 b hb).2.1, (d1 b hb).2.2.1⟩)
      (fun b hb d => by rw [hbk]; exact c1' b hb d) (fun d => by rw [hbk, hc]; exact cg1 d) (fun b hb => by rw [(d1 b hb).2.2.2, hRg1]; rfl) (by rw [hbk, hc, hRg1]; simp only [tR]; rw [t1g]; rfl)
  -- the route below it
  have gB : tB t1 g = fb x k := by simp only [tB]; rw [t1g]
  have gL : tL t1 g = k := by simp only [tL]; rw [t1g]
  have gR : tR t1 g = tR t c := by simp only [tR]; rw [t1g]
  have gH : tH t1 g = -1 := by simp only [tH]; rw [t1g]
  have qB : tB t' q = x := by simp only [tB]; rw [eq]
  have qL : tL t' q = l := by simp only [tL]; rw [eq]
  have qH : tH t' q = h := by simp only [tH]; rw [eq]
  have qR : tR t' q = 1 := by simp only [tR]; rw [eq]
  have hRq : isR t' q = true := by rw [isR_iff, qH]; exact hh
  have nog : ch t1 g (bi x k) = none := by rw [cg1, if_neg (fun e => kd e.symm)]
  have eB : ∀ y ∈ N, tB t' y = tB t y := fun y hy => by
    show (t' y).1 = _
    rw [eN y hy]; split
    · next e => subst e; exact inc_B t x l y
    · exact inc_B t x l y
  have eL : ∀ y ∈ N, tL t' y = tL t y := fun y hy => by
    show (t' y).2.1 = _
    rw [eN y hy]; split
    · next e => subst e; exact inc_L t x l y
    · exact inc_L t x l y
  have eH : ∀ y ∈ N, tH t' y = tH t y := fun y hy => by
    show (t' y).2.2.1 = _
    rw [eN y hy]; split
    · next e => subst e; exact inc_H t x l y
    · exact inc_H t x l y
  have eR : ∀ y ∈ N, tR t' y = tR (inc t x l) y := fun y hy => by
    show (t' y).2.2.2.1 = _
    rw [eN y hy]; split
    · next e => subst e; rfl
    · rfl
  have ec : ∀ y ∈ N, ∀ d, ch t' y d = ch t1 y d := fun y hy d => by
    rw [c1' y hy]
    by_cases e : y = a
    · subst e
      have e2 := eN y hy
      rw [if_pos rfl] at e2
      rw [ch_setch e2]
      by_cases z : d = bi x (tL t y)
      · rw [if_pos z, if_pos ⟨rfl, z⟩]
      · rw [if_neg z, show (if y = y ∧ d = bi x (tL t y) then some g else ch t y d) = ch t y d from if_neg (fun k => z k.2), ← inc_ch t x l y d]; rfl
    · rw [if_neg (fun k => e k.1), ← inc_ch t x l y d]
      have e2 := eN y hy
      rw [if_neg e] at e2
      unfold ch; simp only [tO, tZ, e2]
  have hpq : ∀ b, px (tB t1 b) (tL t1 b) → tB t' b = tB t1 b → tL t' b = tL t1 b → pb t' b q = (bgx t1 x b && decide (tL t1 b ≤ l)) := fun b hp g1 g2 => by
    unfold pb bgx; rw [qB, qL, g1, g2, Bool.and_comm]
  obtain ⟨s2, r2⟩ := ci_ins (hp := h) (q := q) (n := l) (x := x) (a := g) s1 r1 (fun z => (List.mem_cons.mp z).elim hqg hq) List.mem_cons_self (by rw [gL]; exact kl) hx (by rw [gB, gL]; exact fb_ag k32) (fun c' e => by rw [gL, nog] at e; cases e) t' ⟨qB, qL, qH⟩
    (fun b hb => by
      rcases List.mem_cons.mp hb with k0 | hb1
      · rw [k0]; exact ⟨eg.1.trans gB.symm, eg.2.1.trans gL.symm, eg.2.2.1.trans gH.symm⟩
      · rw [eB b hb1, eL b hb1, eH b hb1, (d1 b hb1).1, (d1 b hb1).2.1, (d1 b hb1).2.2.1]; exact ⟨rfl, rfl, rfl⟩)
    (fun b hb d => by
      rcases List.mem_cons.mp hb with k0 | hb1
      · rw [k0, egc, gL, cg1]
        by_cases z : d = bi x k
        · rw [if_pos z, if_pos ⟨rfl, z⟩]
        · rw [if_neg z, if_neg (fun w => z w.2), if_pos (by revert z kd; cases d <;> cases bi x k <;> cases bi (tB t c) k <;> simp)]
      · rw [if_neg (fun w => gN b hb1 w.1)]; exact ec b hb1 d)
    (fun d => by rw [gL, nog]; unfold ch; simp only [tO, tZ]; rw [eq]; cases d <;> rfl)
    (fun b hb => by
      rw [hRq, Bool.true_and]
      rcases List.mem_cons.mp hb with k0 | hb1
      · rw [k0, eg.2.2.2, gR]
        have : pb t' g q = true := by
          rw [pb_iff (by rw [eg.1, eg.2.1]; exact fb_px k32), qB, qL, eg.1, eg.2.1]
          exact ⟨by omega, fb_ag k32⟩
        rw [this]; rfl
      · rw [eR b hb1, inc_R, (d1 b hb1).2.2.2]
        congr 2
        unfold pb bgx
        rw [qB, qL, eB b hb1, eL b hb1, Bool.and_comm])
    (by rw [gL, nog, qR, hRq]; rfl)
  have hRg : isR t' g = false := by unfold isR; rw [eg.2.2.1]; rfl
  refine ⟨⟨s2, r2, fun b hb g1 g2 => ?_⟩, ?_⟩
  · rcases List.mem_cons.mp hb with k0 | hb1
    · rw [k0, hRq] at g2; cases g2
    · rcases List.mem_cons.mp hb1 with k0 | hb2
      · intro d e; rw [k0, egc] at e; split at e <;> cases e
      · exact fk_of hf (fun b hb => isR_eq (eH b hb)) (fun b hb d z => by
          rw [ec b hb d, c1' b hb d] at z
          split at z
          · cases z
          · exact z) b hb2 g1 g2
  · rw [rts_cons, hRq, if_pos rfl, rts_cons, hRg, if_neg (by decide), rts_congr (t := t) (t' := t') (fun b hb => by unfold rdt; rw [eB b hb, eL b hb, eH b hb])]
    rw [show rdt t' q = (x, l, h) by unfold rdt; rw [qB, qL, qH]]
