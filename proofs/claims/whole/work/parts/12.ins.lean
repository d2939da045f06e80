/-! a new node: what the tree is then -/
abbrev RT : Type := Int32 × Nat × Int32
def rdt (t : NT) (a : Nat) : RT := (tB t a, tL t a, tH t a)
def rts (N : List Nat) (t : NT) : List RT := (N.filter (isR t)).map (rdt t)
def FK (N : List Nat) (t : NT) (root : Nat) : Prop := ∀ b ∈ N, b ≠ root → isR t b = false → ∀ d, ch t b d ≠ none
def CI (N : List Nat) (t : NT) (root : Nat) : Prop := ST N t root ∧ RC N t ∧ FK N t root
def setch (r : NR) (d : Bool) (v : Option Nat) : NR := (r.1, r.2.1, r.2.2.1, r.2.2.2.1, if d = true then r.2.2.2.2.1 else v, if d = true then v else r.2.2.2.2.2)
def up1 (r : NR) : NR := (r.1, r.2.1, r.2.2.1, r.2.2.2.1 + 1, r.2.2.2.2.1, r.2.2.2.2.2)
def sethop (r : NR) (h : Int32) : NR := (r.1, r.2.1, h, r.2.2.2.1, r.2.2.2.2.1, r.2.2.2.2.2)
def bgx (t : NT) (x : Int32) (y : Nat) : Bool := fb x (tL t y) == tB t y
def inc (t : NT) (x : Int32) (j : Nat) : NT := fun y => if (bgx t x y && decide (tL t y ≤ j)) = true then up1 (t y) else t y
theorem inc_B (t : NT) (x : Int32) (j y : Nat) : tB (inc t x j) y = tB t y := by unfold inc; simp only [tB]; split <;> rfl
theorem inc_L (t : NT) (x : Int32) (j y : Nat) : tL (inc t x j) y = tL t y := by unfold inc; simp only [tL]; split <;> rfl
theorem inc_H (t : NT) (x : Int32) (j y : Nat) : tH (inc t x j) y = tH t y := by unfold inc; simp only [tH]; split <;> rfl
theorem inc_Z (t : NT) (x : Int32) (j y : Nat) : tZ (inc t x j) y = tZ t y := by unfold inc; simp only [tZ]; split <;> rfl
theorem inc_O (t : NT) (x : Int32) (j y : Nat) : tO (inc t x j) y = tO t y := by unfold inc; simp only [tO]; split <;> rfl
theorem inc_R (t : NT) (x : Int32) (j y : Nat) : tR (inc t x j) y = tR t y + (if (bgx t x y && decide (tL t y ≤ j)) = true then 1 else 0) := by unfold inc; simp only [tR]; split <;> rfl
theorem inc_ch (t : NT) (x : Int32) (j y : Nat) (d : Bool) : ch (inc t x j) y d = ch t y d := by unfold ch; rw [inc_Z, inc_O]
theorem bgx_iff {t : NT} {x : Int32} {y : Nat} (h : px (tB t y) (tL t y)) : bgx t x y = true ↔ ag (tB t y) x (tL t y) := by unfold bgx; rw [beq_iff_eq]; exact px_fb h
theorem inc_step {N : List Nat} {t : NT} {root a c y : Nat} {x : Int32} (h : ST N t root) (ha : a ∈ N) (hax : ag (tB t a) x (tL t a)) (hc : ch t a (bi x (tL t a)) = some c) (hcx : ag (tB t c) x (tL t c)) (hy : y ∈ N) (hyc : y ≠ c) : inc t x (tL t c) y = inc t x (tL t a) y := by
  obtain ⟨c1, c2, c3, c4⟩ := h.2.2.2.2.1 a ha _ c hc
  unfold inc
  by_cases hb : bgx t x y = true
  · have hyx := (bgx_iff (h.2.2.1 y hy)).mp hb
    have key : tL t y ≤ tL t c ↔ tL t y ≤ tL t a := by
      refine ⟨fun g => ?_, fun g => by omega⟩
      rcases Nat.lt_or_ge (tL t a) (tL t y) with q | q
      · obtain ⟨c', k1, k2, k3⟩ := st_step h ha hax hy hyx q
        rw [hc] at k1
        have e := Option.some.inj k1
        rw [← e] at k2
        exact absurd (h.2.2.2.1 c c1 y hy (by omega) (ag_tr hcx (ag_sy (by rw [show tL t c = tL t y by omega]; exact hyx)))).symm hyc
      · exact q
    rw [decide_eq_decide.mpr key]
  · simp [hb]
theorem inc_end {N : List Nat} {t : NT} {root a l y : Nat} {x : Int32} (h : ST N t root) (ha : a ∈ N) (hax : ag (tB t a) x (tL t a)) (hl : tL t a ≤ l) (hc : ∀ c, ch t a (bi x (tL t a)) = some c → ¬ (tL t c ≤ l ∧ ag (tB t c) x (tL t c))) (hy : y ∈ N) : inc t x (tL t a) y = inc t x l y := by
  unfold inc
  by_cases hb : bgx t x y = true
  · have hyx := (bgx_iff (h.2.2.1 y hy)).mp hb
    have key : tL t y ≤ tL t a ↔ tL t y ≤ l := by
      refine ⟨fun g => by omega, fun g => ?_⟩
      rcases Nat.lt_or_ge (tL t a) (tL t y) with q | q
      · obtain ⟨c', k1, k2, k3⟩ := st_step h ha hax hy hyx q
        exact absurd ⟨by omega, k3⟩ (hc c' k1)
      · exact q
    rw [decide_eq_decide.mpr key]
  · simp [hb]
theorem isR_eq {t t' : NT} {a : Nat} (h : tH t' a = tH t a) : isR t' a = isR t a := by unfold isR; rw [h]
theorem pb_eq {t t' : NT} {a y : Nat} (h1 : tB t' a = tB t a) (h2 : tL t' a = tL t a) (h3 : tB t' y = tB t y) (h4 : tL t' y = tL t y) : pb t' a y = pb t a y := by unfold pb; rw [h1, h2, h3, h4]
theorem rc_ins {N : List Nat} {t : NT} {root q a n : Nat} {x : Int32} (h : ST N t root) (hr : RC N t) (hq : q ∉ N) (ha : a ∈ N) (hn : tL t a < n) (hx : px x n) (hag : ag (tB t a) x (tL t a))
    (hc : ∀ c, ch t a (bi x (tL t a)) = some c → n < tL t c ∧ ag x (tB t c) n) (t' : NT) (e1 : ∀ b ∈ N, tB t' b = tB t b ∧ tL t' b = tL t b) (e2 : tB t' q = x ∧ tL t' q = n) (eh : ∀ b ∈ N, tH t' b = tH t b)
    (er : ∀ b ∈ N, tR t' b = tR t b + (if (isR t' q && pb t' b q) = true then 1 else 0)) (erq : tR t' q = (ch t a (bi x (tL t a))).elim 0 (tR t) + (if isR t' q = true then 1 else 0)) : RC (q :: N) t' := by
  intro b hb
  rw [List.countP_cons]
  rcases List.mem_cons.mp hb with k0 | hb1
  · subst k0
    have hself : pb t' b b = true := by rw [pb_iff (by rw [e2.1, e2.2]; exact hx)]; exact ⟨Nat.le_refl _, ag_rf⟩
    rw [erq, hself, Bool.and_true]
    congr 1
    have hpx : px (tB t' b) (tL t' b) := by rw [e2.1, e2.2]; exact hx
    have ext : ∀ y ∈ N, pb t' b y = true → ∃ c, ch t a (bi x (tL t a)) = some c ∧ pb t c y = true := by
      intro y hy g
      rw [pb_iff hpx, e2.1, e2.2, (e1 y hy).1, (e1 y hy).2] at g
      obtain ⟨c, k1, k2, k3⟩ := h.2.2.2.2.2 a ha y hy (by omega) (ag_tr hag (ag_mono g.2 (by omega)))
      rw [← g.2 _ hn] at k1
      exact ⟨c, k1, (pb_iff (h.2.2.1 c (h.2.2.2.2.1 a ha _ c k1).1)).mpr ⟨k2, k3⟩⟩
    cases hcc : ch t a (bi x (tL t a)) with
    | none =>
      show 0 = _
      symm
      refine List.countP_eq_zero.mpr fun y hy => ?_
      simp only [Bool.and_eq_true]
      intro g
      obtain ⟨c, k1, -⟩ := ext y hy g.2
      rw [hcc] at k1; cases k1
    | some c =>
      show tR t c = _
      have cN := (h.2.2.2.2.1 a ha _ c hcc).1
      obtain ⟨m1, m2⟩ := hc c hcc
      rw [hr c cN]
      refine cnt_congr fun y hy => ?_
      rw [isR_eq (eh y hy)]
      congr 1
      refine bool_eq ⟨fun g => ?_, fun g => ?_⟩
      · rw [pb_iff (h.2.2.1 c cN)] at g
        rw [pb_iff hpx, e2.1, e2.2, (e1 y hy).1, (e1 y hy).2]
        exact ⟨by omega, ag_tr m2 (ag_mono g.2 (by omega))⟩
      · obtain ⟨c', k1, k2⟩ := ext y hy g
        rw [hcc] at k1
        rw [Option.some.inj k1]
        exact k2
  · rw [er b hb1, hr b hb1]
    congr 1
    exact cnt_congr fun y hy => by rw [isR_eq (eh y hy), pb_eq (e1 b hb1).1 (e1 b hb1).2 (e1 y hy).1 (e1 y hy).2]
theorem rts_congr {N : List Nat} {t t' : NT} (e : ∀ a ∈ N, rdt t' a = rdt t a) : rts N t' = rts N t := by
  unfold rts
  have hH : ∀ a ∈ N, tH t' a = tH t a := fun a ha => by have := congrArg (fun z : RT => z.2.2) (e a ha); exact this
  rw [List.filter_congr (fun a ha => isR_eq (hH a ha))]
  exact List.map_congr_left (fun a ha => e a (List.mem_filter.mp ha).1)
theorem rts_cons {N : List Nat} {t : NT} {q : Nat} : rts (q :: N) t = if isR t q = true then rdt t q :: rts N t else rts N t := by
  unfold rts
  rw [List.filter_cons]
  split <;> rfl
theorem rts_perm {N N' : List Nat} {t : NT} (h : N.Perm N') : (rts N t).Perm (rts N' t) := (h.filter _).map _
/-- at most one node's data differ -/
theorem rts_one {N : List Nat} {t t' : NT} {a : Nat} (ha : a ∈ N) (hn : N.Nodup) (e : ∀ b ∈ N, b ≠ a → rdt t' b = rdt t b) : ∃ M : List Nat, a ∉ M ∧ (rts N t).Perm (rts (a :: M) t) ∧ (rts N t').Perm (rts (a :: M) t') ∧ rts M t' = rts M t := by
  refine ⟨N.erase a, ?_, rts_perm (List.perm_cons_erase ha), rts_perm (List.perm_cons_erase ha), rts_congr fun b hb => ?_⟩
  · rw [hn.mem_erase_iff]; exact fun k => k.1 rfl
  · rw [hn.mem_erase_iff] at hb
    exact e b hb.2 hb.1
theorem setch_B (r : NR) (d : Bool) (v : Option Nat) : (setch r d v).1 = r.1 := rfl
/-- a fork that was there becomes a route -/
theorem grow_A {N : List Nat} {t : NT} {root a l : Nat} {x h : Int32} (C : CI N t root) (ha : a ∈ N) (hal : tL t a = l) (hax : tB t a = x) (hno : isR t a = false) (hh : ¬ h = -1) (t' : NT) (et : ∀ y ∈ N, t' y = if y = a then sethop (inc t x l a) h else inc t x l y) :
    CI N t' root ∧ ((x, l, h) :: rts N t).Perm (rts N t') := by
  obtain ⟨hs, hr, hf⟩ := C
  have eB : ∀ y ∈ N, tB t' y = tB t y := fun y hy => by
    show (t' y).1 = _
    rw [et y hy]; split
    · next e => subst e; exact inc_B t x l y
    · exact inc_B t x l y
  have eL : ∀ y ∈ N, tL t' y = tL t y := fun y hy => by
    show (t' y).2.1 = _
    rw [et y hy]; split
    · next e => subst e; exact inc_L t x l y
    · exact inc_L t x l y
  have eZ : ∀ y ∈ N, tZ t' y = tZ t y := fun y hy => by
    show (t' y).2.2.2.2.1 = _
    rw [et y hy]; split
    · next e => subst e; exact inc_Z t x l y
    · exact inc_Z t x l y
  have eO : ∀ y ∈ N, tO t' y = tO t y := fun y hy => by
    show (t' y).2.2.2.2.2 = _
    rw [et y hy]; split
    · next e => subst e; exact inc_O t x l y
    · exact inc_O t x l y
  have eR : ∀ y ∈ N, tR t' y = tR (inc t x l) y := fun y hy => by
    show (t' y).2.2.2.1 = _
    rw [et y hy]; split
    · next e => subst e; rfl
    · rfl
  have eH : ∀ y ∈ N, tH t' y = if y = a then h else tH t y := fun y hy => by
    show (t' y).2.2.1 = _
    rw [et y hy]; split
    · rfl
    · exact inc_H t x l y
  have hRa : isR t' a = true := by rw [isR_iff, eH a ha, if_pos rfl]; exact hh
  have hRn : ∀ y ∈ N, y ≠ a → isR t' y = isR t y := fun y hy q => isR_eq (by rw [eH y hy, if_neg q])
  have hs' : ST N t' root := st_same hs (fun y hy => ⟨eB y hy, eL y hy, eZ y hy, eO y hy⟩)
  have pa := hs.2.2.1 a ha
  refine ⟨⟨hs', fun b hb => ?_, fun b hb g1 g2 d => ?_⟩, ?_⟩
  · rw [eR b hb, inc_R, hr b hb]
    have h1 : (bgx t x b && decide (tL t b ≤ l)) = pb t b a := by
      refine bool_eq ?_
      rw [pb_iff (hs.2.2.1 b hb), Bool.and_eq_true, bgx_iff (hs.2.2.1 b hb), decide_eq_true_eq, hal, hax]
      exact And.comm
    rw [h1]
    rw [cnt_split (p := fun y => isR t' y && pb t' b y) (q := fun y => isR t y && pb t b y) (r := fun y => (y == a) && pb t b a)]
    · congr 1
      cases hp : pb t b a with
      | false => simp
      | true => simp only [Bool.and_true, if_true]; exact (cnt_one hs.2.1 ha).symm
    · intro y hy
      rw [pb_eq (eB b hb) (eL b hb) (eB y hy) (eL y hy)]
      by_cases e : y = a
      · subst e
        simp [hRa, hno]
      · rw [hRn y hy e]
        simp [e]
  · have : isR t b = false := by
      by_cases e : b = a
      · rw [e] at g2; rw [g2] at hRa; cases hRa
      · rw [← hRn b hb e]; exact g2
    have h2 := hf b hb g1 this d
    unfold ch at h2 ⊢
    rw [eZ b hb, eO b hb]
    exact h2
  · obtain ⟨M, m1, m2, m3, m4⟩ := rts_one (t := t) (t' := t') ha hs.2.1 (fun b hb e => by unfold rdt; rw [eB b hb, eL b hb, eH b hb, if_neg e])
    refine List.Perm.trans (List.Perm.cons _ m2) (List.Perm.trans ?_ m3.symm)
    rw [rts_cons, rts_cons, hno, hRa, m4]
    simp only [Bool.false_eq_true, if_false, if_true]
    rw [show rdt t' a = (x, l, h) by unfold rdt; rw [eB a ha, eL a ha, eH a ha, if_pos rfl, hal, hax]]
theorem ch_setch {t : NT} {y : Nat} {r : NR} {d : Bool} {v : Option Nat} (e : t y = setch r d v) (d' : Bool) : ch t y d' = if d' = d then v else (if d' = true then r.2.2.2.2.2 else r.2.2.2.2.1) := by
  unfold ch
  simp only [tO, tZ, e, setch]
  cases d <;> cases d' <;> simp
/-- a node comes between a and what is below it on its side (or as its new child) -/
theorem ci_ins {N : List Nat} {t : NT} {root q a n : Nat} {x hp : Int32} (h : ST N t root) (hr : RC N t) (hq : q ∉ N) (ha : a ∈ N) (hn : tL t a < n) (hx : px x n) (hag : ag (tB t a) x (tL t a))
    (hc : ∀ c, ch t a (bi x (tL t a)) = some c → n < tL t c ∧ ag x (tB t c) n) (t' : NT)
    (eq : tB t' q = x ∧ tL t' q = n ∧ tH t' q = hp) (ed : ∀ b ∈ N, tB t' b = tB t b ∧ tL t' b = tL t b ∧ tH t' b = tH t b)
    (ec : ∀ b ∈ N, ∀ d, ch t' b d = if b = a ∧ d = bi x (tL t a) then some q else ch t b d)
    (eqc : ∀ d, ch t' q d = (ch t a (bi x (tL t a))).elim none (fun c => if d = bi (tB t c) n then some c else none))
    (er : ∀ b ∈ N, tR t' b = tR t b + (if (isR t' q && pb t' b q) = true then 1 else 0)) (erq : tR t' q = (ch t a (bi x (tL t a))).elim 0 (tR t) + (if isR t' q = true then 1 else 0)) :
    ST (q :: N) t' root ∧ RC (q :: N) t' := by
  refine ⟨st_ins h hq ha hn hx hag hc t' (fun b hb => ⟨(ed b hb).1, (ed b hb).2.1⟩) ⟨eq.1, eq.2.1⟩ (fun b hb d g => by rw [ec b hb, if_neg g]) (by rw [ec a ha, if_pos ⟨rfl, rfl⟩]) (fun c g => by rw [eqc, g]; simp) (fun d c g => ?_), rc_ins h hr hq ha hn hx hag hc t' (fun b hb => ⟨(ed b hb).1, (ed b hb).2.1⟩) ⟨eq.1, eq.2.1⟩ (fun b hb => (ed b hb).2.2) er erq⟩
  rw [eqc] at g
  cases hcc : ch t a (bi x (tL t a)) with
  | none => rw [hcc] at g; cases g
  | some c' =>
    rw [hcc] at g
    simp only [Option.elim] at g
    split at g
    · next e => cases g; exact ⟨rfl, e.symm⟩
    · cases g
