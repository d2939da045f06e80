/-! a route goes, and a node that is idle then -/
def dn1 (r : NR) : NR := (r.1, r.2.1, r.2.2.1, r.2.2.2.1 - 1, r.2.2.2.2.1, r.2.2.2.2.2)
def dcr (t : NT) (x : Int32) (j : Nat) : NT := fun y => if (bgx t x y && decide (tL t y < j)) = true then dn1 (t y) else t y
theorem dcr_B (t : NT) (x : Int32) (j y : Nat) : tB (dcr t x j) y = tB t y := by unfold dcr; simp only [tB]; split <;> rfl
theorem dcr_L (t : NT) (x : Int32) (j y : Nat) : tL (dcr t x j) y = tL t y := by unfold dcr; simp only [tL]; split <;> rfl
theorem dcr_H (t : NT) (x : Int32) (j y : Nat) : tH (dcr t x j) y = tH t y := by unfold dcr; simp only [tH]; split <;> rfl
theorem dcr_Z (t : NT) (x : Int32) (j y : Nat) : tZ (dcr t x j) y = tZ t y := by unfold dcr; simp only [tZ]; split <;> rfl
theorem dcr_O (t : NT) (x : Int32) (j y : Nat) : tO (dcr t x j) y = tO t y := by unfold dcr; simp only [tO]; split <;> rfl
theorem dcr_R (t : NT) (x : Int32) (j y : Nat) : tR (dcr t x j) y = tR t y - (if (bgx t x y && decide (tL t y < j)) = true then 1 else 0) := by unfold dcr; simp only [tR]; split <;> rfl
theorem dcr_ge {t : NT} {x : Int32} {j c : Nat} (h : j ≤ tL t c) : dcr t x j c = t c := by
  unfold dcr
  rw [if_neg]
  rw [Bool.and_eq_true, decide_eq_true_eq]
  omega
theorem dcr_self {t : NT} {x : Int32} {a j : Nat} (hp : px (tB t a) (tL t a)) (h : ag (tB t a) x (tL t a)) (hj : tL t a < j) : dcr t x j a = dn1 (t a) := by
  unfold dcr
  rw [if_pos]
  rw [Bool.and_eq_true, bgx_iff hp, decide_eq_true_eq]
  exact ⟨h, hj⟩
theorem dcr_step {N : List Nat} {t : NT} {root a c y : Nat} {x : Int32} (h : ST N t root) (ha : a ∈ N) (hax : ag (tB t a) x (tL t a)) (hc : ch t a (bi x (tL t a)) = some c) (hy : y ∈ N) (hya : y ≠ a) : dcr t x (tL t c) y = dcr t x (tL t a) y := by
  obtain ⟨c1, c2, c3, c4⟩ := h.2.2.2.2.1 a ha _ c hc
  unfold dcr
  by_cases hb : bgx t x y = true
  · have hyx := (bgx_iff (h.2.2.1 y hy)).mp hb
    have key : tL t y < tL t c ↔ tL t y < tL t a := by
      refine ⟨fun g => ?_, fun g => by omega⟩
      rcases Nat.lt_trichotomy (tL t y) (tL t a) with q | q | q
      · exact q
      · exact absurd (h.2.2.2.1 y hy a ha q (ag_tr hyx (ag_sy (by rw [q]; exact hax)))) hya
      · obtain ⟨c', k1, k2, k3⟩ := st_step h ha hax hy hyx q
        rw [hc] at k1
        have e := Option.some.inj k1
        rw [← e] at k2
        omega
    rw [decide_eq_decide.mpr key]
  · simp [hb]
theorem rout_pos {N : List Nat} {t : NT} {b g : Nat} (hr : RC N t) (hb : b ∈ N) (hg : g ∈ N) (hR : isR t g = true) (hp : pb t b g = true) : 0 < tR t b := by
  rw [hr b hb]
  exact List.countP_pos_iff.mpr ⟨g, hg, by rw [hR, hp]; rfl⟩
def FKx (N : List Nat) (t : NT) (root g : Nat) : Prop := ∀ b ∈ N, b ≠ root → b ≠ g → isR t b = false → ∀ d, ch t b d ≠ none
/-- the route g is none any more; the counts above it fell -/
theorem cut_T1 {N : List Nat} {t : NT} {root g : Nat} (C : CI N t root) (hg : g ∈ N) (hR : isR t g = true) (t' : NT) (et : ∀ y ∈ N, t' y = if y = g then (tB t g, tL t g, (-1 : Int32), tR t g - 1, tZ t g, tO t g) else dcr t (tB t g) (tL t g) y) :
    ST N t' root ∧ RC N t' ∧ FKx N t' root g ∧ isR t' g = false ∧ (rts N t).Perm (rdt t g :: rts N t') := by
  obtain ⟨hs, hr, hf⟩ := C
  have eB : ∀ y ∈ N, tB t' y = tB t y := fun y hy => by
    show (t' y).1 = _
    rw [et y hy]; split
    · next e => subst e; rfl
    · exact dcr_B t _ _ y
  have eL : ∀ y ∈ N, tL t' y = tL t y := fun y hy => by
    show (t' y).2.1 = _
    rw [et y hy]; split
    · next e => subst e; rfl
    · exact dcr_L t _ _ y
  have eZ : ∀ y ∈ N, tZ t' y = tZ t y := fun y hy => by
    show (t' y).2.2.2.2.1 = _
    rw [et y hy]; split
    · next e => subst e; rfl
    · exact dcr_Z t _ _ y
  have eO : ∀ y ∈ N, tO t' y = tO t y := fun y hy => by
    show (t' y).2.2.2.2.2 = _
    rw [et y hy]; split
    · next e => subst e; rfl
    · exact dcr_O t _ _ y
  have eH : ∀ y ∈ N, tH t' y = if y = g then -1 else tH t y := fun y hy => by
    show (t' y).2.2.1 = _
    rw [et y hy]; split
    · rfl
    · exact dcr_H t _ _ y
  have pg := hs.2.2.1 g hg
  have eR : ∀ y ∈ N, tR t' y = tR t y - (if pb t y g = true then 1 else 0) := fun y hy => by
    show (t' y).2.2.2.1 = _
    rw [et y hy]; split
    · next e =>
      subst e
      rw [if_pos ((pb_iff pg).mpr ⟨Nat.le_refl _, ag_rf⟩)]
    · next e =>
      show tR (dcr t _ _) y = _
      rw [dcr_R]
      congr 2
      refine propext ?_
      rw [Bool.and_eq_true, bgx_iff (hs.2.2.1 y hy), decide_eq_true_eq, pb_iff (hs.2.2.1 y hy)]
      refine ⟨fun k => ⟨by omega, k.1⟩, fun k => ⟨k.2, ?_⟩⟩
      rcases Nat.lt_or_ge (tL t y) (tL t g) with q | q
      · exact q
      · exact absurd (hs.2.2.2.1 y hy g hg (by omega) k.2) e
  have hRg : isR t' g = false := by unfold isR; rw [eH g hg, if_pos rfl]; rfl
  have hRn : ∀ y ∈ N, y ≠ g → isR t' y = isR t y := fun y hy q => isR_eq (by rw [eH y hy, if_neg q])
  have hs' : ST N t' root := st_same hs (fun y hy => ⟨eB y hy, eL y hy, eZ y hy, eO y hy⟩)
  refine ⟨hs', fun b hb => ?_, fun b hb g1 g2 g3 d => ?_, hRg, ?_⟩
  · rw [eR b hb, hr b hb, cnt_split (p := fun y => isR t y && pb t b y) (q := fun y => isR t' y && pb t' b y) (r := fun y => (y == g) && pb t b g)]
    · cases hp : pb t b g with
      | false => simp
      | true => simp only [Bool.and_true, if_true]; rw [cnt_one hs.2.1 hg]; omega
    · intro y hy
      rw [pb_eq (eB b hb) (eL b hb) (eB y hy) (eL y hy)]
      by_cases e : y = g
      · subst e
        simp [hRg, hR]
      · rw [hRn y hy e]
        simp [e]
  · rw [hRn b hb g2] at g3
    have h2 := hf b hb g1 g3 d
    unfold ch at h2 ⊢
    rw [eZ b hb, eO b hb]
    exact h2
  · obtain ⟨M, m1, m2, m3, m4⟩ := rts_one (t := t) (t' := t') hg hs.2.1 (fun b hb e => by unfold rdt; rw [eB b hb, eL b hb, eH b hb, if_neg e])
    refine List.Perm.trans m2 (List.Perm.trans ?_ (List.Perm.cons _ m3.symm))
    rw [rts_cons, rts_cons, hRg, hR, m4]
    simp
theorem cnt_erase {N : List Nat} {p : Nat → Bool} {g : Nat} (hg : g ∈ N) (hp : p g = false) : (N.erase g).countP p = N.countP p := by
  rw [(List.perm_cons_erase hg).countP_eq p, List.countP_cons, hp]; simp
theorem drop_ci {N : List Nat} {t : NT} {root g p : Nat} {d : Bool} (h : ST N t root) (hr : RC N t) (hg : g ∈ N) (hgr : g ≠ root) (hp : p ∈ N) (hpg : ch t p d = some g) (hR : isR t g = false) (hone : tZ t g = none ∨ tO t g = none)
    (t' : NT) (et : ∀ y ∈ N, y ≠ g → t' y = if y = p then setch (t p) d ((tZ t g).or (tO t g)) else t y) : ST (N.erase g) t' root ∧ RC (N.erase g) t' ∧ (rts (N.erase g) t').Perm (rts N t) := by
  have hm : ∀ b, b ∈ N.erase g ↔ b ≠ g ∧ b ∈ N := fun b => h.2.1.mem_erase_iff
  have pne : p ≠ g := fun e => by have := (h.2.2.2.2.1 p hp d g hpg).2.1; rw [e] at this; omega
  have dat : ∀ b ∈ N, b ≠ g → tB t' b = tB t b ∧ tL t' b = tL t b ∧ tH t' b = tH t b ∧ tR t' b = tR t b := fun b hb e => by
    simp only [tB, tL, tH, tR]
    rw [et b hb e]; split
    · next e2 => subst e2; exact ⟨rfl, rfl, rfl, rfl⟩
    · exact ⟨rfl, rfl, rfl, rfl⟩
  have ec : ∀ b ∈ N, b ≠ g → ∀ d', ch t' b d' = if b = p ∧ d' = d then (tZ t g).or (tO t g) else ch t b d' := fun b hb e d' => by
    by_cases e2 : b = p
    · subst e2
      have e3 := et b hb e
      rw [if_pos rfl] at e3
      rw [ch_setch e3]
      by_cases z : d' = d
      · rw [if_pos z, if_pos ⟨rfl, z⟩]
      · rw [if_neg z, show (if b = b ∧ d' = d then (tZ t g).or (tO t g) else ch t b d') = ch t b d' from if_neg (fun k => z k.2)]; rfl
    · rw [if_neg (fun k => e2 k.1)]
      have e3 := et b hb e
      rw [if_neg e2] at e3
      unfold ch; simp only [tO, tZ, e3]
  have sT := st_del (one := (tZ t g).or (tO t g)) h hg hgr hp hpg (fun d' c k => by
      unfold ch at k
      rcases hone with z | z
      · cases d'
        · simp at k; rw [z] at k; cases k
        · simp at k; rw [z, k]; rfl
      · cases d'
        · simp at k; rw [k]; rfl
        · simp at k; rw [z] at k; cases k) (fun c k => by
      rcases hone with z | z
      · rw [z] at k; exact ⟨true, by unfold ch; rw [if_pos rfl]; simpa using k⟩
      · rw [z] at k; exact ⟨false, by unfold ch; rw [if_neg (by decide)]; simpa using k⟩) t' (fun b hb e => ⟨(dat b hb e).1, (dat b hb e).2.1⟩) (fun b hb e d' k => by rw [ec b hb e, if_neg k]) (by rw [ec p hp pne, if_pos ⟨rfl, rfl⟩])
  refine ⟨sT, fun b hb => ?_, ?_⟩
  · obtain ⟨n1, n2⟩ := (hm b).mp hb
    rw [(dat b n2 n1).2.2.2, hr b n2, ← cnt_erase (p := fun y => isR t y && pb t b y) hg (by rw [hR]; rfl)]
    refine cnt_congr fun y hy => ?_
    obtain ⟨m1, m2⟩ := (hm y).mp hy
    rw [isR_eq (dat y m2 m1).2.2.1, pb_eq (dat b n2 n1).1 (dat b n2 n1).2.1 (dat y m2 m1).1 (dat y m2 m1).2.1]
  · rw [rts_congr (t := t) (t' := t') (fun b hb => by
      obtain ⟨n1, n2⟩ := (hm b).mp hb
      unfold rdt; rw [(dat b n2 n1).1, (dat b n2 n1).2.1, (dat b n2 n1).2.2.1])]
    refine List.Perm.trans ?_ (rts_perm (List.perm_cons_erase hg)).symm
    rw [rts_cons, hR]
    simp
theorem drop_ch {N : List Nat} {t t' : NT} {g p : Nat} {d : Bool} {v : Option Nat} (et : ∀ y ∈ N, y ≠ g → t' y = if y = p then setch (t p) d v else t y) {b : Nat} (hb : b ∈ N) (e : b ≠ g) (d' : Bool) : ch t' b d' = if b = p ∧ d' = d then v else ch t b d' := by
  by_cases e2 : b = p
  · subst e2
    have e3 := et b hb e
    rw [if_pos rfl] at e3
    rw [ch_setch e3]
    by_cases z : d' = d
    · rw [if_pos z, if_pos ⟨rfl, z⟩]
    · rw [if_neg z, show (if b = b ∧ d' = d then v else ch t b d') = ch t b d' from if_neg (fun k => z k.2)]; rfl
  · rw [if_neg (fun k => e2 k.1)]
    have e3 := et b hb e
    rw [if_neg e2] at e3
    unfold ch; simp only [tO, tZ, e3]
theorem or_none {a b : Option Nat} : a.or b = none ↔ a = none ∧ b = none := by cases a <;> cases b <;> simp [Option.or]
