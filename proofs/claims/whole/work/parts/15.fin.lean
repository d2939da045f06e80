/-! the heap behind growing -/
def FR (f u : AH) (N : List Nat) (q : Nat) : Prop := ∀ b v, f b = some v → b ∉ N → b ≠ q → u b = some v
def GP (f : AH) (q : Nat) (N : List Nat) (t : NT) (root : Nat) (e : RT) (u : AH) : Prop := ∃ (N' : List Nat) (t' : NT), u q = some (trO root (nI N'.length)) ∧ TN u N' t' ∧ CI N' t' root ∧ (e :: rts N t).Perm (rts N' t') ∧ FR f u N q ∧ N'.length ≤ N.length + 2
theorem inc_self {t : NT} {x : Int32} {a : Nat} (hp : px (tB t a) (tL t a)) (h : ag (tB t a) x (tL t a)) : inc t x (tL t a) a = up1 (t a) := by
  unfold inc
  rw [if_pos]
  rw [Bool.and_eq_true, bgx_iff hp]
  exact ⟨h, by simp⟩
theorem inc_gt {t : NT} {x : Int32} {j c : Nat} (h : j < tL t c) : inc t x j c = t c := by
  unfold inc
  rw [if_neg]
  rw [Bool.and_eq_true, decide_eq_true_eq]
  omega
theorem q_notin {fc : AH} {N : List Nat} {t : NT} {q root : Nat} {cnt : Int32} (hq : fc q = some (trO root cnt)) (hT : TN fc N t) : q ∉ N := fun h => by
  have := (hT q h).symm.trans hq
  simp [ndo, ndE, trO] at this
theorem fr_notin {fc : AH} {N : List Nat} {t : NT} {q : Nat} (hq : fc q = none) (hT : TN fc N t) : q ∉ N := fun h => by
  have := (hT q h).symm.trans hq
  cases this
theorem fin_A {f fc u : AH} {N : List Nat} {t : NT} {root a l q : Nat} {x h : Int32} (C : CI N t root) (ha : a ∈ N) (hax : ag (tB t a) x (tL t a)) (hal : tL t a = l) (hx : px x l) (hh : ¬ h = -1) (hno : ∀ b ∈ N, tL t b = l → tB t b = x → isR t b = false)
    (hq : fc q = some (trO root (nI N.length))) (hT : TN fc N (inc t x (tL t a))) (hF : FR f fc N q) (hu : u = va_up fc a (some (ndE (tB t a) (nI (tL t a)) h (nI (tR t a + 1)) (tZ t a) (tO t a)))) : GP f q N t root (x, l, h) u := by
  have pa := C.1.2.2.1 a ha
  have hbx : tB t a = x := px_inj (hal ▸ pa) hx (hal ▸ hax)
  have hqN := q_notin hq hT
  obtain ⟨g1, g2⟩ := grow_A (t' := fun y => if y = a then sethop (inc t x l a) h else inc t x l y) C ha hal hbx (hno a ha hal hbx) hh (fun y _ => rfl)
  refine ⟨N, _, ?_, fun y hy => ?_, g1, g2, fun b v k1 k2 k3 => ?_, by omega⟩
  · have e : q ≠ a := fun e => hqN (e ▸ ha)
    rw [hu, va_up_ne _ _ e]; exact hq
  · by_cases e : y = a
    · subst e
      rw [hu, va_up_self]
      simp only [if_true]
      rw [← hal, inc_self pa hax]
      rfl
    · rw [hu, va_up_ne _ _ e]
      simp only [e, if_false]
      rw [← hal]
      exact hT y hy
  · have e : b ≠ a := fun e => k2 (e ▸ ha)
    rw [hu, va_up_ne _ _ e]; exact hF b v k1 k2 k3
theorem fin_BC {f fc u : AH} {N : List Nat} {t : NT} {root a l q fr rr : Nat} {zz oo : Option Nat} {x h : Int32} (C : CI N t root) (ha : a ∈ N) (hax : ag (tB t a) x (tL t a)) (hal : tL t a < l) (hx : px x l) (hh : ¬ h = -1) (hend : ∀ c, ch t a (bi x (tL t a)) = some c → ¬ (tL t c ≤ l ∧ ag (tB t c) x (tL t c)))
    (hq : fc q = some (trO root (nI N.length))) (hT : TN fc N (inc t x (tL t a))) (hF : FR f fc N q) (hfr : fc fr = none)
    (uf : u fr = some (ndE x (nI l) h (nI rr) zz oo)) (ua : u a = some (ndE (tB t a) (nI (tL t a)) (tH t a) (nI (tR t a + 1)) (if bi x (tL t a) = true then tZ t a else some fr) (if bi x (tL t a) = true then some fr else tO t a)))
    (uq : u q = some (trO root (nI N.length + 1))) (uo : ∀ b, b ≠ fr → b ≠ a → b ≠ q → u b = fc b)
    (hcase : (ch t a (bi x (tL t a)) = none ∧ rr = 1 ∧ zz = none ∧ oo = none) ∨ ∃ c, ch t a (bi x (tL t a)) = some c ∧ l < tL t c ∧ ag x (tB t c) l ∧ rr = tR t c + 1 ∧ zz = (if bi (tB t c) l = true then none else some c) ∧ oo = (if bi (tB t c) l = true then some c else none)) : GP f q N t root (x, l, h) u := by
  have pa := C.1.2.2.1 a ha
  have hqN := q_notin hq hT
  have hfN := fr_notin hfr hT
  have hqf : q ≠ fr := fun e => by rw [e, hfr] at hq; cases hq
  have fa : ∀ y ∈ N, y ≠ fr := fun y hy e => hfN (e ▸ hy)
  obtain ⟨t', et⟩ : ∃ t' : NT, t' = fun y => if y = fr then (x, l, h, rr, zz, oo) else if y = a then setch (inc t x l a) (bi x (tL t a)) (some fr) else inc t x l y := ⟨_, rfl⟩
  have tf : t' fr = (x, l, h, rr, zz, oo) := by rw [et]; simp
  have tN : ∀ y ∈ N, t' y = if y = a then setch (inc t x l a) (bi x (tL t a)) (some fr) else inc t x l y := fun y hy => by rw [et]; simp [fa y hy]
  have hcf : ∀ d, ch t' fr d = (ch t a (bi x (tL t a))).elim none (fun c => if d = bi (tB t c) l then some c else none) := fun d => by
    unfold ch; simp only [tO, tZ]; rw [tf]
    rcases hcase with ⟨c0, c1, c2, c3⟩ | ⟨c, c0, c1, c2, c3, c4, c5⟩
    · have c0' := c0; unfold ch at c0'; rw [c0']; subst c2; subst c3; cases d <;> rfl
    · have c0' := c0; unfold ch at c0'; rw [c0']; subst c4; subst c5; simp only [Option.elim]; cases d <;> cases bi (tB t c) l <;> simp
  obtain ⟨g1, g2⟩ := grow_BC (t' := t') C ha hax hal hx hfN hh (fun c k => by
      rcases hcase with ⟨c0, -⟩ | ⟨c', c0, c1, c2, -⟩
      · rw [c0] at k; cases k
      · rw [c0] at k; cases k; exact ⟨c1, c2⟩) tN ⟨by simp only [tB]; rw [tf], by simp only [tL]; rw [tf], by simp only [tH]; rw [tf], by
      simp only [tR]; rw [tf]
      rcases hcase with ⟨c0, c1, -⟩ | ⟨c', c0, -, -, c3, -⟩
      · rw [c0]; exact c1
      · rw [c0]; exact c3⟩ hcf
  refine ⟨fr :: N, t', ?_, fun y hy => ?_, g1, g2, fun b v k1 k2 k3 => ?_, by rw [List.length_cons]; omega⟩
  · rw [uq, nI_1]; rfl
  · rcases List.mem_cons.mp hy with e | hy1
    · subst e; rw [uf, tf]
    · rw [tN y hy1]
      by_cases e : y = a
      · subst e
        rw [if_pos rfl, ua, ← inc_end C.1 ha hax (Nat.le_of_lt hal) hend ha, inc_self pa hax]
        unfold setch up1; simp only [ndo]
      · rw [if_neg e, uo y (fa y hy1) e (fun k => hqN (k ▸ hy1)), ← inc_end C.1 ha hax (Nat.le_of_lt hal) hend hy1]
        exact hT y hy1
  · by_cases e : b = fr
    · have := hF b v k1 k2 k3; rw [e, hfr] at this; cases this
    · rw [uo b e (fun k => k2 (k ▸ ha)) k3]; exact hF b v k1 k2 k3
theorem fin_D {f fc u : AH} {N : List Nat} {t : NT} {root a l q fr g c k : Nat} {x h : Int32} (C : CI N t root) (ha : a ∈ N) (hax : ag (tB t a) x (tL t a)) (hal : tL t a < l) (hx : px x l) (hh : ¬ h = -1) (hend : ∀ c, ch t a (bi x (tL t a)) = some c → ¬ (tL t c ≤ l ∧ ag (tB t c) x (tL t c)))
    (hq : fc q = some (trO root (nI N.length))) (hT : TN fc N (inc t x (tL t a))) (hF : FR f fc N q) (hfr : fc fr = none) (hg : fc g = none) (hgf : fr ≠ g)
    (hc : ch t a (bi x (tL t a)) = some c) (kl : k < l) (kc : k < tL t c) (kag : ag (tB t c) x k) (kd : ¬ bi (tB t c) k = bi x k)
    (uf : u fr = some (ndE x (nI l) h (nI 1) none none)) (ug : u g = some (ndE (fb x k) (nI k) (-1) (nI (tR t c + 1)) (if bi x k = true then some c else some fr) (if bi x k = true then some fr else some c)))
    (ua : u a = some (ndE (tB t a) (nI (tL t a)) (tH t a) (nI (tR t a + 1)) (if bi x (tL t a) = true then tZ t a else some g) (if bi x (tL t a) = true then some g else tO t a)))
    (uq : u q = some (trO root (nI N.length + 1 + 1))) (uo : ∀ b, b ≠ fr → b ≠ g → b ≠ a → b ≠ q → u b = fc b) : GP f q N t root (x, l, h) u := by
  have pa := C.1.2.2.1 a ha
  have hqN := q_notin hq hT
  have hfN := fr_notin hfr hT
  have hgN := fr_notin hg hT
  have fa : ∀ y ∈ N, y ≠ fr := fun y hy e => hfN (e ▸ hy)
  have ga : ∀ y ∈ N, y ≠ g := fun y hy e => hgN (e ▸ hy)
  obtain ⟨t', et⟩ : ∃ t' : NT, t' = fun y => if y = fr then (x, l, h, 1, none, none) else if y = g then (fb x k, k, (-1 : Int32), tR t c + 1, if bi x k = true then some c else some fr, if bi x k = true then some fr else some c) else if y = a then setch (inc t x l a) (bi x (tL t a)) (some g) else inc t x l y := ⟨_, rfl⟩
  have tf : t' fr = (x, l, h, 1, none, none) := by rw [et]; simp
  have tg : t' g = (fb x k, k, (-1 : Int32), tR t c + 1, if bi x k = true then some c else some fr, if bi x k = true then some fr else some c) := by rw [et]; simp [Ne.symm hgf]
  have tN : ∀ y ∈ N, t' y = if y = a then setch (inc t x l a) (bi x (tL t a)) (some g) else inc t x l y := fun y hy => by rw [et]; simp [fa y hy, ga y hy]
  obtain ⟨g1, g2⟩ := grow_D (t' := t') (q := fr) (g := g) C ha hax hal hx hfN hgN hgf hh hc kl kc kag kd tN tf ⟨by simp only [tB]; rw [tg], by simp only [tL]; rw [tg], by simp only [tH]; rw [tg], by simp only [tR]; rw [tg]⟩ (fun d => by
    unfold ch; simp only [tO, tZ]; rw [tg]; cases d <;> cases bi x k <;> simp)
  refine ⟨fr :: g :: N, t', ?_, fun y hy => ?_, g1, g2, fun b v k1 k2 k3 => ?_, by rw [List.length_cons, List.length_cons]; omega⟩
  · rw [uq, nI_1, nI_1]; rfl
  · rcases List.mem_cons.mp hy with e | hy1
    · subst e; rw [uf, tf]
    · rcases List.mem_cons.mp hy1 with e | hy2
      · subst e; rw [ug, tg]
      · rw [tN y hy2]
        by_cases e : y = a
        · subst e
          rw [if_pos rfl, ua, ← inc_end C.1 ha hax (Nat.le_of_lt hal) hend ha, inc_self pa hax]
          unfold setch up1; simp only [ndo]
        · rw [if_neg e, uo y (fa y hy2) (ga y hy2) e (fun k => hqN (k ▸ hy2)), ← inc_end C.1 ha hax (Nat.le_of_lt hal) hend hy2]
          exact hT y hy2
  · by_cases e : b = fr
    · have := hF b v k1 k2 k3; rw [e, hfr] at this; cases this
    · by_cases e2 : b = g
      · have := hF b v k1 k2 k3; rw [e2, hg] at this; cases this
      · rw [uo b e e2 (fun k => k2 (k ▸ ha)) k3]; exact hF b v k1 k2 k3
