/-! the law's state: both objects in one heap -/
def XS (f : AH) (q : Nat) (N : List Nat) (t : NT) (root : Nat) : Prop := f q = some (trO root (nI N.length)) ∧ TN f N t
def MS (cy : ClassId) (f : AH) (qm ab al ah nb nl n : Nat) (B L Hh : Nat → Int32) : Prop := ∃ (cd nc : Int32) (NB NL : Nat → Int32), f qm = some (mdO cd ab al ah (nI n) nb nl nc) ∧ f ab = some (arO cy 500 B) ∧ f al = some (arO cy 500 L) ∧ f ah = some (arO cy 500 Hh) ∧ f nb = some (arO cy 1000 NB) ∧ f nl = some (arO cy 1000 NL)
def DSt (ab al ah nb nl : Nat) : Prop := ab ≠ al ∧ ab ≠ ah ∧ al ≠ ah ∧ ab ≠ nb ∧ ab ≠ nl ∧ al ≠ nb ∧ al ≠ nl ∧ ah ≠ nb ∧ ah ≠ nl ∧ nb ≠ nl
def LwS (cy : ClassId) (f : AH) (q qm ab al ah nb nl i : Nat) : Prop := ∃ (N : List Nat) (t : NT) (root n : Nat) (B L : Nat → Int32) (lam : Nat → Nat) (Hh : Nat → Int32), XS f q N t root ∧ MS cy f qm ab al ah nb nl n B L Hh ∧ n ≤ 500 ∧ REL N t root n B L lam Hh ∧ N.length ≤ 1 + i
section ST8
variable {cy : ClassId} {f u v : AH} {q qm ab al ah nb nl n : Nat} {N : List Nat} {t : NT} {root : Nat} {B L Hh : Nat → Int32} {lam : Nat → Nat}
theorem not_node (hX : XS f q N t root) {b : Nat} {e : va_E} (h : f b = some e) (h1 : ∀ x, e ≠ ndo x) (h2 : ∀ r k, e ≠ trO r k) : b ∉ N ∧ b ≠ q := by
  refine ⟨fun g => ?_, fun g => ?_⟩
  · exact h1 (t b) (Option.some.inj (h.symm.trans (hX.2 b g)))
  · subst g; exact h2 _ _ (Option.some.inj (h.symm.trans hX.1))
theorem ms_fr (hX : XS f q N t root) (hM : MS cy f qm ab al ah nb nl n B L Hh) (hF : FR f u N q) : MS cy u qm ab al ah nb nl n B L Hh := by
  obtain ⟨cd, nc, NB, NL, m1, m2, m3, m4, m5, m6⟩ := hM
  have k : ∀ {b : Nat} {e : va_E}, f b = some e → (∀ x, e ≠ ndo x) → (∀ r k, e ≠ trO r k) → u b = some e := fun {b e} g g1 g2 => by
    obtain ⟨a1, a2⟩ := not_node hX g g1 g2
    exact hF b e g a1 a2
  exact ⟨cd, nc, NB, NL, k m1 (fun x => by simp [ndo, ndE]) (fun r k => by simp), k m2 (fun x => by simp [ndo, ndE]) (fun r k => by simp), k m3 (fun x => by simp [ndo, ndE]) (fun r k => by simp), k m4 (fun x => by simp [ndo, ndE]) (fun r k => by simp), k m5 (fun x => by simp [ndo, ndE]) (fun r k => by simp), k m6 (fun x => by simp [ndo, ndE]) (fun r k => by simp)⟩
theorem xs_keep (hX : XS f q N t root) (hM : MS cy f qm ab al ah nb nl n B L Hh) (hF : ∀ b, b ≠ qm → b ≠ ab → b ≠ al → b ≠ ah → b ≠ nb → b ≠ nl → u b = f b) : XS u q N t root := by
  obtain ⟨cd, nc, NB, NL, m1, m2, m3, m4, m5, m6⟩ := hM
  have k : ∀ {b : Nat} {e : va_E}, f b = some e → ((∃ x, e = ndo x) ∨ ∃ r k, e = trO r k) → u b = some e := fun {b e} g g1 => by
    rw [hF b ?_ ?_ ?_ ?_ ?_ ?_]
    · exact g
    · rintro rfl
      have z := Option.some.inj (g.symm.trans m1)
      rcases g1 with ⟨x, w⟩ | ⟨r, k, w⟩ <;> rw [w] at z <;> simp [ndo, ndE] at z
    · rintro rfl
      have z := Option.some.inj (g.symm.trans m2)
      rcases g1 with ⟨x, w⟩ | ⟨r, k, w⟩ <;> rw [w] at z <;> simp [ndo, ndE] at z
    · rintro rfl
      have z := Option.some.inj (g.symm.trans m3)
      rcases g1 with ⟨x, w⟩ | ⟨r, k, w⟩ <;> rw [w] at z <;> simp [ndo, ndE] at z
    · rintro rfl
      have z := Option.some.inj (g.symm.trans m4)
      rcases g1 with ⟨x, w⟩ | ⟨r, k, w⟩ <;> rw [w] at z <;> simp [ndo, ndE] at z
    · rintro rfl
      have z := Option.some.inj (g.symm.trans m5)
      rcases g1 with ⟨x, w⟩ | ⟨r, k, w⟩ <;> rw [w] at z <;> simp [ndo, ndE] at z
    · rintro rfl
      have z := Option.some.inj (g.symm.trans m6)
      rcases g1 with ⟨x, w⟩ | ⟨r, k, w⟩ <;> rw [w] at z <;> simp [ndo, ndE] at z
  exact ⟨k hX.1 (Or.inr ⟨_, _, rfl⟩), fun a ha => k (hX.2 a ha) (Or.inl ⟨_, rfl⟩)⟩
/-- only the reference's object was written: what it holds besides its counters stays -/
theorem ms_up {cd nc : Int32} {NB NL : Nat → Int32} (m2 : f ab = some (arO cy 500 B)) (m1 : f qm = some (mdO cd ab al ah (nI n) nb nl nc)) (m3 : f al = some (arO cy 500 L)) (m4 : f ah = some (arO cy 500 Hh)) (m5 : f nb = some (arO cy 1000 NB)) (m6 : f nl = some (arO cy 1000 NL)) {n' : Nat} {cd' nc' : Int32} (hu : u = va_up f qm (some (mdO cd' ab al ah (nI n') nb nl nc'))) : MS cy u qm ab al ah nb nl n' B L Hh := by
  have k : ∀ {b : Nat} {e : va_E}, f b = some e → (∀ a b c d e' g h i, e ≠ mdO a b c d e' g h i) → u b = some e := fun {b e} g g1 => by
    have : b ≠ qm := fun z => by subst z; exact g1 _ _ _ _ _ _ _ _ (Option.some.inj (g.symm.trans m1))
    rw [hu, va_up_ne _ _ this]; exact g
  exact ⟨cd', nc', NB, NL, by rw [hu]; exact va_up_self _ _ _, k m2 (fun _ _ _ _ _ _ _ _ => by simp), k m3 (fun _ _ _ _ _ _ _ _ => by simp), k m4 (fun _ _ _ _ _ _ _ _ => by simp), k m5 (fun _ _ _ _ _ _ _ _ => by simp), k m6 (fun _ _ _ _ _ _ _ _ => by simp)⟩
/-- a reading call: nothing but the reference's counters moved -/
theorem ls_read {i : Nat} {cd nc cd' nc' : Int32} {NB NL : Nat → Int32} (hX : XS f q N t root) (m1 : f qm = some (mdO cd ab al ah (nI n) nb nl nc)) (m2 : f ab = some (arO cy 500 B)) (m3 : f al = some (arO cy 500 L)) (m4 : f ah = some (arO cy 500 Hh)) (m5 : f nb = some (arO cy 1000 NB)) (m6 : f nl = some (arO cy 1000 NL)) (hn : n ≤ 500) (hR : REL N t root n B L lam Hh) (hN : N.length ≤ 1 + i) (hu : u = va_up f qm (some (mdO cd' ab al ah (nI n) nb nl nc'))) : LwS cy u q qm ab al ah nb nl (i + 4) :=
  ⟨N, t, root, n, B, L, lam, Hh, xs_keep hX ⟨cd, nc, NB, NL, m1, m2, m3, m4, m5, m6⟩ (fun b g _ _ _ _ _ => by rw [hu, va_up_ne _ _ g]), ms_up m2 m1 m3 m4 m5 m6 hu, hn, hR, by omega⟩
theorem ls_nodes {i : Nat} {cd nc : Int32} {NB NL NB' NL' : Nat → Int32} {nc' : Int32} (hd : DSt ab al ah nb nl) (hX : XS f q N t root) (m1 : f qm = some (mdO cd ab al ah (nI n) nb nl nc)) (m2 : f ab = some (arO cy 500 B)) (m3 : f al = some (arO cy 500 L)) (m4 : f ah = some (arO cy 500 Hh)) (m5 : f nb = some (arO cy 1000 NB)) (m6 : f nl = some (arO cy 1000 NL)) (hn : n ≤ 500) (hR : REL N t root n B L lam Hh) (hN : N.length ≤ 1 + i) (u1 : u qm = some (mdO 0 ab al ah (nI n) nb nl nc')) (u2 : u nb = some (arO cy 1000 NB')) (u3 : u nl = some (arO cy 1000 NL')) (uF : FM3 f u qm nb nl) : LwS cy u q qm ab al ah nb nl (i + 4) := by
  obtain ⟨d1, d2, d3, d4, d5, d6, d7, d8, d9, d10⟩ := hd
  have nq : ∀ {b : Nat} {e : va_E}, f b = some e → (∀ a b c d e' g h i, e ≠ mdO a b c d e' g h i) → b ≠ qm := fun {b e} g g1 z => by subst z; exact g1 _ _ _ _ _ _ _ _ (Option.some.inj (g.symm.trans m1))
  refine ⟨N, t, root, n, B, L, lam, Hh, xs_keep hX ⟨cd, nc, NB, NL, m1, m2, m3, m4, m5, m6⟩ (fun b g _ _ _ g5 g6 => uF b g g5 g6), ⟨0, nc', NB', NL', u1, ?_, ?_, ?_, u2, u3⟩, hn, hR, by omega⟩
  · rw [uF ab (nq m2 (fun _ _ _ _ _ _ _ _ => by simp)) d4 d5]; exact m2
  · rw [uF al (nq m3 (fun _ _ _ _ _ _ _ _ => by simp)) d6 d7]; exact m3
  · rw [uF ah (nq m4 (fun _ _ _ _ _ _ _ _ => by simp)) d8 d9]; exact m4
theorem in_fr {x l0 h r : Int32} (hI : INp f q N t root x l0 h r u) : FR f u N q := by
  rcases hI with ⟨-, -, e⟩ | ⟨-, k, -, -, ⟨a, ha, -, -, -, -, e⟩ | ⟨-, ⟨-, -, e⟩ | ⟨-, -, g⟩⟩⟩
  · rw [e]; exact fun b v k _ _ => k
  · intro b v k1 k2 k3
    have : b ≠ a := fun z => k2 (z ▸ ha)
    rw [e, va_up_ne _ _ this]; exact k1
  · rw [e]; exact fun b v k _ _ => k
  · obtain ⟨N', t', -, -, -, -, g, -⟩ := g; exact g
theorem step_ins {i : Nat} {x l0 h r r' : Int32} (hd : DSt ab al ah nb nl) (hX : XS f q N t root) (hM : MS cy f qm ab al ah nb nl n B L Hh) (hn : n ≤ 500) (hR : REL N t root n B L lam Hh) (hN : N.length ≤ 1 + i) (hI : INp f q N t root x l0 h r u) {cd nc : Int32} {NB NL : Nat → Int32} (m1 : u qm = some (mdO cd ab al ah (nI n) nb nl nc)) (m2 : u ab = some (arO cy 500 B)) (m3 : u al = some (arO cy 500 L)) (m4 : u ah = some (arO cy 500 Hh)) (m5 : u nb = some (arO cy 1000 NB)) (m6 : u nl = some (arO cy 1000 NL)) (hJ : MIp cy u qm ab al ah nb nl nc n B L Hh x l0 h r' v) : r = r' ∧ LwS cy v q qm ab al ah nb nl (i + 4) := by
  have hMu : MS cy u qm ab al ah nb nl n B L Hh := ⟨cd, nc, NB, NL, m1, m2, m3, m4, m5, m6⟩
  rcases hI with ⟨c1, c2, c3⟩ | ⟨c1, k, c2, c3, c4⟩
  · rcases hJ with ⟨-, e2, e3⟩ | ⟨e1, e2, -⟩
    · rw [c3] at e3 m1 m2 m3 m4 m5 m6
      exact ⟨by rw [c2, e2], ls_read hX m1 m2 m3 m4 m5 m6 hn hR hN e3⟩
    · rcases c1 with c1 | c1
      · exact absurd e1 c1
      · exact absurd c1 e2
  · have hok : okP x l0 := ⟨k, c2, c3⟩
    have hh : ¬ h = -1 := fun e => c1 (by rw [e]; decide)
    have k32 := c3.1
    subst c2
    have hfd := rel_find hR (x := x) k32
    rcases hJ with ⟨e1, -, -⟩ | ⟨-, -, e4⟩
    · rcases e1 with e1 | e1
      · exact absurd hok e1
      · exact absurd e1 c1
    · rcases c4 with ⟨a, a1, a2, a3, a4, a5, a6⟩ | ⟨c5, c6⟩
      · rcases e4 with ⟨j, j1, j2, j3, j4, j5⟩ | ⟨e5, -⟩
        · have e1 : B j = tB t a := by rw [j2, a3]
          have e2 : lam j = tL t a := by
            have hw := hR.2.1.1 j j1
            rw [hw.1] at j3
            rw [a2]
            exact (nI_eq (by have := hw.2.1.1; omega) (by omega)).mp j3
          have hXu : XS u q N (va_up t a (sethop (t a) h)) root := by
            have naq : q ≠ a := fun e => q_notin hX.1 hX.2 (e ▸ a1)
            refine ⟨by rw [a6, va_up_ne _ _ naq]; exact hX.1, fun y hy => ?_⟩
            by_cases e : y = a
            · subst e; rw [a6, va_up_self, va_up_self]
            · rw [a6, va_up_ne _ _ e, va_up_ne _ _ e]; exact hX.2 y hy
          obtain ⟨d1, d2, d3, d4, d5, d6, d7, d8, d9, d10⟩ := hd
          have nq : ∀ {b : Nat} {e : va_E}, u b = some e → (∀ a b c d e' g h i, e ≠ mdO a b c d e' g h i) → b ≠ qm := fun {b e} g g1 z => by subst z; exact g1 _ _ _ _ _ _ _ _ (Option.some.inj (g.symm.trans m1))
          have nah := nq m4 (fun _ _ _ _ _ _ _ _ => by simp)
          refine ⟨by rw [a5, j4], N, va_up t a (sethop (t a) h), root, n, B, L, lam, upd Hh j h, xs_keep hXu hMu (fun b g1 g2 g3 g4 g5 g6 => by rw [j5, va_up_ne _ _ g4, va_up_ne _ _ g1]), ⟨0, nc, NB, NL, ?_, ?_, ?_, ?_, ?_, ?_⟩, hn, rel_hop hR a1 a4 j1 e1 e2 hh, by omega⟩
          · rw [j5, va_up_ne _ _ (Ne.symm nah)]; exact va_up_self _ _ _
          · rw [j5, va_up_ne _ _ d2, va_up_ne _ _ (nq m2 (fun _ _ _ _ _ _ _ _ => by simp))]; exact m2
          · rw [j5, va_up_ne _ _ d3, va_up_ne _ _ (nq m3 (fun _ _ _ _ _ _ _ _ => by simp))]; exact m3
          · rw [j5]; exact va_up_self _ _ _
          · rw [j5, va_up_ne _ _ (Ne.symm d8), va_up_ne _ _ (nq m5 (fun _ _ _ _ _ _ _ _ => by simp))]; exact m5
          · rw [j5, va_up_ne _ _ (Ne.symm d9), va_up_ne _ _ (nq m6 (fun _ _ _ _ _ _ _ _ => by simp))]; exact m6
        · exfalso
          obtain ⟨j, j1, j2, j3⟩ := hfd.mpr ⟨a, a1, a4, a2, a3⟩
          exact e5 j j1 ⟨j2, j3⟩
      · rcases e4 with ⟨j, j1, j2, j3, -, -⟩ | ⟨e5, e6⟩
        · exfalso
          obtain ⟨a, a1, a2, a3, a4⟩ := hfd.mp ⟨j, j1, j2, j3⟩
          exact c5 a a1 a2 a3 a4
        · have hc := rel_count hR
          rcases c6 with ⟨c7, c8, c9⟩ | ⟨c7, c8, c9⟩
          · rcases e6 with ⟨-, e8, e9⟩ | ⟨e7, -⟩
            · rw [c9] at e9 m1 m2 m3 m4 m5 m6
              exact ⟨by rw [c8, e8], ls_read hX m1 m2 m3 m4 m5 m6 hn hR hN e9⟩
            · omega
          · rcases e6 with ⟨e7, -, -⟩ | ⟨e7, e8, p, p1, p2, p3, v1, v2, v3, v4, vF⟩
            · omega
            · obtain ⟨N', t', g1, g2, g3, g4, g5, g6⟩ := c9
              refine ⟨by rw [c8, e8], N', t', root, n + 1, _, _, _, _, xs_keep (f := u) ⟨g1, g2⟩ hMu (fun b h1 h2 h3 h4 _ _ => vF b h1 h2 h3 h4), ⟨0, nc, NB, NL, v1, v2, v3, v4, ?_, ?_⟩, by omega, rel_ins hR g3 g4 c3 hh p1 p2 p3 (fun j hj => e5 j hj), by omega⟩
              · obtain ⟨d1, d2, d3, d4, d5, d6, d7, d8, d9, d10⟩ := hd
                have nq : nb ≠ qm := fun z => by rw [z, m1] at m5; simp at m5
                rw [vF nb nq (Ne.symm d4) (Ne.symm d6) (Ne.symm d8)]; exact m5
              · obtain ⟨d1, d2, d3, d4, d5, d6, d7, d8, d9, d10⟩ := hd
                have nq : nl ≠ qm := fun z => by rw [z, m1] at m6; simp at m6
                rw [vF nl nq (Ne.symm d5) (Ne.symm d7) (Ne.symm d9)]; exact m6
def RMp (f : AH) (q : Nat) (N : List Nat) (t : NT) (root : Nat) (x n r : Int32) (u : AH) : Prop := (∃ a ∈ N, n = nI (tL t a) ∧ tB t a = x ∧ isR t a = true ∧ r = 1 ∧ CP f q N t root a u) ∨ ((∀ a ∈ N, isR t a = true → n = nI (tL t a) → ¬ tB t a = x) ∧ r = 0 ∧ u = f)
theorem rm_fr {x l0 r : Int32} (hI : RMp f q N t root x l0 r u) : FR f u N q := by
  rcases hI with ⟨a, -, -, -, -, -, N', t', -, -, -, -, g, -⟩ | ⟨-, -, e⟩
  · exact g
  · rw [e]; exact fun b v k _ _ => k
theorem step_rem {i : Nat} {x l0 r r' : Int32} (hd : DSt ab al ah nb nl) (hX : XS f q N t root) (hn : n ≤ 500) (hR : REL N t root n B L lam Hh) (hN : N.length ≤ 1 + i) (hI : RMp f q N t root x l0 r u) {cd nc : Int32} {NB NL : Nat → Int32} (m1 : u qm = some (mdO cd ab al ah (nI n) nb nl nc)) (m2 : u ab = some (arO cy 500 B)) (m3 : u al = some (arO cy 500 L)) (m4 : u ah = some (arO cy 500 Hh)) (m5 : u nb = some (arO cy 1000 NB)) (m6 : u nl = some (arO cy 1000 NL)) (hJ : MRp cy u qm ab al ah nb nl nc n B L Hh x l0 r' v) : r = r' ∧ LwS cy v q qm ab al ah nb nl (i + 4) := by
  have hMu : MS cy u qm ab al ah nb nl n B L Hh := ⟨cd, nc, NB, NL, m1, m2, m3, m4, m5, m6⟩
  rcases hI with ⟨a, a1, a2, a3, a4, a5, N', t', g1, g2, g3, g4, g5, g6⟩ | ⟨c1, c2, c3⟩
  · have l32 := (hR.1.1.2.2.1 a a1).1
    have hfd := rel_find hR (x := x) l32
    rcases hJ with ⟨e1, -, -⟩ | ⟨j, j1, j2, j3, j4, v1, v2, v3, v4, vF⟩
    · exfalso
      obtain ⟨j, j1, j2, j3⟩ := hfd.mpr ⟨a, a1, a4, rfl, a3⟩
      exact e1 j j1 ⟨j2, by rw [j3, a2]⟩
    · have e1 : B j = tB t a := by rw [j2, a3]
      have e2 : lam j = tL t a := by
        have hw := hR.2.1.1 j j1
        rw [hw.1, a2] at j3
        exact (nI_eq (by have := hw.2.1.1; omega) (by omega)).mp j3
      obtain ⟨d1, d2, d3, d4, d5, d6, d7, d8, d9, d10⟩ := hd
      refine ⟨by rw [a5, j4], N', t', root, n - 1, _, _, _, _, xs_keep (f := u) ⟨g1, g2⟩ hMu (fun b h1 h2 h3 h4 _ _ => vF b h1 h2 h3 h4), ⟨0, nc, NB, NL, v1, v2, v3, v4, ?_, ?_⟩, by omega, rel_del hR a1 a4 g3 g4 j1 e1 e2, by omega⟩
      · have nq : nb ≠ qm := fun z => by rw [z, m1] at m5; simp at m5
        rw [vF nb nq (Ne.symm d4) (Ne.symm d6) (Ne.symm d8)]; exact m5
      · have nq : nl ≠ qm := fun z => by rw [z, m1] at m6; simp at m6
        rw [vF nl nq (Ne.symm d5) (Ne.symm d7) (Ne.symm d9)]; exact m6
  · rcases hJ with ⟨-, e2, e3⟩ | ⟨j, j1, j2, j3, -⟩
    · rw [c3] at e3 m1 m2 m3 m4 m5 m6
      exact ⟨by rw [c2, e2], ls_read hX m1 m2 m3 m4 m5 m6 hn hR hN e3⟩
    · exfalso
      obtain ⟨a, a1, a2, a3, a4, -⟩ := rel_node hR j1
      exact c1 a a1 a2 (by rw [a4, ← j3, (hR.2.1.1 j j1).1]) (a3.trans j2)
theorem step_init {i : Nat} (hX : XS f q N t root) (hR : REL N t root n B L lam Hh) (u1 : u q = some (trO root 1)) (u2 : u root = some (ndE (tB t root) (nI (tL t root)) (-1) 0 none none)) {cd nc : Int32} {NB NL : Nat → Int32} (m1 : u qm = some (mdO cd ab al ah (nI n) nb nl nc)) (m2 : u ab = some (arO cy 500 B)) (m3 : u al = some (arO cy 500 L)) (m4 : u ah = some (arO cy 500 Hh)) (m5 : u nb = some (arO cy 1000 NB)) (m6 : u nl = some (arO cy 1000 NL)) (hv : v = va_up u qm (some (mdO 0 ab al ah 0 nb nl nc))) : LwS cy v q qm ab al ah nb nl (i + 4) := by
  have hs := hR.1.1
  have hr0 : tB t root = 0 := by have := hs.2.2.1 root hs.1.1; rw [hs.1.2] at this; exact px_inj this px_0 ag_0
  have hXu : XS u q [root] (fun _ => (0, 0, -1, 0, none, none)) root := ⟨u1, fun a ha => by rw [List.mem_singleton.mp ha, u2, hr0, hs.1.2]; rfl⟩
  refine ⟨[root], fun _ => (0, 0, -1, 0, none, none), root, 0, B, L, lam, Hh, xs_keep hXu ⟨cd, nc, NB, NL, m1, m2, m3, m4, m5, m6⟩ (fun b g _ _ _ _ _ => by rw [hv, va_up_ne _ _ g]), ms_up (n' := 0) m2 m1 m3 m4 m5 m6 hv, by omega, rel_init rfl B L Hh lam, ?_⟩
  rw [List.length_singleton]; omega
end ST8
