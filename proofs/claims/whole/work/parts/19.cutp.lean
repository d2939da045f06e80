/-! the heap behind cutting -/
def CP (f : AH) (q : Nat) (N : List Nat) (t : NT) (root g : Nat) (u : AH) : Prop := ∃ (N' : List Nat) (t' : NT), u q = some (trO root (nI N'.length)) ∧ TN u N' t' ∧ CI N' t' root ∧ (rts N t).Perm (rdt t g :: rts N' t') ∧ FR f u N q ∧ N'.length ≤ N.length
/-- what dropIfIdle does to the heap, p over g -/
def DRp (f : AH) (q root : Nat) (cnt : Int32) (p1 : Nat) (pb0 pn ph pr : Int32) (pz po : Option Nat) (g : Nat) (gh : Int32) (gz go : Option Nat) (u : AH) : Prop :=
  (((¬ gh = -1) ∨ ((¬ gz = none) ∧ ¬ go = none)) ∧ u = f) ∨ (gh = -1 ∧ (gz = none ∨ go = none) ∧ ((po = some g ∧ u = va_up (va_up f p1 (some (ndE pb0 pn ph pr pz (gz.or go)))) q (some (trO root (cnt - 1)))) ∨ ((¬ po = some g) ∧ u = va_up (va_up f p1 (some (ndE pb0 pn ph pr (gz.or go) po))) q (some (trO root (cnt - 1))))))
abbrev DRn (f : AH) (q root : Nat) (cnt : Int32) (t : NT) (p g : Nat) (u : AH) : Prop := DRp f q root cnt p (tB t p) (nI (tL t p)) (tH t p) (nI (tR t p)) (tZ t p) (tO t p) g (tH t g) (tZ t g) (tO t g) u
theorem drop_d {N : List Nat} {t : NT} {root g p : Nat} {d : Bool} (h : ST N t root) (hp : p ∈ N) (hpg : ch t p d = some g) : tO t p = some g ↔ d = true := by
  constructor
  · intro k
    have k1 : ch t p true = some g := k
    have e1 := (h.2.2.2.2.1 p hp _ g k1).2.2.2
    have e2 := (h.2.2.2.2.1 p hp _ g hpg).2.2.2
    rw [← e2, e1]
  · intro k; subst k; exact hpg
/-- dropIfIdle on nodes of the tree: either it had no cause, or the node is gone -/
theorem drop_heap {fc u : AH} {N : List Nat} {t : NT} {root q g p : Nat} {d : Bool} (h : ST N t root) (hr : RC N t) (hq : fc q = some (trO root (nI N.length))) (hT : TN fc N t) (hg : g ∈ N) (hgr : g ≠ root) (hp : p ∈ N) (hpg : ch t p d = some g) (hD : DRn fc q root (nI N.length) t p g u) :
    ((isR t g = true ∨ ((¬ tZ t g = none) ∧ ¬ tO t g = none)) ∧ u = fc) ∨ (isR t g = false ∧ ∃ t' : NT, (∀ y ∈ N, y ≠ g → t' y = if y = p then setch (t p) d ((tZ t g).or (tO t g)) else t y) ∧ ST (N.erase g) t' root ∧ RC (N.erase g) t' ∧ (rts (N.erase g) t').Perm (rts N t) ∧ TN u (N.erase g) t' ∧ u q = some (trO root (nI (N.erase g).length)) ∧ FR fc u N q) := by
  have hqN := q_notin hq hT
  have npq : p ≠ q := fun e => hqN (e ▸ hp)
  rcases hD with ⟨h1, h2⟩ | ⟨h1, h2, h3⟩
  · refine Or.inl ⟨?_, h2⟩
    rcases h1 with k | k
    · exact Or.inl (isR_iff.mpr k)
    · exact Or.inr k
  · have hR : isR t g = false := by unfold isR; rw [h1]; rfl
    refine Or.inr ⟨hR, fun y => if y = p then setch (t p) d ((tZ t g).or (tO t g)) else t y, fun y _ _ => rfl, ?_⟩
    obtain ⟨k1, k2, k3⟩ := drop_ci (t' := fun y => if y = p then setch (t p) d ((tZ t g).or (tO t g)) else t y) h hr hg hgr hp hpg hR h2 (fun y _ _ => rfl)
    have eu : u = va_up (va_up fc p (some (ndo (setch (t p) d ((tZ t g).or (tO t g)))))) q (some (trO root (nI N.length - 1))) := by
      rcases h3 with ⟨e1, e2⟩ | ⟨e1, e2⟩
      · rw [e2, (drop_d h hp hpg).mp e1]; rfl
      · have : d = false := by
          cases d with
          | false => rfl
          | true => exact absurd ((drop_d h hp hpg).mpr rfl) e1
        rw [e2, this]; rfl
    refine ⟨k1, k2, k3, fun y hy => ?_, ?_, fun b v g1 g2 g3 => ?_⟩
    · obtain ⟨n1, n2⟩ := h.2.1.mem_erase_iff.mp hy
      have nyq : y ≠ q := fun e => hqN (e ▸ n2)
      by_cases e : y = p
      · subst e; rw [eu, va_up_ne _ _ nyq, va_up_self]; simp only [if_true]
      · rw [eu, va_up_ne _ _ nyq, va_up_ne _ _ e]; simp only [e, if_false]; exact hT y n2
    · have hlen : 0 < N.length := List.length_pos_of_mem hg
      rw [eu, va_up_self, List.length_erase_of_mem hg, show (1 : Int32) = nI 1 from rfl, pk_sub (by omega)]
    · have e1 : b ≠ p := fun e => g2 (e ▸ hp)
      rw [eu, va_up_ne _ _ g3, va_up_ne _ _ e1]; exact g1
theorem FR.trans {f g u : AH} {N M : List Nat} {q : Nat} (h1 : FR f g N q) (h2 : FR g u M q) (hM : ∀ b ∈ M, b ∈ N) : FR f u N q := fun b v k1 k2 k3 => h2 b v (h1 b v k1 k2 k3) (fun z => k2 (hM b z)) k3
/-- the root itself -/
theorem cut_R {f f1 u : AH} {N : List Nat} {t t1 : NT} {root q g : Nat} (hq : f1 q = some (trO root (nI N.length))) (hT : TN f1 N t1) (h1 : ST N t1 root ∧ RC N t1 ∧ FKx N t1 root g ∧ isR t1 g = false ∧ (rts N t).Perm (rdt t g :: rts N t1)) (hF : FR f f1 N q) (hgr : g = root) (hu : u = f1) : CP f q N t root g u := by
  rw [hu]
  exact ⟨N, t1, hq, hT, ⟨h1.1, h1.2.1, fun b hb g1 g2 => h1.2.2.1 b hb g1 (by rw [hgr]; exact g1) g2⟩, h1.2.2.2.2, hF, Nat.le_refl _⟩
theorem cut_P {f f1 f2 u : AH} {N : List Nat} {t t1 : NT} {root q g p : Nat} {d : Bool} (hq : f1 q = some (trO root (nI N.length))) (hT : TN f1 N t1) (h1 : ST N t1 root ∧ RC N t1 ∧ FKx N t1 root g ∧ isR t1 g = false ∧ (rts N t).Perm (rdt t g :: rts N t1)) (hF : FR f f1 N q) (hg : g ∈ N) (hp : p ∈ N) (hpg : ch t1 p d = some g)
    (D1 : DRn f1 q root (nI N.length) t1 p g f2)
    (D2 : (p = root ∧ u = f2) ∨ ∃ (g2 : Nat) (d2 : Bool), g2 ∈ N ∧ ch t1 g2 d2 = some p ∧ ∀ (M : List Nat) (tm : NT), f2 q = some (trO root (nI M.length)) → TN f2 M tm → g2 ∈ M → p ∈ M → DRn f2 q root (nI M.length) tm g2 p u) : CP f q N t root g u := by
  obtain ⟨hs, hr, hk, hR, hpm⟩ := h1
  have root0 : ∀ x y d', x ∈ N → ch t1 x d' = some y → y ≠ root := fun x y d' hx e k => by
    have := (hs.2.2.2.2.1 x hx d' y e).2.1
    rw [k, hs.1.2] at this; omega
  have hgr : g ≠ root := root0 p g d hp hpg
  have pne : p ≠ g := fun e => by have := (hs.2.2.2.2.1 p hp d g hpg).2.1; rw [e] at this; omega
  rcases drop_heap hs hr hq hT hg hgr hp hpg D1 with ⟨k1, k2⟩ | ⟨-, t2, e2, s2, r2, p2, T2, q2, F2⟩
  · -- g stays: it parts two
    have hFK : FK N t1 root := fun b hb g1 g2 d' => by
      by_cases e : b = g
      · subst e
        rcases k1 with k | k
        · rw [hR] at k; cases k
        · unfold ch; split
          · exact k.2
          · exact k.1
      · exact hk b hb g1 e g2 d'
    have done : u = f2 → CP f q N t root g u := fun e => by rw [e, k2]; exact ⟨N, t1, hq, hT, ⟨hs, hr, hFK⟩, hpm, hF, Nat.le_refl _⟩
    rcases D2 with ⟨-, e⟩ | ⟨g2, d2, hg2, hc2, D2⟩
    · exact done e
    · have hpr := root0 g2 p d2 hg2 hc2
      rw [k2] at D2 done
      rcases drop_heap hs hr hq hT hp hpr hg2 hc2 (D2 N t1 hq hT hg2 hp) with ⟨-, m2⟩ | ⟨m1, -⟩
      · exact done m2
      · -- it would have to be idle
        have z1 := hFK p hp hpr m1 false
        have z2 := hFK p hp hpr m1 true
        rcases D2 N t1 hq hT hg2 hp with ⟨-, m⟩ | ⟨-, m, -⟩
        · exact done m
        · rcases m with m | m
          · exact absurd m z1
          · exact absurd m z2
  · have hm : ∀ b, b ∈ N.erase g ↔ b ≠ g ∧ b ∈ N := fun b => hs.2.1.mem_erase_iff
    have hp2 : p ∈ N.erase g := (hm p).mpr ⟨pne, hp⟩
    have hFk2 : FKx (N.erase g) t2 root p := fun b hb g1 g2 g3 d' => by
      obtain ⟨n1, n2⟩ := (hm b).mp hb
      rw [drop_ch e2 n2 n1, if_neg (fun k => g2 k.1)]
      refine hk b n2 g1 n1 ?_ d'
      have e3 := e2 b n2 n1
      rw [if_neg g2] at e3
      unfold isR at g3 ⊢; simp only [tH, e3] at g3; exact g3
    have perm2 : (rts N t).Perm (rdt t g :: rts (N.erase g) t2) := hpm.trans (List.Perm.cons _ p2.symm)
    have F12 : FR f f2 N q := hF.trans F2 (fun b h => h)
    rcases D2 with ⟨e1, e⟩ | ⟨g2, d2, hg2, hc2, D2⟩
    · rw [e]
      exact ⟨N.erase g, t2, q2, T2, ⟨s2, r2, fun b hb g1 g2 => hFk2 b hb g1 (by rw [e1]; exact g1) g2⟩, perm2, F12, List.length_erase_le⟩
    · have hpr := root0 g2 p d2 hg2 hc2
      have l1 := (hs.2.2.2.2.1 g2 hg2 d2 p hc2).2.1
      have l2 := (hs.2.2.2.2.1 p hp d g hpg).2.1
      have g2g : g2 ≠ g := fun e => by rw [e] at l1; omega
      have g2p : g2 ≠ p := fun e => by rw [e] at l1; omega
      have hg22 : g2 ∈ N.erase g := (hm g2).mpr ⟨g2g, hg2⟩
      have hc22 : ch t2 g2 d2 = some p := by rw [drop_ch e2 hg2 g2g, if_neg (fun k => g2p k.1)]; exact hc2
      rcases drop_heap s2 r2 q2 T2 hp2 hpr hg22 hc22 (D2 _ _ q2 T2 hg22 hp2) with ⟨m1, m2⟩ | ⟨m1, t3, e3, s3, r3, p3, T3, q3, F3⟩
      · rw [m2]
        refine ⟨N.erase g, t2, q2, T2, ⟨s2, r2, fun b hb g1 g3 d' => ?_⟩, perm2, F12, List.length_erase_le⟩
        by_cases e : b = p
        · subst e
          rcases m1 with k | k
          · rw [k] at g3; cases g3
          · unfold ch; split
            · exact k.2
            · exact k.1
        · exact hFk2 b hb g1 e g3 d'
      · refine ⟨(N.erase g).erase p, t3, q3, T3, ⟨s3, r3, fun b hb g1 g3 d' => ?_⟩, perm2.trans (List.Perm.cons _ p3.symm), F12.trans F3 (fun b h => ((hm b).mp h).2), Nat.le_trans List.length_erase_le List.length_erase_le⟩
        obtain ⟨n1, n2⟩ := s2.2.1.mem_erase_iff.mp hb
        rw [drop_ch e3 n2 n1]
        by_cases z : b = g2 ∧ d' = d2
        · rw [if_pos z]
          intro k
          obtain ⟨k1, k2⟩ := or_none.mp k
          -- p had two children before
          have hRp : isR t1 p = false := by
            have e4 := e2 p hp pne
            rw [if_pos rfl] at e4
            unfold isR at m1 ⊢; simp only [tH, e4] at m1; exact m1
          have c0 : ∀ d', ch t2 p d' = none := fun d' => by unfold ch; split; exact k2; exact k1
          have := c0 (!d)
          rw [drop_ch e2 hp pne, if_neg (fun k => by have := k.2; cases d <;> cases this)] at this
          exact hk p hp hpr pne hRp (!d) this
        · rw [if_neg z]
          refine hFk2 b n2 g1 n1 ?_ d'
          have e4 := e3 b n2 n1
          unfold isR at g3 ⊢
          simp only [tH, e4] at g3
          split at g3
          · next e5 => subst e5; exact g3
          · exact g3
