/-! The abstract heap: what stands at each address, by one function; a method's contract says what the function is behind it. -/
abbrev AH : Type := Nat → Option va_E
def hp_A (base : Nat) : Nat → Prop := fun q => base ≤ q
def hp_ok (D : va_G) (base : Nat) (f : AH) (H : Heap) : Prop := ∀ (a : Nat) (e : va_E), f a = some e → base ≤ a ∧ va_at D vwCl (a, e) H
def hp_nw : List Cond := [.fieldLinkNest RX1 62 RX0 "bits" "I" RX1, .fieldLinkNest RX1 53 RX0 "len" "I" RX1, .fieldLinkNest RX1 22 RX0 "hop" "I" RX1, .fieldLinkNest RX1 25 RX0 "routes" "I" RX1, .fieldLinkNest RX1 28 RX0 "zero" "LRouteTrie$Node;" RX1, .fieldLinkNest RX1 31 RX0 "one" "LRouteTrie$Node;" RX1,
  .methodLinkNest RX1 11 yX0_init RX1, .methodLinkNest RX1 69 yX0_toward RX1, .methodLinkNest RX1 87 yX0_isRoute RX1, .methodLinkNest RX1 65 yX0_isBeginOf RX1, .methodLinkNest RX0 24 yX1_firstBits RX1, .methodLinkNest RX1 99 yX0_hang RX1, .methodLinkNest RX1 110 yX0_replace RX1]
theorem hp_nw_in : ∀ w ∈ hp_nw, w ∈ lw_tbl := by decide +kernel
theorem hp_nw_on : ∀ w ∈ hp_nw, w.onTables = true := by decide +kernel
def hp_N (U : State) : Prop := ∀ w ∈ hp_nw, va_Nw w U
theorem hp_N.warm {s U : State} (hW : s.WarmedH U.vm) (h : hp_N s) : hp_N U := by
  intro w hw
  have h1 := h w hw
  simp only [hp_nw, List.mem_cons, List.not_mem_nil, or_false] at hw
  rcases hw with rfl | rfl | rfl | rfl | rfl | rfl | rfl | rfl | rfl | rfl | rfl | rfl | rfl <;> first | exact va_Nw.warmF hW h1 | exact va_Nw.warmM hW h1
theorem hp_N.same {u U : State} (e : u.vm = U.vm) (h : hp_N u) : hp_N U := fun w hw => va_Nw.same (hp_nw_on w hw) e (h w hw)
def hp_C (D : va_G) (cy : ClassId) (base : Nat) (s : State) : Prop := base ≤ s.heap.size ∧ va_K D vwCl [(cy, .int)] s ∧ hp_N s
def hp_B (D : va_G) (cy : ClassId) (base : Nat) (f : AH) (U : State) : Prop := hp_ok D base f U.heap ∧ hp_C D cy base U
theorem hp_ok.lt {D : va_G} {base : Nat} {f : AH} {H : Heap} (h : hp_ok D base f H) {a : Nat} {e : va_E} (ha : f a = some e) : a < H.size := (h a e ha).2.lt
theorem hp_ok.P {D : va_G} {base : Nat} {f : AH} {H : Heap} (h : hp_ok D base f H) {a : Nat} {e : va_E} (ha : f a = some e) : va_P D vwCl [(a, e)] H := by
  intro k q hk
  match k, hk with
  | 0, hk => cases hk; exact (h a e ha).2
  | k + 1, hk => simp at hk
theorem hp_ok.up {D : va_G} {base : Nat} {f : AH} {H H1 : Heap} (h : hp_ok D base f H) {a : Nat} {e1 : va_E} (ha : base ≤ a) (h1 : va_at D vwCl (a, e1) H1) (ho : ∀ q : Nat, q ≠ a → q < H.size → H1[q]? = H[q]?) : hp_ok D base (va_up f a (some e1)) H1 := by
  intro b e hb
  by_cases hab : b = a
  · subst hab
    rw [va_up_self] at hb
    cases hb
    exact ⟨ha, h1⟩
  · rw [va_up_ne _ _ hab] at hb
    exact ⟨(h b e hb).1, (h b e hb).2.kept (ho b hab (h.lt hb))⟩
theorem hp_ok.fresh {D : va_G} {base : Nat} {f : AH} {H : Heap} (h : hp_ok D base f H) : f H.size = none := by
  cases hq : f H.size with
  | none => rfl
  | some e => exact absurd (h.lt hq) (Nat.lt_irrefl _)
theorem hp_blind {D : va_G} {cy : ClassId} {base : Nat} {f : AH} {av : List Value} : FrameBlind (va_Pc av (hp_B D cy base f)) := by
  intro a U g mk q
  obtain ⟨q0, q1, q2, q3, q4⟩ := q
  exact ⟨q0, q1, q2, va_K.moved (u := U) (U := U.calling g mk a) (Vm.Alike.refl U.vm) q3, hp_N.same (u := U) (U := U.calling g mk a) rfl q4⟩
theorem hp_start {D : va_G} {cy : ClassId} {base : Nat} {f : AH} {s U : State} {H : Heap} {locs : List Loc} (C : hp_C D cy base s) (hf : hp_ok D base f H) (hS : va_S (hp_A base) s.heap H locs) (hU : U.heap = H) (hW : s.WarmedH U.vm) : hp_B D cy base f U :=
  ⟨by rw [hU]; exact hf, by rw [hU]; exact Nat.le_trans C.1 hS.1, va_K.moved hW.alike C.2.1, C.2.2.warm hW⟩
section HPA
variable {p : Program} {l : Launch} {e : Env} {R : Room} {s : State} {m : MethodId} {args : Array Value} {below : List Frame} {meth : Method} {c : Code} {H : Heap} {locs : List Loc} {cells slots : Nat} {Q : State → Prop}
variable {cc : ByteArray} {pc : Nat} {ls : Array Slot} {rest : List Value} {D : va_G} {cy : ClassId} {base : Nat} {f : AH} {a : Nat}
theorem hp_get (hexec : p.tables.exec = Jvm.exec) (hb : c.code = cc) {own ref C : String} {T : u_T} {N ci index : Nat} {Ts : List Cond} (hts : ∀ w ∈ Ts, w.before args s = true) (hin : ∀ w ∈ u_ws C T N, w ∈ Ts) (hown : s.vm.findClass own = some m.cls) (C0 : hp_C D cy base s) (hf : hp_ok D base f H) {fs : List Value} (he : f a = some (.inr (ci, fs))) (hc : vwCl[ci]? = some (C, T, N)) (k : Nat) (hk : k < N) (hlink : (Cond.fieldLink own index ref (T k).2.1 (T k).2.2.1).before args s = true) (hsame : ∀ x, s.fieldFound? (T k).1 (T k).2.1 (T k).2.2.1 = some x → s.fieldFound? ref (T k).2.1 (T k).2.2.1 = some x) {v : Value} (hv : fs[k]? = some v) (hdg : decode cc pc = .ok (.getfield index, 3))
    (kk : W p l e R s m args below meth c H locs cells slots Q (F0 m (pc + 3) ls (v :: rest))) : W p l e R s m args below meth c H locs cells slots Q (F0 m pc ls (.ref a :: rest)) :=
  va_get hexec hb hts hin hown C0.2.1 (hf.P he) 0 rfl hc k hk hlink hsame hv hdg kk
theorem hp_getN (hexec : p.tables.exec = Jvm.exec) (hb : c.code = cc) {own ref C host : String} {T : u_T} {N ci index : Nat} {Ts : List Cond} (hts : ∀ w ∈ Ts, w.before args s = true) (hin : ∀ w ∈ u_ws C T N, w ∈ Ts) (hown : s.vm.findClass own = some m.cls) (C0 : hp_C D cy base s) (hf : hp_ok D base f H) {fs : List Value} (he : f a = some (.inr (ci, fs))) (hc : vwCl[ci]? = some (C, T, N)) (k : Nat) (hk : k < N) (hw : Cond.fieldLinkNest own index ref (T k).2.1 (T k).2.2.1 host ∈ hp_nw) (hsame : ∀ x, s.fieldFound? (T k).1 (T k).2.1 (T k).2.2.1 = some x → s.fieldFound? ref (T k).2.1 (T k).2.2.1 = some x) {v : Value} (hv : fs[k]? = some v) (hdg : decode cc pc = .ok (.getfield index, 3))
    (kk : W p l e R s m args below meth c H locs cells slots Q (F0 m (pc + 3) ls (v :: rest))) : W p l e R s m args below meth c H locs cells slots Q (F0 m pc ls (.ref a :: rest)) :=
  va_getN hexec hb hts hin hown C0.2.1 (hf.P he) 0 rfl hc k hk (va_Nw.use rfl (C0.2.2 _ hw)) hsame hv hdg kk
theorem hp_put {H0 : Heap} (hexec : p.tables.exec = Jvm.exec) (hb : c.code = cc) {own ref C : String} {T : u_T} {N ci index : Nat} {Ts : List Cond} (hts : ∀ w ∈ Ts, w.before args s = true) (hin : ∀ w ∈ u_ws C T N, w ∈ Ts) (ty0 : Nat → FieldType) (hty : ∀ k, k < N → parseFieldDescriptor (T k).2.2.1 = some (ty0 k)) (hnm : ∀ a, a < N → ∀ b, b < N → a ≠ b → (T a).2.1 ≠ (T b).2.1) (hown : s.vm.findClass own = some m.cls) (C0 : hp_C D cy base s) (hf : hp_ok D base f H) (hS0 : va_S (hp_A base) H0 H locs) {fs : List Value} (he : f a = some (.inr (ci, fs))) (hc : vwCl[ci]? = some (C, T, N)) (k : Nat) (hk : k < N) (hlink : (Cond.fieldLink own index ref (T k).2.1 (T k).2.2.1).before args s = true) (hsame : ∀ x, s.fieldFound? (T k).1 (T k).2.1 (T k).2.2.1 = some x → s.fieldFound? ref (T k).2.1 (T k).2.2.1 = some x) (hfin : (T k).2.2.2 = false) {v : Value} (hn : narrow (ty0 k) v = v) (hfit : fits (ty0 k) v = true) (hl : k < fs.length)
    (hdg : decode cc pc = .ok (.putfield index, 3)) (kk : ∀ (f1 : AH) (H1 : Heap) (locs1 : List Loc), f1 = va_up f a (some (.inr (ci, fs.set k v))) → hp_ok D base f1 H1 → va_S (hp_A base) H0 H1 locs1 → W p l e R s m args below meth c H1 locs1 cells slots Q (F0 m (pc + 3) ls rest)) : W p l e R s m args below meth c H locs cells slots Q (F0 m pc ls (v :: .ref a :: rest)) := by
  have hK := C0.2.1
  have hap := va_apart (own := own) hts hin ty0 hty hnm hK hc
  obtain ⟨hba, r, h1, cell, q1, q2, q3, q4⟩ := hf a _ he
  have hr : r = (C, T, N) := Option.some.inj (h1.symm.trans hc)
  subst hr
  obtain ⟨hS, hfc, kC, hkC, hkind⟩ := hK.1 ci _ hc
  obtain ⟨cf, kf, fi, fd, hi, hsl⟩ := hS k hk
  have hlay := hts _ (hin _ (u_in_lay hk))
  unfold u_lay at hlay
  rw [if_neg (by rw [hfin]; decide)] at hlay
  have hst := (u_facts hfc hkC (u_lays hts hin hk) hi).1
  have h6 := u_store hfc hkC hkind hlay hi (hty k hk) hn hfit
  refine W.putK hexec hb (f := fd) ⟨hown, hlink, ⟨_, _, _, hsame _ hi⟩, hst⟩ (by rw [q2]; exact h6) q1 q3 (by rw [hsl]; exact k2_hasslot (q4 k hk)) rfl rfl hdg fun H' e1 e2 e3 => ?_
  rw [hsl] at e1 ⊢
  exact kk _ H' _ rfl (hf.up hba ⟨_, hc, t_OB.to (V := updV (vp_V fs) k v) ⟨_, e1, q2, q3, t_set q4 hap hk v⟩ (fun j _ => vp_updV_set hl v j)⟩ (fun q h _ => e3 q h)) (hS0.put e2 e3 hba)
theorem hp_putN {H0 : Heap} (hexec : p.tables.exec = Jvm.exec) (hb : c.code = cc) {own ref C host : String} {T : u_T} {N ci index : Nat} {Ts : List Cond} (hts : ∀ w ∈ Ts, w.before args s = true) (hin : ∀ w ∈ u_ws C T N, w ∈ Ts) (ty0 : Nat → FieldType) (hty : ∀ k, k < N → parseFieldDescriptor (T k).2.2.1 = some (ty0 k)) (hnm : ∀ a, a < N → ∀ b, b < N → a ≠ b → (T a).2.1 ≠ (T b).2.1) (hown : s.vm.findClass own = some m.cls) (C0 : hp_C D cy base s) (hf : hp_ok D base f H) (hS0 : va_S (hp_A base) H0 H locs) {fs : List Value} (he : f a = some (.inr (ci, fs))) (hc : vwCl[ci]? = some (C, T, N)) (k : Nat) (hk : k < N) (hw : Cond.fieldLinkNest own index ref (T k).2.1 (T k).2.2.1 host ∈ hp_nw) (hsame : ∀ x, s.fieldFound? (T k).1 (T k).2.1 (T k).2.2.1 = some x → s.fieldFound? ref (T k).2.1 (T k).2.2.1 = some x) (hfin : (T k).2.2.2 = false) {v : Value} (hn : narrow (ty0 k) v = v) (hfit : fits (ty0 k) v = true) (hl : k < fs.length)
    (hdg : decode cc pc = .ok (.putfield index, 3)) (kk : ∀ (f1 : AH) (H1 : Heap) (locs1 : List Loc), f1 = va_up f a (some (.inr (ci, fs.set k v))) → hp_ok D base f1 H1 → va_S (hp_A base) H0 H1 locs1 → W p l e R s m args below meth c H1 locs1 cells slots Q (F0 m (pc + 3) ls rest)) : W p l e R s m args below meth c H locs cells slots Q (F0 m pc ls (v :: .ref a :: rest)) := by
  have hK := C0.2.1
  have hap := va_apart (own := own) hts hin ty0 hty hnm hK hc
  obtain ⟨hba, r, h1, cell, q1, q2, q3, q4⟩ := hf a _ he
  have hr : r = (C, T, N) := Option.some.inj (h1.symm.trans hc)
  subst hr
  obtain ⟨hS, hfc, kC, hkC, hkind⟩ := hK.1 ci _ hc
  obtain ⟨cf, kf, fi, fd, hi, hsl⟩ := hS k hk
  have hlay := hts _ (hin _ (u_in_lay hk))
  unfold u_lay at hlay
  rw [if_neg (by rw [hfin]; decide)] at hlay
  have hst := (u_facts hfc hkC (u_lays hts hin hk) hi).1
  have h6 := u_store hfc hkC hkind hlay hi (hty k hk) hn hfit
  refine va_WputK hexec hb (f := fd) hown (va_Nw.use rfl (C0.2.2 _ hw)) (hsame _ hi) hst (by rw [q2]; exact h6) q1 q3 (by rw [hsl]; exact k2_hasslot (q4 k hk)) rfl rfl hdg fun H' e1 e2 e3 => ?_
  rw [hsl] at e1 ⊢
  exact kk _ H' _ rfl (hf.up hba ⟨_, hc, t_OB.to (V := updV (vp_V fs) k v) ⟨_, e1, q2, q3, t_set q4 hap hk v⟩ (fun j _ => vp_updV_set hl v j)⟩ (fun q h _ => e3 q h)) (hS0.put e2 e3 hba)
theorem hp_putF {H0 : Heap} (hexec : p.tables.exec = Jvm.exec) (hb : c.code = cc) {own ref C : String} {T : u_T} {N ci index : Nat} {Ts : List Cond} (hts : ∀ w ∈ Ts, w.before args s = true) (hin : ∀ w ∈ u_ws C T N, w ∈ Ts) (ty0 : Nat → FieldType) (hty : ∀ k, k < N → parseFieldDescriptor (T k).2.2.1 = some (ty0 k)) (hnm : ∀ a, a < N → ∀ b, b < N → a ≠ b → (T a).2.1 ≠ (T b).2.1) (hown : s.vm.findClass own = some m.cls) (C0 : hp_C D cy base s) (hf : hp_ok D base f H) (hS0 : va_S (hp_A base) H0 H locs) {fs : List Value} (he : f a = some (.inr (ci, fs))) (hc : vwCl[ci]? = some (C, T, N)) (k : Nat) (hk : k < N) (hlink : (Cond.fieldLink own index ref (T k).2.1 (T k).2.2.1).before args s = true) (hsame : ∀ x, s.fieldFound? (T k).1 (T k).2.1 (T k).2.2.1 = some x → s.fieldFound? ref (T k).2.1 (T k).2.2.1 = some x) (hfin : (T k).2.2.2 = true) (hin2 : meth.name = "<init>") (hdecl : (T k).1 = own) {v : Value} (hn : narrow (ty0 k) v = v) (hfit : fits (ty0 k) v = true) (hl : k < fs.length)
    (hdg : decode cc pc = .ok (.putfield index, 3)) (kk : ∀ (f1 : AH) (H1 : Heap) (locs1 : List Loc), f1 = va_up f a (some (.inr (ci, fs.set k v))) → hp_ok D base f1 H1 → va_S (hp_A base) H0 H1 locs1 → W p l e R s m args below meth c H1 locs1 cells slots Q (F0 m (pc + 3) ls rest)) : W p l e R s m args below meth c H locs cells slots Q (F0 m pc ls (v :: .ref a :: rest)) := by
  have hK := C0.2.1
  have hap := va_apart (own := own) hts hin ty0 hty hnm hK hc
  obtain ⟨hba, r, h1, cell, q1, q2, q3, q4⟩ := hf a _ he
  have hr : r = (C, T, N) := Option.some.inj (h1.symm.trans hc)
  subst hr
  obtain ⟨hS, hfc, kC, hkC, hkind⟩ := hK.1 ci _ hc
  obtain ⟨cf, kf, fi, fd, hi, hsl⟩ := hS k hk
  have hlay := hts _ (hin _ (u_in_lay hk))
  unfold u_lay at hlay
  rw [if_pos hfin] at hlay
  have hst := (u_facts hfc hkC (u_lays hts hin hk) hi).1
  have hcf : m.cls = cf := by
    obtain ⟨_, _, c', _, _, _, -, -, hf', -, -, -, hown2, -⟩ := Cond.laysFinal_spec hlay
    have e1 : c' = cf := by have := hi.symm.trans hf'; simp at this; exact this.1.symm
    rw [hdecl] at hown2
    rw [← e1]; exact Option.some.inj (hown.symm.trans hown2)
  have h6 := u_fits hfc hkC hkind (Or.inr hlay) hi (hty k hk) hn hfit
  refine W.putFinK hexec hb hown hlink (hsame _ hi) hst hcf hin2 (by rw [q2]; exact h6) q1 q3 (by rw [hsl]; exact k2_hasslot (q4 k hk)) rfl rfl hdg fun H' e1 e2 e3 => ?_
  rw [hsl] at e1 ⊢
  exact kk _ H' _ rfl (hf.up hba ⟨_, hc, t_OB.to (V := updV (vp_V fs) k v) ⟨_, e1, q2, q3, t_set q4 hap hk v⟩ (fun j _ => vp_updV_set hl v j)⟩ (fun q h _ => e3 q h)) (hS0.put e2 e3 hba)
theorem hp_iald (hexec : p.tables.exec = Jvm.exec) (hb : c.code = cc) (C0 : hp_C D cy base s) (hf : hp_ok D base f H) {n : Nat} {g : Nat → Int32} (he : f a = some (.inl (cy, n, .inl g))) {i : Int32} (hin : vp_in i n) (hdg : decode cc pc = .ok (.iaload, 1))
    (kk : W p l e R s m args below meth c H locs cells slots Q (F0 m (pc + 1) ls (.int (g i.toNatClampNeg) :: rest))) : W p l e R s m args below meth c H locs cells slots Q (F0 m pc ls (.int i :: .ref a :: rest)) :=
  va_iald hexec hb C0.2.1 (hf.P he) 0 0 rfl rfl hin hdg kk
theorem hp_iast {H0 : Heap} (hexec : p.tables.exec = Jvm.exec) (hb : c.code = cc) (C0 : hp_C D cy base s) (hf : hp_ok D base f H) (hS : va_S (hp_A base) H0 H locs) {n : Nat} {g : Nat → Int32} (he : f a = some (.inl (cy, n, .inl g))) {i x : Int32} (hin : vp_in i n) (hdg : decode cc pc = .ok (.iastore, 1))
    (kk : ∀ (f1 : AH) (H1 : Heap) (locs1 : List Loc), f1 = va_up f a (some (.inl (cy, n, .inl (upd g i.toNatClampNeg x)))) → hp_ok D base f1 H1 → va_S (hp_A base) H0 H1 locs1 → W p l e R s m args below meth c H1 locs1 cells slots Q (F0 m (pc + 1) ls rest)) : W p l e R s m args below meth c H locs cells slots Q (F0 m pc ls (.int x :: .int i :: .ref a :: rest)) := by
  have hK := C0.2.1
  refine W.iast hexec hb (hf a _ he).2 ((hK.2 0 _ rfl).1 n (fun j => .int (g j))) (fun q => by cases q) (by show ¬ (i < 0 ∨ (arrV _ _ _).slots.size ≤ _); rw [arrV_size]; exact hin) rfl rfl hdg fun H1 e z oq => ?_
  refine kk _ H1 _ rfl (hf.up (hf a _ he).1 ?_ (fun q h _ => oq q h)) (hS.put z oq (hf a _ he).1)
  show H1[a]? = some (vp_cell _ _)
  rw [e]
  show _ = some (vp_cell cy (n, .inl _))
  rw [vp_cell_i, vp_cell_i, arrV_store]
  congr 2
  funext q
  by_cases hq : q = i.toNatClampNeg
  · subst hq
    simp [updV, upd]
  · simp [updV, upd, hq]
theorem hp_new {H0 : Heap} (hexec : p.tables.exec = Jvm.exec) (hb : c.code = cc) {own C : String} {T : u_T} {N ci index : Nat} {Ts : List Cond} (hts : ∀ w ∈ Ts, w.before args s = true) (hin : ∀ w ∈ u_ws C T N, w ∈ Ts) (ty : Nat → FieldType) (hty : ∀ k, k < N → parseFieldDescriptor (T k).2.2.1 = some (ty k)) (hown : s.vm.findClass own = some m.cls) (hcl : (Cond.classLink own index C).before args s = true) (hinst : (Cond.instantiable C N).before args s = true) (hini : (Cond.initialized C).before args s = true)
    (C0 : hp_C D cy base s) (hf : hp_ok D base f H) (hS : va_S (hp_A base) H0 H locs) (hbs : base ≤ H0.size) (hc : vwCl[ci]? = some (C, T, N)) {fs : List Value} (hfs : ∀ j, j < N → defaultValue (ty j) = vp_V fs j) (hcells : cells + 1 ≤ R.cells) (hslots : slots + N ≤ R.slots) (hdg : decode cc pc = .ok (.new index, 3))
    (kk : ∀ (q : Nat) (f1 : AH) (H1 : Heap), f q = none → f1 = va_up f q (some (.inr (ci, fs))) → hp_ok D base f1 H1 → va_S (hp_A base) H0 H1 locs →
      W p l e R s m args below meth c H1 locs (cells + 1) (slots + N) Q (F0 m (pc + 3) ls (.ref q :: rest))) : W p l e R s m args below meth c H locs cells slots Q (F0 m pc ls rest) := by
  have hKn := C0.2.1.1 ci _ hc
  refine W.newcK hexec hb hown hcl hinst hini rfl hdg hcells hslots hKn.2.1 rfl fun H1 kC hkC e1 z1 o1 => ?_
  refine kk H.size _ H1 hf.fresh rfl (hf.up (Nat.le_trans hbs hS.1) ⟨_, hc, (u_born ty hts hin hKn hkC e1 hty).to hfs⟩ (fun q _ h => o1 q h)) ⟨Nat.le_trans hS.1 (by omega), fun x h1 h2 => (o1 x (Nat.lt_of_lt_of_le h1 hS.1)).trans (hS.2.1 x h1 h2), hS.2.2⟩
theorem hp_newi {H0 : Heap} (hexec : p.tables.exec = Jvm.exec) (hb : c.code = cc) (harr : (Cond.arrayClass .int).before args s = true) (C0 : hp_C D cy base s) (hf : hp_ok D base f H) (hS : va_S (hp_A base) H0 H locs) (hbs : base ≤ H0.size) {n : Int32} {N' : Nat} (hn : ¬ n < 0) (hN : n.toNatClampNeg = N') (hbytes : N' * componentBytes .int ≤ 536870912) (hcells : cells + 1 ≤ R.cells) (hslots : slots + N' ≤ R.slots) (hdg : decode cc pc = .ok (.newarray .int, 2))
    (kk : ∀ (q : Nat) (f1 : AH) (H1 : Heap), f q = none → f1 = va_up f q (some (.inl (cy, N', .inl (fun _ => 0)))) → hp_ok D base f1 H1 → va_S (hp_A base) H0 H1 locs →
      W p l e R s m args below meth c H1 locs (cells + 1) (slots + N') Q (F0 m (pc + 2) ls (.ref q :: rest))) : W p l e R s m args below meth c H locs cells slots Q (F0 m pc ls (.int n :: rest)) := by
  refine va_newaK (atype := .int) hexec hb harr rfl hdg rfl hn hN hbytes hcells hslots rfl fun H1 cA e1 z1 o1 hAr hNm => ?_
  have h2 : s.vm.findClass ("[" ++ FieldType.int.toString) = some cy := (C0.2.1.2 0 _ rfl).2
  have h3 : cA = cy := Option.some.inj (hNm.symm.trans h2)
  subst h3
  refine kk H.size _ H1 hf.fresh rfl (hf.up (Nat.le_trans hbs hS.1) e1 (fun q _ h => o1 q h)) ⟨Nat.le_trans hS.1 (by omega), fun x h1 h2 => (o1 x (Nat.lt_of_lt_of_le h1 hS.1)).trans (hS.2.1 x h1 h2), hS.2.2⟩
/-! references that may be null -/
theorem hp_aload_nq (hexec : p.tables.exec = Jvm.exec) (hb : c.code = cc) {k : Fin 4} {i : Nat} {r : Option Nat} (hdg : decode cc pc = .ok (.aload_n k, 1)) (hi : (k : Nat) = i) (hl : ls[i]? = some (.val (va_rf r)))
    (kk : W p l e R s m args below meth c H locs cells slots Q (F0 m (pc + 1) ls (va_rf r :: rest))) : W p l e R s m args below meth c H locs cells slots Q (F0 m pc ls rest) := by
  cases r with
  | none => exact lv_aload_nN hexec hb hdg hi hl kk
  | some x => exact lv_aload_n hexec hb hdg hi hl kk
theorem hp_aloadq (hexec : p.tables.exec = Jvm.exec) (hb : c.code = cc) {i : Nat} {r : Option Nat} (hdg : decode cc pc = .ok (.aload i, 2)) (hl : ls[i]? = some (.val (va_rf r)))
    (kk : W p l e R s m args below meth c H locs cells slots Q (F0 m (pc + 2) ls (va_rf r :: rest))) : W p l e R s m args below meth c H locs cells slots Q (F0 m pc ls rest) := by
  cases r with
  | none => exact lv_aloadN hexec hb hdg hl kk
  | some x => exact lv_aload hexec hb hdg hl kk
theorem hp_astore_nq (hexec : p.tables.exec = Jvm.exec) (hb : c.code = cc) {k : Fin 4} {i nL : Nat} {r : Option Nat} {lv lv' : List (Nat × Value)} (hdg : decode cc pc = .ok (.astore_n k, 1)) (hi : (k : Nat) = i) (h : lv_has ls nL lv) (hn : i < nL) (hl : (i, va_rf r) :: lv.filter (fun q => !(q.1 == i) && !(q.1 + 1 == i && q.2.category == 2)) = lv')
    (kk : ∀ ls' : Array Slot, lv_has ls' nL lv' → W p l e R s m args below meth c H locs cells slots Q (F0 m (pc + 1) ls' rest)) : W p l e R s m args below meth c H locs cells slots Q (F0 m pc ls (va_rf r :: rest)) := by
  cases r with
  | none => exact lv_astore_nN hexec hb hdg hi h hn hl kk
  | some x => exact lv_astore_n hexec hb hdg hi h hn hl kk
theorem hp_astoreq (hexec : p.tables.exec = Jvm.exec) (hb : c.code = cc) {i nL : Nat} {r : Option Nat} {lv lv' : List (Nat × Value)} (hdg : decode cc pc = .ok (.astore i, 2)) (h : lv_has ls nL lv) (hn : i < nL) (hl : (i, va_rf r) :: lv.filter (fun q => !(q.1 == i) && !(q.1 + 1 == i && q.2.category == 2)) = lv')
    (kk : ∀ ls' : Array Slot, lv_has ls' nL lv' → W p l e R s m args below meth c H locs cells slots Q (F0 m (pc + 2) ls' rest)) : W p l e R s m args below meth c H locs cells slots Q (F0 m pc ls (va_rf r :: rest)) := by
  cases r with
  | none => exact lv_astoreN hexec hb hdg h hn hl kk
  | some x => exact lv_astore hexec hb hdg h hn hl kk
theorem hp_ifnullq (hexec : p.tables.exec = Jvm.exec) (hb : c.code = cc) {r : Option Nat} {off : Int} {tgt : Nat} (hdg : decode cc pc = .ok (.ifnull off, 3)) (ht : (pc : Int) + off = (tgt : Int))
    (kn : r = none → W p l e R s m args below meth c H locs cells slots Q (F0 m tgt ls rest)) (ks : ∀ x : Nat, r = some x → W p l e R s m args below meth c H locs cells slots Q (F0 m (pc + 3) ls rest)) : W p l e R s m args below meth c H locs cells slots Q (F0 m pc ls (va_rf r :: rest)) := by
  cases r with
  | none => exact lv_ifnullN hexec hb hdg ht (kn rfl)
  | some x => exact lv_ifnull hexec hb hdg (ks x rfl)
theorem hp_ifnonnullq (hexec : p.tables.exec = Jvm.exec) (hb : c.code = cc) {r : Option Nat} {off : Int} {tgt : Nat} (hdg : decode cc pc = .ok (.ifnonnull off, 3)) (ht : (pc : Int) + off = (tgt : Int))
    (ks : ∀ x : Nat, r = some x → W p l e R s m args below meth c H locs cells slots Q (F0 m tgt ls rest)) (kn : r = none → W p l e R s m args below meth c H locs cells slots Q (F0 m (pc + 3) ls rest)) : W p l e R s m args below meth c H locs cells slots Q (F0 m pc ls (va_rf r :: rest)) := by
  cases r with
  | none => exact lv_ifnonnullN hexec hb hdg (kn rfl)
  | some x => exact lv_ifnonnull hexec hb hdg ht (ks x rfl)
end HPA
