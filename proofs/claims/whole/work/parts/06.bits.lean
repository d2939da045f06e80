/-! bits from the top; the rows bt .. b_ushr are pasted from kit/laws/BITS.to-paste -/
def bt (x : Int32) (i : Nat) : Bool := x.toBitVec.getLsbD i
theorem b_ext {x y : Int32} (h : ∀ i, i < 32 → bt x i = bt y i) : x = y := Int32.toBitVec_inj.mp (BitVec.eq_of_getLsbD_eq (fun i hi => h i hi))
theorem b_and (x y : Int32) (i : Nat) : bt (x &&& y) i = (bt x i && bt y i) := by unfold bt; rw [Int32.toBitVec_and, BitVec.getLsbD_and]
theorem b_xor (x y : Int32) (i : Nat) : bt (x ^^^ y) i = (bt x i ^^ bt y i) := by unfold bt; rw [Int32.toBitVec_xor, BitVec.getLsbD_xor]
theorem b_big {x : Int32} {i : Nat} (h : 32 ≤ i) : bt x i = false := BitVec.getLsbD_of_ge _ _ h
theorem s_u : ∀ n, n < 32 → (((nI n).toUInt32 &&& Int32.toUInt32 31).toBitVec % 32).toNat = n := by decide +kernel
theorem b_ushr (n : Nat) (hn : n < 32) (x : Int32) (i : Nat) : bt ((x.toUInt32 >>> ((nI n).toUInt32 &&& Int32.toUInt32 31)).toInt32) i = bt x (n + i) := by
  show (x.toUInt32 >>> ((nI n).toUInt32 &&& Int32.toUInt32 31)).toBitVec.getLsbD i = x.toUInt32.toBitVec.getLsbD (n + i)
  rw [UInt32.toBitVec_shiftRight]
  show (x.toUInt32.toBitVec >>> (((nI n).toUInt32 &&& Int32.toUInt32 31).toBitVec % 32).toNat).getLsbD i = _
  rw [s_u n hn, BitVec.getLsbD_ushiftRight]
def bi (x : Int32) (i : Nat) : Bool := decide (i < 32) && bt x (31 - i)
theorem bi_lt {x : Int32} {i : Nat} (h : i < 32) : bi x i = bt x (31 - i) := by simp [bi, h]
theorem bi_big {x : Int32} {i : Nat} (h : 32 ≤ i) : bi x i = false := by simp [bi, Nat.not_lt.mpr h]
theorem bi_ext {x y : Int32} (h : ∀ i, i < 32 → bi x i = bi y i) : x = y := by
  refine b_ext (fun i hi => ?_)
  have h1 := h (31 - i) (by omega)
  rw [bi_lt (by omega), bi_lt (by omega), show 31 - (31 - i) = i by omega] at h1
  exact h1
theorem bi_and (x y : Int32) (i : Nat) : bi (x &&& y) i = (bi x i && bi y i) := by
  unfold bi; rw [b_and]; cases decide (i < 32) <;> simp
theorem bi_xor (x y : Int32) (i : Nat) : bi (x ^^^ y) i = (bi x i ^^ bi y i) := by
  unfold bi; rw [b_xor]; cases decide (i < 32) <;> simp
def mkI (n : Nat) : Int32 := if nI n = 0 then 0 else (-1) <<< ((32 - nI n) &&& 31)
theorem mk_bi : ∀ n, n < 33 → ∀ i, i < 32 → bi (mkI n) i = decide (i < n) := by decide +kernel
def fb (x : Int32) (n : Nat) : Int32 := x &&& mkI n
theorem fbI_fb (x : Int32) (n : Nat) : fbI x (nI n) = fb x n := by
  unfold fbI fb mkI
  split
  · apply bi_ext; intro i hi; rw [bi_and]; simp [bi, bt]
  · rfl
theorem fb_bi {x : Int32} {n i : Nat} (hn : n ≤ 32) : bi (fb x n) i = (decide (i < n) && bi x i) := by
  unfold fb
  rw [bi_and]
  rcases Nat.lt_or_ge i 32 with h | h
  · rw [mk_bi n (by omega) i h, Bool.and_comm]
  · rw [bi_big h]; simp
def ag (x y : Int32) (n : Nat) : Prop := ∀ i, i < n → bi x i = bi y i
theorem ag_rf {x : Int32} {n : Nat} : ag x x n := fun _ _ => rfl
theorem ag_sy {x y : Int32} {n : Nat} (h : ag x y n) : ag y x n := fun i hi => (h i hi).symm
theorem ag_tr {x y z : Int32} {n : Nat} (h : ag x y n) (h2 : ag y z n) : ag x z n := fun i hi => (h i hi).trans (h2 i hi)
theorem ag_mono {x y : Int32} {n m : Nat} (h : ag x y n) (hm : m ≤ n) : ag x y m := fun i hi => h i (Nat.lt_of_lt_of_le hi hm)
theorem ag_0 {x y : Int32} : ag x y 0 := fun i hi => absurd hi (Nat.not_lt_zero i)
theorem ag_s {x y : Int32} {n : Nat} (h : ag x y n) (h2 : bi x n = bi y n) : ag x y (n + 1) := fun i hi => by
  rcases Nat.lt_or_ge i n with q | q
  · exact h i q
  · rw [show i = n by omega]; exact h2
theorem fb_eq {x y : Int32} {n : Nat} (hn : n ≤ 32) : fb x n = fb y n ↔ ag x y n := by
  constructor
  · intro h i hi
    have h1 : bi (fb x n) i = bi (fb y n) i := by rw [h]
    rw [fb_bi hn, fb_bi hn] at h1
    simpa [hi] using h1
  · intro h
    refine bi_ext (fun i _ => ?_)
    rw [fb_bi hn, fb_bi hn]
    by_cases q : i < n
    · simp [q, h i q]
    · simp [q]
theorem fb_ag {x : Int32} {n : Nat} (hn : n ≤ 32) : ag (fb x n) x n := fun i hi => by rw [fb_bi hn]; simp [hi]
/-- x has n bits that count: the others are 0 -/
def px (x : Int32) (n : Nat) : Prop := n ≤ 32 ∧ fb x n = x
theorem px_bi {x : Int32} {n i : Nat} (h : px x n) (hi : n ≤ i) : bi x i = false := by
  have h1 : bi (fb x n) i = bi x i := by rw [h.2]
  rw [fb_bi h.1] at h1
  simpa [Nat.not_lt.mpr hi] using h1.symm
theorem px_of {x : Int32} {n : Nat} (hn : n ≤ 32) (h : ∀ i, n ≤ i → bi x i = false) : px x n := ⟨hn, bi_ext fun i _ => by
  rw [fb_bi hn]
  by_cases q : i < n
  · simp [q]
  · simp [q, h i (by omega)]⟩
theorem fb_px {x : Int32} {n : Nat} (hn : n ≤ 32) : px (fb x n) n := px_of hn fun i hi => by rw [fb_bi hn]; simp [Nat.not_lt.mpr hi]
theorem px_fb {x y : Int32} {n : Nat} (h : px x n) : fb y n = x ↔ ag x y n := by
  rw [← fb_eq h.1, h.2]; exact eq_comm
theorem px_inj {x y : Int32} {n : Nat} (hx : px x n) (hy : px y n) (h : ag x y n) : x = y := by
  rw [← hx.2, ← hy.2]; exact (fb_eq hx.1).mpr h
theorem px_0 : px 0 0 := ⟨by omega, by decide +kernel⟩
theorem b_1 : ∀ i, i < 32 → bt 1 i = decide (i = 0) := by decide +kernel
theorem and1 (y : Int32) : y &&& 1 = 1 ↔ bt y 0 = true := by
  constructor
  · intro h
    have h1 : bt (y &&& 1) 0 = bt 1 0 := by rw [h]
    rw [b_and, b_1 0 (by omega)] at h1
    simpa using h1
  · intro h
    refine b_ext (fun i hi => ?_)
    rw [b_and, b_1 i hi]
    by_cases q : i = 0
    · subst q; simp [h]
    · simp [q]
theorem and1_cases (y : Int32) : (y &&& 1 = 1 ∧ bt y 0 = true) ∨ (y &&& 1 = 0 ∧ bt y 0 = false) := by
  cases h : bt y 0 with
  | true => exact Or.inl ⟨(and1 y).mpr h, rfl⟩
  | false =>
    refine Or.inr ⟨b_ext (fun i hi => ?_), rfl⟩
    rw [b_and, b_1 i hi, show bt 0 i = false from BitVec.getLsbD_zero]
    by_cases q : i = 0
    · subst q; simp [h]
    · simp [q]
theorem sh_bi {x : Int32} {n : Nat} (hn : n < 32) : bt ((x.toUInt32 >>> ((31 - nI n).toUInt32 &&& Int32.toUInt32 31)).toInt32) 0 = bi x n := by
  rw [show (31 : Int32) - nI n = nI (31 - n) from pk_sub (a := 31) (by omega), b_ushr (31 - n) (by omega), bi_lt hn]
  rfl
theorem g1_bi {x : Int32} {n : Nat} (hn : n ≤ 32) : g1I (nI n) x ↔ (n < 32 ∧ bi x n = true) := by
  unfold g1I
  have h0 : (32 : Int32) ≤ nI n ↔ 32 ≤ n := nI_leI (a := 32) (by omega) (by omega)
  rw [h0]
  constructor
  · intro ⟨h1, h2⟩
    have h3 : n < 32 := by omega
    rw [and1, sh_bi h3] at h2
    exact ⟨h3, h2⟩
  · intro ⟨h1, h2⟩
    refine ⟨by omega, ?_⟩
    rw [and1, sh_bi h1]
    exact h2
/-- by the bits, without sign -/
def ul (x y : Int32) : Prop := ∃ k, k < 32 ∧ ag x y k ∧ bi x k = false ∧ bi y k = true
theorem first_dif {x y : Int32} (h : ¬ x = y) : ∃ k, k < 32 ∧ ag x y k ∧ ¬ bi x k = bi y k := by
  have h1 : ∃ k, k < 32 ∧ ¬ bi x k = bi y k := by
    refine Classical.byContradiction fun q => h (bi_ext fun i hi => Classical.byContradiction fun q2 => q ⟨i, hi, q2⟩)
  obtain ⟨k, hk, hl⟩ := pk_least (fun k => k < 32 ∧ ¬ bi x k = bi y k) h1
  exact ⟨k, hk.1, fun i hi => Classical.byContradiction fun q => hl i hi ⟨by omega, q⟩, hk.2⟩
theorem ul_tri {x y : Int32} (h : ¬ x = y) : ul x y ∨ ul y x := by
  obtain ⟨k, h1, h2, h3⟩ := first_dif h
  cases hx : bi x k <;> cases hy : bi y k
  · rw [hx, hy] at h3; exact absurd rfl h3
  · exact Or.inl ⟨k, h1, h2, hx, hy⟩
  · exact Or.inr ⟨k, h1, ag_sy h2, hy, hx⟩
  · rw [hx, hy] at h3; exact absurd rfl h3
theorem lt_tb {x y i : Nat} (hx : x.testBit i = false) (hy : y.testBit i = true) (h : ∀ j, i < j → x.testBit j = y.testBit j) : x < y := by
  have e : x / 2 ^ (i + 1) = y / 2 ^ (i + 1) := Nat.eq_of_testBit_eq (fun j => by rw [Nat.testBit_div_two_pow, Nat.testBit_div_two_pow]; exact h _ (by omega))
  rw [Nat.pow_succ, ← Nat.div_div_eq_div_mul, ← Nat.div_div_eq_div_mul] at e
  rw [Nat.testBit_eq_decide_div_mod_eq] at hx hy
  have h1 : ¬ x / 2 ^ i % 2 = 1 := of_decide_eq_false hx
  have h2 : y / 2 ^ i % 2 = 1 := of_decide_eq_true hy
  refine Nat.lt_of_div_lt_div (c := 2 ^ i) ?_
  omega
theorem ul_nat {x y : Int32} (h : ul x y) : x.toBitVec.toNat < y.toBitVec.toNat := by
  obtain ⟨k, h1, h2, h3, h4⟩ := h
  refine lt_tb (i := 31 - k) ?_ ?_ ?_
  · rw [bi_lt h1] at h3; exact h3
  · rw [bi_lt h1] at h4; exact h4
  · intro j hj
    show bt x j = bt y j
    rcases Nat.lt_or_ge j 32 with q | q
    · have h5 := h2 (31 - j) (by omega)
      rw [bi_lt (by omega), bi_lt (by omega), show 31 - (31 - j) = j by omega] at h5
      exact h5
    · rw [b_big q, b_big q]
theorem ul_iff {x y : Int32} : ul x y ↔ x.toBitVec.toNat < y.toBitVec.toNat := by
  refine ⟨ul_nat, fun h => ?_⟩
  have hne : ¬ x = y := fun e => by subst e; omega
  rcases ul_tri hne with q | q
  · exact q
  · have := ul_nat q; omega
theorem bi_min : ∀ i, i < 32 → bi (-2147483648) i = decide (i = 0) := by decide +kernel
theorem toInt_bi (x : Int32) : x.toInt = if bi x 0 = true then (x.toBitVec.toNat : Int) - 4294967296 else (x.toBitVec.toNat : Int) := by
  show x.toBitVec.toInt = _
  rw [BitVec.toInt_eq_msb_cond, BitVec.msb_eq_getLsbD_last]
  rfl
theorem ul_sgn (x y : Int32) : (x ^^^ (-2147483648)) < (y ^^^ (-2147483648)) ↔ ul x y := by
  have bx : ∀ z : Int32, ∀ i, i < 32 → bi (z ^^^ (-2147483648)) i = (bi z i ^^ decide (i = 0)) := fun z i hi => by rw [bi_xor, bi_min i hi]
  have lx := (x ^^^ (-2147483648)).toBitVec.isLt
  have ly := (y ^^^ (-2147483648)).toBitVec.isLt
  have h0x : bi (x ^^^ (-2147483648)) 0 = !bi x 0 := by rw [bx x 0 (by omega)]; simp
  have h0y : bi (y ^^^ (-2147483648)) 0 = !bi y 0 := by rw [bx y 0 (by omega)]; simp
  rw [Int32.lt_iff_toInt_lt, toInt_bi, toInt_bi, h0x, h0y]
  have same : bi x 0 = bi y 0 → (ul (x ^^^ (-2147483648)) (y ^^^ (-2147483648)) ↔ ul x y) := by
    intro e
    constructor
    · intro ⟨k, h1, h2, h3, h4⟩
      rw [bx x k h1] at h3
      rw [bx y k h1] at h4
      have hk : k ≠ 0 := by
        intro q; subst q
        rw [e] at h3
        cases hh : bi y 0 <;> simp [hh] at h3 h4
      refine ⟨k, h1, fun i hi => ?_, by simpa [hk] using h3, by simpa [hk] using h4⟩
      have := h2 i hi
      rw [bx x i (by omega), bx y i (by omega)] at this
      simpa using this
    · intro ⟨k, h1, h2, h3, h4⟩
      have hk : k ≠ 0 := by
        intro q; subst q
        rw [h3, h4] at e; cases e
      refine ⟨k, h1, fun i hi => ?_, by rw [bx x k h1, h3]; simp [hk], by rw [bx y k h1, h4]; simp [hk]⟩
      rw [bx x i (by omega), bx y i (by omega), h2 i hi]
  cases hx : bi x 0 <;> cases hy : bi y 0
  · rw [if_pos (by rfl), if_pos (by rfl), ← same (by rw [hx, hy]), ul_iff]
    omega
  · rw [if_pos (by rfl), if_neg (by decide)]
    refine ⟨fun _ => ⟨0, by omega, ag_0, hx, hy⟩, fun _ => ?_⟩
    omega
  · rw [if_neg (by decide), if_pos (by rfl)]
    refine ⟨fun h => ?_, fun ⟨k, h1, h2, h3, h4⟩ => ?_⟩
    · omega
    · rcases Nat.eq_zero_or_pos k with q | q
      · subst q; rw [hx] at h3; cases h3
      · have := h2 0 q; rw [hx, hy] at this; cases this
  · rw [if_neg (by decide), if_neg (by decide), ← same (by rw [hx, hy]), ul_iff]
    omega
