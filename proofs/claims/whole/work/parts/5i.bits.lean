/-! ===== bits of small numbers ===== -/
theorem b_or (a b : Nat) : nI a ||| nI b = nI (a ||| b) := Int32.toBitVec_inj.mp (show BitVec.ofNat 32 a ||| BitVec.ofNat 32 b = BitVec.ofNat 32 (a ||| b) from BitVec.ofNat_or.symm)
theorem b_xor (a b : Nat) : nI a ^^^ nI b = nI (a ^^^ b) := Int32.toBitVec_inj.mp (show BitVec.ofNat 32 a ^^^ BitVec.ofNat 32 b = BitVec.ofNat 32 (a ^^^ b) from BitVec.ofNat_xor.symm)
theorem b_and (a b : Nat) : nI a &&& nI b = nI (a &&& b) := Int32.toBitVec_inj.mp (show BitVec.ofNat 32 a &&& BitVec.ofNat 32 b = BitVec.ofNat 32 (a &&& b) from BitVec.ofNat_and.symm)
theorem b_sm : ∀ i : Fin 32, ((nI i.1 &&& 31).toBitVec.smod 32).toNat = i.1 := by decide +kernel
theorem p2_lt {i n : Nat} (h : i < n) : 2 ^ i < 2 ^ n := Nat.pow_lt_pow_right (by decide) h
theorem p2_le {i n : Nat} (h : i ≤ n) : 2 ^ i ≤ 2 ^ n := Nat.pow_le_pow_right (by decide) h
theorem b_shr {s i : Nat} (hs : s < 2 ^ 31) (hi : i < 32) : nI s >>> (nI i &&& 31) = nI (s / 2 ^ i) := pk_shrN hs _ i (b_sm ⟨i, hi⟩)
theorem b_bit {s i : Nat} (hs : s < 2 ^ 31) (hi : i < 32) : (nI s >>> (nI i &&& 31)) &&& 1 = nI (s / 2 ^ i % 2) := by
  rw [b_shr hs hi]
  exact pk_andN (n := s / 2 ^ i) (Nat.lt_of_le_of_lt (Nat.div_le_self _ _) (by omega)) 1 (by decide)
theorem b_bit1 {s i : Nat} (hs : s < 2 ^ 31) (hi : i < 32) : ((nI s >>> (nI i &&& 31)) &&& 1 = 1) ↔ s.testBit i = true := by
  rw [b_bit hs hi, show (1 : Int32) = nI 1 from rfl, nI_eq (by omega) (by decide), Nat.testBit_eq_decide_div_mod_eq, decide_eq_true_iff]
theorem b_bit0 {s i : Nat} (hs : s < 2 ^ 31) (hi : i < 32) : ((nI s >>> (nI i &&& 31)) &&& 1 = 0) ↔ s.testBit i = false := by
  rw [b_bit hs hi, show (0 : Int32) = nI 0 from rfl, nI_eq (by omega) (by decide), Nat.testBit_eq_decide_div_mod_eq, decide_eq_false_iff_not]
  omega
theorem b_one {i : Nat} (hi : i < 31) : (1 : Int32) <<< (nI i &&& 31) = nI (2 ^ i) := by
  have h := pk_shlN (n := 1) (nI i &&& 31) i (b_sm ⟨i, by omega⟩) (by have := p2_lt (show i < 32 by omega); omega)
  rw [Nat.one_mul] at h
  exact h
theorem b_clr : ∀ s : Fin 1024, ∀ i : Fin 10, s.1.testBit i.1 = true → nI s.1 &&& (nI (2 ^ i.1) ^^^ (-1 : Int32)) = nI (s.1 ^^^ 2 ^ i.1) := by decide +kernel
theorem bit_lt {s n i : Nat} (hs : s < 2 ^ n) (h : s.testBit i = true) : i < n := by
  refine Nat.lt_of_not_le (fun k => ?_)
  rw [Nat.testBit_lt_two_pow (Nat.lt_of_lt_of_le hs (p2_le k))] at h
  cases h
theorem low_at : ∀ p : Fin 1024, 1 ≤ p.1 → p.1.testBit (low p.1) = true ∧ (∀ i : Fin 10, i.1 < low p.1 → p.1.testBit i.1 = false) ∧ ∀ i : Fin 10, (drp p.1).testBit i.1 = (p.1.testBit i.1 && !(decide (i.1 = low p.1))) := by decide +kernel
theorem low_b {p : Nat} (h0 : 0 < p) (h : p < 1024) : p.testBit (low p) = true := (low_at ⟨p, h⟩ h0).1
theorem low_m {p i : Nat} (h0 : 0 < p) (h : p < 1024) (hi : p.testBit i = true) : low p ≤ i := by
  refine Nat.le_of_not_lt (fun k => ?_)
  have := (low_at ⟨p, h⟩ h0).2.1 ⟨i, bit_lt (n := 10) h hi⟩ k
  rw [hi] at this
  cases this
theorem bit_pos {p i : Nat} (h : p.testBit i = true) : 0 < p := by
  rcases Nat.eq_zero_or_pos p with e | e
  · rw [e, Nat.zero_testBit] at h; cases h
  · exact e
/-- how many bits -/
def pcN (s : Nat) : Nat → Nat
  | 0 => 0
  | k + 1 => pcN s k + s / 2 ^ k % 2
theorem pcN_b {s k : Nat} (h : s.testBit k = true) : pcN s (k + 1) = pcN s k + 1 := by
  rw [Nat.testBit_eq_decide_div_mod_eq, decide_eq_true_iff] at h
  show pcN s k + s / 2 ^ k % 2 = _
  rw [h]
theorem pcN_n {s k : Nat} (h : s.testBit k = false) : pcN s (k + 1) = pcN s k := by
  rw [Nat.testBit_eq_decide_div_mod_eq, decide_eq_false_iff_not] at h
  show pcN s k + s / 2 ^ k % 2 = _
  omega
theorem pcN_le {s : Nat} : ∀ k, pcN s k ≤ k := by
  intro k
  induction k with
  | zero => exact Nat.le_refl 0
  | succ k ih => show pcN s k + s / 2 ^ k % 2 ≤ _; omega
theorem pcN_mono {s : Nat} : ∀ d k, pcN s k ≤ pcN s (k + d) := by
  intro d k
  induction d with
  | zero => exact Nat.le_refl _
  | succ d ih => show _ ≤ pcN s (k + d) + s / 2 ^ (k + d) % 2; omega
def bcI (a1 : Int32) : Int32 :=
  let x1 := a1 - ((a1.toUInt32 >>> ((1 : Int32).toUInt32 &&& Int32.toUInt32 31)).toInt32 &&& (1431655765 : Int32))
  let x2 := (x1 &&& (858993459 : Int32)) + ((x1.toUInt32 >>> ((2 : Int32).toUInt32 &&& Int32.toUInt32 31)).toInt32 &&& (858993459 : Int32))
  let x3 := (x2 + (x2.toUInt32 >>> ((4 : Int32).toUInt32 &&& Int32.toUInt32 31)).toInt32) &&& (252645135 : Int32)
  let x4 := x3 + (x3.toUInt32 >>> ((8 : Int32).toUInt32 &&& Int32.toUInt32 31)).toInt32
  let x5 := x4 + (x4.toUInt32 >>> ((16 : Int32).toUInt32 &&& Int32.toUInt32 31)).toInt32
  x5 &&& (63 : Int32)
theorem bc_tab0 : ∀ a : Fin 64, ∀ b : Fin 64, bcI (nI (64 * a.1 + b.1)) = nI (pcN (64 * a.1 + b.1) 12) := by decide +kernel
theorem bc_tab {s : Nat} (h : s < 4096) : bcI (nI s) = nI (pcN s 12) := by
  have := bc_tab0 ⟨s / 64, by omega⟩ ⟨s % 64, by omega⟩
  simp only [Nat.div_add_mod] at this
  exact this
theorem p_bitCount (V : Vk) (a : Int32) (g : Hq) : r_J6_bitCount_0f7a4 V a g = some (bcI a, g) := rfl
/-- the courts of a set, by number -/
def csR (s : Nat) (old : Nat → Int32) : Nat → Nat → Int32
  | 0 => old
  | k + 1 => if s.testBit k = true then upd (csR s old k) (pcN s k) (nI k) else csR s old k
def ctF (s : Nat) : Nat → Nat → Nat
  | 0, _ => 0
  | k + 1, j => if s.testBit k = true ∧ j = pcN s k then k else ctF s k j
theorem csR_at {s : Nat} {old : Nat → Int32} : ∀ k j, j < pcN s k → csR s old k j = nI (ctF s k j) ∧ ctF s k j < k := by
  intro k
  induction k with
  | zero => intro j h; exact absurd h (Nat.not_lt_zero j)
  | succ k ih =>
    intro j h
    by_cases b : s.testBit k = true
    · rw [pcN_b b] at h
      have e1 : csR s old (k + 1) = upd (csR s old k) (pcN s k) (nI k) := by show (if _ then _ else _) = _; rw [if_pos b]
      have e2 : ctF s (k + 1) j = if s.testBit k = true ∧ j = pcN s k then k else ctF s k j := rfl
      by_cases q : j = pcN s k
      · rw [e1, e2, if_pos ⟨b, q⟩, q, upd_s]; exact ⟨rfl, by omega⟩
      · rw [e1, e2, if_neg (fun z => q z.2), upd_n q]
        have := ih j (by omega)
        exact ⟨this.1, by omega⟩
    · have b' : s.testBit k = false := by simpa using b
      rw [pcN_n b'] at h
      have e1 : csR s old (k + 1) = csR s old k := by show (if _ then _ else _) = _; rw [if_neg b]
      have e2 : ctF s (k + 1) j = if s.testBit k = true ∧ j = pcN s k then k else ctF s k j := rfl
      rw [e1, e2, if_neg (fun z => b z.1)]
      have := ih j h
      exact ⟨this.1, by omega⟩
/-! ===== sums, masks ===== -/
def smN (v : Nat → Nat) : Nat → Nat
  | 0 => 0
  | n + 1 => smN v n + v n
theorem smN_cg {v w : Nat → Nat} : ∀ n, (∀ i, i < n → v i = w i) → smN v n = smN w n := by
  intro n
  induction n with
  | zero => intro _; rfl
  | succ n ih => intro h; show smN v n + v n = smN w n + w n; rw [ih (fun i hi => h i (by omega)), h n (by omega)]
theorem smN_add {v w : Nat → Nat} : ∀ n, smN (fun i => v i + w i) n = smN v n + smN w n := by
  intro n
  induction n with
  | zero => rfl
  | succ n ih => show smN (fun i => v i + w i) n + (v n + w n) = smN v n + v n + (smN w n + w n); omega
theorem smN_hd {v : Nat → Nat} : ∀ n, smN v (n + 1) = v 0 + smN (fun k => v (k + 1)) n := by
  intro n
  induction n with
  | zero => show 0 + v 0 = v 0 + 0; omega
  | succ n ih => show smN v (n + 1) + v (n + 1) = v 0 + (smN (fun k => v (k + 1)) n + v (n + 1)); omega
theorem smN_le {v : Nat → Nat} {b : Nat} : ∀ n, (∀ i, i < n → v i ≤ b) → smN v n ≤ b * n := by
  intro n
  induction n with
  | zero => intro _; exact Nat.zero_le _
  | succ n ih =>
    intro h
    have h1 := ih (fun i hi => h i (by omega))
    have h2 := h n (by omega)
    show smN v n + v n ≤ b * (n + 1)
    rw [Nat.mul_add]
    omega
def mkM (q : Nat → Bool) : Nat → Nat
  | 0 => 0
  | n + 1 => if q n = true then mkM q n ||| 2 ^ n else mkM q n
theorem mkM_bit {q : Nat → Bool} : ∀ n i, (mkM q n).testBit i = (decide (i < n) && q i) := by
  intro n
  induction n with
  | zero => intro i; show (0 : Nat).testBit i = _; rw [Nat.zero_testBit]; simp
  | succ n ih =>
    intro i
    by_cases b : q n = true
    · have e : mkM q (n + 1) = mkM q n ||| 2 ^ n := by show (if _ then _ else _) = _; rw [if_pos b]
      rw [e, Nat.testBit_or, ih, Nat.testBit_two_pow]
      by_cases c : n = i
      · subst c; simp [b]
      · have : (decide (i < n)) = decide (i < n + 1) := by rw [decide_eq_decide]; omega
        rw [this]; simp [c]
    · have e : mkM q (n + 1) = mkM q n := by show (if _ then _ else _) = _; rw [if_neg b]
      rw [e, ih]
      by_cases c : n = i
      · subst c; simp [b]
      · have : (decide (i < n)) = decide (i < n + 1) := by rw [decide_eq_decide]; omega
        rw [this]
theorem mkM_lt {q : Nat → Bool} {n : Nat} : mkM q n < 2 ^ n := Nat.lt_pow_two_of_testBit _ (fun i hi => by
  rw [mkM_bit]
  have : decide (i < n) = false := by rw [decide_eq_false_iff_not]; omega
  rw [this]; rfl)
theorem bit_full {n i : Nat} : (2 ^ n - 1).testBit i = decide (i < n) := Nat.testBit_two_pow_sub_one n i
