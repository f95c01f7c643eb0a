/-! ===== plans: which man goes to which place ===== -/
def wt (i : Nat) : Nat := 16 ^ (9 - i)
def onN (p : Nat) : Nat := smN (fun i => if p.testBit i = true then wt i else 0) 10
def rowN (p : Nat) (f : Nat → Nat) : Nat := smN (fun i => if p.testBit i = true then f i * wt i else 0) 10
def ptM (p : Nat) (f : Nat → Nat) (k : Nat) : Nat := mkM (fun i => p.testBit i && decide (f i = k)) 10
def suT (T : Nat → Nat) (p : Nat) (f : Nat → Nat) (m : Nat) : Nat := smN (fun k => T (ptM p f k)) m
def vlP (T : Nat → Nat) (p : Nat) (f : Nat → Nat) (m : Nat) : Nat := m * 2 ^ 54 + suT T p f m * 2 ^ 40 + rowN p f
/-- restricted growth: men 0 .. m - 1, each first seen behind all lesser ones -/
def RGp (p : Nat) (f : Nat → Nat) (m : Nat) : Prop := (∀ i, p.testBit i = true → f i < m) ∧ (∀ k, k < m → ∃ i, p.testBit i = true ∧ f i = k) ∧ ∀ i, p.testBit i = true → ∀ k, k < f i → ∃ j, j < i ∧ p.testBit j = true ∧ f j = k
def vdP (T : Nat → Nat) (p : Nat) (f : Nat → Nat) (m : Nat) : Prop := ∀ k, k < m → T (ptM p f k) ≤ 999
theorem rg_le {p : Nat} {f : Nat → Nat} {m : Nat} (h : RGp p f m) : ∀ i, p.testBit i = true → f i ≤ i := by
  intro i
  induction i using Nat.strongRecOn with
  | _ i ih =>
    intro b
    rcases Nat.eq_zero_or_pos (f i) with e | e
    · omega
    · obtain ⟨j, j1, j2, j3⟩ := h.2.2 i b (f i - 1) (by omega)
      have := ih j j1 j2
      omega
theorem rg_m {p n : Nat} {f : Nat → Nat} {m : Nat} (h : RGp p f m) (hp : p < 2 ^ n) : m ≤ n := by
  rcases Nat.eq_zero_or_pos m with e | e
  · omega
  · obtain ⟨i, i1, i2⟩ := h.2.1 (m - 1) (by omega)
    have := rg_le h i i1
    have := bit_lt hp i1
    omega
theorem ptM_bit {p : Nat} {f : Nat → Nat} {k i : Nat} (hp : p < 1024) : (ptM p f k).testBit i = (p.testBit i && decide (f i = k)) := by
  unfold ptM
  rw [mkM_bit]
  by_cases b : p.testBit i = true
  · have := bit_lt (n := 10) hp b
    rw [show decide (i < 10) = true by rw [decide_eq_true_iff]; exact this, Bool.true_and]
  · have b' : p.testBit i = false := by simpa using b
    rw [b', Bool.false_and, Bool.and_false]
theorem ptM_lt {p : Nat} {f : Nat → Nat} {k : Nat} : ptM p f k < 1024 := mkM_lt (n := 10)
/-- what is left when the first man has gone -/
def SubL (l p : Nat) : Prop := (∀ i, l.testBit i = true → p.testBit i = true) ∧ l.testBit (low p) = false
theorem sub_lt {l p : Nat} (h : SubL l p) (h0 : 0 < p) (hp : p < 1024) : l < p := by
  have e : l &&& p = l := Nat.eq_of_testBit_eq (fun i => by
    rw [Nat.testBit_and]
    by_cases b : l.testBit i = true
    · rw [b, h.1 i b]; rfl
    · have b' : l.testBit i = false := by simpa using b
      rw [b', Bool.false_and])
  have le : l ≤ p := by rw [← e]; exact Nat.and_le_right
  have ne : l ≠ p := fun q => by
    have := h.2
    rw [q, low_b h0 hp] at this
    cases this
  omega
theorem pt_0 {l p : Nat} {f f' : Nat → Nat} (h : SubL l p) (hp : p < 1024) (e : ∀ i, p.testBit i = true → f i = if l.testBit i = true then f' i + 1 else 0) : ptM p f 0 = p ^^^ l := Nat.eq_of_testBit_eq (fun i => by
  rw [ptM_bit hp, Nat.testBit_xor]
  by_cases b : p.testBit i = true
  · rw [e i b, b]
    by_cases c : l.testBit i = true
    · rw [if_pos c, c]; simp
    · have c' : l.testBit i = false := by simpa using c
      rw [if_neg c, c']; simp
  · have b' : p.testBit i = false := by simpa using b
    have c : ¬ l.testBit i = true := fun z => b (h.1 i z)
    have c' : l.testBit i = false := by simpa using c
    rw [b', c']; simp)
theorem pt_s {l p : Nat} {f f' : Nat → Nat} {k : Nat} (h : SubL l p) (hp : p < 1024) (hl : l < 1024) (e : ∀ i, p.testBit i = true → f i = if l.testBit i = true then f' i + 1 else 0) : ptM p f (k + 1) = ptM l f' k := Nat.eq_of_testBit_eq (fun i => by
  rw [ptM_bit hp, ptM_bit hl]
  by_cases b : p.testBit i = true
  · rw [e i b, b]
    by_cases c : l.testBit i = true
    · rw [if_pos c, c]; simp
    · have c' : l.testBit i = false := by simpa using c
      rw [if_neg c, c']; simp
  · have b' : p.testBit i = false := by simpa using b
    have c : ¬ l.testBit i = true := fun z => b (h.1 i z)
    have c' : l.testBit i = false := by simpa using c
    rw [b', c']; simp)
theorem row_s {l p : Nat} {f f' : Nat → Nat} (h : SubL l p) (e : ∀ i, p.testBit i = true → f i = if l.testBit i = true then f' i + 1 else 0) : rowN p f = rowN l f' + onN l := by
  unfold rowN onN
  rw [← smN_add]
  refine smN_cg 10 (fun i _ => ?_)
  by_cases b : p.testBit i = true
  · rw [if_pos b, e i b]
    by_cases c : l.testBit i = true
    · rw [if_pos c, if_pos c, if_pos c, Nat.add_mul, Nat.one_mul]
    · rw [if_neg c, if_neg c, if_neg c, Nat.zero_mul]
  · rw [if_neg b, if_neg (fun z => b (h.1 i z)), if_neg (fun z => b (h.1 i z))]
theorem vl_step {T : Nat → Nat} {l p : Nat} {f f' : Nat → Nat} {m : Nat} (h : SubL l p) (hp : p < 1024) (hl : l < 1024) (e : ∀ i, p.testBit i = true → f i = if l.testBit i = true then f' i + 1 else 0) : vlP T p f (m + 1) = vlP T l f' m + onN l + 2 ^ 54 + T (p ^^^ l) * 2 ^ 40 := by
  have s : suT T p f (m + 1) = T (p ^^^ l) + suT T l f' m := by
    unfold suT
    rw [smN_hd, pt_0 h hp e]
    congr 1
    exact smN_cg m (fun k _ => by rw [pt_s h hp hl e])
  unfold vlP
  rw [s, row_s h e, Nat.add_mul, Nat.add_mul]
  omega
theorem rg_up {l p : Nat} {f f' : Nat → Nat} {m : Nat} (h : SubL l p) (h0 : 0 < p) (hp : p < 1024) (e : ∀ i, p.testBit i = true → f i = if l.testBit i = true then f' i + 1 else 0) (r : RGp l f' m) : RGp p f (m + 1) := by
  have lb := low_b h0 hp
  have l0 : f (low p) = 0 := by rw [e _ lb, if_neg (by rw [h.2]; decide)]
  refine ⟨fun i b => ?_, fun k hk => ?_, fun i b k hk => ?_⟩
  · rw [e i b]
    by_cases c : l.testBit i = true
    · rw [if_pos c]; have := r.1 i c; omega
    · rw [if_neg c]; omega
  · rcases Nat.eq_zero_or_pos k with z | z
    · exact ⟨low p, lb, by rw [l0, z]⟩
    · obtain ⟨i, i1, i2⟩ := r.2.1 (k - 1) (by omega)
      exact ⟨i, h.1 i i1, by rw [e i (h.1 i i1), if_pos i1]; omega⟩
  · rw [e i b] at hk
    by_cases c : l.testBit i = true
    · rw [if_pos c] at hk
      rcases Nat.eq_zero_or_pos k with z | z
      · refine ⟨low p, ?_, lb, by rw [l0, z]⟩
        have := low_m h0 hp b
        have ne : low p ≠ i := fun q => by rw [← q, h.2] at c; cases c
        omega
      · obtain ⟨j, j1, j2, j3⟩ := r.2.2 i c (k - 1) (by omega)
        exact ⟨j, j1, h.1 j j2, by rw [e j (h.1 j j2), if_pos j2]; omega⟩
    · rw [if_neg c] at hk; omega
theorem rg_dn {l p : Nat} {f f' : Nat → Nat} {m : Nat} (h : SubL l p) (e : ∀ i, p.testBit i = true → f i = if l.testBit i = true then f' i + 1 else 0) (r : RGp p f (m + 1)) : RGp l f' m := by
  have el : ∀ i, l.testBit i = true → f i = f' i + 1 := fun i c => by rw [e i (h.1 i c), if_pos c]
  have inl : ∀ i, p.testBit i = true → 0 < f i → l.testBit i = true := fun i b z => by
    by_cases c : l.testBit i = true
    · exact c
    · rw [e i b, if_neg c] at z; omega
  refine ⟨fun i c => ?_, fun k hk => ?_, fun i c k hk => ?_⟩
  · have := r.1 i (h.1 i c); rw [el i c] at this; omega
  · obtain ⟨i, i1, i2⟩ := r.2.1 (k + 1) (by omega)
    have c := inl i i1 (by omega)
    exact ⟨i, c, by have := el i c; omega⟩
  · obtain ⟨j, j1, j2, j3⟩ := r.2.2 i (h.1 i c) (k + 1) (by rw [el i c]; omega)
    have d := inl j j2 (by omega)
    exact ⟨j, j1, d, by have := el j d; omega⟩
/-- the table of best plans -/
def PLok (T PL : Nat → Nat) (K : Nat) : Prop := PL 0 = 0 ∧ ∀ p, 0 < p → p < K → (∀ l, SubL l p → T (p ^^^ l) ≤ 999 → PL p ≤ PL l + onN l + 2 ^ 54 + T (p ^^^ l) * 2 ^ 40) ∧ ∃ l, SubL l p ∧ T (p ^^^ l) ≤ 999 ∧ PL p = PL l + onN l + 2 ^ 54 + T (p ^^^ l) * 2 ^ 40
theorem rg_0 {p : Nat} {f : Nat → Nat} (r : RGp p f 0) : p = 0 := Nat.eq_of_testBit_eq (fun i => by
  rw [Nat.zero_testBit]
  by_cases b : p.testBit i = true
  · have := r.1 i b; omega
  · simpa using b)
theorem vl_0 {T : Nat → Nat} {f : Nat → Nat} : vlP T 0 f 0 = 0 := by
  unfold vlP suT rowN
  have : smN (fun i => if (0 : Nat).testBit i = true then f i * wt i else 0) 10 = 0 := by
    rw [smN_cg (w := fun _ => 0) 10 (fun i _ => by rw [Nat.zero_testBit, if_neg (by decide)])]
    rfl
  have e : smN (fun k => T (ptM 0 f k)) 0 = 0 := rfl
  rw [this, e, Nat.zero_mul]
theorem plA {T PL : Nat → Nat} {K : Nat} (n10 : K ≤ 1024) (h : PLok T PL K) : ∀ m p f, p < K → RGp p f m → vdP T p f m → PL p ≤ vlP T p f m := by
  intro m
  induction m with
  | zero => intro p f hp r _; rw [rg_0 r, vl_0, h.1]; exact Nat.le_refl 0
  | succ m ih =>
    intro p f hp r v
    have hp' : p < 1024 := by omega
    have h0 : 0 < p := by obtain ⟨i, i1, -⟩ := r.2.1 0 (by omega); exact bit_pos i1
    obtain ⟨l, el⟩ : ∃ l, l = mkM (fun i => p.testBit i && decide (0 < f i)) 10 := ⟨_, rfl⟩
    have bl : ∀ i, l.testBit i = true ↔ p.testBit i = true ∧ 0 < f i := fun i => by
      rw [el, mkM_bit]
      constructor
      · intro z; simp at z; exact ⟨z.2.1, z.2.2⟩
      · intro z; have := bit_lt (n := 10) hp' z.1; simp; exact ⟨this, z.1, z.2⟩
    have lb := low_b h0 hp'
    have sl : SubL l p := ⟨fun i z => ((bl i).mp z).1, by
      have : ¬ l.testBit (low p) = true := fun z => by
        obtain ⟨j, j1, j2, -⟩ := r.2.2 (low p) lb 0 ((bl _).mp z).2
        have := low_m h0 hp' j2
        omega
      simpa using this⟩
    have e : ∀ i, p.testBit i = true → f i = if l.testBit i = true then (fun i => f i - 1) i + 1 else 0 := fun i b => by
      by_cases c : l.testBit i = true
      · rw [if_pos c]; have := ((bl i).mp c).2; show f i = f i - 1 + 1; omega
      · rw [if_neg c]
        rcases Nat.eq_zero_or_pos (f i) with z | z
        · exact z
        · exact absurd ((bl i).mpr ⟨b, z⟩) c
    have lt := sub_lt sl h0 hp'
    have k1 := ih l (fun i => f i - 1) (by omega) (rg_dn sl e r) (fun k hk => by rw [← pt_s sl hp' (by omega) e]; exact v (k + 1) (by omega))
    have k2 := ((h.2 p h0 hp).1 l sl (by rw [← pt_0 sl hp' e]; exact v 0 (by omega)))
    rw [vl_step sl hp' (by omega) e]
    omega
theorem plB {T PL : Nat → Nat} {K : Nat} (n10 : K ≤ 1024) (h : PLok T PL K) : ∀ p, p < K → ∃ m f, RGp p f m ∧ vdP T p f m ∧ PL p = vlP T p f m := by
  intro p
  induction p using Nat.strongRecOn with
  | _ p ih =>
    intro hp
    have hp' : p < 1024 := by omega
    rcases Nat.eq_zero_or_pos p with z | h0
    · subst z
      refine ⟨0, fun _ => 0, ⟨fun i b => ?_, fun k hk => absurd hk (by omega), fun i b => ?_⟩, fun k hk => absurd hk (by omega), by rw [vl_0, h.1]⟩
      · rw [Nat.zero_testBit] at b; cases b
      · rw [Nat.zero_testBit] at b; cases b
    · obtain ⟨l, sl, tl, el⟩ := (h.2 p h0 hp).2
      have lt := sub_lt sl h0 hp'
      obtain ⟨m, f', r, v, ev⟩ := ih l lt (by omega)
      have e : ∀ i, p.testBit i = true → (fun i => if l.testBit i = true then f' i + 1 else 0) i = if l.testBit i = true then f' i + 1 else 0 := fun i _ => rfl
      refine ⟨m + 1, fun i => if l.testBit i = true then f' i + 1 else 0, rg_up sl h0 hp' e r, fun k hk => ?_, ?_⟩
      · rcases Nat.eq_zero_or_pos k with z | z
        · rw [z, pt_0 sl hp' e]; exact tl
        · obtain ⟨k', rfl⟩ : ∃ k', k = k' + 1 := ⟨k - 1, by omega⟩
          rw [pt_s sl hp' (by omega) e]; exact v k' (by omega)
      · rw [vl_step sl hp' (by omega) e, el, ev]
/-- the row of a prefix -/
def rwN (f : Nat → Nat) (n : Nat) : Nat := smN (fun j => f j * wt j) n
theorem wt_s {i : Nat} (h : i < 9) : wt i = 16 * wt (i + 1) := by unfold wt; rw [show 9 - i = (9 - (i + 1)) + 1 by omega, Nat.pow_succ]; omega
theorem wt_pos {i : Nat} : 0 < wt i := Nat.pow_pos (by decide)
theorem rwN_cg {f g : Nat → Nat} {n : Nat} (h : ∀ j, j < n → f j = g j) : rwN f n = rwN g n := smN_cg n (fun j hj => by rw [h j hj])
theorem row_rw {n : Nat} {f : Nat → Nat} (hn : n ≤ 10) : rowN (2 ^ n - 1) f = rwN f n := by
  unfold rowN rwN
  have : ∀ d, n ≤ d → smN (fun i => if (2 ^ n - 1).testBit i = true then f i * wt i else 0) d = smN (fun j => f j * wt j) n := by
    intro d
    induction d with
    | zero => intro h; have : n = 0 := by omega
              subst this; rfl
    | succ d ih =>
      intro h
      by_cases q : n = d + 1
      · rw [q]
        refine smN_cg (d + 1) (fun i hi => ?_)
        rw [bit_full, decide_eq_true hi, if_pos rfl]
      · show smN (fun i => if (2 ^ n - 1).testBit i = true then f i * wt i else 0) d + (if (2 ^ n - 1).testBit d = true then f d * wt d else 0) = _
        rw [ih (by omega), bit_full, if_neg (by rw [decide_eq_true_iff]; omega)]
        rfl
  exact this 10 hn
/-- what comes behind a place weighs less than one man more there -/
theorem rw_tail {f : Nat → Nat} {i : Nat} : ∀ n, i < n → n ≤ 10 → (∀ j, j < n → f j ≤ 15) → rwN f n + wt (n - 1) ≤ rwN f (i + 1) + wt i := by
  intro n
  induction n with
  | zero => intro h; omega
  | succ n ih =>
    intro h hn hf
    by_cases q : i = n
    · subst q; exact Nat.le_refl _
    · have k := ih (by omega) (by omega) (fun j hj => hf j (by omega))
      have e : rwN f (n + 1) = rwN f n + f n * wt n := rfl
      have w := wt_s (i := n - 1) (by omega)
      rw [show n - 1 + 1 = n by omega] at w
      have b := hf n (by omega)
      have m : f n * wt n ≤ 15 * wt n := Nat.mul_le_mul_right _ b
      rw [e, show n + 1 - 1 = n by omega]
      omega
theorem rw_lt {f : Nat → Nat} {n : Nat} (hn : n ≤ 10) (hf : ∀ j, j < n → f j ≤ 15) : rwN f n < 2 ^ 40 := by
  rcases Nat.eq_zero_or_pos n with z | z
  · subst z; exact (by decide : 0 < 2 ^ 40)
  · have k := rw_tail (i := 0) n z hn hf
    have e : rwN f (0 + 1) = 0 + f 0 * wt 0 := rfl
    have w : wt 0 = 16 ^ 9 := rfl
    have b := hf 0 z
    have p := wt_pos (i := n - 1)
    have m : f 0 * wt 0 ≤ 15 * wt 0 := Nat.mul_le_mul_right _ b
    rw [e] at k
    rw [w] at k m
    omega
