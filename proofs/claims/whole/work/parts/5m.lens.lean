/-! ===== least values ===== -/
def IsMin (x b : Int) (p : Nat → Prop) (f : Nat → Int) (n : Nat) : Prop := x ≤ b ∧ (∀ k, k < n → p k → x ≤ f k) ∧ (x = b ∨ ∃ k, k < n ∧ p k ∧ x = f k)
theorem mi_0 {b : Int} {p : Nat → Prop} {f : Nat → Int} : IsMin b b p f 0 := ⟨Int.le_refl _, fun k hk => absurd hk (Nat.not_lt_zero k), Or.inl rfl⟩
theorem mi_n {x b : Int} {p : Nat → Prop} {f : Nat → Int} {n : Nat} (h : IsMin x b p f n) (hp : ¬ p n) : IsMin x b p f (n + 1) := by
  refine ⟨h.1, fun k hk pk => ?_, ?_⟩
  · by_cases e : k = n
    · subst e; exact absurd pk hp
    · exact h.2.1 k (by omega) pk
  · rcases h.2.2 with q | ⟨k, k1, k2, k3⟩
    · exact Or.inl q
    · exact Or.inr ⟨k, by omega, k2, k3⟩
theorem mi_ge {x b : Int} {p : Nat → Prop} {f : Nat → Int} {n : Nat} (h : IsMin x b p f n) (hl : x ≤ f n) : IsMin x b p f (n + 1) := by
  refine ⟨h.1, fun k hk pk => ?_, ?_⟩
  · by_cases e : k = n
    · subst e; exact hl
    · exact h.2.1 k (by omega) pk
  · rcases h.2.2 with q | ⟨k, k1, k2, k3⟩
    · exact Or.inl q
    · exact Or.inr ⟨k, by omega, k2, k3⟩
theorem mi_lt {x y b : Int} {p : Nat → Prop} {f : Nat → Int} {n : Nat} (h : IsMin x b p f n) (hp : p n) (hy : y = f n) (hl : y ≤ x) : IsMin y b p f (n + 1) := by
  refine ⟨by have := h.1; omega, fun k hk pk => ?_, Or.inr ⟨n, by omega, hp, hy⟩⟩
  by_cases e : k = n
  · subst e; omega
  · have := h.2.1 k (by omega) pk; omega
theorem mi_cg {x b : Int} {p : Nat → Prop} {f f' : Nat → Int} {n : Nat} (h : IsMin x b p f n) (e : ∀ k, k < n → p k → f' k = f k) : IsMin x b p f' n := by
  refine ⟨h.1, fun k hk pk => by rw [e k hk pk]; exact h.2.1 k hk pk, ?_⟩
  rcases h.2.2 with q | ⟨k, k1, k2, k3⟩
  · exact Or.inl q
  · exact Or.inr ⟨k, k1, k2, by rw [e k k1 k2]; exact k3⟩
theorem mi_nn {x b : Int} {p : Nat → Prop} {f : Nat → Int} {n : Nat} (h : IsMin x b p f n) (hb : 0 ≤ b) (hf : ∀ k, k < n → p k → 0 ≤ f k) : 0 ≤ x := by
  rcases h.2.2 with q | ⟨k, k1, k2, k3⟩
  · omega
  · have := hf k k1 k2; omega
/-- alike below 1000 -/
def e1k (a b : Int) : Prop := a = b ∨ (1000 ≤ a ∧ 1000 ≤ b)
theorem e1k_add {a b c d : Int} (h : e1k a b) (k : e1k c d) (a0 : 0 ≤ a) (b0 : 0 ≤ b) (c0 : 0 ≤ c) (d0 : 0 ≤ d) : e1k (a + c) (b + d) := by
  unfold e1k at *; omega
theorem mi_rel {x y bx bb : Int} {px py : Nat → Prop} {fx fy : Nat → Int} {nx ny : Nat} (hx : IsMin x bx px fx nx) (hy : IsMin y bb py fy ny) (hb : 1000 ≤ bx) (hb2 : 1000 ≤ bb) (t : ∀ k, k < nx → px k → ∃ k', k' < ny ∧ py k' ∧ e1k (fx k) (fy k')) (t2 : ∀ k, k < ny → py k → 1000 ≤ fy k ∨ ∃ k', k' < nx ∧ px k' ∧ e1k (fx k') (fy k)) : e1k x y := by
  unfold e1k at *
  by_cases q : x < 1000
  · left
    rcases hx.2.2 with z | ⟨k, k1, k2, k3⟩
    · omega
    · obtain ⟨k', a1, a2, a3⟩ := t k k1 k2
      have le := hy.2.1 k' a1 a2
      rcases hy.2.2 with z | ⟨j, j1, j2, j3⟩
      · omega
      · rcases t2 j j1 j2 with w | ⟨j', b1, b2, b3⟩
        · omega
        · have := hx.2.1 j' b1 b2
          omega
  · right
    refine ⟨by omega, ?_⟩
    rcases hy.2.2 with z | ⟨j, j1, j2, j3⟩
    · omega
    · rcases t2 j j1 j2 with w | ⟨j', b1, b2, b3⟩
      · omega
      · have := hx.2.1 j' b1 b2
        omega
/-! ===== the reference's lengths ===== -/
def dI (F : Nat → Int32) (cs : Nat → Nat) (i j : Nat) : Int := (F (12 * cs i + cs j)).toInt
def wI (F : Nat → Int32) (cs : Nat → Nat) (i : Nat) : Int := (F (cs i)).toInt
def LB (V : Vk) (n : Nat) (cs : Nat → Nat) (F75 F73 : Nat → Int32) (g : Hq) : Prop := ShV V ∧ ShR g.2.2 ∧ n ≤ 10 ∧ g.1 70 15 = nI n ∧ (∀ i, i < n → g.1 76 i = nI (cs i) ∧ cs i < 12) ∧ g.1 75 = F75 ∧ g.1 73 = F73 ∧ (∀ j, j < 144 → 0 ≤ (F75 j).toInt ∧ (F75 j).toInt ≤ 1000000) ∧ ∀ c, c < 12 → 1 ≤ (F73 c).toInt ∧ (F73 c).toInt ≤ 999
def Fl (g g2 : Hq) : Prop := (∀ a, a ≠ 77 → a ≠ 78 → g2.1 a = g.1 a) ∧ g2.2 = g.2
theorem Fl.rf {g : Hq} : Fl g g := ⟨fun _ _ _ => rfl, rfl⟩
theorem Fl.tr {g g1 g2 : Hq} (h : Fl g g1) (k : Fl g1 g2) : Fl g g2 := ⟨fun a h1 h2 => (k.1 a h1 h2).trans (h.1 a h1 h2), k.2.trans h.2⟩
theorem Fl.w {g : Hq} {k j : Nat} {v : Int32} (h : k = 77 ∨ k = 78) : Fl g (sI g k j v) := ⟨fun a h1 h2 => by rw [sI_1, up2_nk _ _ _ (by omega)], rfl⟩
theorem LB.f {V : Vk} {n : Nat} {cs : Nat → Nat} {F75 F73 : Nat → Int32} {g g2 : Hq} (h : LB V n cs F75 F73 g) (k : Fl g g2) : LB V n cs F75 F73 g2 := by
  unfold LB
  rw [k.2, k.1 70 (by decide) (by decide), k.1 76 (by decide) (by decide), k.1 75 (by decide) (by decide), k.1 73 (by decide) (by decide)]
  exact h
theorem dI_b {V : Vk} {n i j : Nat} {cs : Nat → Nat} {F75 F73 : Nat → Int32} {g : Hq} (B : LB V n cs F75 F73 g) (hi : i < n) (hj : j < n) : 0 ≤ dI F75 cs i j ∧ dI F75 cs i j ≤ 1000000 := by
  have h1 := (B.2.2.2.2.1 i hi).2
  have h2 := (B.2.2.2.2.1 j hj).2
  exact B.2.2.2.2.2.2.2.1 _ (by omega)
theorem m_farOf {V : Vk} {n i j : Nat} {cs : Nat → Nat} {F75 F73 : Nat → Int32} {g : Hq} (B : LB V n cs F75 F73 g) (hi : i < n) (hj : j < n) : r_X12_farOf V 70 (nI i) (nI j) g = some (F75 (12 * cs i + cs j), g) := by
  obtain ⟨hV, hR, hn, h15, hc, e75, -, -, -⟩ := B
  obtain ⟨c1, c2⟩ := hc i hi
  obtain ⟨d1, d2⟩ := hc j hj
  unfold r_X12_farOf
  rw [grd_t (v_70 hV), q_70_13 hR, bind_some', q_70_14 hR, bind_some', grd_t (ok_nI (n := 10) (t := 0) (v_76 hV) (by omega) (by decide)), bind_some', grd_t (ok_nI (n := 10) (t := 0) (v_76 hV) (by omega) (by decide)), cl_nI (by omega), cl_nI (by omega), c1, d1, mx, grd_t (ok_nI (n := 144) (t := 0) (v_75 hV) (by omega) (by decide)), cl_nI (by omega), e75]
def pP (s i j : Nat) : Prop := (s ^^^ 2 ^ i).testBit j = true ∧ (j ≠ low s ∨ s ^^^ 2 ^ i = 2 ^ low s)
def PSp (D : Nat → Nat → Int) (n : Nat) (R : Nat → Int32) (s i : Nat) : Prop := 0 ≤ (R (10 * s + i)).toInt ∧ (R (10 * s + i)).toInt ≤ 1000000 ∧ (i = low s → (R (10 * s + i)).toInt = if s = 2 ^ i then 0 else 1000000) ∧ (i ≠ low s → IsMin (R (10 * s + i)).toInt 1000000 (pP s i) (fun j => (R (10 * (s ^^^ 2 ^ i) + j)).toInt + D j i) n)
theorem xor_lt {s i : Nat} (h : s.testBit i = true) : s ^^^ 2 ^ i < s := by
  have e : (s ^^^ 2 ^ i) &&& s = s ^^^ 2 ^ i := Nat.eq_of_testBit_eq (fun j => by
    rw [Nat.testBit_and, Nat.testBit_xor, Nat.testBit_two_pow]
    by_cases c : i = j
    · subst c; rw [h]; simp
    · simp [c])
  have le : s ^^^ 2 ^ i ≤ s := by rw [← e]; exact Nat.and_le_right
  have ne : s ^^^ 2 ^ i ≠ s := fun q => by
    have : (s ^^^ 2 ^ i).testBit i = s.testBit i := by rw [q]
    rw [Nat.testBit_xor, Nat.testBit_two_pow, h] at this
    simp at this
  omega
theorem PSp_cg {D : Nat → Nat → Int} {n s i : Nat} {R R2 : Nat → Int32} (hn : n ≤ 10) (hs : s.testBit i = true) (h : PSp D n R s i) (e : R2 (10 * s + i) = R (10 * s + i)) (e2 : ∀ q, q < 10 * s → R2 q = R q) : PSp D n R2 s i := by
  obtain ⟨h1, h2, h3, h4⟩ := h
  have lt := xor_lt hs
  unfold PSp
  rw [e]
  exact ⟨h1, h2, h3, fun q => mi_cg (h4 q) (fun k hk _ => by rw [e2 _ (by omega)])⟩
def LSp (D : Nat → Nat → Int) (wi : Nat → Int) (n : Nat) (R R78 : Nat → Int32) (s : Nat) : Prop := ∃ best bound : Int, IsMin best 1000000 (fun i => s.testBit i = true) (fun i => (R (10 * s + i)).toInt + D i (low s)) n ∧ IsMin bound 1000000 (fun i => s.testBit i = true) wi n ∧ (R78 s).toInt = if bound < best then 1000000 else best
def MLok (D : Nat → Nat → Int) (wi : Nat → Int) (n : Nat) (R R78 : Nat → Int32) (k : Nat) : Prop := ∀ s, 0 < s → s < k → (∀ i, s.testBit i = true → PSp D n R s i) ∧ LSp D wi n R R78 s
theorem m_least {V : Vk} {s : Nat} {g : Hq} (h0 : 0 < s) (hs : s < 1024) : r_X12_least V (nI s) g = some (nI (low s), g) := by
  have l10 := low_lt ⟨s, hs⟩
  have l10' : low s < 10 := l10
  unfold r_X12_least
  refine run_for (f := r_X12_least_2 V) (fun i => (nI s, nI i, g)) (low s) (fun i hi => ?_) ?_ (low s) 0 (by omega)
  · show r_X12_least_2' V (nI s) (nI i) g = some (.inl (nI s, nI (i + 1), g))
    unfold r_X12_least_2'
    have : s.testBit i = false := by
      have : ¬ s.testBit i = true := fun z => by have := low_m h0 hs z; omega
      simpa using this
    rw [brn_t ((b_bit0 (by omega) (by omega)).mpr this), nm_eq, nI_1]
  · show r_X12_least_2' V (nI s) (nI (low s)) g = _
    unfold r_X12_least_2'
    rw [brn_f (fun z => by rw [b_bit0 (by omega) (by omega), low_b h0 hs] at z; cases z)]
theorem i_sum {a b : Int32} {m : Int} (ha : 0 ≤ a.toInt) (ha2 : a.toInt ≤ 1000000) (hb : 0 ≤ b.toInt) (hb2 : b.toInt ≤ 1000000) : (a + b).toInt = a.toInt + b.toInt := i_add (by omega) (by omega)
theorem m_119 {V : Vk} {n s i rest : Nat} {cs : Nat → Nat} {F75 F73 : Nat → Int32} {g : Hq} {be bo : Int32} (B : LB V n cs F75 F73 g) (hs : s < 2 ^ n) (hi : i < n) (er : rest = s ^^^ 2 ^ i) (hr : rest < s) (HP : ∀ j, rest.testBit j = true → 0 ≤ (g.1 77 (10 * rest + j)).toInt ∧ (g.1 77 (10 * rest + j)).toInt ≤ 1000000) : ∀ d j x, j + d = n → IsMin x.toInt 1000000 (pP s i) (fun j => (g.1 77 (10 * rest + j)).toInt + dI F75 cs j i) j → ∃ x' : Int32, IsMin x'.toInt 1000000 (pP s i) (fun j => (g.1 77 (10 * rest + j)).toInt + dI F75 cs j i) n ∧ lop (r_X12_makeLengths_119 V) (70, nI s, nI (low s), be, bo, nI i, nI rest, x, nI j, g) = r_X12_makeLengths_210 V 70 (nI s) (nI (low s)) be bo (nI i) x' g := by
  obtain ⟨hV, hR, hn, h15, hc, e75, e73, -, -⟩ := id B
  have n10 := p2_le hn
  have hs' : s < 1024 := by omega
  have l10 : low s < 10 := low_lt ⟨s, hs'⟩
  have tm : (1000000 : Int32).toInt = 1000000 := rfl
  intro d
  induction d with
  | zero =>
    intro j x hj h
    have e : j = n := by omega
    subst e
    refine ⟨x, h, lop_map ?_⟩
    show r_X12_makeLengths_119' V 70 (nI s) (nI (low s)) be bo (nI i) (nI rest) x (nI j) g = _
    unfold r_X12_makeLengths_119'
    rw [grd_t (v_70 hV), h15, brn_t (nI_le (Nat.le_refl _) (by omega))]
  | succ d ih =>
    intro j x hj h
    have hjn : j < n := by omega
    have skip : ∀ x', r_X12_makeLengths_119 V (70, nI s, nI (low s), be, bo, nI i, nI rest, x, nI j, g) = some (.inl (70, nI s, nI (low s), be, bo, nI i, nI rest, x', nI (j + 1), g)) → IsMin x'.toInt 1000000 (pP s i) (fun j => (g.1 77 (10 * rest + j)).toInt + dI F75 cs j i) (j + 1) → ∃ x' : Int32, IsMin x'.toInt 1000000 (pP s i) (fun j => (g.1 77 (10 * rest + j)).toInt + dI F75 cs j i) n ∧ lop (r_X12_makeLengths_119 V) (70, nI s, nI (low s), be, bo, nI i, nI rest, x, nI j, g) = r_X12_makeLengths_210 V 70 (nI s) (nI (low s)) be bo (nI i) x' g := by
      intro x' e hx'
      rw [lop_l e]
      exact ih (j + 1) x' (by omega) hx'
    have take : rest.testBit j = true → (j ≠ low s ∨ rest = 2 ^ low s) → r_X12_makeLengths_119 V (70, nI s, nI (low s), be, bo, nI i, nI rest, x, nI j, g) = r_X12_makeLengths_153 V 70 (nI s) (nI (low s)) be bo (nI i) (nI rest) x (nI j) g → ∃ x' : Int32, IsMin x'.toInt 1000000 (pP s i) (fun j => (g.1 77 (10 * rest + j)).toInt + dI F75 cs j i) n ∧ lop (r_X12_makeLengths_119 V) (70, nI s, nI (low s), be, bo, nI i, nI rest, x, nI j, g) = r_X12_makeLengths_210 V 70 (nI s) (nI (low s)) be bo (nI i) x' g := by
      intro b c e
      obtain ⟨p1, p2⟩ := HP j b
      obtain ⟨d1, d2⟩ := dI_b B hjn hi
      have sum : (g.1 77 (10 * rest + j) + F75 (12 * cs j + cs i)).toInt = (g.1 77 (10 * rest + j)).toInt + dI F75 cs j i := i_sum (m := 0) p1 p2 d1 d2
      have pj : pP s i j := by unfold pP; rw [← er]; exact ⟨b, c⟩
      unfold r_X12_makeLengths_153 at e
      rw [grd_t (v_70 hV), q_70_16 hR, bind_some', show (10 : Int32) * nI rest + nI j = nI (10 * rest + j) by rw [show (10 : Int32) = nI 10 from rfl, pk_mul, nI_add], grd_t (ok_nI (n := 10240) (t := 0) (v_77 hV) (by omega) (by decide)), m_farOf B hjn hi, bnd_some, cl_nI (by omega)] at e
      by_cases q : x ≤ g.1 77 (10 * rest + j) + F75 (12 * cs j + cs i)
      · rw [brn_t q, nm_eq, nI_1] at e
        rw [i_le, sum] at q
        exact skip x e (mi_ge h q)
      · rw [brn_f q, q_70_16 hR, bind_some', grd_t (ok_nI (n := 10240) (t := 0) (v_77 hV) (by omega) (by decide)), m_farOf B hjn hi, bnd_some, nm_eq, nm_eq, nI_1] at e
        rw [i_le, sum] at q
        exact skip _ e (mi_lt h pj sum (by omega))
    have st : r_X12_makeLengths_119 V (70, nI s, nI (low s), be, bo, nI i, nI rest, x, nI j, g) = r_X12_makeLengths_119' V 70 (nI s) (nI (low s)) be bo (nI i) (nI rest) x (nI j) g := rfl
    unfold r_X12_makeLengths_119' at st
    rw [grd_t (v_70 hV), h15, brn_f (nI_ge hjn (by omega)), b_one (by omega)] at st
    by_cases b : rest.testBit j = true
    · rw [brn_t ((b_bit1 (by omega) (by omega)).mpr b)] at st
      by_cases c : j = low s
      · rw [brn_t (by rw [c])] at st
        by_cases d' : rest = 2 ^ low s
        · rw [brn_t (by rw [d'])] at st
          exact take b (Or.inr d') st
        · have p : 2 ^ low s < 2 ^ 10 := p2_lt l10
          rw [brn_f (by rw [nI_eq (by omega) (by omega)]; exact d'), nm_eq, nI_1] at st
          refine skip x st (mi_n h (fun z => ?_))
          unfold pP at z
          rw [← er] at z
          rcases z.2 with w | w
          · exact w c
          · exact d' w
      · rw [brn_f (by rw [nI_eq (by omega) (by omega)]; exact c)] at st
        exact take b (Or.inl c) st
    · rw [brn_f (fun z => b ((b_bit1 (by omega) (by omega)).mp z)), nm_eq, nI_1] at st
      refine skip x st (mi_n h (fun z => ?_))
      unfold pP at z
      rw [← er] at z
      exact b z.1
theorem m_210 {V : Vk} {n s i : Nat} {cs : Nat → Nat} {F75 F73 : Nat → Int32} {g : Hq} {be bo x : Int32} (B : LB V n cs F75 F73 g) (h0 : 0 < s) (hs : s < 2 ^ n) (hi : i < n) (x0 : 0 ≤ x.toInt) (x1 : x.toInt ≤ 1000000) : ∃ be' : Int32, r_X12_makeLengths_210 V 70 (nI s) (nI (low s)) be bo (nI i) x g = some (.inl (70, nI s, nI (low s), be', bo, nI (i + 1), sI g 77 (10 * s + i) x)) ∧ be'.toInt = if x.toInt + dI F75 cs i (low s) < be.toInt then x.toInt + dI F75 cs i (low s) else be.toInt := by
  obtain ⟨hV, hR, hn, h15, hc, e75, e73, -, -⟩ := id B
  have n10 := p2_le hn
  have hs' : s < 1024 := by omega
  have ln : low s < n := bit_lt hs (low_b h0 hs')
  obtain ⟨d1, d2⟩ := dI_b B hi ln
  have B2 : LB V n cs F75 F73 (sI g 77 (10 * s + i) x) := B.f (Fl.w (Or.inl rfl))
  have sum : (x + F75 (12 * cs i + cs (low s))).toInt = x.toInt + dI F75 cs i (low s) := i_sum (m := 0) x0 x1 d1 d2
  unfold r_X12_makeLengths_210
  rw [grd_t (v_70 hV), q_70_16 hR, bind_some', show (10 : Int32) * nI s + nI i = nI (10 * s + i) by rw [show (10 : Int32) = nI 10 from rfl, pk_mul, nI_add], grd_t (ok_nI (n := 10240) (t := 0) (v_77 hV) (by omega) (by decide)), cl_nI (by omega), nm_eq, m_farOf B2 hi ln, bnd_some]
  by_cases q : be ≤ x + F75 (12 * cs i + cs (low s))
  · rw [brn_t q, nm_eq, nI_1]
    rw [i_le, sum] at q
    exact ⟨be, rfl, by rw [if_neg (by omega)]⟩
  · rw [brn_f q, m_farOf B2 hi ln, bnd_some, nm_eq, nm_eq, nI_1]
    rw [i_le, sum] at q
    exact ⟨_, rfl, by rw [sum, if_pos (by omega)]⟩
theorem low_p2 {i : Nat} (hi : i < 10) : low (2 ^ i) = i := by
  have p := p2_lt hi
  have b := low_b (p := 2 ^ i) (Nat.pow_pos (by decide)) (by omega)
  rw [Nat.testBit_two_pow, decide_eq_true_iff] at b
  exact b.symm
theorem m_82 {V : Vk} {n s i : Nat} {cs : Nat → Nat} {F75 F73 : Nat → Int32} {g : Hq} {be bo : Int32} (B : LB V n cs F75 F73 g) (h0 : 0 < s) (hs : s < 2 ^ n) (hi : i < n) (b : s.testBit i = true) (HP : ∀ j, (s ^^^ 2 ^ i).testBit j = true → 0 ≤ (g.1 77 (10 * (s ^^^ 2 ^ i) + j)).toInt ∧ (g.1 77 (10 * (s ^^^ 2 ^ i) + j)).toInt ≤ 1000000) : ∃ x be' : Int32, r_X12_makeLengths_82 V 70 (nI s) (nI (low s)) be (nI i) bo g = some (.inl (70, nI s, nI (low s), be', bo, nI (i + 1), sI g 77 (10 * s + i) x)) ∧ (be'.toInt = if x.toInt + dI F75 cs i (low s) < be.toInt then x.toInt + dI F75 cs i (low s) else be.toInt) ∧ 0 ≤ x.toInt ∧ x.toInt ≤ 1000000 ∧ (i = low s → x.toInt = if s = 2 ^ i then 0 else 1000000) ∧ (i ≠ low s → IsMin x.toInt 1000000 (pP s i) (fun j => (g.1 77 (10 * (s ^^^ 2 ^ i) + j)).toInt + dI F75 cs j i) n) := by
  obtain ⟨hV, hR, hn, h15, hc, e75, e73, -, -⟩ := id B
  have n10 := p2_le hn
  have hs' : s < 1024 := by omega
  have l10 : low s < 10 := low_lt ⟨s, hs'⟩
  have p2 : 2 ^ i < 2 ^ 10 := p2_lt (by omega)
  have t0 : (0 : Int32).toInt = 0 := rfl
  have tm : (1000000 : Int32).toInt = 1000000 := rfl
  have c : nI s &&& (nI (2 ^ i) ^^^ (-1 : Int32)) = nI (s ^^^ 2 ^ i) := b_clr ⟨s, hs'⟩ ⟨i, by omega⟩ b
  unfold r_X12_makeLengths_82
  rw [b_one (by omega), c, nm_eq]
  by_cases q : i = low s
  · by_cases q2 : s = 2 ^ i
    · rw [brn_t (by rw [← q2]), brn_t (by rw [q])]
      obtain ⟨be', k1, k2⟩ := m_210 (be := be) (bo := bo) (x := 0) B h0 hs hi (by decide) (by decide)
      exact ⟨0, be', k1, k2, by decide, by decide, fun _ => by rw [if_pos q2]; rfl, fun z => absurd q z⟩
    · rw [brn_f (by rw [nI_eq (by omega) (by omega)]; exact q2), brn_t (by rw [q])]
      obtain ⟨be', k1, k2⟩ := m_210 (be := be) (bo := bo) (x := 1000000) B h0 hs hi (by decide) (by decide)
      exact ⟨1000000, be', k1, k2, by decide, by decide, fun _ => by rw [if_neg q2]; rfl, fun z => absurd q z⟩
  · have q2 : ¬ s = 2 ^ i := fun z => q (by rw [z, low_p2 (by omega)])
    rw [brn_f (by rw [nI_eq (by omega) (by omega)]; exact q2), brn_f (by rw [nI_eq (by omega) (by omega)]; exact q)]
    obtain ⟨x, k1, k2⟩ := m_119 (be := be) (bo := bo) B hs hi rfl (xor_lt b) HP n 0 1000000 (by omega) mi_0
    have x0 : 0 ≤ x.toInt := mi_nn k1 (by decide) (fun k hk pk => by
      have := (HP k pk.1).1
      have := (dI_b B hk hi).1
      omega)
    obtain ⟨be', k3, k4⟩ := m_210 (be := be) (bo := bo) (x := x) B h0 hs hi x0 k1.1
    exact ⟨x, be', k2.trans k3, k4, x0, k1.1, fun z => absurd z q, fun _ => k1⟩
