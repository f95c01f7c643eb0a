/-- a loop that looks for the first place with P -/
theorem srch {σ : Type} (f : σ → Option (σ ⊕ (Int32 × Hq))) (st : Nat → σ) (n : Nat) (P : Nat → Prop) (g : Hq) (hp : ∀ i, i < n → P i → f (st i) = some (.inr (1, g))) (hn : ∀ i, i < n → ¬ P i → f (st i) = some (.inl (st (i + 1)))) (he : f (st n) = some (.inr (0, g))) : ∀ d i, i + d = n → lop f (st i) = some (bI (∃ k, i ≤ k ∧ k < n ∧ P k), g) := by
  intro d
  induction d with
  | zero =>
    intro i hi
    have : i = n := by omega
    subst this
    rw [lop_r he, bI_f]
    rintro ⟨k, h1, h2, -⟩
    omega
  | succ d ih =>
    intro i hi
    by_cases h : P i
    · rw [lop_r (hp i (by omega) h), bI_t ⟨i, Nat.le_refl i, by omega, h⟩]
    · rw [lop_l (hn i (by omega) h), ih (i + 1) (by omega)]
      by_cases hk : ∃ k, i + 1 ≤ k ∧ k < n ∧ P k
      · obtain ⟨k, k1, k2, k3⟩ := hk
        rw [bI_t ⟨k, k1, k2, k3⟩, bI_t ⟨k, by omega, k2, k3⟩]
      · rw [bI_f hk, bI_f]
        rintro ⟨k, k1, k2, k3⟩
        by_cases e : k = i
        · subst e; exact h k3
        · exact hk ⟨k, by omega, k2, k3⟩
def hourOK (f t h : Int32) : Prop := if f ≤ t then f ≤ h ∧ h ≤ t else f ≤ h ∨ h ≤ t
theorem i_nlt {a b : Int32} : ¬ a < b ↔ b ≤ a := by rw [i_lt, i_le]; omega
theorem i_nle {a b : Int32} : ¬ a ≤ b ↔ b < a := by rw [i_lt, i_le]; omega
theorem law_v {V : Vk} (h : ShV V) {p : Nat} (hp : lawPl p) : V (p + 1) = some (100, 12) ∧ V (p + 2) = some (100, 12) ∧ V (p + 3) = some (100, 12) ∧ V (p + 4) = some (102, 12) := by
  rcases hp with rfl | rfl | rfl | rfl | rfl
  · exact ⟨v_27 h, v_28 h, v_29 h, v_30 h⟩
  · exact ⟨v_33 h, v_34 h, v_35 h, v_36 h⟩
  · exact ⟨v_42 h, v_43 h, v_44 h, v_45 h⟩
  · exact ⟨v_51 h, v_52 h, v_53 h, v_54 h⟩
  · exact ⟨v_60 h, v_61 h, v_62 h, v_63 h⟩
theorem law_q {R : Nat → Nat → Option Nat} (h : ShR R) {p : Nat} (hp : lawPl p) : R p 9 = some (p + 1) ∧ R p 10 = some (p + 2) ∧ R p 11 = some (p + 3) ∧ R p 12 = some (p + 4) := by
  rcases hp with rfl | rfl | rfl | rfl | rfl
  · exact ⟨q_26_9 h, q_26_10 h, q_26_11 h, q_26_12 h⟩
  · exact ⟨q_32_9 h, q_32_10 h, q_32_11 h, q_32_12 h⟩
  · exact ⟨q_41_9 h, q_41_10 h, q_41_11 h, q_41_12 h⟩
  · exact ⟨q_50_9 h, q_50_10 h, q_50_11 h, q_50_12 h⟩
  · exact ⟨q_59_9 h, q_59_10 h, q_59_11 h, q_59_12 h⟩
theorem p_hasHour {V : Vk} {g : Hq} {p i : Nat} {h : Int32} (hV : ShV V) (hR : ShR g.2.2) (hp : lawPl p) (hi : i < 12) : r_X4_hasHour V p (nI i) h g = some (bI (hourOK (g.1 (p + 2) i) (g.1 (p + 3) i) h), g) := by
  obtain ⟨v1, v2, v3, v4⟩ := law_v hV hp
  obtain ⟨q1, q2, q3, q4⟩ := law_q hR hp
  have o2 : okV V (p + 2) 0 (nI i) := ok_nI (n := 12) v2 hi (by decide)
  have o3 : okV V (p + 3) 0 (nI i) := ok_nI (n := 12) v3 hi (by decide)
  have cl := cl_nI (j := i) (by omega)
  unfold r_X4_hasHour hourOK
  rw [grd_t (sh_vl hV hp), q3, bind_some', grd_t o3, q2, bind_some', grd_t o2, cl]
  by_cases c : g.1 (p + 2) i ≤ g.1 (p + 3) i
  · rw [brn_t c, bind_some', grd_t o2]
    simp only [c, if_true]
    by_cases d : h < g.1 (p + 2) i
    · rw [brn_t d, bI_f (fun k => (i_nle.mpr d) k.1)]
    · rw [brn_f d, bind_some', grd_t o3]
      by_cases e : g.1 (p + 3) i < h
      · rw [brn_t e, bI_f (fun k => (i_nle.mpr e) k.2)]
      · rw [brn_f e, bI_t ⟨i_nlt.mp d, i_nlt.mp e⟩]
  · rw [brn_f c, bind_some', grd_t o2]
    simp only [c, if_false]
    by_cases d : g.1 (p + 2) i ≤ h
    · rw [brn_t d, bI_t (Or.inl d)]
    · rw [brn_f d, bind_some', grd_t o3]
      by_cases e : g.1 (p + 3) i < h
      · rw [brn_t e, bI_f (fun k => k.elim d (i_nle.mpr e))]
      · rw [brn_f e, bI_t (Or.inr (i_nlt.mp e))]
/-- line i of ward w's powers gives the power at the hour -/
def gvOK (I : Nat → Nat → Int32) (w : Nat) (a h cr : Int32) (i : Nat) : Prop := I 86 (4 * (12 * w + i)) = a ∧ hourOK (I 86 (4 * (12 * w + i) + 1)) (I 86 (4 * (12 * w + i) + 2)) h ∧ (cr = 0 → I 86 (4 * (12 * w + i) + 3) = 0)
def gvE (I : Nat → Nat → Int32) (w : Nat) (a h cr : Int32) (n : Nat) : Prop := ∃ i, i < n ∧ gvOK I w a h cr i
theorem p_gives {V : Vk} {g : Hq} {p w n : Nat} {a h cr : Int32} (hV : ShV V) (hR : ShR g.2.2) (hp : lawPl p) (hn : n ≤ 12) (e8 : g.1 p 8 = nI n) (hr : ∀ i, i < n → g.1 (p + 1) i = g.1 86 (4 * (12 * w + i)) ∧ g.1 (p + 2) i = g.1 86 (4 * (12 * w + i) + 1) ∧ g.1 (p + 3) i = g.1 86 (4 * (12 * w + i) + 2) ∧ g.1 (p + 4) i = g.1 86 (4 * (12 * w + i) + 3)) : r_X4_gives V p a h cr g = some (bI (gvE g.1 w a h cr n), g) := by
  obtain ⟨v1, v2, v3, v4⟩ := law_v hV hp
  obtain ⟨q1, q2, q3, q4⟩ := law_q hR hp
  have key := srch (r_X4_gives_3 V) (fun i => (p, a, h, cr, nI i, g)) n (gvOK g.1 w a h cr) g ?_ ?_ ?_ n 0 (by omega)
  · unfold r_X4_gives
    refine Eq.trans key ?_
    congr 2
    unfold gvE
    congr 1
    apply propext
    constructor
    · rintro ⟨k, -, k2, k3⟩; exact ⟨k, k2, k3⟩
    · rintro ⟨k, k2, k3⟩; exact ⟨k, by omega, k2, k3⟩
  · intro i hi ok
    obtain ⟨r1, r2, r3, r4⟩ := hr i hi
    obtain ⟨k1, k2, k3⟩ := ok
    have cl := cl_nI (j := i) (by omega)
    show r_X4_gives_3' V p a h cr (nI i) g = _
    unfold r_X4_gives_3'
    rw [grd_t (sh_vl hV hp), e8, brn_f (nI_ge hi (by omega)), q1, bind_some', grd_t (ok_nI (n := 12) v1 (by omega) (by decide)), cl, r1, brn_t k1, p_hasHour hV hR hp (by omega), bnd_some, r2, r3, brn_f (by rw [bI_0]; exact fun k => k k2)]
    by_cases c0 : cr = 0
    · rw [brn_t c0, q4, bind_some', grd_t (ok_nI (n := 12) (t := 2) v4 (by omega) (by decide)), r4, brn_t (k3 c0)]
    · rw [brn_f c0]
  · intro i hi nok
    obtain ⟨r1, r2, r3, r4⟩ := hr i hi
    have cl := cl_nI (j := i) (by omega)
    show r_X4_gives_3' V p a h cr (nI i) g = some (.inl (p, a, h, cr, nI (i + 1), g))
    unfold r_X4_gives_3'
    rw [grd_t (sh_vl hV hp), e8, brn_f (nI_ge hi (by omega)), q1, bind_some', grd_t (ok_nI (n := 12) v1 (by omega) (by decide)), cl, r1]
    by_cases k1 : g.1 86 (4 * (12 * w + i)) = a
    · rw [brn_t k1, p_hasHour hV hR hp (by omega), bnd_some, r2, r3]
      by_cases k2 : hourOK (g.1 86 (4 * (12 * w + i) + 1)) (g.1 86 (4 * (12 * w + i) + 2)) h
      · rw [brn_f (by rw [bI_0]; exact fun k => k k2)]
        by_cases c0 : cr = 0
        · rw [brn_t c0, q4, bind_some', grd_t (ok_nI (n := 12) (t := 2) v4 (by omega) (by decide)), r4, brn_f (fun k3 => nok ⟨k1, k2, fun _ => k3⟩), nm_eq, nI_1]
        · exact absurd ⟨k1, k2, fun e => absurd e c0⟩ nok
      · rw [brn_t (by rw [bI_0]; exact k2), nm_eq, nI_1]
    · rw [brn_f k1, nm_eq, nI_1]
  · show r_X4_gives_3' V p a h cr (nI n) g = _
    unfold r_X4_gives_3'
    rw [grd_t (sh_vl hV hp), e8, brn_t (nI_le (Nat.le_refl n) (by omega))]
theorem m_given56 {V : Vk} {g : Hq} {w i : Nat} {a h cr : Int32} (hV : ShV V) (hR : ShR g.2.2) (hw : w < 4) (hi : i < 12) : r_X12_isGiven_56 V 70 (nI w) a h cr (nI (4 * (12 * w + i))) g = brn (hourOK (g.1 86 (4 * (12 * w + i) + 1)) (g.1 86 (4 * (12 * w + i) + 2)) h) (some (.inr (1, g))) (some (.inl (70, nI w, a, h, cr, nI (4 * (12 * w + (i + 1))), g))) := by
  have i1 : nI (4 * (12 * w + i)) + 1 = nI (4 * (12 * w + i) + 1) := nI_1 _
  have i2 : nI (4 * (12 * w + i)) + 2 = nI (4 * (12 * w + i) + 2) := nI_add _ 2
  have i4 : nI (4 * (12 * w + i)) + 4 = nI (4 * (12 * w + (i + 1))) := by rw [show (4 : Int32) = nI 4 from rfl, nI_add]; congr 1
  have o1 : okV V 86 0 (nI (4 * (12 * w + i) + 1)) := ok_nI (n := 240) (v_86 hV) (by omega) (by decide)
  have o2 : okV V 86 0 (nI (4 * (12 * w + i) + 2)) := ok_nI (n := 240) (v_86 hV) (by omega) (by decide)
  unfold r_X12_isGiven_56 hourOK
  rw [grd_t (v_70 hV), q_70_30 hR, bind_some', i1, grd_t o1, nm_eq, bind_some', i2, grd_t o2, nm_eq, cl_nI (by omega), cl_nI (by omega)]
  by_cases c : g.1 86 (4 * (12 * w + i) + 1) ≤ g.1 86 (4 * (12 * w + i) + 2)
  · rw [brn_f (i_nlt.mpr c), p_in, bnd_some]
    simp only [c, if_true]
    by_cases d : g.1 86 (4 * (12 * w + i) + 1) ≤ h ∧ h ≤ g.1 86 (4 * (12 * w + i) + 2)
    · rw [brn_f (by rw [bI_0]; exact fun k => k d), brn_t d]
    · rw [brn_t (by rw [bI_0]; exact d), brn_f d, nm_eq, i4]
  · rw [brn_t (i_nle.mp c)]
    simp only [c, if_false]
    by_cases d : g.1 86 (4 * (12 * w + i) + 1) ≤ h
    · rw [brn_t d, brn_t (Or.inl d)]
    · rw [brn_f d]
      by_cases e : g.1 86 (4 * (12 * w + i) + 2) < h
      · rw [brn_t e, brn_f (fun k => k.elim d (i_nle.mpr e)), nm_eq, i4]
      · rw [brn_f e, brn_t (Or.inr (i_nlt.mp e))]
theorem m_given {V : Vk} {g : Hq} {w n : Nat} {a h cr : Int32} (hV : ShV V) (hR : ShR g.2.2) (hw : w < 4) (hn : n ≤ 12) (e8 : g.1 87 w = nI n) (hb : ∀ i, i < n → g.1 86 (4 * (12 * w + i) + 3) = 0 ∨ g.1 86 (4 * (12 * w + i) + 3) = 1) : r_X12_isGiven V 70 (nI w) a h cr g = some (bI (gvE g.1 w a h cr n), g) := by
  have lim : (4 : Int32) * ((12 : Int32) * nI w + nI n) = nI (4 * (12 * w + n)) := by
    rw [show (4 : Int32) = nI 4 from rfl, show (12 : Int32) = nI 12 from rfl, pk_mul, nI_add, pk_mul]
  have ow : okV V 87 0 (nI w) := ok_nI (n := 5) (v_87 hV) (by omega) (by decide)
  have cw := cl_nI (j := w) (by omega)
  have key := srch (r_X12_isGiven_6 V) (fun i => (70, nI w, a, h, cr, nI (4 * (12 * w + i)), g)) n (gvOK g.1 w a h cr) g ?_ ?_ ?_ n 0 (by omega)
  · unfold r_X12_isGiven
    rw [nm_eq, show (48 : Int32) * nI w = nI (4 * (12 * w + 0)) by rw [show (48 : Int32) = nI 48 from rfl, pk_mul]; congr 1; omega]
    refine Eq.trans key ?_
    congr 2
    unfold gvE
    congr 1
    apply propext
    constructor
    · rintro ⟨k, -, k2, k3⟩; exact ⟨k, k2, k3⟩
    · rintro ⟨k, k2, k3⟩; exact ⟨k, by omega, k2, k3⟩
  · intro i hi ok
    obtain ⟨k1, k2, k3⟩ := ok
    have i3 : nI (4 * (12 * w + i)) + 3 = nI (4 * (12 * w + i) + 3) := nI_add _ 3
    show r_X12_isGiven_6' V 70 (nI w) a h cr (nI (4 * (12 * w + i))) g = _
    unfold r_X12_isGiven_6'
    rw [grd_t (v_70 hV), q_70_31 hR, bind_some', grd_t ow, cw, e8, lim, brn_f (nI_ge (by omega) (by omega)), q_70_30 hR, bind_some', grd_t (ok_nI (n := 240) (v_86 hV) (by omega) (by decide)), cl_nI (by omega), brn_t k1, bind_some', i3, grd_t (ok_nI (n := 240) (v_86 hV) (by omega) (by decide)), cl_nI (by omega)]
    by_cases c1 : g.1 86 (4 * (12 * w + i) + 3) = 1
    · rw [brn_t c1]
      by_cases c0 : cr = 0
      · exact absurd (k3 c0) (by rw [c1]; decide)
      · rw [brn_f c0, m_given56 hV hR hw (by omega), brn_t k2]
    · rw [brn_f c1, m_given56 hV hR hw (by omega), brn_t k2]
  · intro i hi nok
    have i3 : nI (4 * (12 * w + i)) + 3 = nI (4 * (12 * w + i) + 3) := nI_add _ 3
    have i4 : nI (4 * (12 * w + i)) + 4 = nI (4 * (12 * w + (i + 1))) := by rw [show (4 : Int32) = nI 4 from rfl, nI_add]; congr 1
    show r_X12_isGiven_6' V 70 (nI w) a h cr (nI (4 * (12 * w + i))) g = some (.inl (70, nI w, a, h, cr, nI (4 * (12 * w + (i + 1))), g))
    unfold r_X12_isGiven_6'
    rw [grd_t (v_70 hV), q_70_31 hR, bind_some', grd_t ow, cw, e8, lim, brn_f (nI_ge (by omega) (by omega)), q_70_30 hR, bind_some', grd_t (ok_nI (n := 240) (v_86 hV) (by omega) (by decide)), cl_nI (by omega)]
    by_cases k1 : g.1 86 (4 * (12 * w + i)) = a
    · rw [brn_t k1, bind_some', i3, grd_t (ok_nI (n := 240) (v_86 hV) (by omega) (by decide)), cl_nI (by omega)]
      by_cases c1 : g.1 86 (4 * (12 * w + i) + 3) = 1
      · rw [brn_t c1]
        by_cases c0 : cr = 0
        · rw [brn_t c0, nm_eq, i4]
        · rw [brn_f c0, m_given56 hV hR hw (by omega), brn_f (fun k2 => nok ⟨k1, k2, fun e => absurd e c0⟩)]
      · rw [brn_f c1, m_given56 hV hR hw (by omega), brn_f (fun k2 => nok ⟨k1, k2, fun _ => (hb i hi).resolve_right c1⟩)]
    · rw [brn_f k1, nm_eq, i4]
  · show r_X12_isGiven_6' V 70 (nI w) a h cr (nI (4 * (12 * w + n))) g = _
    unfold r_X12_isGiven_6'
    rw [grd_t (v_70 hV), q_70_31 hR, bind_some', grd_t ow, cw, e8, lim, brn_t (nI_le (Nat.le_refl _) (by omega))]
theorem p_isTaking (V : Vk) (a b c : Int32) (g : Hq) : r_X11_isTaking V a b c g = some (bI ((0 ≤ a ∧ a ≤ 3) ∧ (0 ≤ b ∧ b ≤ 2) ∧ 0 ≤ c ∧ c ≤ 23), g) := by
  unfold r_X11_isTaking
  rw [p_isWard, bnd_some]
  by_cases h1 : 0 ≤ a ∧ a ≤ 3
  · rw [brn_f (by rw [bI_0]; exact fun k => k h1), p_isFrom, bnd_some]
    by_cases h2 : 0 ≤ b ∧ b ≤ 2
    · rw [brn_f (by rw [bI_0]; exact fun k => k h2), p_isFrom, bnd_some]
      by_cases h3 : 0 ≤ c ∧ c ≤ 23
      · rw [brn_f (by rw [bI_0]; exact fun k => k h3), bI_t ⟨h1, h2, h3⟩]
      · rw [brn_t (by rw [bI_0]; exact h3), bI_f (fun k => h3 k.2.2)]
    · rw [brn_t (by rw [bI_0]; exact h2), bI_f (fun k => h2 k.2.1)]
  · rw [brn_t (by rw [bI_0]; exact h1), bI_f (fun k => h1 k.1)]
theorem op_may {V : Vk} {g : Hq} (h : Inv V g) (a b c d : Int32) : Op V g (r_X11_may V 0 a b c d) (r_X12_may V 70 a b c d) := by
  by_cases h1 : 0 ≤ a ∧ a ≤ 3
  · by_cases h2 : 0 ≤ b ∧ b ≤ 2
    · by_cases h3 : 0 ≤ c ∧ c ≤ 23
      · obtain ⟨w, hw, rfl⟩ := nat_of (n := 3) rfl h1
        have hw4 : w < 4 := by omega
        obtain ⟨f, l1, l2, l3, l4, l5⟩ := h.l
        obtain ⟨d1, ⟨n, n1, n2, n3, n4⟩, -⟩ := l5 w hw4
        refine ⟨bI (gvE g.1 w b c d n), g, g, ?_, ?_, h⟩
        · unfold r_X11_may
          rw [p_isTaking, bnd_some, brn_f (by rw [bI_0]; exact fun k => k ⟨h1, h2, h3⟩), grd_t (v_0 h.v), q_0_4 h.r, bind_some', grd_t (ok_nI (v_19 h.v) hw4 (by decide)), cl_nI (by omega), sh_w h.r hw4, bind_some', grd_t (sh_vw h.v hw4), l3 w hw4, bind_some', grd_t (sh_vl h.v (l1 w (by omega))), p_gives (w := w) h.v h.r (l1 w (by omega)) n1 n2 (fun i hi => ⟨(n4 i hi).1, (n4 i hi).2.1, (n4 i hi).2.2.1, (n4 i hi).2.2.2.1⟩), bnd_some]
          by_cases hg : gvE g.1 w b c d n
          · rw [bI_t hg, brn_f (by decide)]
          · rw [bI_f hg, brn_t rfl]
        · unfold r_X12_may
          rw [m_isWard, bnd_some, brn_f (by rw [bI_0]; exact fun k => k h1), p_in, bnd_some, brn_f (by rw [bI_0]; exact fun k => k h2), p_in, bnd_some, brn_f (by rw [bI_0]; exact fun k => k h3), grd_t (v_70 h.v), m_given h.v h.r hw4 n1 n3 (fun i hi => (n4 i hi).2.2.2.2.2), bnd_some]
          by_cases hg : gvE g.1 w b c d n
          · rw [bI_t hg, brn_f (by decide)]
          · rw [bI_f hg, brn_t rfl]
      · refine ⟨-2, g, g, ?_, ?_, h⟩
        · unfold r_X11_may
          rw [p_isTaking, bnd_some, brn_t (by rw [bI_0]; exact fun k => h3 k.2.2)]
        · unfold r_X12_may
          rw [m_isWard, bnd_some, brn_f (by rw [bI_0]; exact fun k => k h1), p_in, bnd_some, brn_f (by rw [bI_0]; exact fun k => k h2), p_in, bnd_some, brn_t (by rw [bI_0]; exact h3)]
    · refine ⟨-2, g, g, ?_, ?_, h⟩
      · unfold r_X11_may
        rw [p_isTaking, bnd_some, brn_t (by rw [bI_0]; exact fun k => h2 k.2.1)]
      · unfold r_X12_may
        rw [m_isWard, bnd_some, brn_f (by rw [bI_0]; exact fun k => k h1), p_in, bnd_some, brn_t (by rw [bI_0]; exact h2)]
  · refine ⟨-2, g, g, ?_, ?_, h⟩
    · unfold r_X11_may
      rw [p_isTaking, bnd_some, brn_t (by rw [bI_0]; exact fun k => h1 k.1)]
    · unfold r_X12_may
      rw [m_isWard, bnd_some, brn_t (by rw [bI_0]; exact h1)]
