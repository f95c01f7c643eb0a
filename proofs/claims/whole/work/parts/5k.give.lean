/-! ===== the reference's search over all plans ===== -/
theorem fbt {n j : Nat} : (2 ^ n - 1).testBit j = true ↔ j < n := by rw [bit_full, decide_eq_true_iff]
theorem fl_lt {n : Nat} : 2 ^ n - 1 < 2 ^ n := by have : 0 < 2 ^ n := Nat.pow_pos (by decide); omega
theorem fl_10 {n : Nat} (h : n ≤ 10) : 2 ^ n - 1 < 1024 := by have := p2_le h; have := fl_lt (n := n); omega
theorem rg_ext {i men k : Nat} {f : Nat → Nat} (r : RGp (2 ^ i - 1) f men) (hk : k ≤ men) : RGp (2 ^ (i + 1) - 1) (fun j => if j = i then k else f j) (if k = men then men + 1 else men) := by
  obtain ⟨r1, r2, r3⟩ := r
  refine ⟨fun j b => ?_, fun q hq => ?_, fun j b q hq => ?_⟩
  · rw [fbt] at b
    by_cases e : j = i
    · simp only [e, if_true]; split <;> omega
    · simp only [e, if_false]
      have := r1 j (fbt.mpr (by omega))
      split <;> omega
  · by_cases e : q < men
    · obtain ⟨j, j1, j2⟩ := r2 q e
      rw [fbt] at j1
      exact ⟨j, fbt.mpr (by omega), by simp only [show j ≠ i by omega, if_false]; exact j2⟩
    · have : q = men ∧ k = men := by
        by_cases z : k = men
        · rw [if_pos z] at hq; omega
        · rw [if_neg z] at hq; omega
      exact ⟨i, fbt.mpr (by omega), by simp only [if_true]; omega⟩
  · rw [fbt] at b
    by_cases e : j = i
    · simp only [e, if_true] at hq
      obtain ⟨j', j1, j2⟩ := r2 q (by omega)
      rw [fbt] at j1
      exact ⟨j', by omega, fbt.mpr (by omega), by simp only [show j' ≠ i by omega, if_false]; exact j2⟩
    · simp only [e, if_false] at hq
      obtain ⟨j', j0, j1, j2⟩ := r3 j (fbt.mpr (by omega)) q hq
      rw [fbt] at j1
      exact ⟨j', j0, fbt.mpr (by omega), by simp only [show j' ≠ i by omega, if_false]; exact j2⟩
theorem pt_ext {i k q : Nat} {f : Nat → Nat} (hi : i < 10) : ptM (2 ^ (i + 1) - 1) (fun j => if j = i then k else f j) q = if q = k then ptM (2 ^ i - 1) f q ||| 2 ^ i else ptM (2 ^ i - 1) f q := by
  have h1 := fl_10 (n := i + 1) (by omega)
  have h2 := fl_10 (n := i) (by omega)
  refine Nat.eq_of_testBit_eq (fun j => ?_)
  by_cases e : q = k
  · rw [if_pos e, Nat.testBit_or, ptM_bit h1, ptM_bit h2, bit_full, bit_full, Nat.testBit_two_pow]
    by_cases z : j = i
    · subst z; simp [e]
    · have : decide (j < i + 1) = decide (j < i) := by rw [decide_eq_decide]; omega
      rw [this]; simp [z, Ne.symm z]
  · rw [if_neg e, ptM_bit h1, ptM_bit h2, bit_full, bit_full]
    by_cases z : j = i
    · subst z; simp [Ne.symm e]
    · have : decide (j < i + 1) = decide (j < i) := by rw [decide_eq_decide]; omega
      rw [this]; simp [z]
theorem pt_none {i men : Nat} {f : Nat → Nat} (hi : i ≤ 10) (r : RGp (2 ^ i - 1) f men) : ptM (2 ^ i - 1) f men = 0 := Nat.eq_of_testBit_eq (fun j => by
  rw [ptM_bit (fl_10 hi), Nat.zero_testBit]
  by_cases b : (2 ^ i - 1).testBit j = true
  · have := r.1 j b
    rw [b, show decide (f j = men) = false by rw [decide_eq_false_iff_not]; omega]; rfl
  · have b' : (2 ^ i - 1).testBit j = false := by simpa using b
    rw [b', Bool.false_and])
theorem pt_lt {n k : Nat} {f : Nat → Nat} (hn : n ≤ 10) : ptM (2 ^ n - 1) f k < 2 ^ n := Nat.lt_pow_two_of_testBit _ (fun i hi => by
  rw [ptM_bit (fl_10 hn), bit_full, show decide (i < n) = false by rw [decide_eq_false_iff_not]; omega, Bool.false_and])
theorem pt_pos {n k m : Nat} {f : Nat → Nat} (hn : n ≤ 10) (r : RGp (2 ^ n - 1) f m) (hk : k < m) : 0 < ptM (2 ^ n - 1) f k := by
  obtain ⟨i, i1, i2⟩ := r.2.1 k hk
  refine bit_pos (i := i) ?_
  rw [ptM_bit (fl_10 hn), i1, i2]; simp
theorem pt_cg {n k : Nat} {f f' : Nat → Nat} (hn : n ≤ 10) (h : ∀ j, j < n → f j = f' j) : ptM (2 ^ n - 1) f k = ptM (2 ^ n - 1) f' k := Nat.eq_of_testBit_eq (fun j => by
  rw [ptM_bit (fl_10 hn), ptM_bit (fl_10 hn)]
  by_cases b : (2 ^ n - 1).testBit j = true
  · rw [h j (fbt.mp b)]
  · have b' : (2 ^ n - 1).testBit j = false := by simpa using b
    rw [b', Bool.false_and, Bool.false_and])
theorem su_cg {n m : Nat} {T f f' : Nat → Nat} (hn : n ≤ 10) (h : ∀ j, j < n → f j = f' j) : suT T (2 ^ n - 1) f m = suT T (2 ^ n - 1) f' m := smN_cg m (fun k _ => by rw [pt_cg hn h])
theorem rg_cg {n m : Nat} {f f' : Nat → Nat} (h : ∀ j, j < n → f j = f' j) (r : RGp (2 ^ n - 1) f m) : RGp (2 ^ n - 1) f' m := by
  have e : ∀ j, (2 ^ n - 1).testBit j = true → f j = f' j := fun j b => h j (fbt.mp b)
  refine ⟨fun i b => by rw [← e i b]; exact r.1 i b, fun k hk => ?_, fun i b k hk => ?_⟩
  · obtain ⟨i, i1, i2⟩ := r.2.1 k hk
    exact ⟨i, i1, by rw [← e i i1]; exact i2⟩
  · rw [← e i b] at hk
    obtain ⟨j, j0, j1, j2⟩ := r.2.2 i b k hk
    exact ⟨j, j0, j1, by rw [← e j j1]; exact j2⟩
theorem vd_su {T : Nat → Nat} {p m : Nat} {f : Nat → Nat} (h : vdP T p f m) : suT T p f m ≤ 999 * m := smN_le m (fun k hk => h k hk)
/-- what the search leaves as it was -/
def Fg (g g2 : Hq) : Prop := (∀ a, a ≠ 70 → a ≠ 79 → a ≠ 80 → a ≠ 81 → g2.1 a = g.1 a) ∧ (∀ j, j ≠ 21 → j ≠ 22 → g2.1 70 j = g.1 70 j) ∧ g2.2 = g.2
theorem Fg.rf {g : Hq} : Fg g g := ⟨fun _ _ _ _ _ => rfl, fun _ _ _ => rfl, rfl⟩
theorem Fg.tr {g g1 g2 : Hq} (h : Fg g g1) (k : Fg g1 g2) : Fg g g2 := ⟨fun a h1 h2 h3 h4 => (k.1 a h1 h2 h3 h4).trans (h.1 a h1 h2 h3 h4), fun j h1 h2 => (k.2.1 j h1 h2).trans (h.2.1 j h1 h2), k.2.2.trans h.2.2⟩
theorem Fg.w {g : Hq} {k j : Nat} {v : Int32} (h : k = 79 ∨ k = 80 ∨ k = 81 ∨ (k = 70 ∧ (j = 21 ∨ j = 22))) : Fg g (sI g k j v) := ⟨fun a h1 h2 h3 h4 => by rw [sI_1, up2_nk _ _ _ (by omega)], fun i h1 h2 => by rw [sI_1, up2_ne _ _ (by omega)], rfl⟩
theorem Fg.a {g : Hq} {r : Nat → Int32} : Fg g (sA g 80 r) := ⟨fun a h1 h2 h3 h4 => by rw [sA_n h3], fun i h1 h2 => by rw [sA_n (by decide)], rfl⟩
def GB (V : Vk) (n : Nat) (T : Nat → Nat) (g : Hq) : Prop := ShV V ∧ ShR g.2.2 ∧ n ≤ 10 ∧ g.1 70 15 = nI n ∧ ∀ p, 0 < p → p < 2 ^ n → g.1 78 p = nI (T p) ∧ (T p ≤ 999 ∨ T p = 1000000)
theorem GB.f {V : Vk} {n : Nat} {T : Nat → Nat} {g g2 : Hq} (h : GB V n T g) (k : Fg g g2) : GB V n T g2 := ⟨h.1, by rw [k.2.2]; exact h.2.1, h.2.2.1, by rw [k.2.1 15 (by decide) (by decide)]; exact h.2.2.2.1, fun p h0 hp => by rw [k.1 78 (by decide) (by decide) (by decide) (by decide)]; exact h.2.2.2.2 p h0 hp⟩
/-- the best plan so far -/
def GS (n M S : Nat) (F : Nat → Nat) (g : Hq) : Prop := g.1 70 21 = nI M ∧ g.1 70 22 = nI S ∧ M ≤ 11 ∧ S < 16384 ∧ (M ≤ 10 → ∀ j, j < n → g.1 80 j = nI (F j))
theorem GS.w {n M S k j : Nat} {F : Nat → Nat} {g : Hq} {v : Int32} (h : GS n M S F g) (hk : k = 79 ∨ k = 81) : GS n M S F (sI g k j v) := by
  unfold GS
  rw [sI_1, up2_nk (a := 70) _ _ _ (by omega), up2_nk (a := 80) _ _ _ (by omega)]
  exact h
def Gd (n : Nat) (T : Nat → Nat) (M S : Nat) (F : Nat → Nat) : Prop := RGp (2 ^ n - 1) F M ∧ vdP T (2 ^ n - 1) F M ∧ S = suT T (2 ^ n - 1) F M
def Cv (n : Nat) (T : Nat → Nat) (M S : Nat) (F c : Nat → Nat) (m : Nat) : Prop := M * 16384 + S < m * 16384 + suT T (2 ^ n - 1) c m ∨ (M * 16384 + S = m * 16384 + suT T (2 ^ n - 1) c m ∧ rwN F n ≤ rwN c n)
def Ch (n : Nat) (T f : Nat → Nat) (i : Nat) (K : (Nat → Nat) → Prop) (M S : Nat) (F : Nat → Nat) (M' S' : Nat) (F' : Nat → Nat) : Prop := (M' = M ∧ S' = S ∧ F' = F) ∨ (Gd n T M' S' F' ∧ (∀ j, j < i → F' j = f j) ∧ K F' ∧ M' * 16384 + S' < M * 16384 + S)
theorem Cv.mono {n i M S m M' S' : Nat} {T f F F' c : Nat → Nat} {K : (Nat → Nat) → Prop} (h : Cv n T M S F c m) (k : Ch n T f i K M S F M' S' F') : Cv n T M' S' F' c m := by
  rcases k with ⟨e1, e2, e3⟩ | ⟨-, -, -, q⟩
  · rw [e1, e2, e3]; exact h
  · left
    rcases h with h | ⟨h, -⟩
    · exact Nat.lt_trans q h
    · rw [← h]; exact q
def GOut (n : Nat) (T f : Nat → Nat) (i men : Nat) (g : Hq) (M S : Nat) (F : Nat → Nat) (o : Option (Unit × Hq)) : Prop := ∃ g' M' S' F', o = some ((), g') ∧ Fg g g' ∧ (∀ j, j < i → g'.1 79 j = g.1 79 j) ∧ (∀ k, k < men → g'.1 81 k = g.1 81 k) ∧ GS n M' S' F' g' ∧ Ch n T f i (fun _ => True) M S F M' S' F' ∧ ∀ c m, RGp (2 ^ n - 1) c m → vdP T (2 ^ n - 1) c m → (∀ j, j < i → c j = f j) → Cv n T M' S' F' c m
def cpG (old src : Nat → Int32) (k : Nat) : Nat → Int32 := fun j => if j < k then src j else old j
theorem cpG_0 (old src : Nat → Int32) : cpG old src 0 = old := by funext j; unfold cpG; rw [if_neg (by omega)]
theorem cpG_s {old src : Nat → Int32} {k : Nat} : upd (cpG old src k) k (src k) = cpG old src (k + 1) := by
  funext j
  show (if j = k then _ else cpG old src k j) = _
  unfold cpG
  by_cases e : j = k
  · rw [if_pos e, if_pos (by omega), e]
  · rw [if_neg e]
    by_cases q : j < k
    · rw [if_pos q, if_pos (by omega)]
    · rw [if_neg q, if_neg (by omega)]
theorem m_180 {rec : Nat → Int32 → Int32 → Hq → Option (Unit × Hq)} {V : Vk} {g : Hq} {n : Nat} (hV : ShV V) (hR : ShR g.2.2) (hn : n ≤ 10) (h15 : g.1 70 15 = nI n) : lop (r_X12_give_180 rec V) (70, 0, g) = some ((), sA g 80 (cpG (g.1 80) (g.1 79) n)) := by
  have := run_for (f := r_X12_give_180 rec V) (fun k => (70, nI k, sA g 80 (cpG (g.1 80) (g.1 79) k))) n (b := ((), sA g 80 (cpG (g.1 80) (g.1 79) n))) (fun k hk => by
    show r_X12_give_180' rec V 70 (nI k) (sA g 80 (cpG (g.1 80) (g.1 79) k)) = some (.inl (70, nI (k + 1), sA g 80 (cpG (g.1 80) (g.1 79) (k + 1))))
    unfold r_X12_give_180'
    rw [grd_t (v_70 hV), sA_n (a := 70) (by decide), h15, brn_f (nI_ge hk (by omega)), sA_3, q_70_19 hR, bind_some', q_70_18 hR, bind_some', grd_t (ok_nI (n := 10) (t := 0) (v_79 hV) (by omega) (by decide)), grd_t (ok_nI (n := 10) (t := 0) (v_80 hV) (by omega) (by decide)), cl_nI (by omega), sA_n (a := 79) (by decide), sA_sI, cpG_s, nm_eq, nm_eq, nI_1]) (by
    show r_X12_give_180' rec V 70 (nI n) (sA g 80 (cpG (g.1 80) (g.1 79) n)) = _
    unfold r_X12_give_180'
    rw [grd_t (v_70 hV), sA_n (a := 70) (by decide), h15, brn_t (nI_le (Nat.le_refl n) (by omega))]) n 0 (by omega)
  simp only [cpG_0, sA_id] at this
  exact this
theorem m_105 {rec : Nat → Int32 → Int32 → Hq → Option (Unit × Hq)} {V : Vk} {g : Hq} {n men : Nat} {T f : Nat → Nat} (B : GB V n T g) (r : RGp (2 ^ n - 1) f men) (hp : ∀ k, k < men → g.1 81 k = nI (ptM (2 ^ n - 1) f k)) : ∀ d k, k + d = men → (∀ q, q < k → T (ptM (2 ^ n - 1) f q) ≤ 999) → (vdP T (2 ^ n - 1) f men ∧ lop (r_X12_give_105 rec V) (70, nI men, nI (suT T (2 ^ n - 1) f k), nI k, g) = lop (r_X12_give_105 rec V) (70, nI men, nI (suT T (2 ^ n - 1) f men), nI men, g)) ∨ (¬ vdP T (2 ^ n - 1) f men ∧ lop (r_X12_give_105 rec V) (70, nI men, nI (suT T (2 ^ n - 1) f k), nI k, g) = some ((), g)) := by
  obtain ⟨hV, hR, hn, h15, h78⟩ := B
  have m10 := rg_m r fl_lt
  intro d
  induction d with
  | zero =>
    intro k hk hv
    have e : k = men := by omega
    subst e
    exact Or.inl ⟨hv, rfl⟩
  | succ d ih =>
    intro k hk hv
    have kp := pt_pos hn r (show k < men by omega)
    have kl := pt_lt (n := n) (k := k) (f := f) hn
    have k10 := ptM_lt (p := 2 ^ n - 1) (f := f) (k := k)
    obtain ⟨t1, t2⟩ := h78 _ kp kl
    have o81 : okV V 81 0 (nI k) := ok_nI (n := 10) (v_81 hV) (by omega) (by decide)
    have o78 : okV V 78 0 (nI (ptM (2 ^ n - 1) f k)) := ok_nI (n := 1024) (v_78 hV) (by omega) (by decide)
    have st : r_X12_give_105 rec V (70, nI men, nI (suT T (2 ^ n - 1) f k), nI k, g) = brn (nI (T (ptM (2 ^ n - 1) f k)) < (1000000 : Int32)) (some (.inl (70, nI men, nI (suT T (2 ^ n - 1) f (k + 1)), nI (k + 1), g))) (some (.inr ((), g))) := by
      show r_X12_give_105' rec V 70 (nI men) (nI (suT T (2 ^ n - 1) f k)) (nI k) g = _
      unfold r_X12_give_105'
      rw [brn_f (nI_ge (by omega) (by omega)), grd_t (v_70 hV), q_70_17 hR, bind_some', q_70_20 hR, bind_some', grd_t o81, cl_nI (by omega), hp k (by omega), grd_t o78, cl_nI (by omega), t1, bind_some', bind_some', grd_t o81, hp k (by omega), grd_t o78, cl_nI (by omega), t1, nI_add, nm_eq, nm_eq, nI_1]
      rfl
    have tm : (1000000 : Int32) = nI 1000000 := rfl
    rcases t2 with t2 | t2
    · rw [brn_t (by rw [tm]; exact nI_lt (by omega) (by decide))] at st
      rw [lop_l st]
      refine ih (k + 1) (by omega) (fun q hq => ?_)
      by_cases e : q = k
      · rw [e]; exact t2
      · exact hv q (by omega)
    · rw [brn_f (by rw [tm, t2]; exact nI_nlt (Nat.le_refl _) (by decide))] at st
      refine Or.inr ⟨fun z => ?_, lop_r st⟩
      have := z k (by omega)
      omega
theorem su_10 {n m : Nat} {T f : Nat → Nat} (hn : n ≤ 10) (r : RGp (2 ^ n - 1) f m) (v : vdP T (2 ^ n - 1) f m) : m ≤ 10 ∧ suT T (2 ^ n - 1) f m ≤ 9990 := by
  have h1 := rg_m r fl_lt
  have h2 := vd_su v
  have h3 : 999 * m ≤ 999 * 10 := Nat.mul_le_mul_left _ (by omega)
  omega
theorem m_leaf {rec : Nat → Int32 → Int32 → Hq → Option (Unit × Hq)} {V : Vk} {g : Hq} {n men M S : Nat} {T f F : Nat → Nat} (B : GB V n T g) (r : RGp (2 ^ n - 1) f men) (h79 : ∀ j, j < n → g.1 79 j = nI (f j)) (hp : ∀ k, k < men → g.1 81 k = nI (ptM (2 ^ n - 1) f k)) (s : GS n M S F g) (hr : M = 11 ∨ rwN F n < rwN f n) (hm : men ≤ M) : GOut n T f n men g M S F (lop (r_X12_give_105 rec V) (70, nI men, 0, 0, g)) := by
  obtain ⟨hV, hR, hn, h15, h78⟩ := id B
  obtain ⟨s1, s2, s3, s4, s5⟩ := id s
  have m10 := rg_m r fl_lt
  have cmp : ∀ c m, RGp (2 ^ n - 1) c m → (∀ j, j < n → c j = f j) → m = men ∧ suT T (2 ^ n - 1) c m = suT T (2 ^ n - 1) f men ∧ rwN c n = rwN f n ∧ (vdP T (2 ^ n - 1) c m → vdP T (2 ^ n - 1) f men) := by
    intro c m rc e
    have rf := rg_cg e rc
    have em : m = men := by
      rcases Nat.lt_trichotomy m men with q | q | q
      · obtain ⟨i, i1, i2⟩ := r.2.1 m q
        have := rf.1 i i1; omega
      · exact q
      · obtain ⟨i, i1, i2⟩ := rf.2.1 men q
        have := r.1 i i1; omega
    subst em
    exact ⟨rfl, su_cg hn e, rwN_cg e, fun v k hk => by rw [← pt_cg hn e]; exact v k hk⟩
  rcases m_105 (rec := rec) B r hp men 0 (by omega) (fun q hq => absurd hq (by omega)) with ⟨v, e⟩ | ⟨nv, e⟩
  · have e' : lop (r_X12_give_105 rec V) (70, nI men, 0, 0, g) = lop (r_X12_give_105 rec V) (70, nI men, nI (suT T (2 ^ n - 1) f men), nI men, g) := e
    obtain ⟨u1, u2⟩ := su_10 hn r v
    obtain ⟨su, esu⟩ : ∃ su, su = suT T (2 ^ n - 1) f men := ⟨_, rfl⟩
    rw [← esu] at e' u2
    have upd' : ∀ g9, g9 = sI (sI g 70 21 (nI men)) 70 22 (nI su) → men * 16384 + su < M * 16384 + S → lop (r_X12_give_105 rec V) (70, nI men, nI su, nI men, g) = lop (r_X12_give_180 rec V) (70, 0, g9) → GOut n T f n men g M S F (lop (r_X12_give_105 rec V) (70, nI men, 0, 0, g)) := by
      intro g9 e9 lt el
      have f9 : Fg g g9 := by rw [e9]; exact (Fg.w (Or.inr (Or.inr (Or.inr ⟨rfl, Or.inl rfl⟩)))).tr (Fg.w (Or.inr (Or.inr (Or.inr ⟨rfl, Or.inr rfl⟩))))
      have B9 := B.f f9
      have n79 : g9.1 79 = g.1 79 := by rw [e9, sI_1, up2_nk _ _ _ (by decide), sI_1, up2_nk _ _ _ (by decide)]
      have n81 : g9.1 81 = g.1 81 := by rw [e9, sI_1, up2_nk _ _ _ (by decide), sI_1, up2_nk _ _ _ (by decide)]
      rw [e', el, m_180 hV B9.2.1 hn B9.2.2.2.1]
      refine ⟨_, men, su, f, rfl, f9.tr Fg.a, fun j _ => by rw [sA_n (by decide), n79], fun k _ => by rw [sA_n (by decide), n81], ⟨?_, ?_, by omega, by omega, fun _ j hj => ?_⟩, Or.inr ⟨⟨r, v, esu⟩, fun _ _ => rfl, trivial, lt⟩, fun c m rc vc ec => ?_⟩
      · rw [sA_n (by decide), e9, sI_1, up2_ne _ _ (Or.inr (by decide)), sI_1, up2_s]
      · rw [sA_n (by decide), e9, sI_1, up2_s]
      · rw [sA_s]; unfold cpG; rw [if_pos hj, n79]; exact h79 j hj
      · obtain ⟨c1, c2, c3, -⟩ := cmp c m rc ec
        right
        rw [c2, c1, c3, esu]
        exact ⟨rfl, Nat.le_refl _⟩
    have stp : r_X12_give_105 rec V (70, nI men, nI su, nI men, g) = brn (nI men = nI M) (brn (nI su < nI S) (Option.map Sum.inr (lop (r_X12_give_180 rec V) (70, 0, sI (sI g 70 21 (nI men)) 70 22 (nI su)))) (some (.inr ((), g)))) (Option.map Sum.inr (lop (r_X12_give_180 rec V) (70, 0, sI (sI g 70 21 (nI men)) 70 22 (nI su)))) := by
      show r_X12_give_105' rec V 70 (nI men) (nI su) (nI men) g = _
      unfold r_X12_give_105'
      rw [brn_t (nI_le (Nat.le_refl _) (by omega)), grd_t (v_70 hV), s1, s2]
      rfl
    by_cases q : men = M
    · rw [brn_t (by rw [q])] at stp
      by_cases q2 : su < S
      · rw [brn_t (nI_lt q2 (by omega))] at stp
        exact upd' _ rfl (by omega) (lop_map stp)
      · rw [brn_f (nI_nlt (by omega) (by omega))] at stp
        rw [e', lop_r stp]
        refine ⟨g, M, S, F, rfl, Fg.rf, fun _ _ => rfl, fun _ _ => rfl, s, Or.inl ⟨rfl, rfl, rfl⟩, fun c m rc vc ec => ?_⟩
        obtain ⟨c1, c2, c3, -⟩ := cmp c m rc ec
        unfold Cv
        rw [c2, c1, c3, ← esu, q]
        rcases Nat.lt_or_ge S su with z | z
        · left; omega
        · right
          refine ⟨by omega, ?_⟩
          rcases hr with hr | hr
          · omega
          · omega
    · rw [brn_f (by rw [nI_eq (by omega) (by omega)]; exact q)] at stp
      exact upd' _ rfl (by omega) (lop_map stp)
  · have e' : lop (r_X12_give_105 rec V) (70, nI men, 0, 0, g) = some ((), g) := e
    rw [e']
    refine ⟨g, M, S, F, rfl, Fg.rf, fun _ _ => rfl, fun _ _ => rfl, s, Or.inl ⟨rfl, rfl, rfl⟩, fun c m rc vc ec => ?_⟩
    exact absurd ((cmp c m rc ec).2.2.2 vc) nv
