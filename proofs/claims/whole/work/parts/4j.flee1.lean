theorem sI_sI {g : Hq} {k j : Nat} {a b : Int32} : sI (sI g k j a) k j b = sI g k j b := by
  unfold sI
  refine Prod.ext ?_ rfl
  funext x y
  show up2 (up2 g.1 k j a) k j b x y = up2 g.1 k j b x y
  simp only [up2_at]
  by_cases e : x = k ∧ y = j
  · rw [if_pos e, if_pos e]
  · rw [if_neg e, if_neg e, if_neg e]
theorem p_follow {V : Vk} {g : Hq} {p : Nat} {cr : Int32} (hV : ShV V) (hp : lawPl p) : r_X4_letFollow V p cr g = some (bI (¬ g.1 p 5 = -1 ∧ (cr = 0 → g.1 p 6 = 0)), g) := by
  unfold r_X4_letFollow
  rw [grd_t (sh_vl hV hp)]
  by_cases h1 : g.1 p 5 = -1
  · rw [brn_t h1, bI_f (fun k => k.1 h1)]
  · rw [brn_f h1]
    by_cases h2 : cr = 0
    · rw [brn_t h2]
      by_cases h3 : g.1 p 6 = 0
      · rw [brn_t h3, bI_t ⟨h1, fun _ => h3⟩]
      · rw [brn_f h3, bI_f (fun k => h3 (k.2 h2))]
    · rw [brn_f h2, bI_t ⟨h1, fun e => absurd e h2⟩]
/-- the row of courts is right, their wards and ways are known -/
def FlR (I : Nat → Nat → Int32) (n : Nat) : Prop := n ≤ 10 ∧ (∀ j, j < n → crt I j < 12 ∧ I 71 j - 65 = nI (crt I j)) ∧ (∀ j, 0 < j → j < n → 1 ≤ (I 74 (12 * crt I (j - 1) + crt I j)).toInt ∧ (I 74 (12 * crt I (j - 1) + crt I j)).toInt ≤ 99) ∧ ∀ c, c < 12 → 0 ≤ (I 72 c).toInt ∧ (I 72 c).toInt ≤ 3
/-- the class's heap, as far as a flight reads it -/
def FlX (V : Vk) (I : Nat → Nat → Int32) (f : Nat → Nat) (n : Nat) (g : Hq) : Prop := ShV V ∧ ShR g.2.2 ∧ g.1 4 = I 72 ∧ g.1 6 = I 74 ∧ (∀ k, k < n → g.1 25 k = nI (crt I k)) ∧ g.1 24 1 = nI n ∧ (∀ u, u < 4 → lawPl (f u) ∧ g.2.2 (31 + 9 * u) 0 = some (f u) ∧ g.1 (f u) 5 = I 85 (8 * u + 5) ∧ g.1 (f u) 6 = I 85 (8 * u + 6))
def FlM (V : Vk) (I : Nat → Nat → Int32) (g : Hq) : Prop := ShV V ∧ ShR g.2.2 ∧ g.1 71 = I 71 ∧ g.1 72 = I 72 ∧ g.1 74 = I 74 ∧ g.1 85 = I 85
theorem w_nat {x : Int32} (h : 0 ≤ x.toInt ∧ x.toInt ≤ 3) : ∃ u, u < 4 ∧ x = nI u := ⟨x.toInt.toNat, by omega, by rw [i_eq, tN (by omega)]; omega⟩
theorem FlX.mi {V : Vk} {I : Nat → Nat → Int32} {f : Nat → Nat} {n : Nat} {g : Hq} {m : Int32} (h : FlX V I f n g) : FlX V I f n (sI g 24 2 m) := by
  obtain ⟨h1, h2, h3, h4, h5, h6, h7⟩ := h
  refine ⟨h1, h2, by rw [sI_1, up2_nk _ _ _ (by decide)]; exact h3, by rw [sI_1, up2_nk _ _ _ (by decide)]; exact h4, fun k hk => by rw [sI_1, up2_nk _ _ _ (by decide)]; exact h5 k hk, by rw [sI_1, up2_ne _ _ (Or.inr (by decide))]; exact h6, fun u hu => ?_⟩
  obtain ⟨k1, k2, k3, k4⟩ := h7 u hu
  have hne : f u ≠ 24 := by unfold lawPl at k1; omega
  exact ⟨k1, k2, by rw [sI_1, up2_nk _ _ _ hne]; exact k3, by rw [sI_1, up2_nk _ _ _ hne]; exact k4⟩
/-- one step of the class's run -/
theorem x_run1 {V : Vk} {I : Nat → Nat → Int32} {f : Nat → Nat} {n j u : Nat} {g : Hq} {cr own s mi : Int32} (hr : FlR I n) (hx : FlX V I f n g) (j0 : 0 < j) (hj : j < n) (hu : u < 4) (eu : I 72 (crt I j) = nI u) : r_X1_run_23 V (24, 3, 19, cr, own, nI j, s, sI g 24 2 mi) = brn (nI u = own) (some (.inl (24, 3, 19, cr, own, nI (j + 1), 0, sI g 24 2 (mi + I 74 (12 * crt I (j - 1) + crt I j))))) (brn ((¬ I 85 (8 * u + 5) = -1 ∧ (cr = 0 → I 85 (8 * u + 6) = 0)) ∧ s + I 74 (12 * crt I (j - 1) + crt I j) ≤ I 85 (8 * u + 5)) (some (.inl (24, 3, 19, cr, own, nI (j + 1), s + I 74 (12 * crt I (j - 1) + crt I j), sI g 24 2 (mi + I 74 (12 * crt I (j - 1) + crt I j))))) (some (.inr (nI j, sI (sI g 24 2 mi) 24 3 (nI (crt I (j - 1))))))) := by
  obtain ⟨r1, r2, r3, r4⟩ := hr
  have hx' := hx.mi (m := mi)
  obtain ⟨-, -, -, -, -, -, h7⟩ := hx
  obtain ⟨h1, h2, h3, h4, h5, h6, -⟩ := hx'
  obtain ⟨k1, k2, k3, k4⟩ := h7 u hu
  have hne : f u ≠ 24 := by unfold lawPl at k1; omega
  have k3' : (sI g 24 2 mi).1 (f u) 5 = I 85 (8 * u + 5) := by rw [sI_1, up2_nk _ _ _ hne]; exact k3
  have k4' : (sI g 24 2 mi).1 (f u) 6 = I 85 (8 * u + 6) := by rw [sI_1, up2_nk _ _ _ hne]; exact k4
  have ej : nI j - 1 = nI (j - 1) := pk_sub (b := 1) (by omega)
  have o25 : ∀ k, k < 10 → okV V 25 0 (nI k) := fun k hk => ok_nI (n := 10) (v_25 h1) hk (by decide)
  have c1 := (r2 j hj).1
  have c0 := (r2 (j - 1) (by omega)).1
  have hmin : r_X9_minutesOfWay V 3 (nI (crt I (j - 1))) (nI (crt I j)) (sI g 24 2 mi) = some (I 74 (12 * crt I (j - 1) + crt I j), sI g 24 2 mi) := by
    unfold r_X9_minutesOfWay
    rw [grd_t (v_3 h1), q_3_2 h2, bind_some', xx, grd_t (ok_nI (n := 144) (v_6 h1) (by omega) (by decide)), cl_nI (by omega), h4]
  have hwd : r_X9_wardAt V 3 (nI (crt I j)) (sI g 24 2 mi) = some (nI u, sI g 24 2 mi) := by
    unfold r_X9_wardAt
    rw [grd_t (v_3 h1), q_3_0 h2, bind_some', grd_t (ok_nI (n := 12) (v_4 h1) (by omega) (by decide)), cl_nI (by omega), h3, eu]
  have mi2 : (sI g 24 2 mi).1 24 2 = mi := by rw [sI_1, up2_s]
  show r_X1_run_23' V 24 3 19 cr own (nI j) s (sI g 24 2 mi) = _
  unfold r_X1_run_23'
  rw [grd_t (v_24 h1), h6, brn_f (nI_ge hj (by omega)), q_24_0 h2, bind_some', ej, grd_t (o25 _ (by omega)), bind_some', grd_t (o25 _ (by omega)), grd_t (v_3 h1), cl_nI (by omega), cl_nI (by omega), h5 (j - 1) (by omega), h5 j hj, hmin, bnd_some, q_24_0 h2, bind_some', grd_t (o25 _ (by omega)), h5 j hj, hwd, bnd_some, grd_t (ok_nI (n := 4) (t := 4) (v_19 h1) hu (by decide)), cl_nI (by omega), sh_w h2 hu, bind_some', grd_t (sh_vw h1 hu), show (sI g 24 2 mi).2.2 = g.2.2 from rfl, k2, bind_some', nm_eq]
  by_cases e : nI u = own
  · rw [brn_t e, brn_t e, nm_eq, nm_eq, nI_1, mi2, sI_sI]
  · rw [brn_f e, brn_f e, grd_t (sh_vl h1 k1), p_follow h1 k1, bnd_some, k3', k4']
    by_cases l : ¬ I 85 (8 * u + 5) = -1 ∧ (cr = 0 → I 85 (8 * u + 6) = 0)
    · rw [brn_f (by rw [bI_0]; exact fun k => k l)]
      by_cases t : s + I 74 (12 * crt I (j - 1) + crt I j) ≤ I 85 (8 * u + 5)
      · rw [brn_t t, brn_t ⟨l, t⟩, nm_eq, nm_eq, nI_1, mi2, sI_sI]
      · rw [brn_f t, brn_f (fun k => t k.2), q_24_0 h2, bind_some', grd_t (o25 _ (by omega)), nm_eq, h5 (j - 1) (by omega)]
    · rw [brn_t (by rw [bI_0]; exact l), brn_f (fun k => l k.1), q_24_0 h2, bind_some', grd_t (o25 _ (by omega)), nm_eq, h5 (j - 1) (by omega)]
theorem x_runE {V : Vk} {I : Nat → Nat → Int32} {f : Nat → Nat} {n : Nat} {g : Hq} {cr own s mi : Int32} (hr : FlR I n) (hx : FlX V I f n g) (n0 : 0 < n) : r_X1_run_23 V (24, 3, 19, cr, own, nI n, s, sI g 24 2 mi) = some (.inr (nI n, sI (sI g 24 2 mi) 24 3 (nI (crt I (n - 1))))) := by
  obtain ⟨r1, r2, r3, r4⟩ := hr
  obtain ⟨h1, h2, h3, h4, h5, h6, -⟩ := hx.mi (m := mi)
  have ej : nI n - 1 = nI (n - 1) := pk_sub (b := 1) (by omega)
  show r_X1_run_23' V 24 3 19 cr own (nI n) s (sI g 24 2 mi) = _
  unfold r_X1_run_23'
  rw [grd_t (v_24 h1), h6, brn_t (nI_le (Nat.le_refl n) (by omega)), q_24_0 h2, bind_some', ej, grd_t (ok_nI (n := 10) (v_25 h1) (by omega) (by decide)), nm_eq, cl_nI (by omega), h5 (n - 1) (by omega)]
theorem m_runX {V : Vk} {I : Nat → Nat → Int32} {n j : Nat} {g : Hq} {cr own s ru go : Int32} (hr : FlR I n) (hm : FlM V I g) (hj : j < n) (hgo : go = 0 ∨ n ≤ j + 1) : r_X12_flee_118 V (70, cr, nI n, own, s, ru, nI j, go, g) = some (.inr (nI (j + 1), sI (sI g 70 52 ru) 70 53 (nI (crt I j)))) := by
  obtain ⟨r1, r2, r3, r4⟩ := hr
  obtain ⟨h1, h2, h3, h4, h5, h6⟩ := hm
  have o71 : okV V 71 1 (nI j) := ok_nI (n := 800) (t := 1) (v_71 h1) (by omega) (by decide)
  have e71 : (sI g 70 52 ru).1 71 j - 65 = nI (crt I j) := by rw [sI_1, up2_nk _ _ _ (by decide), h3]; exact (r2 j hj).2
  show r_X12_flee_118' V 70 cr (nI n) own s ru (nI j) go g = _
  unfold r_X12_flee_118'
  by_cases g0 : go = 0
  · rw [brn_t g0, grd_t (v_70 h1), nm_eq, sI_3, q_70_0 h2, bind_some', grd_t o71, nm_eq, cl_nI (by omega), e71, nI_1]
  · rw [brn_f g0, nI_1, brn_t (nI_le (hgo.resolve_left g0) (by omega)), grd_t (v_70 h1), nm_eq, sI_3, q_70_0 h2, bind_some', grd_t o71, nm_eq, cl_nI (by omega), e71]
theorem m_run1 {V : Vk} {I : Nat → Nat → Int32} {n j u : Nat} {g : Hq} {cr own s ru : Int32} (hr : FlR I n) (hm : FlM V I g) (hj : j + 1 < n) (hu : u < 4) (eu : I 72 (crt I (j + 1)) = nI u) (b6 : I 85 (8 * u + 6) = 0 ∨ I 85 (8 * u + 6) = 1) : r_X12_flee_118 V (70, cr, nI n, own, s, ru, nI j, 1, g) = brn (nI u = own) (some (.inl (70, cr, nI n, own, 0, ru + I 74 (12 * crt I j + crt I (j + 1)), nI (j + 1), 1, g))) (brn (s + I 74 (12 * crt I j + crt I (j + 1)) ≤ I 85 (8 * u + 5) ∧ (cr = 0 → I 85 (8 * u + 6) = 0)) (some (.inl (70, cr, nI n, own, s + I 74 (12 * crt I j + crt I (j + 1)), ru + I 74 (12 * crt I j + crt I (j + 1)), nI (j + 1), 1, g))) (some (.inl (70, cr, nI n, own, s, ru, nI j, 0, g)))) := by
  obtain ⟨r1, r2, r3, r4⟩ := hr
  obtain ⟨h1, h2, h3, h4, h5, h6⟩ := hm
  have o71 : ∀ k, k < 10 → okV V 71 1 (nI k) := fun k hk => ok_nI (n := 800) (t := 1) (v_71 h1) (by omega) (by decide)
  have c1 := (r2 (j + 1) hj).1
  have c0 := (r2 j (by omega)).1
  have o72 : okV V 72 0 (nI (crt I (j + 1))) := ok_nI (n := 12) (v_72 h1) c1 (by decide)
  have i5 : (8 : Int32) * nI u + 5 = nI (8 * u + 5) := by rw [show (8 : Int32) = nI 8 from rfl, show (5 : Int32) = nI 5 from rfl, pk_mul, nI_add]
  have i6 : (8 : Int32) * nI u + 6 = nI (8 * u + 6) := by rw [show (8 : Int32) = nI 8 from rfl, show (6 : Int32) = nI 6 from rfl, pk_mul, nI_add]
  show r_X12_flee_118' V 70 cr (nI n) own s ru (nI j) 1 g = _
  unfold r_X12_flee_118'
  rw [brn_f (by decide), nI_1, brn_f (nI_ge hj (by omega)), grd_t (v_70 h1), q_70_0 h2, bind_some', grd_t (o71 _ (by omega)), nm_eq, cl_nI (j := j + 1) (by omega), h3, (r2 (j + 1) hj).2, q_70_12 h2, bind_some', bind_some', grd_t (o71 _ (by omega)), cl_nI (j := j) (by omega), h3, (r2 j (by omega)).2, mx, grd_t (ok_nI (n := 144) (v_74 h1) (by omega) (by decide)), nm_eq, cl_nI (j := 12 * crt I j + crt I (j + 1)) (by omega), h5, nm_eq, q_70_10 h2, bind_some', grd_t o72, nm_eq, cl_nI (j := crt I (j + 1)) (by omega), h4, eu, bind_some', grd_t o72]
  by_cases e : nI u = own
  · rw [h4, eu, brn_t e, brn_t e, nm_eq, nm_eq, bind_some', grd_t o72, h4, eu, brn_t e]
  · rw [h4, eu, brn_f e, brn_f e, q_70_29 h2, bind_some', i5, grd_t (ok_nI (n := 40) (v_85 h1) (by omega) (by decide)), cl_nI (by omega), h6]
    by_cases t : s + I 74 (12 * crt I j + crt I (j + 1)) ≤ I 85 (8 * u + 5)
    · rw [brn_f (i_nlt.mpr t), bind_some', i6, grd_t (ok_nI (n := 40) (v_85 h1) (by omega) (by decide)), cl_nI (by omega), h6]
      by_cases b0 : I 85 (8 * u + 6) = 0
      · rw [brn_t b0, nm_eq, nm_eq, bind_some', grd_t o72, h4, eu, brn_f e, brn_t ⟨t, fun _ => b0⟩]
      · rw [brn_f b0]
        by_cases c : cr = 0
        · rw [brn_t c, brn_f (fun k => b0 (k.2 c))]
        · rw [brn_f c, nm_eq, nm_eq, bind_some', grd_t o72, h4, eu, brn_f e, brn_t ⟨t, fun k => absurd k c⟩]
    · rw [brn_t (i_nle.mp t), brn_f (fun k => t k.1)]
/-- both run alike -/
theorem fl_run {V : Vk} {I : Nat → Nat → Int32} {f : Nat → Nat} {n : Nat} {gx gm : Hq} {cr own : Int32} (hr : FlR I n) (hx : FlX V I f n gx) (hm : FlM V I gm) (b6 : ∀ u, u < 4 → I 85 (8 * u + 6) = 0 ∨ I 85 (8 * u + 6) = 1) : ∀ (d j : Nat) (s ru : Int32), j + d = n → 0 < j → 0 ≤ s.toInt → s.toInt ≤ 99 * j → ∃ (r lc : Nat) (fm : Int32), lc < 12 ∧ lop (r_X1_run_23 V) (24, 3, 19, cr, own, nI j, s, sI gx 24 2 ru) = some (nI r, sI (sI gx 24 2 fm) 24 3 (nI lc)) ∧ lop (r_X12_flee_118 V) (70, cr, nI n, own, s, ru, nI (j - 1), 1, gm) = some (nI r, sI (sI gm 70 52 fm) 70 53 (nI lc)) := by
  intro d
  induction d with
  | zero =>
    intro j s ru hj j0 s0 s1
    have : j = n := by omega
    subst this
    refine ⟨j, crt I (j - 1), ru, (hr.2.1 (j - 1) (by omega)).1, ?_, ?_⟩
    · exact lop_r (x_runE hr hx j0)
    · have := lop_r (m_runX (cr := cr) (own := own) (s := s) (ru := ru) (go := 1) hr hm (j := j - 1) (by omega) (Or.inr (by omega)))
      rw [show j - 1 + 1 = j by omega] at this
      exact this
  | succ d ih =>
    intro j s ru hj j0 s0 s1
    have hjn : j < n := by omega
    have c1 := (hr.2.1 j hjn).1
    obtain ⟨u, hu, eu⟩ := w_nat (hr.2.2.2 (crt I j) c1)
    have st := hr.2.2.1 j j0 hjn
    have ej : j - 1 + 1 = j := by omega
    have m1 := m_run1 (cr := cr) (own := own) (s := s) (ru := ru) (j := j - 1) (u := u) hr hm (by omega) hu (by rw [ej]; exact eu) (b6 u hu)
    rw [ej] at m1
    have x1 := x_run1 (cr := cr) (own := own) (s := s) (mi := ru) hr hx j0 hjn hu eu
    have n10 := hr.1
    have es : (s + I 74 (12 * crt I (j - 1) + crt I j)).toInt = s.toInt + (I 74 (12 * crt I (j - 1) + crt I j)).toInt := i_add (by omega) (by omega)
    by_cases e : nI u = own
    · rw [brn_t e] at m1 x1
      obtain ⟨r, lc, fm, k1, k2, k3⟩ := ih (j + 1) 0 (ru + I 74 (12 * crt I (j - 1) + crt I j)) (by omega) (by omega) (by rw [t0]; omega) (by rw [t0]; omega)
      exact ⟨r, lc, fm, k1, (lop_l x1).trans k2, (lop_l m1).trans k3⟩
    · rw [brn_f e] at m1 x1
      by_cases t : s + I 74 (12 * crt I (j - 1) + crt I j) ≤ I 85 (8 * u + 5) ∧ (cr = 0 → I 85 (8 * u + 6) = 0)
      · have nf : ¬ I 85 (8 * u + 5) = -1 := by
          intro k
          have t1' := t.1
          rw [k, i_le, es, tm1] at t1'
          omega
        rw [brn_t t] at m1
        rw [brn_t ⟨⟨nf, t.2⟩, t.1⟩] at x1
        obtain ⟨r, lc, fm, k1, k2, k3⟩ := ih (j + 1) (s + I 74 (12 * crt I (j - 1) + crt I j)) (ru + I 74 (12 * crt I (j - 1) + crt I j)) (by omega) (by omega) (by omega) (by omega)
        exact ⟨r, lc, fm, k1, (lop_l x1).trans k2, (lop_l m1).trans k3⟩
      · rw [brn_f t] at m1
        rw [brn_f (fun k => t ⟨k.2, k.1.2⟩)] at x1
        refine ⟨j, crt I (j - 1), ru, (hr.2.1 (j - 1) (by omega)).1, lop_r x1, ?_⟩
        have := lop_r (m_runX (cr := cr) (own := own) (s := s) (ru := ru) (go := 0) hr hm (j := j - 1) (by omega) (Or.inl rfl))
        rw [ej] at this
        exact (lop_l m1).trans this
