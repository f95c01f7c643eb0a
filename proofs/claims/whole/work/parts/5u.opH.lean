/-! ===== rounds: the class ===== -/
set_option maxHeartbeats 4000000 in
theorem x_plan {V : Vk} {s n M S : Nat} {cs F : Nat → Nat} {g : Hq} {R77 R78 F75 : Nat → Int32} (hV : ShV V) (hR : ShR g.2.2) (hw : RW g.1) (hs : s < 4096) (en : n = pcN s 12) (hn : n ≤ 10) (ecs : cs = ctF s 12) (e75 : ∀ j, j < 144 → F75 j = mf (g.1 74) j) (ml : MLok (dI F75 cs) (wI (g.1 5) cs) n R77 R78 (2 ^ n)) (gd : Gd n (tF R78) M S F) (cv : ∀ c m, RGp (2 ^ n - 1) c m → vdP (tF R78) (2 ^ n - 1) c m → Cv n (tF R78) M S F c m) (hM : M ≤ 10) (hS : S < 16384) (L14 : ∀ l, l < 1024 → g.2.1 14 l = onesF l) (L0 : g.2.1 13 0 = 0) : ∃ g', r_X6_plan V 8 (nI s) 3 g = some (nI M, g') ∧ (∀ a, a ≠ 3 → ¬ (7 ≤ a ∧ a ≤ 12) → ¬ (15 ≤ a ∧ a ≤ 17) → g'.1 a = g.1 a) ∧ g'.2.2 = g.2.2 ∧ (∀ a, a ≠ 13 → g'.2.1 a = g.2.1 a) ∧ g'.2.1 13 0 = 0 ∧ RW g'.1 ∧ g'.1 8 7 = nI M ∧ g'.1 8 8 = nI S ∧ (∀ c, c < 12 → g'.1 15 c = wmN (fun _ => -1) cs F n M c) ∧ ∀ j, j < M → g'.1 17 j = coF 0 cs F j n ∧ g'.1 16 j = R78 (ptM (2 ^ n - 1) F j) := by
  have n10 := p2_le hn
  obtain ⟨w1, w2, w3, w4, w5, w6, w7, w8⟩ := id hw
  have hcs : ∀ i, i < n → csR s (g.1 9) 12 i = nI (cs i) ∧ cs i < 12 := fun i hi => by
    rw [ecs]
    exact csR_at 12 i (by rw [← en]; exact hi)
  obtain ⟨g1, eg1⟩ : ∃ g1, g1 = hpc g s 12 := ⟨_, rfl⟩
  have a6 : g1.1 8 6 = nI n := by rw [eg1, en]; unfold hpc; rw [sI_1, up2_s]
  have a9 : g1.1 9 = csR s (g.1 9) 12 := by rw [eg1]; unfold hpc; rw [sI_1, up2_nk _ _ _ (by decide), sA_s]
  have an : ∀ a, a ≠ 8 → a ≠ 9 → g1.1 a = g.1 a := fun a h1 h2 => by rw [eg1]; unfold hpc; rw [sI_1, up2_nk _ _ _ h1, sA_n h2]
  have aR : g1.2 = g.2 := by rw [eg1]; rfl
  have aw : RW g1.1 := cgW hw (fun a ha => an a (by unfold sW at ha; omega) (by unfold sW at ha; omega))
  obtain ⟨g2, k1, k2, k3⟩ := x_steps (g := g1) (n := n) (cs := cs) hV (by rw [aR]; exact hR) aw hn a6 (by rw [a9]; exact hcs)
  rw [an 74 (by decide) (by decide)] at k3
  have b8 : g2.1 8 = g1.1 8 := k2.1 8 (by decide) (by decide) (by decide)
  have b9 : g2.1 9 = g1.1 9 := k2.1 9 (by decide) (by decide) (by decide)
  have b5 : g2.1 5 = g.1 5 := by rw [k2.1 5 (by decide) (by decide) (by decide), an 5 (by decide) (by decide)]
  have bR : g2.2 = g.2 := by rw [k2.2.1, aR]
  have rel : ∀ i j, i < n → j < n → 0 ≤ (g2.1 10 (10 * i + j)).toInt ∧ (g2.1 10 (10 * i + j)).toInt ≤ 1000000 ∧ e1k (g2.1 10 (10 * i + j)).toInt (dI F75 cs i j) ∧ 0 ≤ dI F75 cs i j := fun i j hi hj => by
    have h1 := (hcs i hi).2
    have h2 := (hcs j hj).2
    obtain ⟨r1, r2, r3, r4, r5⟩ := st_rel w6 h1 h2
    unfold dI
    rw [k3 i j hi hj, e75 _ (by omega)]
    exact ⟨r1, r2, r3, r4⟩
  have B : CB V n cs (g2.1 10) (g.1 5) g2 := ⟨hV, by rw [bR]; exact hR, hn, by rw [b8]; exact a6, by rw [b9, a9]; exact hcs, rfl, b5, fun i j hi hj => ⟨(rel i j hi hj).1, (rel i j hi hj).2.1⟩, by rw [w2]; exact w5⟩
  have hd : ∀ i j, i < n → j < n → 0 ≤ dI F75 cs i j ∧ 0 ≤ sD (g2.1 10) i j ∧ e1k (sD (g2.1 10) i j) (dI F75 cs i j) := fun i j hi hj => ⟨(rel i j hi hj).2.2.2, (rel i j hi hj).1, (rel i j hi hj).2.2.1⟩
  have dg : ∀ i, i < n → dI F75 cs i i = 0 := fun i hi => by
    have h1 := (hcs i hi).2
    unfold dI
    rw [e75 _ (by omega), mf_dg w6 h1]; rfl
  have wb : ∀ i, i < n → 1 ≤ wI (g.1 5) cs i ∧ wI (g.1 5) cs i ≤ 999 := fun i hi => by unfold wI; rw [w2]; exact w5 _ (hcs i hi).2
  have f15 : ∀ j, j < n → F j ≤ 15 := fun j hj => by have := rg_le gd.1 j (fbt.mpr hj); omega
  -- the homes, one by one
  have homes : ∀ d h g', h + d = n → Fp g2 g' → (∀ t, 0 < t → t < 2 ^ n → low t < h → TCk (g'.1 12) R78 t) → ∃ g'', lop (r_X6_plan_12 V) (8, 3, nI h, g') = lop (r_X6_plan_12 V) (8, 3, nI n, g'') ∧ Fp g2 g'' ∧ ∀ t, 0 < t → t < 2 ^ n → TCk (g''.1 12) R78 t := by
    intro d
    induction d with
    | zero =>
      intro h g' hh f1 f2
      have e : h = n := by omega
      subst e
      exact ⟨g', rfl, f1, fun t t0 t1 => f2 t t0 t1 (bit_lt t1 (low_b t0 (by omega)))⟩
    | succ d ih =>
      intro h g' hh f1 f2
      have B' := B.f f1
      obtain ⟨g3, q1, q2, q3⟩ := x_mt B' (show h < n by omega) ml hd dg f2
      have st : r_X6_plan_12 V (8, 3, nI h, g') = some (.inl (8, 3, nI (h + 1), g3)) := by
        show r_X6_plan_12' V 8 3 (nI h) g' = _
        unfold r_X6_plan_12'
        rw [grd_t (v_8 hV), B'.2.2.2.1, brn_f (nI_ge (by omega) (by omega)), q1, bnd_some, nm_eq, nI_1]
      rw [lop_l st]
      exact ih (h + 1) g3 (by omega) (f1.tr q2) q3
  obtain ⟨g3, h1, h2, h3⟩ := homes n 0 g2 (by omega) Fp.rf (fun t _ _ z => absurd z (by omega))
  have B3 := B.f h2
  have TT : ∀ t, 0 < t → t < 2 ^ n → (tF R78 t ≤ 999 ∧ g3.1 12 t = nI (tF R78 t)) ∨ (tF R78 t = 1000000 ∧ g3.1 12 t = 100000) := fun t t0 t1 => by
    rcases h3 t t0 t1 with ⟨c1, c2, c3⟩ | ⟨c1, c2⟩
    · left
      have := tF_at (R78 := R78) (p := t) (Or.inl ⟨c1, c2⟩)
      exact ⟨by unfold tF; omega, by rw [c3]; exact this.1⟩
    · right
      exact ⟨by unfold tF; rw [c1]; rfl, c2⟩
  have T1 : ∀ i, i < n → tF R78 (2 ^ i) ≤ 999 := fun i hi => by unfold tF; rw [ml_1 hn hi ml dg wb]; decide
  have cR : g3.2 = g.2 := by rw [h2.2, bR]
  obtain ⟨g4, j1, j2, j3, j4, j5, j6, j7⟩ := x_join (T := tF R78) hV B3.2.1 hn B3.2.2.2.1 TT T1 (by rw [cR]; exact L0) (by rw [cR]; exact L14)
  have pv := best_eq hn j6 gd cv
  have l13 := (j7 (2 ^ n - 1) fl_lt).1
  rw [pv] at l13
  have hR4 : ShR g4.2.2 := by rw [j3]; exact B3.2.1
  obtain ⟨g5, m1, m2, m3, m4, m5, m6, m7, m8⟩ := x_keep (g := g4) (cs := cs) (F := F) (M := M) (S := S) (n := n) hV hR4 hn (by rw [j2]; exact B3.2.2.2.1) (by rw [j2]; exact B3.2.2.2.2.1) hM hS f15
  have fr : ∀ a, a ≠ 3 → ¬ (7 ≤ a ∧ a ≤ 12) → ¬ (15 ≤ a ∧ a ≤ 17) → g5.1 a = g.1 a := fun a z1 z2 z3 => by
    rw [m2 a (by omega) (by omega) (by omega) (by omega), j2, h2.1 a (by omega) (by omega), k2.1 a z1 (by omega) (by omega), an a (by omega) (by omega)]
  have fr2 : ∀ a, sW a → g5.1 a = g2.1 a := fun a ha => by
    unfold sW at ha
    rw [m2 a (by omega) (by omega) (by omega) (by omega), j2, h2.1 a (by omega) (by omega)]
  refine ⟨g5, ?_, fr, ?_, fun a ha => ?_, ?_, cgW k2.2.2 fr2, m5, m6, fun c hc => ?_, fun j hj => ?_⟩
  · unfold r_X6_plan
    rw [grd_t (v_8 hV), x_list hV hR hs (by omega), bnd_some, ← eg1, k1, bnd_some]
    refine Eq.trans h1 (lop_r ?_)
    show r_X6_plan_12' V 8 3 (nI n) g3 = _
    unfold r_X6_plan_12'
    have ix : nI (2 ^ n) - (1 : Int32) = nI (2 ^ n - 1) := pk_sub (a := 2 ^ n) (b := 1) (Nat.pow_pos (by decide))
    have fl := fl_10 hn
    rw [grd_t (v_8 hV), B3.2.2.2.1, brn_t (nI_le (Nat.le_refl _) (by omega)), j1, bnd_some, q_8_4 hR4, bind_some', j2, B3.2.2.2.1, b_one (by omega), ix, grd_t (ok_nI (n := 1024) (t := 3) (v_13 hV) (by omega) (by decide)), cl_nI (by omega), l13, m1, bnd_some, m5]
  · rw [m4, j3, cR]
  · rw [m4, j4 a ha, cR]
  · rw [m4]; exact j5
  · rw [m7]
    refine wmN_cg ?_ M
    unfold flR
    rw [if_pos hc]
  · refine ⟨(m8 j hj).1, ?_⟩
    have pp := pt_pos hn gd.1 hj
    have pl := pt_lt (n := n) (k := j) (f := F) hn
    have tv := gd.2.1 j hj
    rw [(m8 j hj).2, j2]
    rcases h3 _ pp pl with ⟨c1, c2, c3⟩ | ⟨c1, c2⟩
    · exact c3
    · exfalso
      have : tF R78 (ptM (2 ^ n - 1) F j) = 1000000 := by unfold tF; rw [c1]; rfl
      omega
theorem pc_pos {s : Nat} (h0 : 0 < s) (hs : s < 4096) : 0 < pcN s 12 := by
  rcases Nat.eq_zero_or_pos (pcN s 12) with z | z
  · exfalso
    have : s = 0 := Nat.eq_of_testBit_eq (fun i => by
      rw [Nat.zero_testBit]
      by_cases b : s.testBit i = true
      · have i12 := bit_lt (n := 12) hs b
        have a := pcN_b b
        have m := pcN_mono (s := s) (12 - (i + 1)) (i + 1)
        rw [show i + 1 + (12 - (i + 1)) = 12 by omega] at m
        omega
      · simpa using b)
    omega
  · exact z
theorem Op_of' {α : Type} {V : Vk} {x m : Hq → Option (α × Hq)} {g : Hq} (h : Inv V g) (hs : ∀ gm, ShR gm.2.2 → Inv V (cmb g gm) → Sim V x m g gm) : Op V g x m := by
  have e0 : cmb g g = g := cmb_same g g (fun _ _ => rfl) (fun _ _ => rfl)
  obtain ⟨r, gx, gm, h1, h2, h3, h4, h5⟩ := hs g h.r (by rw [e0]; exact h)
  have e1 : cmb g gx = g := cmb_same g gx h3.1 h3.2
  obtain ⟨r', gx', gm', k1, k2, k3, k4, k5⟩ := hs gx h5.r (by rw [e1]; exact h)
  have q := Option.some.inj (h1.symm.trans k1)
  have q1 : r = r' := congrArg Prod.fst q
  have q2 : gx = gx' := congrArg Prod.snd q
  refine ⟨r, gx, gm', h1, by rw [q1]; exact k2, ?_⟩
  rw [← q2] at k5
  rw [cmb_same2 gx gm' k4.1 k4.2.1 k4.2.2] at k5
  exact k5
set_option maxHeartbeats 4000000 in
theorem sim_rounds {V : Vk} {g gm : Hq} (a : Int32) (hG : Inv V g) (hR : ShR gm.2.2) (hI : Inv V (cmb g gm)) : Sim V (r_X11_rounds V 0 a) (r_X12_rounds V 70 a) g gm := by
  have hV := hI.v
  have hRx : ShR g.2.2 := hG.r
  have t4096 : (4096 : Int32).toInt = 4096 := rfl
  have t4095 : (4095 : Int32).toInt = 4095 := rfl
  by_cases hr : 1 ≤ a ∧ a ≤ 4095
  · have l1 : ¬ a < 1 := by have := hr.1; rw [i_le, t1] at this; rw [i_lt, t1]; omega
    have l2 : a < 4096 := by have := hr.2; rw [i_le, t4095] at this; rw [i_lt, t4096]; omega
    obtain ⟨s, es, s0, hs⟩ : ∃ s : Nat, a = nI s ∧ 0 < s ∧ s < 4096 := by
      rw [i_lt, t1] at l1
      rw [i_lt, t4096] at l2
      refine ⟨a.toInt.toNat, ?_, by omega, by omega⟩
      rw [i_eq, tN (by omega)]; omega
    have X : r_X11_rounds V 0 a g = brn (nI (pcN s 12) ≤ (10 : Int32)) (bnd (r_X6_plan V 8 a 3 g) fun x10 g9 => some (x10, g9)) (some ((-3 : Int32), g)) := by
      unfold r_X11_rounds
      rw [brn_f l1, brn_t l2, p_bitCount, bnd_some, es, bc_tab hs, grd_t (v_0 hV), q_0_2 hRx, bind_some', q_0_1 hRx, bind_some', grd_t (v_8 hV)]
    have M0 : r_X12_rounds V 70 a gm = lop (r_X12_rounds_18 V) (70, nI s, 0, 0, gm) := by
      unfold r_X12_rounds
      rw [p_in, bnd_some, brn_f (by rw [bI_0]; exact fun k => k hr), es]
    by_cases hn : pcN s 12 ≤ 10
    · have om : ∀ a, md a → (cmb g gm).1 a = gm.1 a := fun a ha => cmb_2 ha
      have ox : ∀ a, ¬ md a → (cmb g gm).1 a = g.1 a := fun a ha => cmb_1 ha
      obtain ⟨w1, w2, w3, w4, w5, w6, w7, w8⟩ := id hI.w
      rw [om 74 (by unfold md; omega)] at w3 w6 w7 w8
      rw [ox 6 (by unfold md; omega)] at w3
      rw [om 73 (by unfold md; omega)] at w2 w5
      rw [ox 5 (by unfold md; omega)] at w2
      rw [om 75 (by unfold md; omega)] at w7
      have e74 : g.1 74 = gm.1 74 := by rw [← hG.w.2.2.1, w3]
      have fb75 : ∀ j, j < 144 → 0 ≤ (gm.1 75 j).toInt ∧ (gm.1 75 j).toInt ≤ 1000000 := fun j hj => by
        rw [w7 j hj]
        rcases (mf_FB w6).1 j hj with z | z
        · rw [z]; decide
        · omega
      obtain ⟨R77, R78, M, S, F, gm', r1, ml, gd, cv, hM, hS, r2, r3, r4, r5, r6, r7, r8, r9⟩ := m_rounds (s := s) (n := pcN s 12) (cs := ctF s 12) (g := gm) hV hR hs rfl hn rfl fb75 w5 (fun c hc => by rw [w7 _ (by omega)]; exact mf_dg w6 hc)
      rw [← w2] at ml
      obtain ⟨pL14, pL0, -⟩ := id hG.p
      obtain ⟨g', x1, x2, x3, x4, x5, x6, x7, x8, x9, x10⟩ := x_plan (s := s) (n := pcN s 12) (cs := ctF s 12) (g := g) (F75 := gm.1 75) hV hRx hG.w hs rfl hn rfl (fun j hj => by rw [e74]; exact w7 j hj) ml gd cv hM hS pL14 pL0
      refine ⟨nI M, g', gm', ?_, by rw [M0]; exact r1, ⟨fun a ha => x2 a (by unfold md at ha; omega) (by unfold md at ha; omega) (by unfold md at ha; omega), fun a ha => x4 a (by unfold md at ha; omega)⟩, ⟨fun a ha => r2 a (by unfold md at ha; omega) (by unfold md at ha; omega), fun a _ => by rw [r4], by rw [r4]⟩, ?_⟩
      · rw [X, brn_t (show nI (pcN s 12) ≤ (10 : Int32) from nI_le (b := 10) hn (by decide)), es, x1, bnd_some]
      · have ex : ∀ a, a ≠ 3 → ¬ (7 ≤ a ∧ a ≤ 12) → ¬ (15 ≤ a ∧ a ≤ 17) → a ≠ 70 → ¬ (76 ≤ a ∧ a ≤ 84) → (cmb g' gm').1 a = (cmb g gm).1 a := fun a z1 z2 z3 z4 z5 => by
          by_cases q : md a
          · rw [cmb_2 q, cmb_2 q, r2 a z4 z5]
          · rw [cmb_1 q, cmb_1 q, x2 a z1 z2 z3]
        have c70 : (cmb g' gm').1 70 = gm'.1 70 := cmb_2 (by unfold md; omega)
        have o70 : (cmb g gm).1 70 = gm.1 70 := cmb_2 (by unfold md; omega)
        have e70 : ∀ j, j ≠ 15 → ¬ (21 ≤ j ∧ j ≤ 25) → (cmb g' gm').1 70 j = (cmb g gm).1 70 j := fun j z1 z2 => by rw [c70, o70, r3 j z1 z2]
        have eL : ∀ a, a ≠ 13 → (cmb g' gm').2.1 a = (cmb g gm).2.1 a := fun a ha => by
          by_cases q : md a
          · rw [cmb_L2 q, cmb_L2 q, r4]
          · rw [cmb_L1 q, cmb_L1 q, x4 a ha]
        have eR : (cmb g' gm').2.2 = (cmb g gm).2.2 := x3
        obtain ⟨i1, i2, i3, i4, i5, i6, i7, i8, i9, nn, cc, i10, i11, i12, i13⟩ := id hI
        have M1 : 1 ≤ M := by
          have := gd.1.1 0 (fbt.mpr (pc_pos s0 hs))
          omega
        refine ⟨i1, by rw [eR]; exact i2, ?_, ?_, ?_, ?_, ?_, ?_, ?_, nn, cc, ?_, ?_, ?_, by rw [eR]; exact i13⟩
        · exact i3.cg (ex 1 (by decide) (by decide) (by decide) (by decide) (by decide)) (ex 2 (by decide) (by decide) (by decide) (by decide) (by decide)) (ex 71 (by decide) (by decide) (by decide) (by decide) (by decide)) (e70 1 (by decide) (by decide))
        · obtain ⟨v1, v2, v3, v4, v5, v6, v7, v8⟩ := i4
          have y4 := ex 4 (by decide) (by decide) (by decide) (by decide) (by decide)
          have y5 := ex 5 (by decide) (by decide) (by decide) (by decide) (by decide)
          have y6 := ex 6 (by decide) (by decide) (by decide) (by decide) (by decide)
          have y72 := ex 72 (by decide) (by decide) (by decide) (by decide) (by decide)
          have y73 := ex 73 (by decide) (by decide) (by decide) (by decide) (by decide)
          have y74 := ex 74 (by decide) (by decide) (by decide) (by decide) (by decide)
          have y75 := ex 75 (by decide) (by decide) (by decide) (by decide) (by decide)
          refine ⟨by rw [y4, y72]; exact v1, by rw [y5, y73]; exact v2, by rw [y6, y74]; exact v3, by rw [y72]; exact v4, by rw [y73]; exact v5, by rw [y74]; exact v6, by rw [y74, y75]; exact v7, ?_⟩
          rw [y74, om 74 (by unfold md; omega), cmb_1 (a := 3) (by unfold md; omega), cmb_1 (a := 7) (by unfold md; omega)]
          have := x6.2.2.2.2.2.2.2
          rw [x2 74 (by decide) (by decide) (by decide), e74] at this
          exact this
        · refine ⟨fun p hp => ?_, ?_, Or.inr ⟨?_, ?_, ?_, ?_, ?_, fun c hc => ?_, fun i hi => ?_⟩⟩
          · rw [eL 14 (by decide)]; exact i5.1 p hp
          · rw [cmb_L1 (by unfold md; omega)]; exact x5
          · rw [c70]; exact r5
          · rw [c70, r6, tN (by omega)]; omega
          · rw [c70, r6, tN (by omega)]; omega
          · rw [c70, r6, cmb_1 (by unfold md; omega)]; exact x7
          · rw [c70, r7, cmb_1 (by unfold md; omega)]; exact x8
          · rw [cmb_1 (a := 15) (by unfold md; omega), cmb_2 (a := 82) (by unfold md; omega), x9 c hc, r8 c hc]
          · rw [c70, r6, tN (by omega)] at hi
            have hi' : i < M := by omega
            rw [cmb_1 (a := 16) (by unfold md; omega), cmb_2 (a := 83) (by unfold md; omega), cmb_1 (a := 17) (by unfold md; omega), cmb_2 (a := 84) (by unfold md; omega), (x10 i hi').1, (x10 i hi').2, (r9 i hi').1, (r9 i hi').2]
            exact ⟨rfl, rfl⟩
        · exact cgF i6 (ex 18 (by decide) (by decide) (by decide) (by decide) (by decide)) (e70 8 (by decide) (by decide)) (e70 9 (by decide) (by decide))
        · exact cgLw i7 (fun a ha => by unfold sLw at ha; exact ex a (by omega) (by omega) (by omega) (by omega) (by omega)) (by rw [eR]) (fun _ _ => by rw [eR])
        · exact cgG i8 (ex 24 (by decide) (by decide) (by decide) (by decide) (by decide)) (e70 52 (by decide) (by decide)) (e70 53 (by decide) (by decide))
        · exact cgX i9 (e70 55 (by decide) (by decide)) (eL 106 (by decide))
        · exact cgH i10 (fun a ha => by unfold sH at ha; exact ex a (by omega) (by omega) (by omega) (by omega) (by omega)) (e70 32 (by decide) (by decide)) (by rw [eR])
        · exact fun w hw => cgY hw (i11 w hw) (fun a ha => by unfold sY at ha; exact ex a (by omega) (by omega) (by omega) (by omega) (by omega))
        · exact cgN i12 (fun a ha => by unfold sN at ha; exact ex a (by omega) (by omega) (by omega) (by omega) (by omega)) (e70 46 (by decide) (by decide)) (by rw [eR])
    · have p12 := pcN_le (s := s) 12
      refine ⟨-3, g, gm, ?_, ?_, FX.rf, FM.rf, hI⟩
      · rw [X, brn_f (show ¬ nI (pcN s 12) ≤ (10 : Int32) from nI_ge (a := 10) (by omega) (by omega))]
      · rw [M0, m_18 hs]
        refine lop_r ?_
        show r_X12_rounds_18' V 70 (nI s) (nI (pcN s 12)) (nI 12) gm = _
        unfold r_X12_rounds_18'
        rw [brn_t (by decide), brn_f (show ¬ nI (pcN s 12) ≤ (10 : Int32) from nI_ge (a := 10) (by omega) (by omega))]
  · refine ⟨-2, g, gm, ?_, ?_, FX.rf, FM.rf, hI⟩
    · unfold r_X11_rounds
      by_cases l1 : a < 1
      · rw [brn_t l1]
      · have l2 : ¬ a < 4096 := fun z => hr (by
          rw [i_lt, t1] at l1
          rw [i_lt, t4096] at z
          rw [i_le, i_le, t1, t4095]
          omega)
        rw [brn_f l1, brn_f l2]
    · unfold r_X12_rounds
      rw [p_in, bnd_some, brn_t (bI_0.mpr hr)]
theorem op_rounds {V : Vk} {g : Hq} (h : Inv V g) (a : Int32) : Op V g (r_X11_rounds V 0 a) (r_X12_rounds V 70 a) := Op_of' h (fun _ hR hI => sim_rounds a h hR hI)
