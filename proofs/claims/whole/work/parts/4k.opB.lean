def pFl (a : Nat) : Prop := a = 1 ∨ a = 24 ∨ a = 25
def qFl (j : Nat) : Prop := j = 1 ∨ j = 52 ∨ j = 53
/-- what a flight leaves: the tape empty, the flight as f says -/
theorem fl_Inv {V : Vk} {g g2 : Hq} (h : Inv V g) (ex : ∀ a, a ≠ 1 → a ≠ 24 → a ≠ 25 → a ≠ 70 → g2.1 a = g.1 a) (em : ∀ j, j ≠ 1 → j ≠ 52 → j ≠ 53 → g2.1 70 j = g.1 70 j) (hg : g2.2 = g.2) (e1 : g2.1 1 1 = 0) (e70 : g2.1 70 1 = 0) (hG : RG g2.1) : Inv V g2 := by
  have fr : Fr pFl qFl g g2 := ⟨fun a ha hb => by unfold pFl at ha; exact ex a (by omega) (by omega) (by omega) hb, fun j hj => by unfold qFl at hj; exact em j (by omega) (by omega) (by omega)⟩
  refine Inv.by pFl qFl h fr hg (Or.inr (?_)) (Or.inl (by intro a ha; unfold sW at ha; unfold pFl; omega)) (Or.inl ⟨(by intro a ha; unfold sP at ha; unfold pFl; omega), (by unfold qFl; first | omega | exact id), (by unfold qFl; first | omega | exact id), (by unfold qFl; first | omega | exact id)⟩) (Or.inl ⟨(by unfold pFl; omega), (by unfold qFl; first | omega | exact id), (by unfold qFl; first | omega | exact id)⟩) (Or.inl (by intro a ha; unfold sLw at ha; unfold pFl; omega)) (Or.inr (hG)) (by unfold qFl; first | omega | exact id) (fun _ _ => Or.inl ⟨(by intro a ha; unfold sH at ha; unfold pFl; omega), (by unfold qFl; first | omega | exact id)⟩) (fun _ _ _ _ _ => Or.inl (by intro a ha; unfold sY at ha; unfold pFl; omega)) (fun _ _ => Or.inl ⟨(by intro a ha; unfold sN at ha; unfold pFl; omega), (by unfold qFl; first | omega | exact id)⟩)
  obtain ⟨t1, t2, t3, t4, t5⟩ := h.t
  unfold RT
  rw [e1, e70, ex 2 (by decide) (by decide) (by decide) (by decide), ex 71 (by decide) (by decide) (by decide) (by decide)]
  exact ⟨rfl, by rw [t0]; omega, by rw [t0]; omega, t4, t5⟩
theorem RG_sl {I I2 : Nat → Nat → Int32} (h : RG I) (e2 : I2 24 2 = I 24 2) (e3 : I2 24 3 = I 24 3) (e52 : I2 70 52 = I 70 52) (e53 : I2 70 53 = I 70 53) : RG I2 := by
  unfold RG at h ⊢
  rw [e2, e3, e52, e53]
  exact h
theorem op_flee {V : Vk} {g : Hq} (h : Inv V g) (cr : Int32) : Op V g (r_X11_flee V 0 cr) (r_X12_flee V 70 cr) := by
  obtain ⟨t1, t2, t3, t4, t5⟩ := h.t
  have w := h.w
  obtain ⟨n, en⟩ : ∃ n : Nat, (g.1 70 1).toInt = n := ⟨(g.1 70 1).toInt.toNat, by omega⟩
  have n8 : n ≤ 800 := by omega
  have e70 : g.1 70 1 = nI n := by rw [i_eq, en, tN (by omega)]
  have e11 : g.1 1 1 = nI n := by rw [t1]; exact e70
  have hv0 := v_0 h.v
  have hv := v_70 h.v
  have rd : r_X1_read V 24 1 3 g = bnd (some (bI (2 ≤ nI n ∧ nI n ≤ 10), sI g 24 1 (nI n))) (fun x8 g7 => brn (x8 = 0) (some ((0 : Int32), g7)) ((lop (r_X1_read_25 V) (24, 1, 3, (0 : Int32), g7)))) := by
    unfold r_X1_read r_X8_length
    rw [grd_t (v_1 h.v), grd_t (v_1 h.v), bnd_some, grd_t (v_24 h.v), nm_eq, e11, sI_1, up2_s, p_isFrom]
  have cutX : ∀ (x : Int32) (g8 : Hq), g8.2 = g.2 → r_X1_read V 24 1 3 g = some (x, g8) → x = 0 → r_X11_flee V 0 cr g = some (-1, sI g8 1 1 0) := by
    intro x g8 eR hr hx
    unfold r_X11_flee r_X8_cut
    rw [grd_t hv0, q_0_7 h.r, bind_some', q_0_0 h.r, bind_some', q_0_1 h.r, bind_some', grd_t (v_24 h.v), hr, bnd_some, brn_t hx, eR, q_0_0 h.r, bind_some', grd_t (v_1 h.v), grd_t (v_1 h.v), nm_eq, bnd_some]
  by_cases hb : 2 ≤ nI n ∧ nI n ≤ 10
  · have b1 := hb.1
    have b2 := hb.2
    rw [show (2 : Int32) = nI 2 from rfl, nI_leI (by decide) (by omega)] at b1
    rw [show (10 : Int32) = nI 10 from rfl, nI_leI (by omega) (by decide)] at b2
    have gI : ∀ a, a ≠ 24 → (sI g 24 1 (nI n)).1 a = g.1 a := fun a ha => by rw [sI_1, up2_nk _ _ _ ha]
    have okE : ∀ i, okF (sI g 24 1 (nI n)).1 i ↔ okF g.1 i := by
      intro i
      unfold okF isC crt
      rw [gI 71 (by decide), gI 74 (by decide)]
    obtain ⟨rA, rB⟩ := x_readN (g := sI g 24 1 (nI n)) h.v h.r (by rw [gI 1 (by decide)]; exact e11) (by rw [sI_1, up2_s]) b2 (by rw [gI 2 (by decide), gI 71 (by decide)]; exact t4) (fun j => by rw [gI 71 (by decide)]; exact t5 j) (by rw [gI 6 (by decide), gI 74 (by decide)]; exact w.2.2.1)
    have rd2 : r_X1_read V 24 1 3 g = lop (r_X1_read_25 V) (24, 1, 3, (0 : Int32), sI g 24 1 (nI n)) := by
      rw [rd, bnd_some, brn_f (by rw [bI_0]; exact fun k => k hb)]
    by_cases hok : ∀ i, i < n → okF g.1 i
    · -- the flight is run
      have rd3 := rA (fun i hi => (okE i).mpr (hok i hi))
      rw [← rd2] at rd3
      obtain ⟨f, l1, l2, l3, l4, l5⟩ := h.l
      have cr1 : ∀ j, j < n → crt g.1 j < 12 ∧ g.1 71 j - 65 = nI (crt g.1 j) := fun j hj => by
        obtain ⟨-, c2⟩ := crt_x (I := g.1) (j := j) (t5 j)
        obtain ⟨d1, d2, d3⟩ := c2 (hok j hj).1
        exact ⟨d3, d2⟩
      have hr : FlR g.1 n := by
        refine ⟨b2, cr1, fun j j0 hj => ?_, w.2.2.2.1⟩
        have a1 := (cr1 j hj).1
        have a2 := (cr1 (j - 1) (by omega)).1
        exact (w.2.2.2.2.2.1 (12 * crt g.1 (j - 1) + crt g.1 j) (by omega)).resolve_left ((hok j hj).2 j0)
      obtain ⟨gx, egx⟩ : ∃ gx, gx = sA (sI g 24 1 (nI n)) 25 (rwF (sI g 24 1 (nI n)).1 ((sI g 24 1 (nI n)).1 25) n) := ⟨_, rfl⟩
      rw [← egx] at rd3
      have gxI : ∀ a, a ≠ 24 → a ≠ 25 → gx.1 a = g.1 a := fun a h1 h2 => by rw [egx, sA_n h2, gI a h1]
      have gxR : gx.2 = g.2 := by rw [egx]; rfl
      have hx : FlX V g.1 f n gx := by
        refine ⟨h.v, by rw [gxR]; exact h.r, by rw [gxI 4 (by decide) (by decide)]; exact w.1, by rw [gxI 6 (by decide) (by decide)]; exact w.2.2.1, fun k hk => ?_, by rw [egx, sA_n (by decide), sI_1, up2_s], fun u hu => ?_⟩
        · rw [egx, sA_s]
          obtain ⟨-, c2⟩ := crt_x (I := g.1) (j := k) (t5 k)
          unfold rwF
          rw [if_pos hk, gI 71 (by decide)]
          exact (c2 (hok k hk).1).1
        · have lp := l1 u (by omega)
          have n1 : f u ≠ 24 ∧ f u ≠ 25 := by unfold lawPl at lp; omega
          have d := (l5 u hu).1
          exact ⟨lp, by rw [gxR]; exact l3 u hu, by rw [gxI _ n1.1 n1.2]; exact d 5 (by omega), by rw [gxI _ n1.1 n1.2]; exact d 6 (by omega)⟩
      obtain ⟨u0, hu0, eu0⟩ := w_nat (hr.2.2.2 (crt g.1 0) (cr1 0 (by omega)).1)
      have b6 : ∀ u, u < 4 → g.1 85 (8 * u + 6) = 0 ∨ g.1 85 (8 * u + 6) = 1 := fun u hu => (l5 u hu).2.2.2.2.2.2.2.2.2.2.2.2.1
      -- the reference's heap behind the class's call
      have hmF : ∀ g', (∀ a, a ≠ 1 → a ≠ 24 → a ≠ 25 → a ≠ 70 → g'.1 a = g.1 a) → g'.2 = g.2 → FlM V g.1 g' := fun g' e1 e2 => ⟨h.v, by rw [e2]; exact h.r, e1 71 (by decide) (by decide) (by decide) (by decide), e1 72 (by decide) (by decide) (by decide) (by decide), e1 74 (by decide) (by decide) (by decide) (by decide), e1 85 (by decide) (by decide) (by decide) (by decide)⟩
      have runs : ∀ gm, FlM V g.1 gm → _ := fun gm hm => fl_run (cr := cr) (own := nI u0) hr hx hm b6 (n - 1) 1 0 0 (by omega) (by decide) (by rw [t0]; omega) (by rw [t0]; omega)
      obtain ⟨r, lc, fm, q1, q2, -⟩ := runs _ (hmF g (fun _ _ _ _ _ => rfl) rfl)
      have xr : r_X1_run V 24 3 19 cr gx = some (nI r, sI (sI gx 24 2 fm) 24 3 (nI lc)) := by
        have hw0 : r_X9_wardAt V 3 (nI (crt g.1 0)) gx = some (nI u0, gx) := by
          unfold r_X9_wardAt
          rw [grd_t (v_3 h.v), gxR, q_3_0 h.r, bind_some', grd_t (ok_nI (n := 12) (v_4 h.v) (cr1 0 (by omega)).1 (by decide)), cl_nI (by have := (cr1 0 (by omega)).1; omega), hx.2.2.1, eu0]
        unfold r_X1_run
        rw [grd_t (v_24 h.v), gxR, q_24_0 h.r, bind_some', grd_t (show okV V 25 0 0 from ok_nI (n := 10) (j := 0) (t := 0) (v_25 h.v) (by omega) (by decide)), grd_t (v_3 h.v), show (0 : Int32).toNatClampNeg = 0 from rfl, hx.2.2.2.2.1 0 (by omega), hw0, bnd_some, nm_eq]
        exact q2
      have X : r_X11_flee V 0 cr g = some (nI r, sI (sI (sI gx 24 2 fm) 24 3 (nI lc)) 1 1 0) := by
        unfold r_X11_flee r_X8_cut
        rw [grd_t hv0, q_0_7 h.r, bind_some', q_0_0 h.r, bind_some', q_0_1 h.r, bind_some', grd_t (v_24 h.v), rd3, bnd_some, brn_f (by decide), gxR, q_0_7 h.r, bind_some', q_0_1 h.r, bind_some', q_0_4 h.r, bind_some', grd_t (v_24 h.v), xr, bnd_some, sI_3, sI_3, gxR, q_0_0 h.r, bind_some', grd_t (v_1 h.v), grd_t (v_1 h.v), nm_eq, bnd_some]
      obtain ⟨g1, eg1⟩ : ∃ g1, g1 = sI (sI (sI gx 24 2 fm) 24 3 (nI lc)) 1 1 0 := ⟨_, rfl⟩
      rw [← eg1] at X
      have g1I : ∀ a, a ≠ 1 → a ≠ 24 → a ≠ 25 → g1.1 a = g.1 a := fun a h1 h2 h3 => by
        rw [eg1]
        simp only [sI_1]
        rw [up2_nk _ _ _ h1, up2_nk _ _ _ h2, up2_nk _ _ _ h2, gxI a h2 h3]
      have g1R : g1.2 = g.2 := by rw [eg1]; exact gxR
      have hm : FlM V g.1 (sI g1 70 1 0) := hmF _ (fun a h1 h2 h3 h4 => by rw [sI_1, up2_nk _ _ _ h4]; exact g1I a h1 h2 h3) g1R
      obtain ⟨r', lc', fm', q1', q2', q3'⟩ := runs _ hm
      have same := q2.symm.trans q2'
      have s1 := Option.some.inj same
      have er : nI r = nI r' := congrArg Prod.fst s1
      have es := congrArg Prod.snd s1
      have efm : fm = fm' := by
        have := congrArg (fun q : Hq => q.1 24 2) es
        simpa [sI_1, up2_at] using this
      have elc : nI lc = nI lc' := by
        have := congrArg (fun q : Hq => q.1 24 3) es
        simpa [sI_1, up2_at] using this
      refine ⟨nI r, g1, sI (sI (sI g1 70 1 0) 70 52 fm) 70 53 (nI lc), X, ?_, ?_⟩
      · have e701 : g1.1 70 1 = nI n := by rw [g1I 70 (by decide) (by decide) (by decide)]; exact e70
        have okM : ∀ i, i < n → okF (sI g1 70 1 0).1 i := by
          intro i hi
          have := hok i hi
          unfold okF isC crt at this ⊢
          rw [hm.2.2.1, hm.2.2.2.2.1]
          exact this
        have pre := run_to (f := r_X12_flee_24 V) (fun i => (70, cr, nI n, nI i, sI g1 70 1 0)) n (fun k hk => by
          show r_X12_flee_24 V (70, cr, nI n, nI k, sI g1 70 1 0) = _
          rw [m_read1 h.v hm.2.1 b2 hk (fun j => by rw [hm.2.2.1]; exact t5 j) (fun q hq => okM q (by omega)), brn_t (okM k hk)])
        have c0 := cr1 0 (by omega)
        have last : r_X12_flee_24 V (70, cr, nI n, nI n, sI g1 70 1 0) = some (.inr (nI r, sI (sI (sI g1 70 1 0) 70 52 fm) 70 53 (nI lc))) := by
          show r_X12_flee_24' V 70 cr (nI n) (nI n) (sI g1 70 1 0) = _
          unfold r_X12_flee_24'
          rw [brn_t (nI_le (Nat.le_refl n) (by omega)), grd_t hv, q_70_10 hm.2.1, bind_some', q_70_0 hm.2.1, bind_some', grd_t (show okV V 71 1 0 from ok_nI (n := 800) (t := 1) (j := 0) (v_71 h.v) (by omega) (by decide)), show (0 : Int32).toNatClampNeg = 0 from rfl, hm.2.2.1, c0.2, grd_t (ok_nI (n := 12) (v_72 h.v) c0.1 (by decide)), nm_eq, cl_nI (by omega), hm.2.2.2.1, eu0]
          show Option.map Sum.inr (lop (r_X12_flee_118 V) (70, cr, nI n, nI u0, 0, 0, nI (1 - 1), 1, sI g1 70 1 0)) = _
          rw [q3', er, efm, elc]
          rfl
        unfold r_X12_flee
        rw [grd_t hv, e701, nm_eq, nm_eq, p_in, bnd_some, brn_f (by rw [bI_0]; exact fun k => k hb)]
        exact pre.trans (lop_r last)
      · refine fl_Inv h (fun a h1 h2 h3 h4 => ?_) (fun j h1 h2 h3 => ?_) g1R ?_ ?_ ?_
        · simp only [sI_1]
          rw [up2_nk _ _ _ h4, up2_nk _ _ _ h4, up2_nk _ _ _ h4]
          exact g1I a h1 h2 h3
        · simp only [sI_1]
          rw [up2_ne _ _ (Or.inr h3), up2_ne _ _ (Or.inr h2), up2_ne _ _ (Or.inr h1), g1I 70 (by decide) (by decide) (by decide)]
        · simp only [sI_1]
          rw [up2_nk _ _ _ (by decide), up2_nk _ _ _ (by decide), up2_nk _ _ _ (by decide), eg1, sI_1, up2_s]
        · simp only [sI_1]
          rw [up2_ne _ _ (Or.inr (by decide)), up2_ne _ _ (Or.inr (by decide)), up2_s]
        · right
          have x3 : (sI (sI (sI g1 70 1 0) 70 52 fm) 70 53 (nI lc)).1 24 3 = nI lc := by rw [eg1]; simp [sI_1, up2_at]
          have x2 : (sI (sI (sI g1 70 1 0) 70 52 fm) 70 53 (nI lc)).1 24 2 = fm := by rw [eg1]; simp [sI_1, up2_at]
          have y2 : (sI (sI (sI g1 70 1 0) 70 52 fm) 70 53 (nI lc)).1 70 52 = fm := by simp [sI_1, up2_at]
          have y3 : (sI (sI (sI g1 70 1 0) 70 52 fm) 70 53 (nI lc)).1 70 53 = nI lc := by simp [sI_1, up2_at]
          rw [x3, x2, y2, y3]
          exact ⟨by rw [tN (by omega)]; omega, rfl, rfl⟩
    · obtain ⟨i, ri⟩ := rB (fun k => hok (fun i hi => (okE i).mp (k i hi)))
      rw [← rd2] at ri
      obtain ⟨g8, eg8⟩ : ∃ g8, g8 = sA (sI g 24 1 (nI n)) 25 (rwF (sI g 24 1 (nI n)).1 ((sI g 24 1 (nI n)).1 25) i) := ⟨_, rfl⟩
      rw [← eg8] at ri
      have g8R : g8.2 = g.2 := by rw [eg8]; rfl
      have g8I : ∀ a, a ≠ 24 → a ≠ 25 → g8.1 a = g.1 a := fun a h1 h2 => by rw [eg8, sA_n h2, gI a h1]
      refine ⟨-1, sI g8 1 1 0, sI (sI g8 1 1 0) 70 1 0, cutX 0 g8 g8R ri rfl, ?_, ?_⟩
      · have e701 : (sI g8 1 1 0).1 70 1 = nI n := by rw [sI_1, up2_nk _ _ _ (by decide), g8I 70 (by decide) (by decide)]; exact e70
        have r71 : (sI (sI g8 1 1 0) 70 1 0).1 71 = g.1 71 := by simp only [sI_1]; rw [up2_nk _ _ _ (by decide), up2_nk _ _ _ (by decide), g8I 71 (by decide) (by decide)]
        have r74 : (sI (sI g8 1 1 0) 70 1 0).1 74 = g.1 74 := by simp only [sI_1]; rw [up2_nk _ _ _ (by decide), up2_nk _ _ _ (by decide), g8I 74 (by decide) (by decide)]
        have okM : ∀ i, okF (sI (sI g8 1 1 0) 70 1 0).1 i ↔ okF g.1 i := by
          intro i
          unfold okF isC crt
          rw [r71, r74]
        have hR2 : ShR (sI (sI g8 1 1 0) 70 1 0).2.2 := by rw [sI_3, sI_3, g8R]; exact h.r
        rcases first_of (okF g.1) n with k | ⟨i0, i1, i2, i3⟩
        · exact absurd k hok
        · have pre := run_to (f := r_X12_flee_24 V) (fun i => (70, cr, nI n, nI i, sI (sI g8 1 1 0) 70 1 0)) i0 (fun k hk => by
            show r_X12_flee_24 V (70, cr, nI n, nI k, sI (sI g8 1 1 0) 70 1 0) = _
            rw [m_read1 h.v hR2 b2 (by omega) (fun j => by rw [r71]; exact t5 j) (fun q hq => (okM q).mpr (i3 q (by omega))), brn_t ((okM k).mpr (i3 k hk))])
          have last : r_X12_flee_24 V (70, cr, nI n, nI i0, sI (sI g8 1 1 0) 70 1 0) = some (.inr (-1, sI (sI g8 1 1 0) 70 1 0)) := by
            rw [m_read1 h.v hR2 b2 i1 (fun j => by rw [r71]; exact t5 j) (fun q hq => (okM q).mpr (i3 q hq)), brn_f (fun k => i2 ((okM i0).mp k))]
          unfold r_X12_flee
          rw [grd_t hv, e701, nm_eq, nm_eq, p_in, bnd_some, brn_f (by rw [bI_0]; exact fun k => k hb)]
          exact pre.trans (lop_r last)
      · refine fl_Inv h (fun a h1 h2 h3 h4 => ?_) (fun j h1 h2 h3 => ?_) g8R ?_ ?_ (RG_sl h.g ?_ ?_ ?_ ?_)
        · simp only [sI_1]
          rw [up2_nk _ _ _ h4, up2_nk _ _ _ h1, g8I a h2 h3]
        · simp only [sI_1]
          rw [up2_ne _ _ (Or.inr h1), up2_nk _ _ _ (by decide), g8I 70 (by decide) (by decide)]
        · simp only [sI_1]
          rw [up2_nk _ _ _ (by decide), up2_s]
        · rw [sI_1, up2_s]
        · simp only [sI_1]
          rw [up2_nk _ _ _ (by decide), up2_nk _ _ _ (by decide), eg8, sA_n (by decide), sI_1, up2_ne _ _ (Or.inr (by decide))]
        · simp only [sI_1]
          rw [up2_nk _ _ _ (by decide), up2_nk _ _ _ (by decide), eg8, sA_n (by decide), sI_1, up2_ne _ _ (Or.inr (by decide))]
        · simp only [sI_1]
          rw [up2_ne _ _ (Or.inr (by decide)), up2_nk _ _ _ (by decide), g8I 70 (by decide) (by decide)]
        · simp only [sI_1]
          rw [up2_ne _ _ (Or.inr (by decide)), up2_nk _ _ _ (by decide), g8I 70 (by decide) (by decide)]
  · have rd2 : r_X1_read V 24 1 3 g = some (0, sI g 24 1 (nI n)) := by
      rw [rd, bnd_some, brn_t (by rw [bI_0]; exact hb)]
    refine ⟨-1, sI (sI g 24 1 (nI n)) 1 1 0, sI (sI (sI g 24 1 (nI n)) 1 1 0) 70 1 0, cutX 0 _ rfl rd2 rfl, ?_, ?_⟩
    · have e701 : (sI (sI g 24 1 (nI n)) 1 1 0).1 70 1 = nI n := by simp only [sI_1]; rw [up2_nk _ _ _ (by decide), up2_nk _ _ _ (by decide)]; exact e70
      unfold r_X12_flee
      rw [grd_t hv, e701, nm_eq, nm_eq, p_in, bnd_some, brn_t (by rw [bI_0]; exact hb)]
    · refine fl_Inv h (fun a h1 h2 h3 h4 => ?_) (fun j h1 h2 h3 => ?_) rfl ?_ ?_ (RG_sl h.g ?_ ?_ ?_ ?_)
      · simp only [sI_1]
        rw [up2_nk _ _ _ h4, up2_nk _ _ _ h1, up2_nk _ _ _ h2]
      · simp only [sI_1]
        rw [up2_ne _ _ (Or.inr h1), up2_nk _ _ _ (by decide), up2_nk _ _ _ (by decide)]
      · simp only [sI_1]
        rw [up2_nk _ _ _ (by decide), up2_s]
      · rw [sI_1, up2_s]
      · simp only [sI_1]
        rw [up2_nk _ _ _ (by decide), up2_nk _ _ _ (by decide), up2_ne _ _ (Or.inr (by decide))]
      · simp only [sI_1]
        rw [up2_nk _ _ _ (by decide), up2_nk _ _ _ (by decide), up2_ne _ _ (Or.inr (by decide))]
      · simp only [sI_1]
        rw [up2_ne _ _ (Or.inr (by decide)), up2_nk _ _ _ (by decide), up2_nk _ _ _ (by decide)]
      · simp only [sI_1]
        rw [up2_ne _ _ (Or.inr (by decide)), up2_nk _ _ _ (by decide), up2_nk _ _ _ (by decide)]
