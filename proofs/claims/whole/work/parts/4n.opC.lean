theorem k100 : (100 : Int32) = nI 100 := rfl
theorem op_charge {V : Vk} {g : Hq} (h : Inv V g) (a b hr cr : Int32) : OpA V g (r_X11_charge V 0 a b hr cr) (fun V => r_X12_charge V 70 a b hr cr) := by
  have hv0 := v_0 h.v
  have hv := v_70 h.v
  have hv0' : V 0 ≠ none := by rw [hv0]; simp
  by_cases hT : (0 ≤ a ∧ a ≤ 3) ∧ (0 ≤ b ∧ b ≤ 2) ∧ 0 ≤ hr ∧ hr ≤ 23
  · obtain ⟨h1, h2, h3⟩ := id hT
    obtain ⟨-, -, -, -, -, -, hlw, -, -, n, c, hh, hy, hn, hrr⟩ := id h
    obtain ⟨w, hw', ew⟩ := nat_of (n := 3) rfl h1
    have hw : w < 4 := by omega
    obtain ⟨n1, n2, n3, n4, n5, n6⟩ := id hn
    by_cases c1 : c < 100
    · obtain ⟨f, l1, l2, l3, l4, l5⟩ := hlw
      have fr : frK V g (300 + c) := ⟨n5 c (Nat.le_refl c) c1, fun k j e => by
        rcases hrr k j _ e with q | ⟨i, q1, q2⟩ | ⟨i, q1, q2⟩
        · omega
        · have := hh.1; omega
        · omega⟩
      have vx : ∀ k, k ≠ 300 + c → newV V (300 + c) (0, 0) k = V k := fun k hk => by unfold newV; rw [if_neg hk]
      have vn : newV V (300 + c) (0, 0) (300 + c) = some (0, 0) := by unfold newV; rw [if_pos rfl]
      have hV1 : ShV (newV V (300 + c) (0, 0)) := fun k hk => by rw [vx k (by omega)]; exact h.v k hk
      have hR0 : ShR (cg0 g c a b hr).2.2 := cg0_ShR h.r
      obtain ⟨o1, o2, o3, o4, o5⟩ := cg0_o (g := g) (c := c) (a := a) (b := b) (h := hr)
      have lpu : ∀ u, u < 4 → lawPl (f u) := fun u hu => l1 u (by omega)
      have nfu : ∀ u j, u < 4 → j ≤ 4 → f u + j ≠ 300 + c := fun u j hu hj => by have := lpu u hu; unfold lawPl at this; omega
      obtain ⟨d8, ⟨np, np1, np2, np3, np4⟩, -⟩ := l5 w hw
      have b6 : ∀ u, u < 4 → g.1 85 (8 * u + 6) = 0 ∨ g.1 85 (8 * u + 6) = 1 := fun u hu => (l5 u hu).2.2.2.2.2.2.2.2.2.2.2.2.1
      have hx : ∀ u, u < 4 → r_X10_hasPlace (newV V (300 + c) (0, 0)) (31 + 9 * u) (cg0 g c a b hr) = some (bI (¬ g.1 85 (8 * u + 7) ≤ nI (lyC g.1 u c)), cg0 g c a b hr) := by
        intro u hu
        have e7 := (l5 u hu).1 7 (by decide)
        unfold r_X10_hasPlace
        rw [grd_t (sh_vw hV1 hu), (cg0_R (by omega)).1, l3 u hu, bind_some', grd_t (sh_vl hV1 (lpu u hu)), cg0_x (k := f u) (nfu u 0 hu (by omega)), cg0_x (by omega), e7, n6 u hu]
        by_cases q : g.1 85 (8 * u + 7) ≤ nI (lyC g.1 u c)
        · rw [brn_t q, bI_f (fun k => k q)]
        · rw [brn_f q, bI_t q]
      have hm : ∀ (gm : Hq), ShR gm.2.2 → gm.1 85 = g.1 85 → gm.1 70 46 = nI c → (∀ i, i < c → gm.1 104 i = g.1 104 i ∧ gm.1 105 i = g.1 105 i) → ∀ u, u < 4 → r_X12_hasPlace (newV V (300 + c) (0, 0)) 70 (nI u) gm = some (bI (¬ g.1 85 (8 * u + 7) ≤ nI (lyC g.1 u c)), gm) := by
        intro gm hRm e85 e46 el u hu
        unfold r_X12_hasPlace
        rw [grd_t (v_70 hV1), m_lying hV1 hRm hu n1 e46, bnd_some, q_70_29 hRm, bind_some', show (8 : Int32) * nI u + 7 = nI (8 * u + 7) from i85 u 7, grd_t (ok_nI (n := 40) (t := 0) (v_85 hV1) (by omega) (by decide)), cl_nI (by omega), e85, lyC_i c el]
        by_cases q : g.1 85 (8 * u + 7) ≤ nI (lyC g.1 u c)
        · rw [brn_t q, bI_f (fun k => k q)]
        · rw [brn_f q, bI_t q]
      obtain ⟨o, ho, lk, pf⟩ := ch_lock (cr := cr) (h := hr) (b := b) hV1 h.r vn hw ew (f := f) (fun u hu => ⟨lpu u hu, l3 u hu, (l5 u hu).1 5 (by decide), (l5 u hu).1 6 (by decide)⟩) b6 hx
      have gv : r_X4_gives (newV V (300 + c) (0, 0)) (f w) b hr cr (cg0 g c a b hr) = some (bI (gvE (cg0 g c a b hr).1 w b hr cr np), cg0 g c a b hr) := by
        refine p_gives hV1 hR0 (lpu w hw) np1 (by rw [cg0_x (k := f w) (nfu w 0 hw (by omega))]; exact np2) (fun i hi => ?_)
        rw [cg0_x (nfu w 1 hw (by omega)), cg0_x (nfu w 2 hw (by omega)), cg0_x (nfu w 3 hw (by omega)), cg0_x (nfu w 4 hw (by omega)), cg0_x (k := 86) (by omega)]
        exact ⟨(np4 i hi).1, (np4 i hi).2.1, (np4 i hi).2.2.1, (np4 i hi).2.2.2.1⟩
      rw [gvE_cg (cg0_x (k := 86) (by omega))] at gv
      have lt : nI c < 100 := by rw [k100]; exact nI_lt c1 (by decide)
      have cl := cl_nI (j := c) (by omega)
      have ok23 : okV (newV V (300 + c) (0, 0)) 23 6 (nI c) := ok_nI (n := 100) (t := 6) (v_23 hV1) c1 (by decide)
      have e22 : (cg0 g c a b hr).1 22 1 = nI c := by rw [cg0_x (by omega)]; exact n2
      -- the class up to the taking
      have X : ∀ gx, r_X5_take (newV V (300 + c) (0, 0)) 22 (300 + c) 19 cr (cg0 g c a b hr) = some (nI c, gx) → r_X11_charge V 0 a b hr cr g = some (nI c, newV V (300 + c) (0, 0), gx) := by
        intro gx ht
        have hi0 : r_X0_init (newV V (300 + c) (0, 0)) (300 + c) a b hr (newG g (300 + c)) = some ((), cg0 g c a b hr) := by
          unfold r_X0_init
          rw [grd_t vn, nm_eq, nm_eq, nm_eq, nm_eq, nm_eq]
          rfl
        have hf : r_X5_isFull V 22 g = some (0, g) := by
          unfold r_X5_isFull
          rw [grd_t (v_22 h.v), n2, brn_t lt]
        unfold r_X11_charge
        rw [p_isTaking, bnd_some, brn_f (by rw [bI_0]; exact fun k => k hT), grd_t hv0, q_0_6 h.r, bind_some', grd_t (v_22 h.v), hf, bnd_some, brn_t rfl, q_0_6 h.r, bind_some', Option.getD_some, n2, cl, nm_eq, grd_t fr, grd_t (by omega), grd_t (by omega), nm_eq, nm_eq, hi0, bnd_some, grd_t (v_0 hV1), q_0_4 hR0, bind_some', grd_t (v_22 hV1), ht, bnd_some]
      have ta : ∀ gg, gg.2.2 = (cg0 g c a b hr).2.2 → gg.1 22 1 = nI c → (Option.bind (gg.2.2 22 0) fun k24 => grd (okV (newV V (300 + c) (0, 0)) k24 6 (gg.1 22 1)) <| nm (sR gg k24 (gg.1 22 1).toNatClampNeg (some (300 + c))) fun g27 => nm (sI g27 22 1 ((g27.1 22 1) + (1 : Int32))) fun g28 => some (((g28.1 22 1) - (1 : Int32)), g28)) = some (nI c, cFin gg c) := by
        intro gg e2 e1
        rw [e2, q_22_0 hR0, bind_some', e1, grd_t ok23, nm_eq, cl, nm_eq, sR_1, e1, nI_1, sI_1, up2_s, nI_pred]
        rfl
      have rfx : ∀ {st pl : Int32} {gx : Hq}, CHX g c w a b hr st pl gx → ShR gx.2.2 := fun hX q hq => by
        have q1 : q.1 < 107 ∧ q.1 ≠ 23 := (by decide +kernel : ∀ q ∈ rfs, q.1 < 107 ∧ q.1 ≠ 23) q hq
        rw [hX.r _ _ (by omega) (Or.inl q1.2)]
        exact h.r q hq
      have okc : ∀ k, (101 ≤ k ∧ k ≤ 105) → newV V (300 + c) (0, 0) k = some (100, 100) → okV (newV V (300 + c) (0, 0)) k 0 (nI c) := fun k _ e => ok_nI (n := 100) (t := 0) e c1 (by decide)
      -- the reference up to the powers
      have ne100 : ¬ nI c = 100 := by rw [k100, nI_eq (by omega) (by decide)]; omega
      have e0' : newV V (300 + c) (0, 0) 0 ≠ none := by rw [vx 0 (by omega)]; exact hv0'
      by_cases G : gvE g.1 w b hr cr np
      · -- given
        have hX := CHX_lock (g := g) (c := c) (w := w) (a := a) (b := b) (h := hr) ho
        have hRx := rfx hX
        obtain ⟨gx, egx⟩ : ∃ gx, gx = cFin (cLock (cg0 g c a b hr) c o) c := ⟨_, rfl⟩
        rw [← egx] at hX hRx
        have hM := CHM_g (gx := gx) (c := c) (w := w) (a := a) (b := b) (h := hr) (st := o.elim 2 (fun _ => 0)) (x := enc o) (by cases o with | none => exact (by decide : (2 : Int32) ≠ 1) | some u => exact (by decide : (0 : Int32) ≠ 1))
        refine ⟨nI c, newV V (300 + c) (0, 0), gx, _, X _ ?_, ?_, ch_Inv h hh hy hn hrr c1 hX hM, by rw [vx 70 (by omega)]; exact hv, e0'⟩
        · have e22' : (cLock (cg0 g c a b hr) c o).1 22 1 = nI c := by
            cases o with
            | none => show up2 _ (300 + c) 3 2 22 1 = _; rw [up2_nk _ _ _ (by omega)]; exact e22
            | some u => show up2 (up2 _ (300 + c) 4 _) (31 + 9 * u) 2 _ 22 1 = _; rw [up2_nk _ _ _ (by have := ho u rfl; omega), up2_nk _ _ _ (by omega)]; exact e22
          have e2' : (cLock (cg0 g c a b hr) c o).2.2 = (cg0 g c a b hr).2.2 := by cases o <;> rfl
          unfold r_X5_take
          rw [grd_t vn, o1, ew, grd_t (ok_nI (n := 4) (t := 4) (v_19 hV1) hw (by decide)), cl_nI (j := w) (by omega)]
          rw [← ew, sh_w hR0 hw, bind_some', grd_t (sh_vw hV1 hw), (cg0_R (by omega)).1, l3 w hw, bind_some', grd_t (sh_vl hV1 (lpu w hw)), o2, o3, gv, bnd_some, brn_f (by rw [bI_0]; exact fun k => k G), grd_t (v_22 hV1), lk, bnd_some, egx]
          exact ta _ e2' e22'
        · have m85 : (mg0 gx c a b hr).1 85 = g.1 85 := by rw [mg0_x (by decide) (by decide) (by decide) (by decide), hX.i 85 (by omega) (by decide) (by omega)]
          have m46 : (mg0 gx c a b hr).1 70 46 = nI c := by rw [mg0_x (by decide) (by decide) (by decide) (by decide), hX.i 70 (by omega) (by decide) (by omega)]; exact n3
          have m104 : ∀ i, i < c → (mg0 gx c a b hr).1 104 i = g.1 104 i ∧ (mg0 gx c a b hr).1 105 i = g.1 105 i := fun i hi => by
            refine ⟨by rw [mg0_x (by decide) (by decide) (by decide) (by decide), hX.i 104 (by omega) (by decide) (by omega)], ?_⟩
            unfold mg0
            simp only [sI_1]
            rw [up2_ne _ _ (Or.inr (by omega)), up2_nk _ _ _ (by decide), up2_nk _ _ _ (by decide), up2_nk _ _ _ (by decide), hX.i 105 (by omega) (by decide) (by omega)]
          have hpl := pf (mg0 gx c a b hr) hRx m85 (hm _ hRx m85 m46 m104)
          have hgv : r_X12_isGiven (newV V (300 + c) (0, 0)) 70 (nI w) b hr cr (mg0 gx c a b hr) = some (bI (gvE (mg0 gx c a b hr).1 w b hr cr np), mg0 gx c a b hr) := by
            refine m_given hV1 hRx hw np1 ?_ (fun i hi => ?_)
            · rw [mg0_x (by decide) (by decide) (by decide) (by decide), hX.i 87 (by omega) (by decide) (by omega)]; exact np3
            · rw [mg0_x (by decide) (by decide) (by decide) (by decide), hX.i 86 (by omega) (by decide) (by omega)]; exact (np4 i hi).2.2.2.2.2
          rw [gvE_cg (I := g.1) (by rw [mg0_x (by decide) (by decide) (by decide) (by decide), hX.i 86 (by omega) (by decide) (by omega)])] at hgv
          have e46 : gx.1 70 46 = nI c := by rw [hX.i 70 (by omega) (by decide) (by omega)]; exact n3
          have p46 : ∀ x s : Int32, (sI (sI (mg0 gx c a b hr) 105 c x) 104 c s).1 70 46 = nI c := fun x s => by
            simp only [sI_1]
            rw [up2_nk _ _ _ (by decide), up2_nk _ _ _ (by decide)]; exact m46
          show r_X12_charge (newV V (300 + c) (0, 0)) 70 a b hr cr gx = _
          unfold r_X12_charge
          rw [m_isWard, bnd_some, brn_f (by rw [bI_0]; exact fun k => k h1), p_in, bnd_some, brn_f (by rw [bI_0]; exact fun k => k h2), p_in, bnd_some, brn_f (by rw [bI_0]; exact fun k => k h3), grd_t (v_70 hV1), e46, brn_f ne100, nm_eq, cl, q_70_47 hRx, bind_some', grd_t (okc 101 (by omega) (v_101 hV1)), nm_eq, sI_3, q_70_48 hRx, bind_some', grd_t (okc 102 (by omega) (v_102 hV1)), nm_eq, sI_3, sI_3, q_70_49 hRx, bind_some', grd_t (okc 103 (by omega) (v_103 hV1)), nm_eq, sI_3, sI_3, sI_3, q_70_51 hRx, bind_some', grd_t (okc 105 (by omega) (v_105 hV1)), nm_eq]
          show bnd (r_X12_isGiven (newV V (300 + c) (0, 0)) 70 a b hr cr (mg0 gx c a b hr)) _ = _
          rw [ew] at hgv hpl ⊢
          rw [hgv, bnd_some, brn_f (by rw [bI_0]; exact fun k => k G)]
          rw [show (mg0 gx c (nI w) b hr).2.2 = gx.2.2 from rfl, q_70_51 hRx, bind_some', hpl, bnd_some, grd_t (okc 105 (by omega) (v_105 hV1)), nm_eq, sI_3, show (mg0 gx c (nI w) b hr).2.2 = gx.2.2 from rfl, q_70_50 hRx, bind_some', q_70_51 hRx, bind_some', grd_t (okc 105 (by omega) (v_105 hV1)), sI_1, up2_s]
          rw [ew] at p46
          cases o with
          | none =>
            rw [brn_t (show enc none = -1 from rfl), grd_t (okc 104 (by omega) (v_104 hV1)), nm_eq, p46, nm_eq, nI_1]
            rfl
          | some u =>
            rw [brn_f (show ¬ enc (some u) = -1 from enc_ne (ho u rfl)), grd_t (okc 104 (by omega) (v_104 hV1)), nm_eq, p46, nm_eq, nI_1]
            rfl
      · have hX := CHX_t (g := g) (c := c) (a := a) (b := b) (h := hr) hw
        have hRx := rfx hX
        obtain ⟨gx, egx⟩ : ∃ gx, gx = cFin (sI (sI (cg0 g c a b hr) (300 + c) 3 1) (31 + 9 * w) 1 (g.1 (31 + 9 * w) 1 - 5)) c := ⟨_, rfl⟩
        rw [← egx] at hX hRx
        have hM := CHM_t (gx := gx) (c := c) (a := a) (b := b) (h := hr) hw
        refine ⟨nI c, newV V (300 + c) (0, 0), gx, _, X _ ?_, ?_, ch_Inv h hh hy hn hrr c1 hX hM, by rw [vx 70 (by omega)]; exact hv, e0'⟩
        · have es : (sI (cg0 g c a b hr) (300 + c) 3 1).1 (31 + 9 * w) 1 = g.1 (31 + 9 * w) 1 := by rw [sI_1, up2_nk _ _ _ (by omega), cg0_x (by omega)]
          unfold r_X5_take
          rw [grd_t vn, o1, ew, grd_t (ok_nI (n := 4) (t := 4) (v_19 hV1) hw (by decide)), cl_nI (j := w) (by omega)]
          rw [← ew, sh_w hR0 hw, bind_some', grd_t (sh_vw hV1 hw), (cg0_R (by omega)).1, l3 w hw, bind_some', grd_t (sh_vl hV1 (lpu w hw)), o2, o3, gv, bnd_some, brn_t (by rw [bI_0]; exact G), nm_eq, es, nm_eq, grd_t (v_22 hV1), egx]
          refine ta _ rfl ?_
          simp only [sI_1]
          rw [up2_nk _ _ _ (by omega), up2_nk _ _ _ (by omega)]; exact e22
        · have m46 : (mg0 gx c a b hr).1 70 46 = nI c := by rw [mg0_x (by decide) (by decide) (by decide) (by decide), hX.i 70 (by omega) (by decide) (by omega)]; exact n3
          have hgv : r_X12_isGiven (newV V (300 + c) (0, 0)) 70 (nI w) b hr cr (mg0 gx c a b hr) = some (bI (gvE (mg0 gx c a b hr).1 w b hr cr np), mg0 gx c a b hr) := by
            refine m_given hV1 hRx hw np1 ?_ (fun i hi => ?_)
            · rw [mg0_x (by decide) (by decide) (by decide) (by decide), hX.i 87 (by omega) (by decide) (by omega)]; exact np3
            · rw [mg0_x (by decide) (by decide) (by decide) (by decide), hX.i 86 (by omega) (by decide) (by omega)]; exact (np4 i hi).2.2.2.2.2
          rw [gvE_cg (I := g.1) (by rw [mg0_x (by decide) (by decide) (by decide) (by decide), hX.i 86 (by omega) (by decide) (by omega)])] at hgv
          have e46 : gx.1 70 46 = nI c := by rw [hX.i 70 (by omega) (by decide) (by omega)]; exact n3
          have p46 : ∀ x : Int32, (sI (sI (mg0 gx c a b hr) 104 c 1) 100 w x).1 70 46 = nI c := fun x => by
            simp only [sI_1]
            rw [up2_nk _ _ _ (by decide), up2_nk _ _ _ (by decide)]; exact m46
          have p100 : (sI (mg0 gx c a b hr) 104 c 1).1 100 w = gx.1 100 w := by
            rw [sI_1, up2_nk _ _ _ (by decide), mg0_x (by decide) (by decide) (by decide) (by decide)]
          show r_X12_charge (newV V (300 + c) (0, 0)) 70 a b hr cr gx = _
          unfold r_X12_charge
          rw [m_isWard, bnd_some, brn_f (by rw [bI_0]; exact fun k => k h1), p_in, bnd_some, brn_f (by rw [bI_0]; exact fun k => k h2), p_in, bnd_some, brn_f (by rw [bI_0]; exact fun k => k h3), grd_t (v_70 hV1), e46, brn_f ne100, nm_eq, cl, q_70_47 hRx, bind_some', grd_t (okc 101 (by omega) (v_101 hV1)), nm_eq, sI_3, q_70_48 hRx, bind_some', grd_t (okc 102 (by omega) (v_102 hV1)), nm_eq, sI_3, sI_3, q_70_49 hRx, bind_some', grd_t (okc 103 (by omega) (v_103 hV1)), nm_eq, sI_3, sI_3, sI_3, q_70_51 hRx, bind_some', grd_t (okc 105 (by omega) (v_105 hV1)), nm_eq]
          show bnd (r_X12_isGiven (newV V (300 + c) (0, 0)) 70 a b hr cr (mg0 gx c a b hr)) _ = _
          rw [ew] at hgv p46 p100 ⊢
          have okw : okV (newV V (300 + c) (0, 0)) 100 0 (nI w) := ok_nI (n := 4) (t := 0) (v_100 hV1) hw (by decide)
          rw [hgv, bnd_some, brn_t (by rw [bI_0]; exact G)]
          rw [show (mg0 gx c (nI w) b hr).2.2 = gx.2.2 from rfl, q_70_50 hRx, bind_some', grd_t (okc 104 (by omega) (v_104 hV1)), nm_eq, sI_3, show (mg0 gx c (nI w) b hr).2.2 = gx.2.2 from rfl, q_70_45 hRx, bind_some', grd_t okw, grd_t okw, cl_nI (j := w) (by omega), p100, nm_eq, p46, nm_eq, nI_1]
    · have ec : c = 100 := by omega
      subst ec
      refine ⟨-3, V, g, g, ?_, ?_, h, hv, hv0'⟩
      · have hf : r_X5_isFull V 22 g = some (1, g) := by
          unfold r_X5_isFull
          rw [grd_t (v_22 h.v), n2, brn_f (by decide)]
        unfold r_X11_charge
        rw [p_isTaking, bnd_some, brn_f (by rw [bI_0]; exact fun k => k hT), grd_t hv0, q_0_6 h.r, bind_some', grd_t (v_22 h.v), hf, bnd_some, brn_f (by decide)]
      · show r_X12_charge V 70 a b hr cr g = _
        unfold r_X12_charge
        rw [m_isWard, bnd_some, brn_f (by rw [bI_0]; exact fun k => k h1), p_in, bnd_some, brn_f (by rw [bI_0]; exact fun k => k h2), p_in, bnd_some, brn_f (by rw [bI_0]; exact fun k => k h3), grd_t hv, n3, brn_t (by decide)]
  · refine ⟨-2, V, g, g, ?_, ?_, h, hv, hv0'⟩
    · unfold r_X11_charge
      rw [p_isTaking, bnd_some, brn_t (by rw [bI_0]; exact hT)]
    · show r_X12_charge V 70 a b hr cr g = _
      unfold r_X12_charge
      rw [m_isWard, bnd_some]
      by_cases h1 : 0 ≤ a ∧ a ≤ 3
      · rw [brn_f (by rw [bI_0]; exact fun k => k h1), p_in, bnd_some]
        by_cases h2 : 0 ≤ b ∧ b ≤ 2
        · rw [brn_f (by rw [bI_0]; exact fun k => k h2), p_in, bnd_some, brn_t (by rw [bI_0]; exact fun h3 => hT ⟨h1, h2, h3⟩)]
        · rw [brn_t (by rw [bI_0]; exact h2)]
      · rw [brn_t (by rw [bI_0]; exact h1)]
