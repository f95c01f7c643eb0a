/-! ===== fill: a year is opened ===== -/
def xOp (g : Hq) (w t : Nat) : Hq := sI (sI g (31 + 9 * w) 5 (nI (1600 + t))) (31 + 9 * w + 6) t (-1)
def mOp (g : Hq) (w t : Nat) : Hq := sI (sI (sI (sI g 94 w (nI (1600 + t))) 97 (200 * w + t) (-1)) 98 (200 * w + t) 0) 99 (200 * w + t) 0
theorem p_open {V : Vk} {g : Hq} {w t : Nat} (hV : ShV V) (hR : ShR g.2.2) (hw : w < 4) (ht : t < 200) : r_X10_openYear V (31 + 9 * w) (nI (1600 + t)) g = some ((), xOp (@ite _ (g.1 (31 + 9 * w) 5 = -1) (Classical.propDecidable _) (sI g (31 + 9 * w) 4 (nI (1600 + t))) g) w t) := by
  have vW := sh_vw hV hw
  have ey : nI (1600 + t) - 1600 = nI t := by
    rw [show (1600 : Int32) = nI 1600 from rfl, pk_sub (by omega), show 1600 + t - 1600 = t by omega]
  have o6 : okV V (31 + 9 * w + 6) 0 (nI t) := ok_nI (n := 200) (t := 0) (sh_vy hV hw).1 ht (by decide)
  have q6 := (sh_qw hR hw).1
  unfold r_X10_openYear
  rw [grd_t vW]
  by_cases e : g.1 (31 + 9 * w) 5 = -1
  · rw [brn_t e, nm_eq, nm_eq, sI_3, sI_3, q6, bind_some', ey, grd_t o6, cl_nI (by omega), nm_eq, if_pos e]
    rfl
  · rw [brn_f e, nm_eq, sI_3, q6, bind_some', ey, grd_t o6, cl_nI (by omega), nm_eq, if_neg e]
    rfl
theorem m_fill88 {V : Vk} {g : Hq} {w t : Nat} {x : Int32} (hV : ShV V) (hR : ShR g.2.2) (hw : w < 4) (ht : t < 200) (e95 : g.1 95 w = x) : r_X12_fill_88 V 70 (nI w) (nI (1600 + t)) g = lop (r_X12_fill_147 V) (70, nI w, nI (1600 + t), nI (200 * w + t), x + 1, 0, mOp g w t) := by
  have hv := v_70 hV
  have ow : ∀ k, V k = some (100, 4) → okV V k 0 (nI w) := fun k e => ok_nI (n := 4) (t := 0) e hw (by decide)
  have oy : ∀ k q, V k = some (100 + q, 800) → okV V k q (nI (200 * w + t)) := fun k q e => ok_nI (n := 800) e (by omega) (by decide)
  have ei : (200 : Int32) * nI w + nI (1600 + t) - 1600 = nI (200 * w + t) := by
    rw [show (200 : Int32) = nI 200 from rfl, pk_mul, nI_add, show (1600 : Int32) = nI 1600 from rfl, pk_sub (by omega), show 200 * w + (1600 + t) - 1600 = 200 * w + t by omega]
  have clw := cl_nI (j := w) (by omega)
  have cly := cl_nI (j := 200 * w + t) (by omega)
  unfold r_X12_fill_88
  rw [grd_t hv, q_70_39 hR, bind_some', grd_t (ow 94 (v_94 hV)), clw, nm_eq, ei, nm_eq, sI_3, q_70_42 hR, bind_some', grd_t (oy 97 0 (v_97 hV)), cly, nm_eq, sI_3, sI_3, q_70_43 hR, bind_some', grd_t (oy 98 2 (v_98 hV)), nm_eq, nb0, sI_3, sI_3, sI_3, q_70_44 hR, bind_some', grd_t (oy 99 0 (v_99 hV)), nm_eq]
  show Option.bind ((mOp g w t).2.2 70 40) _ = _
  rw [show (mOp g w t).2.2 = g.2.2 from rfl, q_70_40 hR, bind_some', grd_t (ow 95 (v_95 hV))]
  show nm ((mOp g w t).1 95 w + 1) _ = _
  have : (mOp g w t).1 95 w = x := by
    unfold mOp
    simp only [sI_1]
    rw [up2_nk _ _ _ (by decide), up2_nk _ _ _ (by decide), up2_nk _ _ _ (by decide), up2_nk _ _ _ (by decide)]
    exact e95
  rw [this, nm_eq]
  rfl
theorem iOpen {V : Vk} {G G2 : Hq} {w t : Nat} (hI : Inv V G) (hw : w < 4) (ht : t < 200) (hg : G2.2 = G.2)
    (ex : ∀ a, ¬ yP a → G2.1 a = G.1 a) (eo : ∀ u, u < 4 → u ≠ w → ∀ a j, (a = 31 + 9 * u ∨ a = 31 + 9 * u + 6 ∨ a = 31 + 9 * u + 7 ∨ a = 31 + 9 * u + 8 ∨ ((a = 94 ∨ a = 95 ∨ a = 96 ∨ a = 100) ∧ j = u) ∨ ((a = 97 ∨ a = 98 ∨ a = 99) ∧ ∃ q, q < 200 ∧ j = 200 * u + q)) → G2.1 a j = G.1 a j)
    (ew : ∀ j, j ≠ 4 → j ≠ 5 → G2.1 (31 + 9 * w) j = G.1 (31 + 9 * w) j) (w5 : G2.1 (31 + 9 * w) 5 = nI (1600 + t)) (m5 : G2.1 94 w = nI (1600 + t)) (m3 : G2.1 95 w = G.1 95 w) (m1 : G2.1 100 w = G.1 100 w)
    (h6 : ∀ q, q ≠ t → G2.1 (31 + 9 * w + 6) q = G.1 (31 + 9 * w + 6) q) (h7 : G2.1 (31 + 9 * w + 7) = G.1 (31 + 9 * w + 7)) (h8 : G2.1 (31 + 9 * w + 8) = G.1 (31 + 9 * w + 8)) (h6t : G2.1 (31 + 9 * w + 6) t = -1)
    (k97 : G2.1 97 (200 * w + t) = -1) (k98 : G2.1 98 (200 * w + t) = 0) (k99 : G2.1 99 (200 * w + t) = 0) (kk : ∀ a q, a = 97 ∨ a = 98 ∨ a = 99 → q < 200 → q ≠ t → G2.1 a (200 * w + q) = G.1 a (200 * w + q))
    (fst : (G.1 94 w = -1 ∧ G2.1 (31 + 9 * w) 4 = nI (1600 + t) ∧ G2.1 96 w = nI (1600 + t)) ∨ (¬ G.1 94 w = -1 ∧ (G.1 94 w).toInt + 1 = 1600 + t ∧ G2.1 (31 + 9 * w) 4 = G.1 (31 + 9 * w) 4 ∧ G2.1 96 w = G.1 96 w)) : Inv V G2 := by
  have e2 : ∀ u, u < 4 → G2.1 (31 + 9 * u) 2 = G.1 (31 + 9 * u) 2 := fun u hu => by
    by_cases e : u = w
    · rw [e]; exact ew 2 (by decide) (by decide)
    · exact eo u hu e _ _ (Or.inl rfl)
  refine Inv_year hI ex e2 hg (fun n hy _ u hu => ?_)
  by_cases e : u = w
  · subst e
    obtain ⟨y1, y2, y3, y4, y5, y6⟩ := hy u hu
    refine ⟨by rw [ew 1 (by decide) (by decide), m1]; exact y1, by rw [ew 3 (by decide) (by decide), m3]; exact y2, by rw [w5, m5], by rw [m3]; exact y4, by rw [m3]; exact y5, Or.inr ?_⟩
    have tv := tN (n := 1600 + t) (by omega)
    rcases fst with ⟨f1, f2, f3⟩ | ⟨f1, f2, f3, f4⟩
    · rcases y6 with ⟨-, z2⟩ | ⟨z1, z2, z3, z4, z5⟩
      · rw [f2, f3, m5, tv]
        refine ⟨rfl, by omega, by omega, by omega, fun q hq => ?_⟩
        rw [h7, h8]
        refine ⟨fun _ => z2 q hq, fun a1 a2 => ?_⟩
        have : q = t := by omega
        subst this
        rw [h6t, k97, k98, k99, (z2 q hq).1, (z2 q hq).2]
        exact ⟨rfl, rfl, rfl, Or.inl rfl⟩
      · exfalso
        rw [f1] at z4 z3
        have : (-1 : Int32).toInt = -1 := rfl
        omega
    · rcases y6 with ⟨z1, -⟩ | ⟨z1, z2, z3, z4, z5⟩
      · exact absurd z1 f1
      · rw [f3, f4, m5, tv]
        refine ⟨z1, z2, by omega, by omega, fun q hq => ?_⟩
        obtain ⟨k1, k2⟩ := z5 q hq
        rw [h7, h8]
        refine ⟨fun a1 => k1 (by omega), fun a1 a2 => ?_⟩
        by_cases eq : q = t
        · subst eq
          obtain ⟨j1, j2⟩ := k1 (by omega)
          rw [h6t, k97, k98, k99, j1, j2]
          exact ⟨rfl, rfl, rfl, Or.inl rfl⟩
        · rw [h6 q eq, kk 97 q (by omega) hq eq, kk 98 q (by omega) hq eq, kk 99 q (by omega) hq eq]
          exact k2 a1 (by omega)
  · refine RY1_cg (hy u hu) ?_ ?_ ?_ ?_ ?_ ?_ ?_ ?_ (fun q hq => ⟨?_, ?_, ?_, ?_, ?_, ?_⟩)
    · exact eo u hu e _ _ (by omega)
    · exact eo u hu e _ _ (by omega)
    · exact eo u hu e _ _ (by omega)
    · exact eo u hu e _ _ (by omega)
    · exact eo u hu e _ _ (by omega)
    · exact eo u hu e _ _ (by omega)
    · exact eo u hu e _ _ (by omega)
    · exact eo u hu e _ _ (by omega)
    · exact eo u hu e _ _ (by omega)
    · exact eo u hu e _ _ (by omega)
    · exact eo u hu e _ _ (by omega)
    · exact eo u hu e _ _ (Or.inr (Or.inr (Or.inr (Or.inr (Or.inr ⟨by omega, q, hq, rfl⟩)))))
    · exact eo u hu e _ _ (Or.inr (Or.inr (Or.inr (Or.inr (Or.inr ⟨by omega, q, hq, rfl⟩)))))
    · exact eo u hu e _ _ (Or.inr (Or.inr (Or.inr (Or.inr (Or.inr ⟨by omega, q, hq, rfl⟩)))))
theorem op_fill {V : Vk} {g : Hq} (h0 : Inv V g) (a b : Int32) : Op V g (r_X11_fill V 0 a b) (r_X12_fill V 70 a b) := by
  refine Op_of h0 (fun gx gm hR hI => ?_)
  have hV := hI.v
  have hRx : ShR gx.2.2 := hI.r
  have hv0 := v_0 hV
  have hv := v_70 hV
  rcases Classical.em (¬ (0 ≤ a ∧ a ≤ 3)) with h1 | h1
  · refine ⟨-2, gx, gm, ?_, ?_, FX.rf, FM.rf, hI⟩
    · unfold r_X11_fill
      rw [p_isWard, bnd_some, brn_t (by rw [bI_0]; exact h1)]
    · unfold r_X12_fill
      rw [m_isWard, bnd_some, brn_t (by rw [bI_0]; exact h1)]
  have h1 := Classical.not_not.mp h1
  obtain ⟨w, hw', ew⟩ := nat_of (n := 3) rfl h1
  have hw : w < 4 := by omega
  obtain ⟨-, -, -, -, -, -, -, -, -, n, c, hh, hy, -, -⟩ := id hI
  obtain ⟨y1, y2, y3, y4, y5, y6⟩ := hy w hw
  rw [cmb_1 (by omega), cmb_2 (by omega)] at y2 y3
  rw [cmb_2 (a := 95) (by omega)] at y4 y5
  have e20 : gx.1 20 1 = nI n := by have := hh.2.1; rw [cmb_1 (by omega)] at this; exact this
  have n60 := hh.1
  have clw := cl_nI (j := w) (by omega)
  have o19 : okV V 19 4 (nI w) := ok_nI (n := 4) (t := 4) (v_19 hV) hw (by decide)
  have o94 : okV V 94 0 (nI w) := ok_nI (n := 4) (t := 0) (v_94 hV) hw (by decide)
  have o96 : okV V 96 0 (nI w) := ok_nI (n := 4) (t := 0) (v_96 hV) hw (by decide)
  have b94 : gm.1 94 w = -1 ∨ (1600 ≤ (gm.1 94 w).toInt ∧ (gm.1 94 w).toInt ≤ 1799) := by
    rcases y6 with ⟨z1, -⟩ | ⟨-, z2, z3, z4, -⟩
    · rw [cmb_2 (by omega)] at z1; exact Or.inl z1
    · rw [cmb_2 (a := 94) (by omega)] at z3 z4
      rw [cmb_2 (a := 96) (by omega)] at z2 z3
      exact Or.inr ⟨by omega, z4⟩
  have X : ∀ (ny : Int32), r_X10_nextYear V (31 + 9 * w) b gx = some (ny, gx) → r_X11_fill V 0 a b gx = brn (ny = -1) (some (-2, gx)) (bnd (r_X7_fillYear V 20 (nI w) (31 + 9 * w) ny gx) fun x22 g21 => some (x22, g21)) := by
    intro ny hn
    unfold r_X11_fill
    rw [p_isWard, bnd_some, brn_f (by rw [bI_0]; exact fun k => k h1), grd_t hv0, q_0_4 hRx, bind_some', ew, grd_t o19, clw, sh_w hRx hw, bind_some', grd_t (sh_vw hV hw), hn, bnd_some, q_0_5 hRx, bind_some', q_0_4 hRx, bind_some', grd_t o19, sh_w hRx hw, bind_some', grd_t (v_20 hV)]
  have M : r_X12_fill V 70 a b gm = brn (gm.1 94 w = -1) (r_X12_fill_42 V 70 (nI w) b 1 b gm) (r_X12_fill_42 V 70 (nI w) b 0 (gm.1 94 w + 1) gm) := by
    unfold r_X12_fill
    rw [m_isWard, bnd_some, brn_f (by rw [bI_0]; exact fun k => k h1), grd_t hv, q_70_39 hR, bind_some', ew, grd_t o94, clw, bind_some', grd_t o94]
  -- both go over the houses
  have go : ∀ t : Nat, t < 200 → ((gm.1 94 w = -1) ∨ (¬ gm.1 94 w = -1 ∧ (gm.1 94 w).toInt + 1 = 1600 + t)) → ∃ r gx' gm', r_X7_fillYear V 20 (nI w) (31 + 9 * w) (nI (1600 + t)) gx = some (r, gx') ∧ r_X12_fill_88 V 70 (nI w) (nI (1600 + t)) (@ite _ (gm.1 94 w = -1) (Classical.propDecidable _) (sI gm 96 w (nI (1600 + t))) gm) = some (r, gm') ∧ FX gx gx' ∧ FM gm gm' ∧ Inv V (cmb gx' gm') := by
    intro t ht hfst
    obtain ⟨F, hF, eF⟩ : ∃ F : Nat, F ≤ n ∧ gm.1 95 w + 1 = nI F := ⟨((gm.1 95 w).toInt + 1).toNat, by omega, by rw [i_eq, i_add (by rw [t1]; omega) (by rw [t1]; omega), tN (by omega), t1]; omega⟩
    obtain ⟨gx1, egx1⟩ : ∃ gx1, gx1 = @ite _ (gx.1 (31 + 9 * w) 5 = -1) (Classical.propDecidable _) (sI gx (31 + 9 * w) 4 (nI (1600 + t))) gx := ⟨_, rfl⟩
    obtain ⟨gm1, egm1⟩ : ∃ gm1, gm1 = @ite _ (gm.1 94 w = -1) (Classical.propDecidable _) (sI gm 96 w (nI (1600 + t))) gm := ⟨_, rfl⟩
    have x1R : gx1.2 = gx.2 := by rw [egx1]; split <;> rfl
    have m1R : gm1.2 = gm.2 := by rw [egm1]; split <;> rfl
    have x1e : ∀ k j, (k ≠ 31 + 9 * w ∨ j ≠ 4) → gx1.1 k j = gx.1 k j := by
      intro k j hk
      rw [egx1]
      split
      · rw [sI_1, up2_ne _ _ hk]
      · rfl
    have m1e : ∀ k j, (k ≠ 96 ∨ j ≠ w) → gm1.1 k j = gm.1 k j := by
      intro k j hk
      rw [egm1]
      split
      · rw [sI_1, up2_ne _ _ hk]
      · rfl
    have FX1 : FX gx gx1 := by
      rw [egx1]; split
      · exact FX.w (by omega)
      · exact FX.rf
    have FM1 : FM gm gm1 := by
      rw [egm1]; split
      · exact FM.w (by omega)
      · exact FM.rf
    have xo : ∀ k j, (k ≠ 31 + 9 * w ∨ j ≠ 5) → (k ≠ 31 + 9 * w + 6 ∨ j ≠ t) → (xOp gx1 w t).1 k j = gx1.1 k j := by
      intro k j a1 a2
      unfold xOp
      simp only [sI_1]
      rw [up2_ne _ _ a2, up2_ne _ _ a1]
    have mo : ∀ k j, (k ≠ 94 ∨ j ≠ w) → (¬ (97 ≤ k ∧ k ≤ 99) ∨ j ≠ 200 * w + t) → (mOp gm1 w t).1 k j = gm1.1 k j := by
      intro k j a1 a2
      unfold mOp
      simp only [sI_1]
      rw [up2_ne _ _ (by omega), up2_ne _ _ (by omega), up2_ne _ _ (by omega), up2_ne _ _ a1]
    have x5 : (xOp gx1 w t).1 (31 + 9 * w) 5 = nI (1600 + t) := by unfold xOp; simp only [sI_1]; rw [up2_nk _ _ _ (by omega), up2_s]
    have x6 : (xOp gx1 w t).1 (31 + 9 * w + 6) t = -1 := by unfold xOp; rw [sI_1, up2_s]
    have mm94 : (mOp gm1 w t).1 94 w = nI (1600 + t) := by unfold mOp; simp only [sI_1]; rw [up2_nk _ _ _ (by omega), up2_nk _ _ _ (by omega), up2_nk _ _ _ (by omega), up2_s]
    have mm97 : (mOp gm1 w t).1 97 (200 * w + t) = -1 := by unfold mOp; simp only [sI_1]; rw [up2_nk _ _ _ (by omega), up2_nk _ _ _ (by omega), up2_s]
    have mm98 : (mOp gm1 w t).1 98 (200 * w + t) = 0 := by unfold mOp; simp only [sI_1]; rw [up2_nk _ _ _ (by omega), up2_s]
    have mm99 : (mOp gm1 w t).1 99 (200 * w + t) = 0 := by unfold mOp; rw [sI_1, up2_s]
    have lawx : ∀ k j, ¬ md k → (k ≠ 31 + 9 * w ∨ (j ≠ 5 ∧ j ≠ 4)) → (k ≠ 31 + 9 * w + 6 ∨ j ≠ t) → (cmb (xOp gx1 w t) (mOp gm1 w t)).1 k j = (cmb gx gm).1 k j := by
      intro k j a1 a2 a3
      rw [cmb_1 a1, cmb_1 a1, xo k j (by omega) a3, x1e k j (by omega)]
    have lawm : ∀ k j, md k → (k ≠ 94 ∨ j ≠ w) → (k ≠ 96 ∨ j ≠ w) → (¬ (97 ≤ k ∧ k ≤ 99) ∨ j ≠ 200 * w + t) → (cmb (xOp gx1 w t) (mOp gm1 w t)).1 k j = (cmb gx gm).1 k j := by
      intro k j a1 a2 a3 a4
      rw [cmb_2 a1, cmb_2 a1, mo k j a2 a4, m1e k j a3]
    have hI1 : Inv V (cmb (xOp gx1 w t) (mOp gm1 w t)) := by
      refine iOpen (w := w) (t := t) hI hw ht ?_ ?_ ?_ ?_ ?_ ?_ ?_ ?_ ?_ ?_ ?_ ?_ ?_ ?_ ?_ ?_ ?_
      · show (fun a => if md a then gm1.2.1 a else gx1.2.1 a, gx1.2.2) = (fun a => if md a then gm.2.1 a else gx.2.1 a, gx.2.2)
        rw [x1R, m1R]
      · intro k hk
        funext j
        unfold yP at hk
        by_cases e : md k
        · exact lawm k j e (by omega) (by omega) (by omega)
        · exact lawx k j e (by omega) (by omega)
      · intro u hu ne k j hk
        by_cases e : md k
        · rcases hk with hk | hk | hk | hk | ⟨hk, rfl⟩ | ⟨hk, q, hq, rfl⟩
          · omega
          · omega
          · omega
          · omega
          · exact lawm k j e (by omega) (by omega) (by omega)
          · exact lawm k _ e (by omega) (by omega) (by omega)
        · have hk' : k = 31 + 9 * u ∨ k = 31 + 9 * u + 6 ∨ k = 31 + 9 * u + 7 ∨ k = 31 + 9 * u + 8 := by
            rcases hk with hk | hk | hk | hk | ⟨hk, -⟩ | ⟨hk, -⟩
            · omega
            · omega
            · omega
            · omega
            · omega
            · omega
          clear hk
          exact lawx k j e (by omega) (by omega)
      · intro j a1 a2; exact lawx _ j (by omega) (by omega) (by omega)
      · rw [cmb_1 (by omega)]; exact x5
      · rw [cmb_2 (by omega)]; exact mm94
      · exact lawm 95 w (by omega) (by omega) (by omega) (by omega)
      · exact lawm 100 w (by omega) (by omega) (by omega) (by omega)
      · intro q hq; exact lawx _ q (by omega) (by omega) (by omega)
      · funext q; exact lawx _ q (by omega) (by omega) (by omega)
      · funext q; exact lawx _ q (by omega) (by omega) (by omega)
      · rw [cmb_1 (by omega)]; exact x6
      · rw [cmb_2 (by omega)]; exact mm97
      · rw [cmb_2 (by omega)]; exact mm98
      · rw [cmb_2 (by omega)]; exact mm99
      · intro k q hk hq ne; exact lawm k _ (by omega) (by omega) (by omega) (by omega)
      · rw [cmb_2 (a := 94) (by omega), cmb_2 (a := 96) (by omega), cmb_2 (a := 96) (by omega), cmb_1 (a := 31 + 9 * w) (by omega), cmb_1 (a := 31 + 9 * w) (by omega)]
        rw [xo (31 + 9 * w) 4 (by omega) (by omega), mo 96 w (by omega) (by omega)]
        rcases hfst with f | ⟨f1, f2⟩
        · refine Or.inl ⟨f, ?_, ?_⟩
          · rw [egx1, if_pos (by rw [y3]; exact f), sI_1, up2_s]
          · rw [egm1, if_pos f, sI_1, up2_s]
        · refine Or.inr ⟨f1, f2, ?_, ?_⟩
          · rw [egx1, if_neg (by rw [y3]; exact f1)]
          · rw [egm1, if_neg f1]
    have e20' : (xOp gx1 w t).1 20 1 = nI n := by rw [xo 20 1 (by omega) (by omega), x1e 20 1 (by omega)]; exact e20
    obtain ⟨r, gx', gm', k1, k2, k3, k4, k5⟩ := fi_loop (V := V) (t := t) n60 hw hF n 0 (xOp gx1 w t) (mOp gm1 w t) (by omega) hI1 (by show ShR gm1.2.2; rw [m1R]; exact hR) e20' ⟨ht, by rw [mm94, tN (by omega)]; omega⟩ mm97 mm98
    refine ⟨r, gx', gm', ?_, ?_, (FX1.tr ((FX.w (by omega)).tr (FX.w (by omega)))).tr k3, (FM1.tr ((((FM.w (by omega)).tr (FM.w (by omega))).tr (FM.w (by omega))).tr (FM.w (by omega)))).tr k4, k5⟩
    · have po := p_open (g := gx) (t := t) hV hRx hw ht
      rw [← egx1] at po
      unfold r_X7_fillYear
      rw [grd_t (sh_vw hV hw), po, bnd_some, xo (31 + 9 * w) 3 (by omega) (by omega), x1e (31 + 9 * w) 3 (by omega), y2, eF, nm_eq]
      exact k1
    · rw [← egm1, m_fill88 (x := gm.1 95 w) hV (by rw [m1R]; exact hR) hw ht (m1e 95 w (by omega)), eF]
      exact k2
  have t1799 : (1799 : Int32).toInt = 1799 := rfl
  by_cases f : gm.1 94 w = -1
  · by_cases inr : 1600 ≤ b ∧ b ≤ 1799
    · have c1 := inr.1
      have c2 := inr.2
      rw [i_le] at c1 c2
      rw [t16] at c1
      rw [t1799] at c2
      obtain ⟨t, ht, eb⟩ : ∃ t : Nat, t < 200 ∧ b = nI (1600 + t) := ⟨(b.toInt - 1600).toNat, by omega, by rw [i_eq, tN (by omega)]; omega⟩
      obtain ⟨r, gx', gm', k1, k2, k3, k4, k5⟩ := go t ht (Or.inl f)
      refine ⟨r, gx', gm', ?_, ?_, k3, k4, k5⟩
      · have ny : r_X10_nextYear V (31 + 9 * w) b gx = some (b, gx) := by
          unfold r_X10_nextYear
          rw [grd_t (sh_vw hV hw), y3, brn_t f, p_isFrom, bnd_some, brn_f (by rw [bI_0]; exact fun k => k inr)]
        rw [X b ny, brn_f (by rw [i_eq, show (-1 : Int32).toInt = -1 from rfl]; omega), eb, k1, bnd_some]
      · rw [if_pos f] at k2
        rw [M, brn_t f]
        unfold r_X12_fill_42
        rw [p_in, bnd_some, brn_f (by rw [bI_0]; exact fun k => k inr), brn_f (by decide), brn_f (by decide), grd_t hv, q_70_41 hR, bind_some', grd_t o96, clw, nm_eq, eb, k2]
    · refine ⟨-2, gx, gm, ?_, ?_, FX.rf, FM.rf, hI⟩
      · have ny : r_X10_nextYear V (31 + 9 * w) b gx = some (-1, gx) := by
          unfold r_X10_nextYear
          rw [grd_t (sh_vw hV hw), y3, brn_t f, p_isFrom, bnd_some, brn_t (by rw [bI_0]; exact inr)]
        rw [X _ ny, brn_t rfl]
      · rw [M, brn_t f]
        unfold r_X12_fill_42
        rw [p_in, bnd_some, brn_t (by rw [bI_0]; exact inr)]
  · have bb := b94.resolve_left f
    have es : (gm.1 94 w + 1).toInt = (gm.1 94 w).toInt + 1 := by rw [i_add (by rw [t1]; omega) (by rw [t1]; omega), t1]
    by_cases hi : (1799 : Int32) < gm.1 94 w + 1
    · have hi' := hi
      rw [i_lt, es, t1799] at hi'
      refine ⟨-2, gx, gm, ?_, ?_, FX.rf, FM.rf, hI⟩
      · have ny : r_X10_nextYear V (31 + 9 * w) b gx = some (-1, gx) := by
          unfold r_X10_nextYear
          rw [grd_t (sh_vw hV hw), y3, brn_f f, nm_eq, brn_t hi]
        rw [X _ ny, brn_t rfl]
      · rw [M, brn_f f]
        unfold r_X12_fill_42
        rw [p_in, bnd_some, brn_t (by rw [bI_0, i_le, i_le, es, t1799]; omega)]
    · have hi' := hi
      rw [i_lt, es, t1799] at hi'
      have inr : 1600 ≤ gm.1 94 w + 1 ∧ gm.1 94 w + 1 ≤ 1799 := by rw [i_le, i_le, es, t16, t1799]; omega
      obtain ⟨t, ht, et⟩ : ∃ t : Nat, t < 200 ∧ (gm.1 94 w).toInt + 1 = 1600 + t := ⟨((gm.1 94 w).toInt + 1 - 1600).toNat, by omega, by omega⟩
      have eb : gm.1 94 w + 1 = nI (1600 + t) := by rw [i_eq, es, tN (by omega), et]; omega
      by_cases tl : b = -1 ∨ b = gm.1 94 w + 1
      · obtain ⟨r, gx', gm', k1, k2, k3, k4, k5⟩ := go t ht (Or.inr ⟨f, et⟩)
        rw [if_neg f] at k2
        refine ⟨r, gx', gm', ?_, ?_, k3, k4, k5⟩
        · have ny : r_X10_nextYear V (31 + 9 * w) b gx = some (gm.1 94 w + 1, gx) := by
            unfold r_X10_nextYear
            rw [grd_t (sh_vw hV hw), y3, brn_f f, nm_eq, brn_f hi]
            by_cases b1 : b = -1
            · rw [brn_t b1]
            · rw [brn_f b1, brn_t (tl.resolve_left b1)]
          rw [X _ ny, brn_f (by rw [i_eq, es, show (-1 : Int32).toInt = -1 from rfl]; omega), eb, k1, bnd_some]
        · rw [M, brn_f f]
          unfold r_X12_fill_42
          rw [p_in, bnd_some, brn_f (by rw [bI_0]; exact fun k => k inr), brn_t rfl, brn_t rfl]
          by_cases b1 : b = -1
          · rw [brn_t b1, eb]; exact k2
          · rw [brn_f b1, brn_t (tl.resolve_left b1), eb]; exact k2
      · refine ⟨-2, gx, gm, ?_, ?_, FX.rf, FM.rf, hI⟩
        · have ny : r_X10_nextYear V (31 + 9 * w) b gx = some (-1, gx) := by
            unfold r_X10_nextYear
            rw [grd_t (sh_vw hV hw), y3, brn_f f, nm_eq, brn_f hi, brn_f (fun k => tl (Or.inl k)), brn_f (fun k => tl (Or.inr k))]
          rw [X _ ny, brn_t rfl]
        · rw [M, brn_f f]
          unfold r_X12_fill_42
          rw [p_in, bnd_some, brn_f (by rw [bI_0]; exact fun k => k inr), brn_t rfl, brn_f (fun k => tl (Or.inl k)), brn_f (fun k => tl (Or.inr k))]
