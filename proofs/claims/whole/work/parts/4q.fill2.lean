/-! ===== fill: the years ===== -/
theorem Inv_RH {V : Vk} {g : Hq} {n : Nat} (h : Inv V g) (e : g.1 20 1 = nI n) (hn : n ≤ 60) : RH V g.1 g.2.2 n := by
  obtain ⟨-, -, -, -, -, -, -, -, -, n', c, h10, -⟩ := h
  have e1 := h10.2.1
  rw [e, nI_eq (by omega) (by have := h10.1; omega)] at e1
  rw [e1]; exact h10
theorem fi_facts {V : Vk} {gx gm : Hq} {n w : Nat} (h : Inv V (cmb gx gm)) (hR : ShR gm.2.2) (e20 : gx.1 20 1 = nI n) (n60 : n ≤ 60) (hw : w < 4) : ∃ p, FiX V gx n w p ∧ FiM V gm n w ∧ (∀ j, j < 8 → gx.1 p j = gm.1 85 (8 * w + j)) ∧ (0 ≤ (gm.1 85 (8 * w + 3)).toInt ∧ (gm.1 85 (8 * w + 3)).toInt ≤ 9999 ∧ -1 ≤ (gm.1 85 (8 * w + 4)).toInt ∧ (gm.1 85 (8 * w + 4)).toInt ≤ 9999) ∧ ∀ i, i < n → gx.1 (200 + i) 0 = gm.1 88 i ∧ gx.1 (200 + i) 1 = gm.1 89 i ∧ gx.1 (200 + i) 2 = gm.1 90 i ∧ gx.1 (200 + i) 3 = gm.1 91 i ∧ gx.1 (200 + i) 4 = gm.1 92 i ∧ gx.1 (200 + i) 5 = gm.1 93 i ∧ 0 ≤ (gm.1 90 i).toInt ∧ (gm.1 90 i).toInt ≤ 1000000 := by
  have hh := Inv_RH (n := n) h (by rw [cmb_1 (by omega)]; exact e20) n60
  obtain ⟨f, l1, l2, l3, l4, l5⟩ := h.l
  have lp := l1 w (by omega)
  obtain ⟨d1, -, d2, d3, d4, d5, d6, d7, d8, d9, -⟩ := l5 w hw
  rw [cmb_2 (a := 85) (by omega)] at d2 d3 d4 d5 d6 d7 d8 d9
  refine ⟨f w, ⟨h.v, h.r, n60, hw, lp, l3 w hw, e20, fun i hi => ⟨(hh.2.2.2.1 i hi).1, (hh.2.2.2.1 i hi).2.1⟩⟩, ⟨h.v, hR, n60, hw, ?_⟩, fun j hj => ?_, ⟨d6, d7, d8, d9⟩, fun i hi => ?_⟩
  · have := hh.2.2.1
    rw [cmb_2 (by omega)] at this
    exact this
  · have := d1 j hj
    rw [cmb_1 (by unfold lawPl at lp; omega), cmb_2 (by omega)] at this
    exact this
  · obtain ⟨-, -, x0, x1, x2, x3, x4, x5, y0, y1, y2, y3, y4, y5, -⟩ := hh.2.2.2.1 i hi
    rw [cmb_1 (by omega), cmb_2 (by omega)] at x0 x1 x2 x3 x4 x5
    rw [cmb_2 (a := 90) (by omega)] at y4 y5
    exact ⟨x0, x1, x2, x3, x4, x5, y4, y5⟩
theorem k20 {G : Hq} {k j n : Nat} {v : Int32} (h : k ≠ 20) (e : G.1 20 1 = nI n) : (sI G k j v).1 20 1 = nI n := by rw [sI_1, up2_nk _ _ _ (fun q => h q.symm)]; exact e
theorem kyo {G : Hq} {k j w t : Nat} {v : Int32} (h : k ≠ 94) (e : yOpen G.1 w t) : yOpen (sI G k j v).1 w t := ⟨e.1, by rw [sI_1, up2_nk _ _ _ (fun q => h q.symm)]; exact e.2⟩
theorem yr_b {t : Nat} (ht : t < 200) : nI (1600 + t) = -1 ∨ (1600 ≤ (nI (1600 + t)).toInt ∧ (nI (1600 + t)).toInt ≤ 1799) := Or.inr (by rw [tN (by omega)]; omega)
theorem iT3 {V : Vk} {gx gm : Hq} {n w h t : Nat} (hI : Inv V (cmb gx gm)) (e20 : gx.1 20 1 = nI n) (n60 : n ≤ 60) (hw : w < 4) (hh : h < n) (ht : t < 200) (e5 : gx.1 (200 + h) 5 = gm.1 93 h) : Inv V (cmb (xT3 gx h w (nI (1600 + t))) (mT3 gm h w (nI (1600 + t)))) ∧ (cmb (xT3 gx h w (nI (1600 + t))) (mT3 gm h w (nI (1600 + t)))).1 20 1 = nI n := by
  have e0 : (cmb gx gm).1 20 1 = nI n := by rw [cmb_1 (by omega)]; exact e20
  unfold xT3 mT3
  rw [cmb_m (by omega), cmb_x (by omega), cmb_m (by omega), cmb_x (by omega), cmb_m (by omega), cmb_x (by omega), ← e5]
  have i1 := Inv_house (s := 4) (v := nI (1600 + t)) hI (Inv_RH hI e0 n60) hh (by decide) (by decide) (fun q => absurd q (by decide)) (fun q => absurd q (by decide)) (fun _ => yr_b ht)
  have e1 : (sI (sI (cmb gx gm) (200 + h) 4 (nI (1600 + t))) 92 h (nI (1600 + t))).1 20 1 = nI n := k20 (by decide) (k20 (by omega) e0)
  have i2 := Inv_house (s := 5) (v := gx.1 (200 + h) 5 + 1) i1 (Inv_RH i1 e1 n60) hh (by decide) (by decide) (fun q => absurd q (by decide)) (fun q => absurd q (by decide)) (fun q => absurd q (by decide))
  have e2 : (sI (sI (sI (sI (cmb gx gm) (200 + h) 4 (nI (1600 + t))) 92 h (nI (1600 + t))) (200 + h) 5 (gx.1 (200 + h) 5 + 1)) 93 h (gx.1 (200 + h) 5 + 1)).1 20 1 = nI n := k20 (by decide) (k20 (by omega) e1)
  have i3 := Inv_turn (v := nI h) i2 (Inv_RH i2 e2 n60) hw (by rw [tN (by omega)]; omega) (by rw [tN (by omega)]; omega)
  exact ⟨i3, k20 (by decide) (k20 (by omega) e2)⟩
theorem oT3 {gx gm : Hq} {w h t : Nat} {yr : Int32} (ho : yOpen gm.1 w t) : yOpen (cmb (xT3 gx h w yr) (mT3 gm h w yr)).1 w t := by
  refine ⟨ho.1, ?_⟩
  rw [cmb_2 (by omega)]
  unfold mT3
  simp only [sI_1]
  rw [up2_nk _ _ _ (by decide), up2_nk _ _ _ (by decide), up2_nk _ _ _ (by decide)]
  exact ho.2
theorem iPay {V : Vk} {gx gm : Hq} {n w h t p : Nat} (hI : Inv V (cmb gx gm)) (e20 : gx.1 20 1 = nI n) (n60 : n ≤ 60) (hw : w < 4) (hh : h < n) (ho : yOpen gm.1 w t) (e5 : gx.1 (200 + h) 5 = gm.1 93 h) (e2 : gx.1 (200 + h) 2 = gm.1 90 h) (ep : gx.1 p 3 = gm.1 85 (8 * w + 3)) (ec : gx.1 (31 + 9 * w) 1 = gm.1 100 w) (ey : gx.1 (31 + 9 * w + 8) t = gm.1 99 (200 * w + t)) (b : 0 ≤ (gm.1 90 h - gm.1 85 (8 * w + 3)).toInt ∧ (gm.1 90 h - gm.1 85 (8 * w + 3)).toInt ≤ 1000000) : Inv V (cmb (xPay gx h w p t (nI (1600 + t))) (mPay gm h w t (nI (1600 + t)))) := by
  obtain ⟨i3, f3⟩ := iT3 hI e20 n60 hw hh ho.1 e5
  have o3 := oT3 (gx := gx) (h := h) (yr := nI (1600 + t)) ho
  unfold xPay mPay
  rw [e2, ep, ec, ey, cmb_m (by omega), cmb_x (by omega), cmb_m (by omega), cmb_x (by omega), cmb_m (by omega), cmb_x (by omega)]
  have i4 := Inv_house (s := 2) (v := gm.1 90 h - gm.1 85 (8 * w + 3)) i3 (Inv_RH i3 f3 n60) hh (by decide) (by decide) (fun _ => b) (fun q => absurd q (by decide)) (fun q => absurd q (by decide))
  have i5 := Inv_chest (v := gm.1 100 w + gm.1 85 (8 * w + 3)) i4 hw
  exact Inv_ent (s := 2) (v := gm.1 99 (200 * w + t) + 1) i5 hw (kyo (by decide) (kyo (by omega) (kyo (by decide) (kyo (by omega) o3)))) (by decide) (fun q => absurd q (by decide))
theorem iHir {V : Vk} {gx gm : Hq} {n w h t p : Nat} (hI : Inv V (cmb gx gm)) (e20 : gx.1 20 1 = nI n) (n60 : n ≤ 60) (hw : w < 4) (hh : h < n) (ho : yOpen gm.1 w t) (e5 : gx.1 (200 + h) 5 = gm.1 93 h) (e2 : gx.1 (200 + h) 2 = gm.1 90 h) (ep : gx.1 p 4 = gm.1 85 (8 * w + 4)) (b : 0 ≤ (gm.1 90 h - gm.1 85 (8 * w + 4)).toInt ∧ (gm.1 90 h - gm.1 85 (8 * w + 4)).toInt ≤ 1000000) : Inv V (cmb (xHir gx h w p t (nI (1600 + t))) (mHir gm h w t (nI (1600 + t)))) := by
  obtain ⟨i3, f3⟩ := iT3 hI e20 n60 hw hh ho.1 e5
  have o3 := oT3 (gx := gx) (h := h) (yr := nI (1600 + t)) ho
  unfold xHir mHir mApp
  rw [sI_comm (k := 97) (k2 := 90) (Or.inl (by decide)), e2, ep, cmb_m (by omega), cmb_x (by omega), cmb_m (by omega), cmb_x (by omega), cmb_m (by omega), cmb_x (by omega)]
  have i4 := Inv_house (s := 2) (v := gm.1 90 h - gm.1 85 (8 * w + 4)) i3 (Inv_RH i3 f3 n60) hh (by decide) (by decide) (fun _ => b) (fun q => absurd q (by decide)) (fun q => absurd q (by decide))
  have o4 := kyo (k := 90) (j := h) (v := gm.1 90 h - gm.1 85 (8 * w + 4)) (by decide) (kyo (k := 200 + h) (j := 2) (v := gm.1 90 h - gm.1 85 (8 * w + 4)) (by omega) o3)
  have i5 := Inv_ent (s := 0) (v := nI h) i4 hw o4 (by decide) (fun q => absurd q (by decide))
  exact Inv_ent (s := 1) (v := 1) i5 hw (kyo (by decide) (kyo (by omega) o4)) (by decide) (fun _ => Or.inr rfl)
theorem iApp {V : Vk} {gx gm : Hq} {n w h t p : Nat} (hI : Inv V (cmb gx gm)) (e20 : gx.1 20 1 = nI n) (n60 : n ≤ 60) (hw : w < 4) (hh : h < n) (ho : yOpen gm.1 w t) (e5 : gx.1 (200 + h) 5 = gm.1 93 h) (e98 : gm.1 98 (200 * w + t) = 0) : Inv V (cmb (xApp gx h w p t (nI (1600 + t))) (mApp gm h w t (nI (1600 + t)))) := by
  obtain ⟨i3, f3⟩ := iT3 hI e20 n60 hw hh ho.1 e5
  have o3 := oT3 (gx := gx) (h := h) (yr := nI (1600 + t)) ho
  have : mApp gm h w t (nI (1600 + t)) = sI (mApp gm h w t (nI (1600 + t))) 98 (200 * w + t) 0 := by
    refine (sI_id ?_).symm
    unfold mApp mT3
    simp only [sI_1]
    rw [up2_nk _ _ _ (by decide), up2_nk _ _ _ (by decide), up2_nk _ _ _ (by decide), up2_nk _ _ _ (by decide)]
    exact e98
  rw [this]
  unfold xApp mApp
  rw [cmb_m (by omega), cmb_x (by omega), cmb_m (by omega), cmb_x (by omega)]
  have i5 := Inv_ent (s := 0) (v := nI h) i3 hw o3 (by decide) (fun q => absurd q (by decide))
  exact Inv_ent (s := 1) (v := 0) i5 hw (kyo (by decide) (kyo (by omega) o3)) (by decide) (fun _ => Or.inl rfl)
theorem xT3_F {g : Hq} {h w : Nat} {yr : Int32} (hw : w < 4) : FX g (xT3 g h w yr) := ((FX.w (by omega)).tr (FX.w (by omega))).tr (FX.w (by omega))
theorem mT3_F {g : Hq} {h w : Nat} {yr : Int32} : FM g (mT3 g h w yr) := ((FM.w (by omega)).tr (FM.w (by omega))).tr (FM.w (by omega))
theorem xPay_F {g : Hq} {h w p t : Nat} {yr : Int32} (hw : w < 4) : FX g (xPay g h w p t yr) := (((xT3_F hw).tr (FX.w (by omega))).tr (FX.w (by omega))).tr (FX.w (by omega))
theorem xApp_F {g : Hq} {h w p t : Nat} {yr : Int32} (hw : w < 4) : FX g (xApp g h w p t yr) := ((xT3_F hw).tr (FX.w (by omega))).tr (FX.w (by omega))
theorem xHir_F {g : Hq} {h w p t : Nat} {yr : Int32} (hw : w < 4) : FX g (xHir g h w p t yr) := (((xT3_F hw).tr (FX.w (by omega))).tr (FX.w (by omega))).tr (FX.w (by omega))
theorem mPay_F {g : Hq} {h w t : Nat} {yr : Int32} : FM g (mPay g h w t yr) := ((mT3_F.tr (FM.w (by omega))).tr (FM.w (by omega))).tr (FM.w (by omega))
theorem mApp_F {g : Hq} {h w t : Nat} {yr : Int32} : FM g (mApp g h w t yr) := mT3_F.tr (FM.w (by omega))
theorem mHir_F {g : Hq} {h w t : Nat} {yr : Int32} : FM g (mHir g h w t yr) := (mApp_F.tr (FM.w (by omega))).tr (FM.w (by omega))
theorem x_fillE {V : Vk} {g : Hq} {n w p t F : Nat} (hf : FiX V g n w p) : r_X7_fillYear_16 V (20, nI w, 31 + 9 * w, nI (1600 + t), nI F, nI n, g) = some (.inr (-1, g)) := by
  obtain ⟨hV, hR, n60, hw, lp, rp, e20, hh⟩ := hf
  show r_X7_fillYear_16' V 20 (nI w) (31 + 9 * w) (nI (1600 + t)) (nI F) (nI n) g = _
  unfold r_X7_fillYear_16'
  rw [grd_t (v_20 hV), e20, brn_t (nI_le (Nat.le_refl n) (by omega))]
theorem m_fillE {V : Vk} {g : Hq} {n w t F k : Nat} {x : Int32} (hf : FiM V g n w) (ht : t < 200) (hk : k ≤ n) (e97 : g.1 97 (200 * w + t) = x) (hx : ¬ x = -1 ∨ k = n) : r_X12_fill_147 V (70, nI w, nI (1600 + t), nI (200 * w + t), nI F, nI k, g) = some (.inr (x, g)) := by
  obtain ⟨hV, hR, n60, hw, e32⟩ := hf
  have cly := cl_nI (j := 200 * w + t) (by omega)
  have oy : okV V 97 0 (nI (200 * w + t)) := ok_nI (n := 800) (t := 0) (v_97 hV) (by omega) (by decide)
  show r_X12_fill_147' V 70 (nI w) (nI (1600 + t)) (nI (200 * w + t)) (nI F) (nI k) g = _
  unfold r_X12_fill_147'
  rw [grd_t (v_70 hV), e32]
  by_cases e : k = n
  · rw [e, brn_t (nI_le (Nat.le_refl n) (by omega)), q_70_42 hR, bind_some', grd_t oy, cly, e97]
  · rw [brn_f (nI_ge (by omega) (by omega)), q_70_42 hR, bind_some', grd_t oy, cly, e97, brn_f (hx.resolve_right e), bind_some', grd_t oy, e97]
theorem fi_loop {V : Vk} {n w t F : Nat} (n60 : n ≤ 60) (hw : w < 4) (hF : F ≤ n) : ∀ (d k : Nat) (gx gm : Hq), k + d = n → Inv V (cmb gx gm) → ShR gm.2.2 → gx.1 20 1 = nI n → yOpen gm.1 w t → gm.1 97 (200 * w + t) = -1 → gm.1 98 (200 * w + t) = 0 → ∃ r gx' gm', lop (r_X7_fillYear_16 V) (20, nI w, 31 + 9 * w, nI (1600 + t), nI F, nI k, gx) = some (r, gx') ∧ lop (r_X12_fill_147 V) (70, nI w, nI (1600 + t), nI (200 * w + t), nI F, nI k, gm) = some (r, gm') ∧ FX gx gx' ∧ FM gm gm' ∧ Inv V (cmb gx' gm') := by
  intro d
  induction d with
  | zero =>
    intro k gx gm hk hI hR e20 ho e97 e98
    have : k = n := by omega
    subst this
    obtain ⟨p, fx, fm, -⟩ := fi_facts hI hR e20 n60 hw
    exact ⟨-1, gx, gm, lop_r (x_fillE fx), lop_r (m_fillE fm ho.1 (Nat.le_refl _) e97 (Or.inr rfl)), FX.rf, FM.rf, hI⟩
  | succ d ih =>
    intro k gx gm hk hI hR e20 ho e97 e98
    obtain ⟨p, fx, fm, el, ⟨b1, b2, b3, b4⟩, eh⟩ := fi_facts hI hR e20 n60 hw
    have kn : k < n := by omega
    obtain ⟨h, hdef⟩ : ∃ h, h = (F + k) % n := ⟨_, rfl⟩
    have hn : h < n := by rw [hdef]; exact Nat.mod_lt _ (by omega)
    obtain ⟨x0, x1, x2, x3, x4, x5, y4, y5⟩ := eh h hn
    have sx := x_fill1 fx ho.1 hF kn hdef
    have sm := m_fill1 fm ho.1 hF kn hdef e97
    have tu := m_turns (yr := nI (1600 + t)) fm ho.1 hn
    have l0 : gx.1 p 0 = gm.1 85 (8 * w) := el 0 (by decide)
    rw [x0, x1, x2, x3, x4, el 2 (by decide), l0, el 1 (by decide), el 3 (by decide), el 4 (by decide)] at sx
    have hy := fun n' (hy : ∀ w, w < 4 → RY1 (cmb gx gm).1 n' w) => hy w hw
    obtain ⟨-, -, -, -, -, -, -, -, -, n', c', -, hyy, -, -⟩ := id hI
    obtain ⟨yc, -, -, -, -, yy⟩ := hyy w hw
    rw [cmb_1 (by omega), cmb_2 (by omega)] at yc
    have y8 : gx.1 (31 + 9 * w + 8) t = gm.1 99 (200 * w + t) := by
      rcases yy with ⟨z1, -⟩ | ⟨z1, z2, z3, z4, z5⟩
      · rw [cmb_2 (by omega)] at z1
        have := ho.2
        rw [z1] at this
        have : (-1 : Int32).toInt = -1 := rfl
        omega
      · rw [cmb_2 (a := 94) (by omega), cmb_2 (a := 96) (by omega)] at z3
        have q := (z5 t ho.1).2
        rw [cmb_2 (a := 94) (by omega), cmb_2 (a := 96) (by omega), cmb_2 (a := 99) (by omega), cmb_1 (a := 31 + 9 * w + 8) (by omega)] at q
        have := ho.2
        exact (q (by omega) (by omega)).2.2.1
    by_cases du : gm.1 88 h = nI w ∧ dueP (gm.1 92 h) (gm.1 85 (8 * w + 2)) (gm.1 89 h) (gm.1 85 (8 * w)) (gm.1 85 (8 * w + 1)) (nI (1600 + t))
    · rw [brn_t du] at sx sm
      by_cases py : gm.1 91 h = 2 ∧ ¬ gm.1 90 h < gm.1 85 (8 * w + 3)
      · rw [brn_t py] at sx
        rw [if_pos py] at tu
        rw [tu, bnd_some] at sm
        have pl := py.2
        rw [i_lt] at pl
        have es : (gm.1 90 h - gm.1 85 (8 * w + 3)).toInt = (gm.1 90 h).toInt - (gm.1 85 (8 * w + 3)).toInt := i_sub (by omega) (by omega)
        have iP := iPay (p := p) hI e20 n60 hw hn ho x5 x2 (el 3 (by decide)) yc y8 (by rw [es]; omega)
        have q20 : (xPay gx h w p t (nI (1600 + t))).1 20 1 = nI n := by
          unfold xPay xT3
          exact k20 (by omega) (k20 (by omega) (k20 (by omega) (k20 (by omega) (k20 (by omega) (k20 (by omega) e20)))))
        have qo : yOpen (mPay gm h w t (nI (1600 + t))).1 w t := by
          unfold mPay mT3
          exact kyo (by decide) (kyo (by decide) (kyo (by decide) (kyo (by decide) (kyo (by decide) (kyo (by decide) ho)))))
        have q9 : ∀ k, k = 97 ∨ k = 98 → (mPay gm h w t (nI (1600 + t))).1 k = gm.1 k := by
          intro k hk
          unfold mPay mT3
          simp only [sI_1]
          rw [up2_nk _ _ _ (by omega), up2_nk _ _ _ (by omega), up2_nk _ _ _ (by omega), up2_nk _ _ _ (by omega), up2_nk _ _ _ (by omega), up2_nk _ _ _ (by omega)]
        obtain ⟨r, gx', gm', k1, k2, k3, k4, k5⟩ := ih (k + 1) _ _ (by omega) iP hR q20 qo (by rw [q9 97 (by omega)]; exact e97) (by rw [q9 98 (by omega)]; exact e98)
        exact ⟨r, gx', gm', (lop_l sx).trans k1, (lop_l sm).trans k2, (xPay_F hw).tr k3, mPay_F.tr k4, k5⟩
      · rw [brn_f py] at sx
        rw [if_neg py] at tu
        by_cases hi : hireP (gm.1 91 h) (gm.1 85 (8 * w + 4)) (gm.1 90 h)
        · rw [brn_t hi] at sx
          rw [if_pos hi] at tu
          rw [tu, bnd_some] at sm
          have pl := hi.2.2
          have pm := hi.2.1
          rw [i_le] at pl
          rw [i_eq, show (-1 : Int32).toInt = -1 from rfl] at pm
          have es : (gm.1 90 h - gm.1 85 (8 * w + 4)).toInt = (gm.1 90 h).toInt - (gm.1 85 (8 * w + 4)).toInt := i_sub (by omega) (by omega)
          have iP := iHir (p := p) hI e20 n60 hw hn ho x5 x2 (el 4 (by decide)) (by rw [es]; omega)
          have fm' : FiM V (mHir gm h w t (nI (1600 + t))) n w := by
            obtain ⟨f1, f2, f3, f4, f5⟩ := fm
            refine ⟨f1, f2, f3, f4, ?_⟩
            unfold mHir mApp mT3
            simp only [sI_1]
            rw [up2_nk _ _ _ (by omega), up2_nk _ _ _ (by omega), up2_nk _ _ _ (by omega), up2_nk _ _ _ (by omega), up2_nk _ _ _ (by omega), up2_nk _ _ _ (by omega)]
            exact f5
          have q97 : (mHir gm h w t (nI (1600 + t))).1 97 (200 * w + t) = nI h := by
            unfold mHir mApp
            simp only [sI_1]
            rw [up2_nk _ _ _ (by omega), up2_nk _ _ _ (by omega), up2_s]
          exact ⟨nI h, _, _, lop_r sx, (lop_l sm).trans (lop_r (m_fillE fm' ho.1 (by omega) q97 (Or.inl (by rw [i_eq, tN (by omega), show (-1 : Int32).toInt = -1 from rfl]; omega)))), xHir_F hw, mHir_F, iP⟩
        · rw [brn_f hi] at sx
          rw [if_neg hi] at tu
          rw [tu, bnd_some] at sm
          have iP := iApp (p := p) hI e20 n60 hw hn ho x5 e98
          have fm' : FiM V (mApp gm h w t (nI (1600 + t))) n w := by
            obtain ⟨f1, f2, f3, f4, f5⟩ := fm
            refine ⟨f1, f2, f3, f4, ?_⟩
            unfold mApp mT3
            simp only [sI_1]
            rw [up2_nk _ _ _ (by omega), up2_nk _ _ _ (by omega), up2_nk _ _ _ (by omega), up2_nk _ _ _ (by omega)]
            exact f5
          have q97 : (mApp gm h w t (nI (1600 + t))).1 97 (200 * w + t) = nI h := by
            unfold mApp
            rw [sI_1, up2_s]
          exact ⟨nI h, _, _, lop_r sx, (lop_l sm).trans (lop_r (m_fillE fm' ho.1 (by omega) q97 (Or.inl (by rw [i_eq, tN (by omega), show (-1 : Int32).toInt = -1 from rfl]; omega)))), xApp_F hw, mApp_F, iP⟩
    · rw [brn_f du] at sx sm
      obtain ⟨r, gx', gm', k1, k2, k3, k4, k5⟩ := ih (k + 1) gx gm (by omega) hI hR e20 ho e97 e98
      exact ⟨r, gx', gm', (lop_l sx).trans k1, (lop_l sm).trans k2, k3, k4, k5⟩
