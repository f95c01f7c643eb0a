/-! ===== the reference's scan ===== -/
def F70 (g g2 : Hq) : Prop := (∀ a, a ≠ 70 → g2.1 a = g.1 a) ∧ (∀ j, ¬ (3 ≤ j ∧ j ≤ 7) → g2.1 70 j = g.1 70 j) ∧ g2.2 = g.2
theorem F70.rf {g : Hq} : F70 g g := ⟨fun _ _ => rfl, fun _ _ => rfl, rfl⟩
theorem F70.tr {g g1 g2 : Hq} (h : F70 g g1) (k : F70 g1 g2) : F70 g g2 := ⟨fun a e => (k.1 a e).trans (h.1 a e), fun j e => (k.2.1 j e).trans (h.2.1 j e), k.2.2.trans h.2.2⟩
theorem F70.w {g : Hq} {j : Nat} {v : Int32} (h : 3 ≤ j ∧ j ≤ 7) : F70 g (sI g 70 j v) := ⟨fun a e => by rw [sI_1, up2_nk _ _ _ e], fun i e => by rw [sI_1, up2_ne _ _ (Or.inr (by omega))], rfl⟩
/-- the token as the class has it (k, v), as the reference has it (so, wh, wo) -/
def Tk (T : Nat → Int32) (N s e : Nat) (k v so wh wo : Int32) : Prop := (k = 0 ∧ so = 4) ∨ (k = 1 ∧ ((∃ j, j < 13 ∧ isK T N s (e - s) j ∧ so = 1 ∧ wh = nI j) ∨ ((∀ j, j < 13 → ¬ isK T N s (e - s) j) ∧ so = 0))) ∨ (k = 2 ∧ so = 2 ∧ wo = v ∧ 0 ≤ v.toInt) ∨ (k = 3 ∧ so = 3) ∨ (k = 4 ∧ so = 0)
theorem t48 : (48 : Int32).toInt = 48 := rfl
theorem t10 : (10 : Int32).toInt = 10 := rfl
theorem dig_b {c : Int32} (h : dig c) : 48 ≤ c.toInt ∧ c.toInt ≤ 57 := by
  have h1 := h.1
  have h2 := h.2
  rw [i_le] at h1 h2
  exact ⟨h1, h2⟩
theorem vl_b {T : Nat → Int32} {N s : Nat} : ∀ k, k ≤ 4 → (∀ i, i < k → dig (bt T N (s + i))) → 0 ≤ (vl T N s k).toInt ∧ (vl T N s k).toInt < 10 ^ k := by
  intro k
  induction k with
  | zero =>
    intro _ _
    show 0 ≤ (0 : Int32).toInt ∧ (0 : Int32).toInt < 10 ^ 0
    decide
  | succ k ih =>
    intro hk hd
    obtain ⟨a, b⟩ := ih (by omega) (fun i hi => hd i (by omega))
    obtain ⟨c, d⟩ := dig_b (hd k (by omega))
    have pw : (10 : Int) ^ k ≤ 1000 := by
      have : k = 0 ∨ k = 1 ∨ k = 2 ∨ k = 3 := by omega
      rcases this with rfl | rfl | rfl | rfl <;> decide
    have e1 : (vl T N s k * 10).toInt = (vl T N s k).toInt * 10 := by rw [i_mul (by rw [t10]; omega) (by rw [t10]; omega), t10]
    have e2 : (vl T N s k * 10 + bt T N (s + k)).toInt = (vl T N s k).toInt * 10 + (bt T N (s + k)).toInt := by rw [i_add (by omega) (by omega), e1]
    have e3 : (vl T N s (k + 1)).toInt = (vl T N s k).toInt * 10 + (bt T N (s + k)).toInt - 48 := by
      show (vl T N s k * 10 + bt T N (s + k) - 48).toInt = _
      rw [i_sub (by rw [t48]; omega) (by rw [t48]; omega), e2, t48]
    rw [e3, Int.pow_succ]
    omega
theorem m_tok {V : Vk} {T : Nat → Int32} {N p s e : Nat} {k v : Int32} {g : Hq} (h : CM V T N g) (hr : Rn blk T N p s) (hs : Sh T N s e k v) (h6 : g.1 70 6 = nI p) : ∃ g2, r_X12_scan V 70 g = some ((), g2) ∧ F70 g g2 ∧ g2.1 70 5 = nI s ∧ g2.1 70 6 = nI e ∧ Tk T N s e k v (g2.1 70 3) (g2.1 70 4) (g2.1 70 7) := by
  obtain ⟨r1, r2, r3, r4⟩ := hr
  have hN := h.2.2.2.2
  have hv := v_70 h.1
  have nb : ¬ blk (bt T N s) := by
    rcases r4 with q | q
    · rw [q, bt_N]
      intro z
      rcases z with z | z
      · exact absurd z (by decide)
      · exact absurd z (by decide)
    · exact q
  obtain ⟨ga, ega⟩ : ∃ ga, ga = sI g 70 5 (nI s) := ⟨_, rfl⟩
  have ca : CM V T N ga := by rw [ega]; exact h.w (Or.inr (by decide)) (by decide)
  have fa : F70 g ga := by rw [ega]; exact F70.w (by omega)
  have a5 : ga.1 70 5 = nI s := by rw [ega, sI_1, up2_s]
  have go : r_X12_scan V 70 g = lop (r_X12_scan_5 V) (70, nI s, g) := by
    unfold r_X12_scan
    rw [grd_t hv, h6, nm_eq]
    have pre := run_to (f := r_X12_scan_5 V) (fun k => (70, nI (p + k), g)) (s - p) (fun k hk => by
      have b := r3 (p + k) (by omega) (by omega)
      show r_X12_scan_5' V 70 (nI (p + k)) g = some (.inl (70, nI (p + (k + 1)), g))
      unfold r_X12_scan_5'
      rw [grd_t hv, mT_see h (by omega), bnd_some]
      by_cases c : bt T N (p + k) = 32
      · rw [brn_t c, nI_1, nm_eq]
        rfl
      · rw [brn_f c, mT_see h (by omega), bnd_some, brn_t (b.resolve_left c), nI_1, nm_eq]
        rfl)
    have e0 : lop (r_X12_scan_5 V) (70, nI p, g) = lop (r_X12_scan_5 V) (70, nI (p + (s - p)), g) := pre
    rw [e0, show p + (s - p) = s by omega]
  have st : r_X12_scan_5 V (70, nI s, g) = (brn (bt T N s = (-1 : Int32)) (nm (sI ga 70 3 (4 : Int32)) fun g20 => nm (sI g20 70 6 (nI s)) fun g21 => some (.inr ((), g21))) (bnd (r_X12_isSmall V (bt T N s) ga) fun x23 g22 => brn (x23 = 0) (bnd (r_X12_isDigit V (bt T N s) g22) fun x26 g25 => brn (x26 = 0) (brn (bt T N s = (59 : Int32)) (nm (sI g25 70 3 (3 : Int32)) fun g28 => nm (sI g28 70 6 (nI (s + 1))) fun g29 => some (.inr ((), g29))) (nm (sI g25 70 3 (0 : Int32)) fun g30 => nm (sI g30 70 6 (nI (s + 1))) fun g31 => some (.inr ((), g31)))) (nm (sI g25 70 7 (bt T N s - (48 : Int32))) fun g32 => (Option.map Sum.inr (lop (r_X12_scan_132 V) (70, nI s, nI (s + 1), g32))))) ((Option.map Sum.inr (lop (r_X12_scan_68 V) (70, nI s, nI (s + 1), g22)))))) := by
    show r_X12_scan_5' V 70 (nI s) g = _
    unfold r_X12_scan_5'
    rw [grd_t hv, mT_see h (by omega), bnd_some, brn_f (fun q => nb (Or.inl q)), mT_see h (by omega), bnd_some, brn_f (fun q => nb (Or.inr q)), nm_eq, ← ega, mT_see ca (by omega), bnd_some, nI_1, nm_eq]
  rw [go]
  rcases hs with ⟨q1, q2, q3⟩ | ⟨q1, q2, q3, hq⟩
  · refine ⟨sI (sI ga 70 3 4) 70 6 (nI s), lop_r ?_, (fa.tr (F70.w (by omega))).tr (F70.w (by omega)), ?_, ?_, Or.inl ⟨q3, ?_⟩⟩
    · rw [st, brn_t (by rw [q1]; exact bt_N), nm_eq, nm_eq]
    · rw [sI_1, up2_ne _ _ (Or.inr (by decide)), sI_1, up2_ne _ _ (Or.inr (by decide))]; exact a5
    · rw [sI_1, up2_s, q1, q2]
    · rw [sI_1, up2_ne _ _ (Or.inr (by decide)), sI_1, up2_s]
  · have nm1 : ¬ bt T N s = -1 := by
      intro q
      have := (bt_0 (T := T) q1).1
      rw [q] at this
      exact absurd this (by decide)
    rw [brn_f nm1, m_isSmall, bnd_some] at st
    rcases hq with ⟨l, he, ek⟩ | ⟨dg, he, ev, ek⟩ | ⟨l, dg, ee, ek⟩
    · rw [brn_f (by rw [bI_0]; exact fun q => q l)] at st
      obtain ⟨r, k1, k2⟩ := m_keyAt (n := e - s) ca (p := s) (by omega)
      obtain ⟨so, eso⟩ : ∃ so : Int32, so = if r = -1 then 0 else 1 := ⟨_, rfl⟩
      refine ⟨sI (sI (sI ga 70 4 r) 70 3 so) 70 6 (nI e), lop_map (st.trans ?_), ((fa.tr (F70.w (by omega))).tr (F70.w (by omega))).tr (F70.w (by omega)), ?_, ?_, Or.inr (Or.inl ⟨ek, ?_⟩)⟩
      · have pre := run_to (f := r_X12_scan_68 V) (fun k => (70, nI s, nI (s + 1 + k), ga)) (e - (s + 1)) (fun k hk => by
          show r_X12_scan_68' V 70 (nI s) (nI (s + 1 + k)) ga = some (.inl (70, nI s, nI (s + 1 + (k + 1)), ga))
          unfold r_X12_scan_68'
          rw [grd_t hv, mT_see ca (by omega), bnd_some, m_isSmall, bnd_some, brn_f (by rw [bI_0]; exact fun q => q (he.2.2.1 _ (by omega) (by omega))), nI_1, nm_eq]
          rfl)
        have e0 : lop (r_X12_scan_68 V) (70, nI s, nI (s + 1), ga) = lop (r_X12_scan_68 V) (70, nI s, nI (s + 1 + (e - (s + 1))), ga) := pre
        rw [e0, show s + 1 + (e - (s + 1)) = e by omega]
        refine congrArg _ (lop_r ?_)
        have nl : ¬ ltr (bt T N e) := by
          rcases he.2.2.2 with q | q
          · rw [q, bt_N]
            intro z
            exact absurd z.1 (by decide)
          · exact q
        show r_X12_scan_68' V 70 (nI s) (nI e) ga = _
        unfold r_X12_scan_68'
        rw [grd_t hv, mT_see ca (by omega), bnd_some, m_isSmall, bnd_some, brn_t (by rw [bI_0]; exact nl), pk_sub (by omega), k1, bnd_some, nm_eq, sI_1, up2_s]
        by_cases c : r = -1
        · rw [brn_t c, nm_eq, nm_eq, eso, if_pos c]
        · rw [brn_f c, nm_eq, nm_eq, eso, if_neg c]
      · simp only [sI_1]
        rw [up2_ne _ _ (Or.inr (by decide)), up2_ne _ _ (Or.inr (by decide)), up2_ne _ _ (Or.inr (by decide))]; exact a5
      · rw [sI_1, up2_s]
      · have x3 : (sI (sI (sI ga 70 4 r) 70 3 so) 70 6 (nI e)).1 70 3 = so := by rw [sI_1, up2_ne _ _ (Or.inr (by decide)), sI_1, up2_s]
        have x4 : (sI (sI (sI ga 70 4 r) 70 3 so) 70 6 (nI e)).1 70 4 = r := by
          simp only [sI_1]
          rw [up2_ne _ _ (Or.inr (by decide)), up2_ne _ _ (Or.inr (by decide)), up2_s]
        rw [x3, x4]
        rcases k2 with ⟨i, i1, i2, i3⟩ | ⟨i1, i2⟩
        · refine Or.inl ⟨i, i1, i2, ?_, i3⟩
          rw [eso, if_neg]
          rw [i3, i_eq, tN (by omega), show (-1 : Int32).toInt = -1 from rfl]
          omega
        · exact Or.inr ⟨i1, by rw [eso, if_pos i2]⟩
    · have nl : ¬ ltr (bt T N s) := fun q => ltr_dig q dg
      rw [brn_t (by rw [bI_0]; exact nl), m_isDigit, bnd_some, brn_f (by rw [bI_0]; exact fun q => q dg), nm_eq] at st
      obtain ⟨so, eso⟩ : ∃ so : Int32, so = if 4 < e - s then 0 else 2 := ⟨_, rfl⟩
      have w0 : bt T N s - 48 = vl T N s (min (1 + 0) 4) := by
        show bt T N s - 48 = 0 * 10 + bt T N (s + 0) - 48
        rw [Int32.zero_mul, Int32.zero_add]
        rfl
      refine ⟨sI (sI (sI ga 70 7 (vl T N s (min (1 + (e - (s + 1))) 4))) 70 3 so) 70 6 (nI e), lop_map (st.trans ?_), ((fa.tr (F70.w (by omega))).tr (F70.w (by omega))).tr (F70.w (by omega)), ?_, ?_, ?_⟩
      · rw [w0]
        have pre := run_to (f := r_X12_scan_132 V) (fun k => (70, nI s, nI (s + 1 + k), sI ga 70 7 (vl T N s (min (1 + k) 4)))) (e - (s + 1)) (fun k hk => by
          have c := ca.w (k := 70) (j := 7) (v := vl T N s (min (1 + k) 4)) (Or.inr (by decide)) (by decide)
          show r_X12_scan_132' V 70 (nI s) (nI (s + 1 + k)) (sI ga 70 7 (vl T N s (min (1 + k) 4))) = some (.inl (70, nI s, nI (s + 1 + (k + 1)), sI ga 70 7 (vl T N s (min (1 + (k + 1)) 4))))
          unfold r_X12_scan_132'
          rw [grd_t hv, mT_see c (by omega), bnd_some, m_isDigit, bnd_some, brn_f (by rw [bI_0]; exact fun q => q (he.2.2.1 _ (by omega) (by omega))), pk_sub (by omega), show s + 1 + k - s = 1 + k by omega]
          by_cases q : 4 ≤ 1 + k
          · rw [brn_t (show (4 : Int32) ≤ nI (1 + k) from nI_le q (by omega)), sI_id rfl, nm_eq, nI_1, nm_eq, show min (1 + (k + 1)) 4 = min (1 + k) 4 by omega]
            rfl
          · rw [brn_f (show ¬ (4 : Int32) ≤ nI (1 + k) from nI_ge (a := 1 + k) (b := 4) (by omega) (by omega)), mT_see c (by omega), bnd_some, sI_1, up2_s, sI_sI, nm_eq, nI_1, nm_eq, show min (1 + (k + 1)) 4 = (1 + k) + 1 by omega, show min (1 + k) 4 = 1 + k by omega]
            have ev : vl T N s (1 + k + 1) = 10 * vl T N s (1 + k) + bt T N (s + 1 + k) - 48 := by
              show vl T N s (1 + k) * 10 + bt T N (s + (1 + k)) - 48 = _
              rw [Int32.mul_comm, show s + (1 + k) = s + 1 + k by omega]
            rw [ev]
            rfl)
        have e0 : lop (r_X12_scan_132 V) (70, nI s, nI (s + 1), sI ga 70 7 (vl T N s (min (1 + 0) 4))) = lop (r_X12_scan_132 V) (70, nI s, nI (s + 1 + (e - (s + 1))), sI ga 70 7 (vl T N s (min (1 + (e - (s + 1))) 4))) := pre
        rw [e0, show s + 1 + (e - (s + 1)) = e by omega]
        refine congrArg _ (lop_r ?_)
        have c := ca.w (k := 70) (j := 7) (v := vl T N s (min (1 + (e - (s + 1))) 4)) (Or.inr (by decide)) (by decide)
        have nd : ¬ dig (bt T N e) := by
          rcases he.2.2.2 with q | q
          · rw [q, bt_N]
            intro z
            exact absurd z.1 (by decide)
          · exact q
        show r_X12_scan_132' V 70 (nI s) (nI e) (sI ga 70 7 (vl T N s (min (1 + (e - (s + 1))) 4))) = _
        unfold r_X12_scan_132'
        rw [grd_t hv, mT_see c (by omega), bnd_some, m_isDigit, bnd_some, brn_t (by rw [bI_0]; exact nd), pk_sub (by omega)]
        by_cases q : 4 < e - s
        · rw [brn_f (show ¬ nI (e - s) ≤ (4 : Int32) from nI_ge (b := e - s) (a := 4) q (by omega)), nm_eq, nm_eq, eso, if_pos q]
        · rw [brn_t (show nI (e - s) ≤ (4 : Int32) from nI_le (b := 4) (by omega) (by omega)), nm_eq, nm_eq, eso, if_neg q]
      · simp only [sI_1]
        rw [up2_ne _ _ (Or.inr (by decide)), up2_ne _ _ (Or.inr (by decide)), up2_ne _ _ (Or.inr (by decide))]; exact a5
      · rw [sI_1, up2_s]
      · have x3 : ∀ w, (sI (sI (sI ga 70 7 w) 70 3 so) 70 6 (nI e)).1 70 3 = so := fun w => by rw [sI_1, up2_ne _ _ (Or.inr (by decide)), sI_1, up2_s]
        have x7 : ∀ w, (sI (sI (sI ga 70 7 w) 70 3 so) 70 6 (nI e)).1 70 7 = w := fun w => by
          simp only [sI_1]
          rw [up2_ne _ _ (Or.inr (by decide)), up2_ne _ _ (Or.inr (by decide)), up2_s]
        rw [x3, x7]
        by_cases q : 4 < e - s
        · rw [if_pos q] at ek eso
          exact Or.inr (Or.inr (Or.inr (Or.inr ⟨ek, eso⟩)))
        · rw [if_neg q] at ek eso
          have em : min (1 + (e - (s + 1))) 4 = e - s := by omega
          rw [em]
          refine Or.inr (Or.inr (Or.inl ⟨ek, eso, ev.symm, ?_⟩))
          rw [ev]
          exact (vl_b (e - s) (by omega) (fun i hi => he.2.2.1 _ (by omega) (by omega))).1
    · rw [brn_t (by rw [bI_0]; exact l), m_isDigit, bnd_some, brn_t (by rw [bI_0]; exact dg)] at st
      obtain ⟨so, eso⟩ : ∃ so : Int32, so = if bt T N s = 59 then 3 else 0 := ⟨_, rfl⟩
      refine ⟨sI (sI ga 70 3 so) 70 6 (nI e), lop_r (st.trans ?_), (fa.tr (F70.w (by omega))).tr (F70.w (by omega)), ?_, ?_, ?_⟩
      · by_cases q : bt T N s = 59
        · rw [brn_t q, nm_eq, nm_eq, eso, if_pos q, ee]
        · rw [brn_f q, nm_eq, nm_eq, eso, if_neg q, ee]
      · simp only [sI_1]
        rw [up2_ne _ _ (Or.inr (by decide)), up2_ne _ _ (Or.inr (by decide))]; exact a5
      · rw [sI_1, up2_s]
      · have x3 : (sI (sI ga 70 3 so) 70 6 (nI e)).1 70 3 = so := by rw [sI_1, up2_ne _ _ (Or.inr (by decide)), sI_1, up2_s]
        rw [x3]
        by_cases q : bt T N s = 59
        · rw [if_pos q] at ek eso
          exact Or.inr (Or.inr (Or.inr (Or.inl ⟨ek, eso⟩)))
        · rw [if_neg q] at ek eso
          exact Or.inr (Or.inr (Or.inr (Or.inr ⟨ek, eso⟩)))
