set_option maxHeartbeats 4000000 in
theorem m_27 {V : Vk} {n s : Nat} {cs : Nat → Nat} {F75 F73 : Nat → Int32} {g : Hq} (B : LB V n cs F75 F73 g) (h0 : 0 < s) (hs : s < 2 ^ n) (ML : MLok (dI F75 cs) (wI F73 cs) n (g.1 77) (g.1 78) s) : ∃ g', lop (r_X12_makeLengths_27 V) (70, nI s, nI (low s), 1000000, 1000000, 0, g) = some (.inl (70, nI (s + 1), g')) ∧ Fl g g' ∧ MLok (dI F75 cs) (wI F73 cs) n (g'.1 77) (g'.1 78) (s + 1) := by
  obtain ⟨hV, hR, hn, h15, hc, e75, e73, -, hw⟩ := id B
  have n10 := p2_le hn
  have hs' : s < 1024 := by omega
  have key : ∀ d i be bo g', i + d = n → (∀ a, a ≠ 77 → g'.1 a = g.1 a) → g'.2 = g.2 → (∀ q, ¬ (10 * s ≤ q ∧ q < 10 * s + i) → g'.1 77 q = g.1 77 q) → (∀ j, j < i → s.testBit j = true → PSp (dI F75 cs) n (g'.1 77) s j) → IsMin be.toInt 1000000 (fun i => s.testBit i = true) (fun j => (g'.1 77 (10 * s + j)).toInt + dI F75 cs j (low s)) i → IsMin bo.toInt 1000000 (fun i => s.testBit i = true) (wI F73 cs) i → ∃ g'', lop (r_X12_makeLengths_27 V) (70, nI s, nI (low s), be, bo, nI i, g') = some (.inl (70, nI (s + 1), g'')) ∧ Fl g g'' ∧ MLok (dI F75 cs) (wI F73 cs) n (g''.1 77) (g''.1 78) (s + 1) := by
    intro d
    induction d with
    | zero =>
      intro i be bo g' hi f1 f2 f3 f4 f5 f6
      have e : i = n := by omega
      subst e
      have fl : Fl g g' := ⟨fun a h1 _ => f1 a h1, f2⟩
      have B' := B.f fl
      have fin : ∀ v : Int32, v.toInt = (if bo.toInt < be.toInt then 1000000 else be.toInt) → MLok (dI F75 cs) (wI F73 cs) i ((sI g' 78 s v).1 77) ((sI g' 78 s v).1 78) (s + 1) := by
        intro v hv t ht0 ht
        have e77 : (sI g' 78 s v).1 77 = g'.1 77 := by rw [sI_1, up2_nk _ _ _ (by decide)]
        rw [e77]
        by_cases q : t = s
        · subst q
          refine ⟨fun j bj => f4 j (bit_lt hs bj) bj, be.toInt, bo.toInt, f5, f6, ?_⟩
          rw [sI_1, up2_s]; exact hv
        · obtain ⟨m1, best, bound, m2, m3, m4⟩ := ML t ht0 (by omega)
          have t10 : ∀ j, t.testBit j = true → j < 10 := fun j bj => by have := bit_lt (n := 10) (show t < 2 ^ 10 by omega) bj; omega
          refine ⟨fun j bj => PSp_cg hn bj (m1 j bj) (f3 _ (by have := t10 j bj; omega)) (fun q hq => f3 _ (by omega)), best, bound, mi_cg m2 (fun k hk _ => by rw [f3 _ (by omega)]), m3, ?_⟩
          rw [sI_1, up2_ne _ _ (Or.inr q), f1 78 (by decide)]; exact m4
      have fl2 : ∀ v, Fl g (sI g' 78 s v) := fun v => fl.tr (Fl.w (Or.inr rfl))
      by_cases q : be ≤ bo
      · refine ⟨sI g' 78 s be, lop_r ?_, fl2 _, fin be (by rw [i_le] at q; rw [if_neg (by omega)])⟩
        show r_X12_makeLengths_27' V 70 (nI s) (nI (low s)) be bo (nI i) g' = _
        unfold r_X12_makeLengths_27'
        rw [grd_t (v_70 hV), B'.2.2.2.1, brn_t (nI_le (Nat.le_refl _) (by omega)), q_70_17 B'.2.1, bind_some', brn_t q, grd_t (ok_nI (n := 1024) (t := 0) (v_78 hV) (by omega) (by decide)), cl_nI (by omega), nm_eq, nm_eq, nI_1]
      · refine ⟨sI g' 78 s 1000000, lop_r ?_, fl2 _, fin 1000000 (by rw [i_le] at q; rw [if_pos (by omega)]; rfl)⟩
        show r_X12_makeLengths_27' V 70 (nI s) (nI (low s)) be bo (nI i) g' = _
        unfold r_X12_makeLengths_27'
        rw [grd_t (v_70 hV), B'.2.2.2.1, brn_t (nI_le (Nat.le_refl _) (by omega)), q_70_17 B'.2.1, bind_some', brn_f q, grd_t (ok_nI (n := 1024) (t := 0) (v_78 hV) (by omega) (by decide)), cl_nI (by omega), nm_eq, nm_eq, nI_1]
    | succ d ih =>
      intro i be bo g' hi f1 f2 f3 f4 f5 f6
      have hin : i < n := by omega
      have fl : Fl g g' := ⟨fun a h1 _ => f1 a h1, f2⟩
      have B' := B.f fl
      obtain ⟨ci, ci2⟩ := hc i hin
      have st : r_X12_makeLengths_27 V (70, nI s, nI (low s), be, bo, nI i, g') = r_X12_makeLengths_27' V 70 (nI s) (nI (low s)) be bo (nI i) g' := rfl
      unfold r_X12_makeLengths_27' at st
      rw [grd_t (v_70 hV), B'.2.2.2.1, brn_f (nI_ge hin (by omega))] at st
      by_cases b : s.testBit i = true
      · have b76 : g'.1 76 i = nI (cs i) := by rw [f1 76 (by decide)]; exact ci
        have b73 : g'.1 73 = F73 := by rw [f1 73 (by decide)]; exact e73
        rw [brn_f (fun z => by rw [b_bit0 (by omega) (by omega), b] at z; cases z), q_70_11 B'.2.1, bind_some', q_70_14 B'.2.1, bind_some', grd_t (ok_nI (n := 10) (t := 0) (v_76 hV) (by omega) (by decide)), cl_nI (by omega), b76, grd_t (ok_nI (n := 12) (t := 0) (v_73 hV) ci2 (by decide)), cl_nI (by omega), b73] at st
        have HP : ∀ j, (s ^^^ 2 ^ i).testBit j = true → 0 ≤ (g'.1 77 (10 * (s ^^^ 2 ^ i) + j)).toInt ∧ (g'.1 77 (10 * (s ^^^ 2 ^ i) + j)).toInt ≤ 1000000 := fun j bj => by
          have lt := xor_lt b
          have j10 := bit_lt (n := 10) (show s ^^^ 2 ^ i < 2 ^ 10 by omega) bj
          rw [f3 _ (by omega)]
          have := (ML (s ^^^ 2 ^ i) (bit_pos bj) lt).1 j bj
          exact ⟨this.1, this.2.1⟩
        have go : ∀ bo' : Int32, IsMin bo'.toInt 1000000 (fun i => s.testBit i = true) (wI F73 cs) (i + 1) → r_X12_makeLengths_27 V (70, nI s, nI (low s), be, bo, nI i, g') = r_X12_makeLengths_82 V 70 (nI s) (nI (low s)) be (nI i) bo' g' → ∃ g'', lop (r_X12_makeLengths_27 V) (70, nI s, nI (low s), be, bo, nI i, g') = some (.inl (70, nI (s + 1), g'')) ∧ Fl g g'' ∧ MLok (dI F75 cs) (wI F73 cs) n (g''.1 77) (g''.1 78) (s + 1) := by
          intro bo' hb e
          obtain ⟨x, be', k1, k2, k3, k4, k5, k6⟩ := m_82 (be := be) (bo := bo') B' h0 hs hin b HP
          rw [lop_l (e.trans k1)]
          have w77 : ∀ q, q ≠ 10 * s + i → (sI g' 77 (10 * s + i) x).1 77 q = g'.1 77 q := fun q hq => by rw [sI_1, up2_ne _ _ (Or.inr hq)]
          have w77s : (sI g' 77 (10 * s + i) x).1 77 (10 * s + i) = x := by rw [sI_1, up2_s]
          have lt := xor_lt b
          refine ih (i + 1) be' bo' _ (by omega) (fun a ha => by rw [sI_1, up2_nk _ _ _ ha]; exact f1 a ha) f2 (fun q hq => by rw [w77 q (by omega)]; exact f3 q (by omega)) (fun j hj bj => ?_) ?_ hb
          · by_cases q : j = i
            · subst q
              unfold PSp
              rw [w77s]
              exact ⟨k3, k4, k5, fun z => mi_cg (k6 z) (fun k hk _ => by rw [w77 _ (by omega)])⟩
            · exact PSp_cg hn bj (f4 j (by omega) bj) (w77 _ (by omega)) (fun q hq => w77 _ (by omega))
          · have f5' : IsMin be.toInt 1000000 (fun i => s.testBit i = true) (fun j => ((sI g' 77 (10 * s + i) x).1 77 (10 * s + j)).toInt + dI F75 cs j (low s)) i := mi_cg f5 (fun k hk _ => by rw [w77 _ (by omega)])
            rw [k2]
            by_cases q : x.toInt + dI F75 cs i (low s) < be.toInt
            · rw [if_pos q]
              exact mi_lt f5' b (by rw [w77s]) (by omega)
            · rw [if_neg q]
              exact mi_ge f5' (by rw [w77s]; omega)
        by_cases q : bo ≤ F73 (cs i)
        · rw [brn_t q] at st
          rw [i_le] at q
          exact go bo (mi_ge f6 q) st
        · rw [brn_f q, bind_some', bind_some', grd_t (ok_nI (n := 10) (t := 0) (v_76 hV) (by omega) (by decide)), b76, grd_t (ok_nI (n := 12) (t := 0) (v_73 hV) ci2 (by decide)), cl_nI (by omega), b73] at st
          rw [i_le] at q
          exact go (F73 (cs i)) (mi_lt f6 b rfl (by omega)) st
      · have b' : s.testBit i = false := by simpa using b
        rw [brn_t ((b_bit0 (by omega) (by omega)).mpr b'), nm_eq, nI_1] at st
        rw [lop_l st]
        exact ih (i + 1) be bo g' (by omega) f1 f2 (fun q hq => f3 q (by omega)) (fun j hj bj => f4 j (by
          by_cases z : j = i
          · subst z; exact absurd bj b
          · omega) bj) (mi_n f5 b) (mi_n f6 b)
  exact key n 0 1000000 1000000 g (by omega) (fun _ _ => rfl) rfl (fun _ _ => rfl) (fun j hj => absurd hj (by omega)) mi_0 mi_0
theorem m_lens {V : Vk} {n : Nat} {cs : Nat → Nat} {F75 F73 : Nat → Int32} {g : Hq} (B : LB V n cs F75 F73 g) : ∃ g', r_X12_makeLengths V 70 g = some ((), g') ∧ Fl g g' ∧ MLok (dI F75 cs) (wI F73 cs) n (g'.1 77) (g'.1 78) (2 ^ n) := by
  have hn := B.2.2.1
  have n10 := p2_le hn
  have key : ∀ d s g', s + d = 2 ^ n → 0 < s → Fl g g' → MLok (dI F75 cs) (wI F73 cs) n (g'.1 77) (g'.1 78) s → ∃ g'', lop (r_X12_makeLengths_2 V) (70, nI s, g') = some ((), g'') ∧ Fl g g'' ∧ MLok (dI F75 cs) (wI F73 cs) n (g''.1 77) (g''.1 78) (2 ^ n) := by
    intro d
    induction d with
    | zero =>
      intro s g' hs h0 fl ml
      have e : s = 2 ^ n := by omega
      subst e
      have B' := B.f fl
      refine ⟨g', lop_r ?_, fl, ml⟩
      show r_X12_makeLengths_2' V 70 (nI (2 ^ n)) g' = _
      unfold r_X12_makeLengths_2'
      rw [grd_t (v_70 B'.1), B'.2.2.2.1, b_one (by omega), brn_t (nI_le (Nat.le_refl _) (by omega))]
    | succ d ih =>
      intro s g' hs h0 fl ml
      have B' := B.f fl
      obtain ⟨g2, k1, k2, k3⟩ := m_27 B' h0 (by omega) ml
      have st : r_X12_makeLengths_2 V (70, nI s, g') = some (.inl (70, nI (s + 1), g2)) := by
        show r_X12_makeLengths_2' V 70 (nI s) g' = _
        unfold r_X12_makeLengths_2'
        rw [grd_t (v_70 B'.1), B'.2.2.2.1, b_one (by omega), brn_f (nI_ge (by omega) (by omega)), m_least h0 (by omega), bnd_some, k1]
      rw [lop_l st]
      exact ih (s + 1) g2 (by omega) (by omega) (fl.tr k2) k3
  have p := Nat.pow_pos (n := n) (show 0 < 2 by decide)
  exact key (2 ^ n - 1) 1 g (by omega) (by decide) Fl.rf (fun s h0 h1 => absurd h1 (by omega))
/-- what the lengths are: below 1000, or far -/
theorem ml_b {D : Nat → Nat → Int} {wi : Nat → Int} {n s : Nat} {R R78 : Nat → Int32} (hn : n ≤ 10) (hd : ∀ i j, i < n → j < n → 0 ≤ D i j) (hw : ∀ i, i < n → 1 ≤ wi i ∧ wi i ≤ 999) (ml : MLok D wi n R R78 (2 ^ n)) (h0 : 0 < s) (hs : s < 2 ^ n) : (0 ≤ (R78 s).toInt ∧ (R78 s).toInt ≤ 999) ∨ (R78 s).toInt = 1000000 := by
  have n10 := p2_le hn
  obtain ⟨m1, best, bound, m2, m3, m4⟩ := ml s h0 hs
  have lb := low_b h0 (by omega)
  have ln := bit_lt hs lb
  have b9 : bound ≤ 999 := by
    have := m3.2.1 (low s) ln lb
    have := (hw _ ln).2
    omega
  have b0 : 0 ≤ best := mi_nn m2 (by decide) (fun k hk bk => by
    have := (m1 k bk).1
    have := hd k (low s) hk ln
    omega)
  rw [m4]
  by_cases q : bound < best
  · right; rw [if_pos q]
  · left; rw [if_neg q]; omega
