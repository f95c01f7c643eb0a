/-! ===== rounds: the reference ===== -/
theorem ml_1 {D : Nat → Nat → Int} {wi : Nat → Int} {n h : Nat} {R77 R78 : Nat → Int32} (hn : n ≤ 10) (hh : h < n) (ml : MLok D wi n R77 R78 (2 ^ n)) (dg : ∀ i, i < n → D i i = 0) (wb : ∀ i, i < n → 1 ≤ wi i ∧ wi i ≤ 999) : R78 (2 ^ h) = 0 := by
  have n10 := p2_le hn
  have p := p2_lt hh
  have lw := low_p2 (show h < 10 by omega)
  have bh : (2 ^ h).testBit h = true := Nat.testBit_two_pow_self
  obtain ⟨m1, best, bound, m2, m3, m4⟩ := ml (2 ^ h) (Nat.pow_pos (by decide)) p
  have p0 : (R77 (10 * 2 ^ h + h)).toInt = 0 := by
    have := (m1 h bh).2.2.1 lw.symm
    rw [if_pos rfl] at this
    exact this
  have bs : best = 0 := by
    have up := m2.2.1 h hh bh
    dsimp only at up
    rw [lw, p0, dg h hh] at up
    rcases m2.2.2 with c | ⟨k, k1, k2, k3⟩
    · omega
    · have e : k = h := by rw [Nat.testBit_two_pow, decide_eq_true_iff] at k2; exact k2.symm
      dsimp only at k3
      rw [e, lw, p0, dg h hh] at k3; omega
  have bb : 1 ≤ bound := by
    rcases m3.2.2 with c | ⟨k, k1, k2, k3⟩
    · omega
    · have := (wb k k1).1; omega
  rw [i_eq, m4, if_neg (by omega), bs]; rfl
theorem rg_id {n : Nat} : RGp (2 ^ n - 1) (fun i => i) n := by
  refine ⟨fun i b => fbt.mp b, fun k hk => ⟨k, fbt.mpr hk, rfl⟩, fun i b k hk => ?_⟩
  have := fbt.mp b
  have hk' : k < i := hk
  exact ⟨k, hk', fbt.mpr (by omega), rfl⟩
theorem pt_id {n k : Nat} (hn : n ≤ 10) (hk : k < n) : ptM (2 ^ n - 1) (fun i => i) k = 2 ^ k := Nat.eq_of_testBit_eq (fun i => by
  rw [ptM_bit (fl_10 hn), bit_full, Nat.testBit_two_pow]
  by_cases e : k = i
  · subst e; simp [hk]
  · simp [e, Ne.symm e])
def tF (R78 : Nat → Int32) (p : Nat) : Nat := (R78 p).toInt.toNat
theorem tF_at {R78 : Nat → Int32} {p : Nat} (h : (0 ≤ (R78 p).toInt ∧ (R78 p).toInt ≤ 999) ∨ (R78 p).toInt = 1000000) : R78 p = nI (tF R78 p) ∧ (tF R78 p ≤ 999 ∨ tF R78 p = 1000000) := by
  unfold tF
  refine ⟨?_, by omega⟩
  rw [i_eq, tN (by omega)]
  omega
set_option maxHeartbeats 4000000 in
theorem m_rounds {V : Vk} {s n : Nat} {cs : Nat → Nat} {g : Hq} (hV : ShV V) (hR : ShR g.2.2) (hs : s < 4096) (en : n = pcN s 12) (hn : n ≤ 10) (ecs : cs = ctF s 12) (b75 : ∀ j, j < 144 → 0 ≤ (g.1 75 j).toInt ∧ (g.1 75 j).toInt ≤ 1000000) (b73 : ∀ c, c < 12 → 1 ≤ (g.1 73 c).toInt ∧ (g.1 73 c).toInt ≤ 999) (dg : ∀ c, c < 12 → g.1 75 (12 * c + c) = 0) : ∃ R77 R78 M S F g', lop (r_X12_rounds_18 V) (70, nI s, 0, 0, g) = some (nI M, g') ∧ MLok (dI (g.1 75) cs) (wI (g.1 73) cs) n R77 R78 (2 ^ n) ∧ Gd n (tF R78) M S F ∧ (∀ c m, RGp (2 ^ n - 1) c m → vdP (tF R78) (2 ^ n - 1) c m → Cv n (tF R78) M S F c m) ∧ M ≤ 10 ∧ S < 16384 ∧ (∀ a, a ≠ 70 → ¬ (76 ≤ a ∧ a ≤ 84) → g'.1 a = g.1 a) ∧ (∀ j, j ≠ 15 → ¬ (21 ≤ j ∧ j ≤ 25) → g'.1 70 j = g.1 70 j) ∧ g'.2 = g.2 ∧ g'.1 70 23 = 1 ∧ g'.1 70 24 = nI M ∧ g'.1 70 25 = nI S ∧ (∀ c, c < 12 → g'.1 82 c = wmN (fun _ => -1) cs F n M c) ∧ ∀ j, j < M → g'.1 84 j = coF 0 cs F j n ∧ g'.1 83 j = R78 (ptM (2 ^ n - 1) F j) := by
  have n10 := p2_le hn
  have hcs : ∀ i, i < n → csR s (g.1 76) 12 i = nI (cs i) ∧ cs i < 12 := fun i hi => by
    rw [ecs]
    exact csR_at 12 i (by rw [← en]; exact hi)
  obtain ⟨g1, eg1⟩ : ∃ g1, g1 = hpm g s 12 := ⟨_, rfl⟩
  have a70 : ∀ j, j ≠ 15 → g1.1 70 j = g.1 70 j := fun j hj => by rw [eg1]; unfold hpm; rw [sI_1, up2_ne _ _ (Or.inr hj), sA_n (by decide), sA_n (by decide)]
  have a15 : g1.1 70 15 = nI n := by rw [eg1, en]; unfold hpm; rw [sI_1, up2_s]
  have a76 : g1.1 76 = csR s (g.1 76) 12 := by rw [eg1]; unfold hpm; rw [sI_1, up2_nk _ _ _ (by decide), sA_s]
  have a82 : g1.1 82 = flR 12 (-1) (g.1 82) := by rw [eg1]; unfold hpm; rw [sI_1, up2_nk _ _ _ (by decide), sA_n (by decide), sA_s]
  have an : ∀ a, a ≠ 70 → a ≠ 76 → a ≠ 82 → g1.1 a = g.1 a := fun a h1 h2 h3 => by rw [eg1]; unfold hpm; rw [sI_1, up2_nk _ _ _ h1, sA_n h2, sA_n h3]
  have aR : g1.2 = g.2 := by rw [eg1]; rfl
  have B : LB V n cs (g.1 75) (g.1 73) g1 := ⟨hV, by rw [aR]; exact hR, hn, a15, by rw [a76]; exact hcs, an 75 (by decide) (by decide) (by decide), an 73 (by decide) (by decide) (by decide), b75, b73⟩
  obtain ⟨g2, k1, k2, ml⟩ := m_lens B
  have wb : ∀ i, i < n → 1 ≤ wI (g.1 73) cs i ∧ wI (g.1 73) cs i ≤ 999 := fun i hi => b73 _ (hcs i hi).2
  have dg' : ∀ i, i < n → dI (g.1 75) cs i i = 0 := fun i hi => by unfold dI; rw [dg _ (hcs i hi).2]; rfl
  have dn : ∀ i j, i < n → j < n → 0 ≤ dI (g.1 75) cs i j := fun i j hi hj => (dI_b B hi hj).1
  have tb : ∀ p, 0 < p → p < 2 ^ n → g2.1 78 p = nI (tF (g2.1 78) p) ∧ (tF (g2.1 78) p ≤ 999 ∨ tF (g2.1 78) p = 1000000) := fun p h0 hp => tF_at (ml_b hn dn wb ml h0 hp)
  obtain ⟨g3, eg3⟩ : ∃ g3, g3 = sI (sI g2 70 21 11) 70 22 0 := ⟨_, rfl⟩
  have c70 : ∀ j, j ≠ 21 → j ≠ 22 → g3.1 70 j = g2.1 70 j := fun j h1 h2 => by rw [eg3]; simp only [sI_1]; rw [up2_ne _ _ (Or.inr h2), up2_ne _ _ (Or.inr h1)]
  have c21 : g3.1 70 21 = nI 11 := by rw [eg3]; simp only [sI_1]; rw [up2_ne _ _ (Or.inr (by decide)), up2_s]; rfl
  have c22 : g3.1 70 22 = nI 0 := by rw [eg3, sI_1, up2_s]; rfl
  have cn : ∀ a, a ≠ 70 → g3.1 a = g2.1 a := fun a ha => by rw [eg3]; simp only [sI_1]; rw [up2_nk _ _ _ ha, up2_nk _ _ _ ha]
  have cR : g3.2 = g.2 := by rw [eg3]; show g2.2 = _; rw [k2.2, aR]
  have b70 : ∀ j, g2.1 70 j = g1.1 70 j := fun j => by rw [k2.1 70 (by decide) (by decide)]
  have GBc : GB V n (tF (g2.1 78)) g3 := ⟨hV, by rw [cR]; exact hR, hn, by rw [c70 15 (by decide) (by decide), b70]; exact a15, by rw [cn 78 (by decide)]; exact tb⟩
  have r0 : RGp (2 ^ 0 - 1) (fun _ => 0) 0 := ⟨fun i b => absurd (fbt.mp b) (by omega), fun k hk => absurd hk (by omega), fun i b => absurd (fbt.mp b) (by omega)⟩
  obtain ⟨g4, M, S, F, l1, l2, l3, l4, l5, l6, l7⟩ := m_give 12 0 0 (fun _ => 0) g3 11 0 (fun _ => 0) (by omega) (by omega) GBc r0 (fun j hj => absurd hj (by omega)) (fun j hj => absurd hj (by omega)) ⟨c21, c22, by decide, by decide, fun h => absurd h (by decide)⟩ (Or.inl rfl)
  have vid : vdP (tF (g2.1 78)) (2 ^ n - 1) (fun i => i) n := fun k hk => by
    rw [pt_id hn hk]
    unfold tF
    rw [ml_1 hn hk ml dg' wb]
    decide
  have Cid := l7 (fun i => i) n rg_id vid (fun j hj => absurd hj (by omega))
  obtain ⟨u1, u2⟩ := su_10 hn rg_id vid
  have hM : M ≤ 10 := by
    unfold Cv at Cid
    omega
  have gd : Gd n (tF (g2.1 78)) M S F := by
    rcases l6 with ⟨z, -, -⟩ | ⟨z, -, -, -⟩
    · omega
    · exact z
  obtain ⟨s1, s2, s3, s4, s5⟩ := l5
  have f15 : ∀ j, j < n → F j ≤ 15 := fun j hj => by have := rg_le gd.1 j (fbt.mpr hj); omega
  obtain ⟨g5, eg5⟩ : ∃ g5, g5 = sI (sI g4 70 24 (nI M)) 70 25 (nI S) := ⟨_, rfl⟩
  have d70 : ∀ j, j ≠ 24 → j ≠ 25 → g5.1 70 j = g4.1 70 j := fun j h1 h2 => by rw [eg5]; simp only [sI_1]; rw [up2_ne _ _ (Or.inr h2), up2_ne _ _ (Or.inr h1)]
  have d24 : g5.1 70 24 = nI M := by rw [eg5]; simp only [sI_1]; rw [up2_ne _ _ (Or.inr (by decide)), up2_s]
  have d25 : g5.1 70 25 = nI S := by rw [eg5, sI_1, up2_s]
  have dn' : ∀ a, a ≠ 70 → g5.1 a = g4.1 a := fun a ha => by rw [eg5]; simp only [sI_1]; rw [up2_nk _ _ _ ha, up2_nk _ _ _ ha]
  have dR : g5.2 = g.2 := by rw [eg5]; show g4.2 = _; rw [l2.2.2, cR]
  have all70 : ∀ j, j ≠ 15 → ¬ (21 ≤ j ∧ j ≤ 25) → g5.1 70 j = g.1 70 j := fun j h1 h2 => by rw [d70 j (by omega) (by omega), l2.2.1 j (by omega) (by omega), c70 j (by omega) (by omega), b70, a70 j h1]
  have alln : ∀ a, a ≠ 70 → ¬ (76 ≤ a ∧ a ≤ 82) → g5.1 a = g.1 a := fun a h1 h2 => by rw [dn' a h1, l2.1 a h1 (by omega) (by omega) (by omega), cn a h1, k2.1 a (by omega) (by omega), an a h1 (by omega) (by omega)]
  have e15 : g5.1 70 15 = nI n := by rw [d70 15 (by decide) (by decide), l2.2.1 15 (by decide) (by decide), c70 15 (by decide) (by decide), b70]; exact a15
  have e76 : g5.1 76 = csR s (g.1 76) 12 := by rw [dn' 76 (by decide), l2.1 76 (by decide) (by decide) (by decide) (by decide), cn 76 (by decide), k2.1 76 (by decide) (by decide), a76]
  have e78 : g5.1 78 = g2.1 78 := by rw [dn' 78 (by decide), l2.1 78 (by decide) (by decide) (by decide) (by decide), cn 78 (by decide)]
  have e82 : g5.1 82 = flR 12 (-1) (g.1 82) := by rw [dn' 82 (by decide), l2.1 82 (by decide) (by decide) (by decide) (by decide), cn 82 (by decide), k2.1 82 (by decide) (by decide), a82]
  obtain ⟨g6, q1, q2, q3, q4, q5, q6, q7⟩ := m_fin (g := g5) (F := F) (M := M) (n := n) (cs := cs) hV (by rw [dR]; exact hR) hn e15 (by rw [e76]; exact hcs) (fun i hi => ⟨by rw [dn' 80 (by decide)]; exact s5 hM i hi, f15 i hi⟩) hM d24
  refine ⟨g2.1 77, g2.1 78, M, S, F, g6, ?_, ml, gd, fun c m rc vc => l7 c m rc vc (fun j hj => absurd hj (by omega)), hM, s4, fun a h1 h2 => by rw [q2 a h1 (by omega) (by omega) (by omega)]; exact alln a h1 (by omega), fun j h1 h2 => by rw [q3 j (by omega)]; exact all70 j h1 h2, by rw [q4, dR], q5, by rw [q3 24 (by decide)]; exact d24, by rw [q3 25 (by decide)]; exact d25, fun c hc => ?_, fun j hj => by rw [← e78]; exact q7 j hj⟩
  · rw [m_18 hs]
    have st1 : r_X12_rounds_18 V (70, nI s, nI (pcN s 12), nI 12, g) = Option.map Sum.inr (lop (r_X12_rounds_54 V) (70, nI s, 0, sI g 70 15 0)) := by
      show r_X12_rounds_18' V 70 (nI s) (nI (pcN s 12)) (nI 12) g = _
      unfold r_X12_rounds_18'
      rw [brn_t (by decide), brn_t (show nI (pcN s 12) ≤ (10 : Int32) from nI_le (b := 10) (by omega) (by decide)), grd_t (v_70 hV), nm_eq]
    rw [lop_map st1, m_54 hV hR hs (by omega), ← eg1]
    refine (lop_map ?_).trans q1
    show r_X12_rounds_54' V 70 (nI s) (nI 12) g1 = _
    unfold r_X12_rounds_54'
    rw [brn_t (by decide), grd_t (v_70 hV), k1, bnd_some, nm_eq, nm_eq, ← eg3]
    have l1' : r_X12_give 12 V 70 0 0 g3 = some ((), g4) := l1
    rw [l1', bnd_some, nm_eq, nm_eq, s1, sI_1, up2_ne _ _ (Or.inr (by decide)), s2, ← eg5]
  · rw [q6, e82]
    refine wmN_cg ?_ M
    unfold flR
    rw [if_pos hc]
theorem cmp_1 {P A C K r1 r2 : Nat} (a : P ≤ A * K + r1) (e : P = C * K + r2) (c : A < C ∨ (A = C ∧ r1 ≤ r2)) (rl : r1 < K) : P = A * K + r1 := by
  rcases c with c | ⟨c, d⟩
  · have h := Nat.mul_le_mul_right K (show A + 1 ≤ C from c)
    rw [Nat.add_mul, Nat.one_mul] at h
    omega
  · subst c; omega
theorem cmp_n {P M S m x r1 r2 : Nat} (a : P ≤ M * 2 ^ 54 + S * 2 ^ 40 + r1) (e : P = m * 2 ^ 54 + x * 2 ^ 40 + r2) (c : M * 16384 + S < m * 16384 + x ∨ (M * 16384 + S = m * 16384 + x ∧ r1 ≤ r2)) (rl : r1 < 2 ^ 40) : P = M * 2 ^ 54 + S * 2 ^ 40 + r1 := by
  have e1 : ∀ u v : Nat, u * 2 ^ 54 + v * 2 ^ 40 = (u * 16384 + v) * 2 ^ 40 := fun u v => by rw [Nat.add_mul, Nat.mul_assoc]
  rw [e1] at a e ⊢
  exact cmp_1 a e c rl
theorem best_eq {n M S : Nat} {T PL F : Nat → Nat} (hn : n ≤ 10) (ok : PLok T PL (2 ^ n)) (gd : Gd n T M S F) (cv : ∀ c m, RGp (2 ^ n - 1) c m → vdP T (2 ^ n - 1) c m → Cv n T M S F c m) : PL (2 ^ n - 1) = M * 2 ^ 54 + S * 2 ^ 40 + rwN F n := by
  have n10 := p2_le hn
  obtain ⟨g1, g2, g3⟩ := gd
  have a := plA n10 ok M (2 ^ n - 1) F fl_lt g1 g2
  obtain ⟨m, f, r, v, e⟩ := plB n10 ok (2 ^ n - 1) fl_lt
  have c := cv f m r v
  have f15 : ∀ j, j < n → F j ≤ 15 := fun j hj => by have := rg_le g1 j (fbt.mpr hj); omega
  have rl := rw_lt hn f15
  unfold vlP at a e
  rw [row_rw hn] at a e
  rw [← g3] at a
  exact cmp_n a e c rl
