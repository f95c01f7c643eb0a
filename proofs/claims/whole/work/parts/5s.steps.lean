/-! ===== the courts of the set, the steps between them ===== -/
theorem cs_stay {s : Nat} {old : Nat → Int32} : ∀ d c, c + d = 12 → pcN s 12 ≤ pcN s c → csR s old 12 = csR s old c ∧ pcN s 12 = pcN s c := by
  intro d
  induction d with
  | zero => intro c hc _; have e : c = 12 := by omega
            subst e; exact ⟨rfl, rfl⟩
  | succ d ih =>
    intro c hc h
    have mo := pcN_mono (s := s) d (c + 1)
    rw [show c + 1 + d = 12 by omega] at mo
    have b : s.testBit c = false := by
      have : ¬ s.testBit c = true := fun z => by have := pcN_b z; omega
      simpa using this
    have e1 := pcN_n b
    have e2 : csR s old (c + 1) = csR s old c := by show (if _ then _ else _) = _; rw [if_neg (by rw [b]; decide)]
    obtain ⟨k1, k2⟩ := ih (c + 1) (by omega) (by omega)
    exact ⟨by rw [k1, e2], by rw [k2, e1]⟩
def hpc (g : Hq) (s c : Nat) : Hq := sI (sA g 9 (csR s (g.1 9) c)) 8 6 (nI (pcN s c))
theorem x_list {V : Vk} {s : Nat} {g : Hq} (hV : ShV V) (hR : ShR g.2.2) (hs : s < 4096) (hn : pcN s 12 ≤ 10) : r_X6_listCourts V 8 (nI s) g = some ((), hpc g s 12) := by
  have key : ∀ d c, c + d = 12 → lop (r_X6_listCourts_7 V) (8, nI s, nI c, hpc g s c) = some ((), hpc g s 12) := by
    intro d
    induction d with
    | zero =>
      intro c hc
      have e : c = 12 := by omega
      subst e
      refine lop_r ?_
      show r_X6_listCourts_7' V 8 (nI s) (nI 12) (hpc g s 12) = _
      unfold r_X6_listCourts_7'
      rw [brn_t (by decide)]
    | succ d ih =>
      intro c hc
      have p6 : (hpc g s c).1 8 6 = nI (pcN s c) := by unfold hpc; rw [sI_1, up2_s]
      have pR : (hpc g s c).2.2 = g.2.2 := rfl
      have mo := pcN_mono (s := s) (d + 1) c
      rw [hc] at mo
      have st : r_X6_listCourts_7 V (8, nI s, nI c, hpc g s c) = r_X6_listCourts_7' V 8 (nI s) (nI c) (hpc g s c) := rfl
      unfold r_X6_listCourts_7' at st
      rw [brn_f (show ¬ (12 : Int32) ≤ nI c from nI_ge (b := 12) (by omega) (by decide)), grd_t (v_8 hV), p6] at st
      by_cases q : pcN s c = 10
      · rw [brn_t (by rw [q]; decide)] at st
        rw [lop_r st]
        obtain ⟨k1, k2⟩ := cs_stay (s := s) (old := g.1 9) (d + 1) c hc (by omega)
        unfold hpc
        rw [k1, k2]
      · rw [brn_f (show ¬ (10 : Int32) ≤ nI (pcN s c) from nI_ge (b := 10) (by omega) (by decide))] at st
        by_cases b : s.testBit c = true
        · have w : sI (sI (hpc g s c) 9 (pcN s c) (nI c)) 8 6 (nI (pcN s c + 1)) = hpc g s (c + 1) := by
            have e2 : csR s (g.1 9) (c + 1) = upd (csR s (g.1 9) c) (pcN s c) (nI c) := by show (if _ then _ else _) = _; rw [if_pos b]
            unfold hpc
            rw [e2, pcN_b b, sI_comm (k := 9) (k2 := 8) (Or.inl (by decide)), sI_sI, sI_comm (k := 8) (k2 := 9) (Or.inl (by decide)), sA_sI]
          have w6 : (sI (hpc g s c) 9 (pcN s c) (nI c)).1 8 6 = nI (pcN s c) := by rw [sI_1, up2_nk _ _ _ (by decide), p6]
          rw [brn_t ((b_bit1 (by omega) (by omega)).mpr b), pR, q_8_0 hR, bind_some', grd_t (ok_nI (n := 10) (t := 0) (v_9 hV) (by omega) (by decide)), cl_nI (by omega), nm_eq, w6, nI_1, nm_eq, w, nm_eq, nI_1] at st
          rw [lop_l st]
          exact ih (c + 1) (by omega)
        · have b' : s.testBit c = false := by simpa using b
          have w : hpc g s c = hpc g s (c + 1) := by
            have e2 : csR s (g.1 9) (c + 1) = csR s (g.1 9) c := by show (if _ then _ else _) = _; rw [if_neg b]
            unfold hpc
            rw [e2, pcN_n b']
          rw [brn_f (fun z => b ((b_bit1 (by omega) (by omega)).mp z)), nm_eq, nI_1, w] at st
          rw [← w] at st
          rw [lop_l st]
          rw [w]
          exact ih (c + 1) (by omega)
  unfold r_X6_listCourts
  rw [grd_t (v_8 hV), nm_eq]
  have e0 : hpc g s 0 = sI g 8 6 0 := by
    unfold hpc
    show sI (sA g 9 (g.1 9)) 8 6 (nI 0) = _
    rw [sA_id]; rfl
  have := key 12 0 (by omega)
  rw [e0] at this
  exact this
def hpm (g : Hq) (s c : Nat) : Hq := sI (sA (sA g 82 (flR c (-1) (g.1 82))) 76 (csR s (g.1 76) c)) 70 15 (nI (pcN s c))
theorem m_54 {V : Vk} {s : Nat} {g : Hq} (hV : ShV V) (hR : ShR g.2.2) (hs : s < 4096) (hn : pcN s 12 ≤ 10) : lop (r_X12_rounds_54 V) (70, nI s, 0, sI g 70 15 0) = lop (r_X12_rounds_54 V) (70, nI s, nI 12, hpm g s 12) := by
  have e0 : hpm g s 0 = sI g 70 15 0 := by
    unfold hpm
    show sI (sA (sA g 82 (flR 0 (-1) (g.1 82))) 76 (csR s (g.1 76) 0)) 70 15 (nI 0) = _
    rw [flR_0, sA_id]
    show sI (sA g 76 (g.1 76)) 70 15 (nI 0) = _
    rw [sA_id]; rfl
  have := run_to (f := r_X12_rounds_54 V) (fun c => (70, nI s, nI c, hpm g s c)) 12 (fun c hc => by
    show r_X12_rounds_54' V 70 (nI s) (nI c) (hpm g s c) = some (.inl (70, nI s, nI (c + 1), hpm g s (c + 1)))
    have pR : (hpm g s c).2.2 = g.2.2 := rfl
    have mo := pcN_mono (s := s) (12 - (c + 1)) (c + 1)
    rw [show c + 1 + (12 - (c + 1)) = 12 by omega] at mo
    obtain ⟨ha, eha⟩ : ∃ ha, ha = sI (sA (sA g 82 (flR (c + 1) (-1) (g.1 82))) 76 (csR s (g.1 76) c)) 70 15 (nI (pcN s c)) := ⟨_, rfl⟩
    have w82 : sI (hpm g s c) 82 c (-1) = ha := by
      rw [eha]; unfold hpm
      rw [sI_comm (Or.inl (by decide)), sA_sI_ne (by decide), sA_sI, flR_s]
    have a15 : ha.1 70 15 = nI (pcN s c) := by rw [eha, sI_1, up2_s]
    have aR : ha.2.2 = g.2.2 := by rw [eha]; rfl
    unfold r_X12_rounds_54'
    rw [brn_f (show ¬ (12 : Int32) ≤ nI c from nI_ge (b := 12) (by omega) (by decide)), grd_t (v_70 hV), pR, q_70_26 hR, bind_some', grd_t (ok_nI (n := 12) (t := 0) (v_82 hV) hc (by decide)), cl_nI (by omega), w82, nm_eq]
    by_cases b : s.testBit c = true
    · have pb := pcN_b b
      have e2 : csR s (g.1 76) (c + 1) = upd (csR s (g.1 76) c) (pcN s c) (nI c) := by show (if _ then _ else _) = _; rw [if_pos b]
      have w : sI (sI ha 76 (pcN s c) (nI c)) 70 15 (nI (pcN s c + 1)) = hpm g s (c + 1) := by
        rw [eha]; unfold hpm
        rw [e2, pb, sI_comm (k := 76) (k2 := 70) (Or.inl (by decide)), sI_sI, sI_comm (k := 70) (k2 := 76) (Or.inl (by decide)), sA_sI]
      have w6 : (sI ha 76 (pcN s c) (nI c)).1 70 15 = nI (pcN s c) := by rw [sI_1, up2_nk _ _ _ (by decide), a15]
      rw [brn_f (fun z => by rw [b_bit0 (by omega) (by omega), b] at z; cases z), aR, q_70_14 hR, bind_some', a15, grd_t (ok_nI (n := 10) (t := 0) (v_76 hV) (by omega) (by decide)), cl_nI (by omega), nm_eq, w6, nI_1, nm_eq, w, nm_eq, nI_1]
    · have b' : s.testBit c = false := by simpa using b
      have e2 : csR s (g.1 76) (c + 1) = csR s (g.1 76) c := by show (if _ then _ else _) = _; rw [if_neg b]
      have w : ha = hpm g s (c + 1) := by rw [eha]; unfold hpm; rw [e2, pcN_n b']
      rw [brn_t ((b_bit0 (by omega) (by omega)).mpr b'), nm_eq, nI_1, w])
  simp only [e0] at this
  exact this
theorem m_18 {V : Vk} {s : Nat} {g : Hq} (hs : s < 4096) : lop (r_X12_rounds_18 V) (70, nI s, 0, 0, g) = lop (r_X12_rounds_18 V) (70, nI s, nI (pcN s 12), nI 12, g) := by
  exact run_to (f := r_X12_rounds_18 V) (fun c => (70, nI s, nI (pcN s c), nI c, g)) 12 (fun c hc => by
    show r_X12_rounds_18' V 70 (nI s) (nI (pcN s c)) (nI c) g = some (.inl (70, nI s, nI (pcN s (c + 1)), nI (c + 1), g))
    unfold r_X12_rounds_18'
    rw [brn_f (show ¬ (12 : Int32) ≤ nI c from nI_ge (b := 12) (by omega) (by decide)), b_bit (by omega) (by omega), nI_add, nm_eq, nm_eq, nI_1]
    rfl)
def stv (w : Nat → Int32) (c d : Nat) : Int32 := if fx w (12 * c + d) = -1 then 100000 else fx w (12 * c + d)
def Fs (g g2 : Hq) : Prop := (∀ a, a ≠ 3 → a ≠ 7 → a ≠ 10 → g2.1 a = g.1 a) ∧ g2.2 = g.2 ∧ RW g2.1
theorem x_steps {V : Vk} {n : Nat} {cs : Nat → Nat} {g : Hq} (hV : ShV V) (hR : ShR g.2.2) (hw : RW g.1) (hn : n ≤ 10) (h6 : g.1 8 6 = nI n) (hc : ∀ i, i < n → g.1 9 i = nI (cs i) ∧ cs i < 12) : ∃ g', r_X6_measureSteps V 8 3 g = some ((), g') ∧ Fs g g' ∧ ∀ i j, i < n → j < n → g'.1 10 (10 * i + j) = stv (g.1 74) (cs i) (cs j) := by
  have inner : ∀ i, i < n → ∀ d j g', j + d = n → Fs g g' → (∀ i' j', (i' < i ∨ (i' = i ∧ j' < j)) → j' < n → g'.1 10 (10 * i' + j') = stv (g.1 74) (cs i') (cs j')) → ∃ g'', lop (r_X6_measureSteps_12 V) (8, 3, nI i, nI j, g') = some (.inl (8, 3, nI (i + 1), g'')) ∧ Fs g g'' ∧ (∀ i' j', i' < i + 1 → j' < n → g''.1 10 (10 * i' + j') = stv (g.1 74) (cs i') (cs j')) := by
    intro i hi d
    induction d with
    | zero =>
      intro j g' hj f1 f2
      have e : j = n := by omega
      subst e
      refine ⟨g', lop_r ?_, f1, fun i' j' h1 h2 => f2 i' j' (by omega) h2⟩
      show r_X6_measureSteps_12' V 8 3 (nI i) (nI j) g' = _
      unfold r_X6_measureSteps_12'
      rw [grd_t (v_8 hV), f1.1 8 (by decide) (by decide) (by decide), h6, brn_t (nI_le (Nat.le_refl _) (by omega)), nm_eq, nI_1]
    | succ d ih =>
      intro j g' hj f1 f2
      obtain ⟨c1, c2⟩ := hc i hi
      obtain ⟨d1, d2⟩ := hc j (by omega)
      have hR' : ShR g'.2.2 := by rw [f1.2.1]; exact hR
      have e9 : g'.1 9 = g.1 9 := f1.1 9 (by decide) (by decide) (by decide)
      have e74 : g'.1 74 = g.1 74 := f1.1 74 (by decide) (by decide) (by decide)
      have fr : Fs g (fresh g') := ⟨fun a h1 h2 h3 => by rw [fresh_x h1 h2]; exact f1.1 a h1 h2 h3, by rw [fresh_R]; exact f1.2.1, fresh_RW f1.2.2⟩
      obtain ⟨v, ev⟩ : ∃ v, v = stv (g.1 74) (cs i) (cs j) := ⟨_, rfl⟩
      have st : r_X6_measureSteps_12 V (8, 3, nI i, nI j, g') = some (.inl (8, 3, nI i, nI (j + 1), sI (fresh g') 10 (10 * i + j) v)) := by
        show r_X6_measureSteps_12' V 8 3 (nI i) (nI j) g' = _
        unfold r_X6_measureSteps_12'
        have ix : nI i * (10 : Int32) + nI j = nI (10 * i + j) := by rw [show (10 : Int32) = nI 10 from rfl, pk_mul, nI_add, Nat.mul_comm]
        have o10 : okV V 10 0 (nI (10 * i + j)) := ok_nI (n := 100) (v_10 hV) (by omega) (by decide)
        rw [grd_t (v_8 hV), f1.1 8 (by decide) (by decide) (by decide), h6, brn_f (nI_ge (by omega) (by omega)), q_8_0 hR', bind_some', grd_t (ok_nI (n := 10) (t := 0) (v_9 hV) (by omega) (by decide)), bind_some', grd_t (ok_nI (n := 10) (t := 0) (v_9 hV) (by omega) (by decide)), grd_t (v_3 hV), cl_nI (by omega), cl_nI (by omega), e9, c1, d1, p_least hV hR' f1.2.2 c2 d2, bnd_some, fr.2.1, q_8_1 hR, bind_some', ix, cl_nI (by omega), e74]
        by_cases q : fx (g.1 74) (12 * cs i + cs j) = -1
        · rw [brn_t q, grd_t o10, nm_eq, nm_eq, nI_1, ev]; unfold stv; rw [if_pos q]
        · rw [brn_f q, grd_t o10, nm_eq, nm_eq, nI_1, ev]; unfold stv; rw [if_neg q]
      rw [lop_l st]
      have w10 : ∀ q, q ≠ 10 * i + j → (sI (fresh g') 10 (10 * i + j) v).1 10 q = g'.1 10 q := fun q hq => by rw [sI_1, up2_ne _ _ (Or.inr hq), fresh_x (by decide) (by decide)]
      refine ih (j + 1) _ (by omega) ⟨fun a h1 h2 h3 => by rw [sI_1, up2_nk _ _ _ h3]; exact fr.1 a h1 h2 h3, fr.2.1, cgW fr.2.2 (fun a ha => by rw [sI_1, up2_nk _ _ _ (by unfold sW at ha; omega)])⟩ (fun i' j' h1 h2 => ?_)
      by_cases z : i' = i ∧ j' = j
      · rw [z.1, z.2, sI_1, up2_s, ev]
      · rw [w10 _ (by omega)]
        exact f2 i' j' (by omega) h2
  have outer : ∀ d i g', i + d = n → Fs g g' → (∀ i' j', i' < i → j' < n → g'.1 10 (10 * i' + j') = stv (g.1 74) (cs i') (cs j')) → ∃ g'', lop (r_X6_measureSteps_2 V) (8, 3, nI i, g') = some ((), g'') ∧ Fs g g'' ∧ (∀ i' j', i' < n → j' < n → g''.1 10 (10 * i' + j') = stv (g.1 74) (cs i') (cs j')) := by
    intro d
    induction d with
    | zero =>
      intro i g' hi f1 f2
      have e : i = n := by omega
      subst e
      refine ⟨g', lop_r ?_, f1, f2⟩
      show r_X6_measureSteps_2' V 8 3 (nI i) g' = _
      unfold r_X6_measureSteps_2'
      rw [grd_t (v_8 hV), f1.1 8 (by decide) (by decide) (by decide), h6, brn_t (nI_le (Nat.le_refl _) (by omega))]
    | succ d ih =>
      intro i g' hi f1 f2
      obtain ⟨g2, k1, k2, k3⟩ := inner i (by omega) n 0 g' (by omega) f1 (fun i' j' h1 h2 => f2 i' j' (by omega) h2)
      have st : r_X6_measureSteps_2 V (8, 3, nI i, g') = some (.inl (8, 3, nI (i + 1), g2)) := by
        show r_X6_measureSteps_2' V 8 3 (nI i) g' = _
        unfold r_X6_measureSteps_2'
        rw [grd_t (v_8 hV), f1.1 8 (by decide) (by decide) (by decide), h6, brn_f (nI_ge (by omega) (by omega))]
        exact k1
      rw [lop_l st]
      exact ih (i + 1) g2 (by omega) k2 k3
  unfold r_X6_measureSteps
  exact outer n 0 g (by omega) ⟨fun _ _ _ _ => rfl, rfl, hw⟩ (fun i' j' h1 => absurd h1 (by omega))
theorem st_rel {w : Nat → Int32} {c d : Nat} (hw : ∀ j, j < 144 → w j = -1 ∨ (1 ≤ (w j).toInt ∧ (w j).toInt ≤ 99)) (hc : c < 12) (hd : d < 12) : 0 ≤ (stv w c d).toInt ∧ (stv w c d).toInt ≤ 1000000 ∧ e1k (stv w c d).toInt (mf w (12 * c + d)).toInt ∧ 0 ≤ (mf w (12 * c + d)).toInt ∧ (mf w (12 * c + d)).toInt ≤ 1000000 := by
  unfold stv e1k
  have tm : (1000000 : Int32).toInt = 1000000 := rfl
  rcases m_farv (ways := w) (j := 12 * c + d) (by omega) hw with ⟨h1, h2, h3⟩ | ⟨h1, h2, h3⟩
  · rw [i_lt, tm] at h1
    rw [h2, if_neg (fun z => by rw [z] at h3; exact absurd h3 (by decide))]
    exact ⟨h3, by omega, Or.inl rfl, h3, by omega⟩
  · rw [h2, if_pos rfl, h3]
    decide
theorem mf_dg {w : Nat → Int32} {c : Nat} (hw : ∀ j, j < 144 → w j = -1 ∨ (1 ≤ (w j).toInt ∧ (w j).toInt ≤ 99)) (hc : c < 12) : mf w (12 * c + c) = 0 := (mf_FB hw).2 c hc
