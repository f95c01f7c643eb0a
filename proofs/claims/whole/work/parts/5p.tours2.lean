theorem x_tour {D : Nat → Nat → Int} {wi : Nat → Int} {V : Vk} {n h o q : Nat} {cs : Nat → Nat} {F10 F5 R77 R78 : Nat → Int32} {g : Hq} (B : CB V n cs F10 F5 g) (ho : h + 1 + o = n) (hq : q < 2 ^ o) (ml : MLok D wi n R77 R78 (2 ^ n)) (hd : ∀ i j, i < n → j < n → 0 ≤ D i j ∧ 0 ≤ sD F10 i j ∧ e1k (sD F10 i j) (D i j)) (HPs : ∀ q', 0 < q' → q' < q → ∀ b, q'.testBit b = true → CPr (g.1 11) R77 h q' b) : ∃ (x : Int32) (g' : Hq), r_X6_shortestTour V 8 (nI h) (nI o) (nI q) g = some (x, g') ∧ (∀ a, a ≠ 11 → g'.1 a = g.1 a) ∧ g'.2 = g.2 ∧ (∀ j, ¬ (9 * q ≤ j ∧ j < 9 * q + o) → g'.1 11 j = g.1 11 j) ∧ (∀ b, q.testBit b = true → CPr (g'.1 11) R77 h q b) ∧ IsMin x.toInt 100000 (fun b => q.testBit b = true) (fun b => (g'.1 11 (9 * q + b)).toInt + sD F10 (h + 1 + b) h) o := by
  obtain ⟨hV, hR, hn, h6, hc, e10, e5, b10, -⟩ := id B
  have o9 : 2 ^ o ≤ 2 ^ 9 := p2_le (by omega)
  have key : ∀ d l x g', l + d = o → (∀ a, a ≠ 11 → g'.1 a = g.1 a) → g'.2 = g.2 → (∀ j, ¬ (9 * q ≤ j ∧ j < 9 * q + l) → g'.1 11 j = g.1 11 j) → (∀ b, b < l → q.testBit b = true → CPr (g'.1 11) R77 h q b) → IsMin x.toInt 100000 (fun b => q.testBit b = true) (fun b => (g'.1 11 (9 * q + b)).toInt + sD F10 (h + 1 + b) h) l → ∃ (x' : Int32) (g'' : Hq), lop (r_X6_shortestTour_7 V) (8, nI h, nI o, nI q, x, nI l, g') = some (x', g'') ∧ (∀ a, a ≠ 11 → g''.1 a = g.1 a) ∧ g''.2 = g.2 ∧ (∀ j, ¬ (9 * q ≤ j ∧ j < 9 * q + o) → g''.1 11 j = g.1 11 j) ∧ (∀ b, q.testBit b = true → CPr (g''.1 11) R77 h q b) ∧ IsMin x'.toInt 100000 (fun b => q.testBit b = true) (fun b => (g''.1 11 (9 * q + b)).toInt + sD F10 (h + 1 + b) h) o := by
    intro d
    induction d with
    | zero =>
      intro l x g' hl f1 f2 f3 f4 f5
      have e : l = o := by omega
      subst e
      refine ⟨x, g', lop_r ?_, f1, f2, f3, fun b pb => f4 b (bit_lt hq pb) pb, f5⟩
      show r_X6_shortestTour_7' V 8 (nI h) (nI l) (nI q) x (nI l) g' = _
      unfold r_X6_shortestTour_7'
      rw [brn_t (nI_le (Nat.le_refl _) (by omega))]
    | succ d ih =>
      intro l x g' hl f1 f2 f3 f4 f5
      have B' : CB V n cs F10 F5 g' := B.f ⟨fun a h1 _ => f1 a h1, f2⟩
      have st : r_X6_shortestTour_7 V (8, nI h, nI o, nI q, x, nI l, g') = r_X6_shortestTour_7' V 8 (nI h) (nI o) (nI q) x (nI l) g' := rfl
      unfold r_X6_shortestTour_7' at st
      rw [brn_f (nI_ge (by omega) (by omega))] at st
      by_cases c : q.testBit l = true
      · have xl := xor_lt c
        have HP' : ∀ b, (q ^^^ 2 ^ l).testBit b = true → CPr (g'.1 11) R77 h (q ^^^ 2 ^ l) b := fun b pb => by
          have b9 := bit_lt (n := o) (show q ^^^ 2 ^ l < 2 ^ o by omega) pb
          have := HPs (q ^^^ 2 ^ l) (bit_pos pb) xl b pb
          unfold CPr
          rw [f3 _ (by omega)]
          exact this
        obtain ⟨y, y1, y2, y3⟩ := x_path (l := l) B' ho (show q ^^^ 2 ^ l < 2 ^ o by omega) (by omega) (fun b pb => (HP' b pb).2)
        have rel := path_rel hn ho hq c ml hd HP' y2 y3
        obtain ⟨s1, s2⟩ := b10 h (h + 1 + l) (by omega) (by omega)
        obtain ⟨s3, s4⟩ := b10 (h + 1 + l) h (by omega) (by omega)
        have yb : 0 ≤ y.toInt ∧ y.toInt ≤ 1000000 := by
          by_cases z : q ^^^ 2 ^ l = 0
          · rw [y2 z]; exact ⟨s1, s2⟩
          · refine ⟨mi_nn (y3 z) (by decide) (fun b hb pb => ?_), by have := (y3 z).1; omega⟩
            have := (HP' b pb).2.1
            have := (b10 (h + 1 + b) (h + 1 + l) (by omega) (by omega)).1
            show 0 ≤ _ + (F10 (10 * (h + 1 + b) + (h + 1 + l))).toInt
            omega
        have sum : (y + F10 (10 * (h + 1 + l) + h)).toInt = y.toInt + sD F10 (h + 1 + l) h := i_sum (m := 0) yb.1 yb.2 s3 s4
        have g10 : (sI g' 11 (9 * q + l) y).1 10 = F10 := by rw [sI_1, up2_nk _ _ _ (by decide), f1 10 (by decide)]; exact e10
        rw [brn_t ((b_bit1 (by omega) (by omega)).mpr c), grd_t (v_8 hV), b_one (by omega), show nI q &&& (nI (2 ^ l) ^^^ (-1 : Int32)) = nI (q ^^^ 2 ^ l) from b_clr ⟨q, by omega⟩ ⟨l, by omega⟩ c, y1, bnd_some, q_8_2 B'.2.1, bind_some', show nI q * (9 : Int32) + nI l = nI (9 * q + l) by rw [show (9 : Int32) = nI 9 from rfl, pk_mul, nI_add, Nat.mul_comm], grd_t (ok_nI (n := 4608) (t := 0) (v_11 hV) (by omega) (by decide)), cl_nI (by omega), nm_eq, sI_3, q_8_1 B'.2.1, bind_some', show (nI h + 1 + nI l) * (10 : Int32) + nI h = nI (10 * (h + 1 + l) + h) by rw [nI_1, nI_add, show (10 : Int32) = nI 10 from rfl, pk_mul, nI_add, Nat.mul_comm], grd_t (ok_nI (n := 100) (t := 0) (v_10 hV) (by omega) (by decide)), cl_nI (by omega), g10, nm_eq, nm_eq, nI_1] at st
        rw [lop_l st]
        have w11 : ∀ j, j ≠ 9 * q + l → (sI g' 11 (9 * q + l) y).1 11 j = g'.1 11 j := fun j hj => by rw [sI_1, up2_ne _ _ (Or.inr hj)]
        have w11s : (sI g' 11 (9 * q + l) y).1 11 (9 * q + l) = y := by rw [sI_1, up2_s]
        refine ih (l + 1) _ _ (by omega) (fun a ha => by rw [sI_1, up2_nk _ _ _ ha]; exact f1 a ha) f2 (fun j hj => by rw [w11 j (by omega)]; exact f3 j (by omega)) (fun b hb pb => ?_) ?_
        · by_cases z : b = l
          · subst z
            unfold CPr
            rw [w11s]
            exact ⟨rel, yb.1, yb.2⟩
          · have := f4 b (by omega) pb
            unfold CPr
            rw [w11 _ (by omega)]
            exact this
        · have f5' : IsMin x.toInt 100000 (fun b => q.testBit b = true) (fun b => ((sI g' 11 (9 * q + l) y).1 11 (9 * q + b)).toInt + sD F10 (h + 1 + b) h) l := mi_cg f5 (fun k hk _ => by rw [w11 _ (by omega)])
          by_cases w : y + F10 (10 * (h + 1 + l) + h) < x
          · rw [if_pos w]
            rw [i_lt, sum] at w
            exact mi_lt f5' c (by rw [w11s]; exact sum) (by omega)
          · rw [if_neg w]
            rw [i_lt, sum] at w
            exact mi_ge f5' (by rw [w11s]; omega)
      · rw [brn_f (fun z => c ((b_bit1 (by omega) (by omega)).mp z)), nm_eq, nI_1] at st
        rw [lop_l st]
        exact ih (l + 1) x g' (by omega) f1 f2 (fun j hj => f3 j (by omega)) (fun b hb pb => f4 b (by
          by_cases z : b = l
          · subst z; exact absurd pb c
          · omega) pb) (mi_n f5 c)
  unfold r_X6_shortestTour
  exact key o 0 100000 g (by omega) (fun _ _ => rfl) rfl (fun _ _ => rfl) (fun b hb => absurd hb (by omega)) mi_0
theorem x_within {V : Vk} {n s : Nat} {cs : Nat → Nat} {F10 F5 : Nat → Int32} {g : Hq} (B : CB V n cs F10 F5 g) (hs : s < 1024) : ∃ x : Int32, r_X6_leastWithin V 8 (nI s) 3 g = some (x, g) ∧ IsMin x.toInt 999 (fun i => s.testBit i = true) (wI F5 cs) n := by
  obtain ⟨hV, hR, hn, h6, hc, e10, e5, b10, -⟩ := id B
  have key : ∀ d i x, i + d = n → IsMin x.toInt 999 (fun i => s.testBit i = true) (wI F5 cs) i → ∃ x' : Int32, lop (r_X6_leastWithin_7 V) (8, nI s, 3, x, nI i, g) = some (x', g) ∧ IsMin x'.toInt 999 (fun i => s.testBit i = true) (wI F5 cs) n := by
    intro d
    induction d with
    | zero =>
      intro i x hi hx
      have e : i = n := by omega
      subst e
      refine ⟨x, lop_r ?_, hx⟩
      show r_X6_leastWithin_7' V 8 (nI s) 3 x (nI i) g = _
      unfold r_X6_leastWithin_7'
      rw [grd_t (v_8 hV), h6, brn_t (nI_le (Nat.le_refl _) (by omega))]
    | succ d ih =>
      intro i x hi hx
      obtain ⟨c1, c2⟩ := hc i (by omega)
      have st : r_X6_leastWithin_7 V (8, nI s, 3, x, nI i, g) = r_X6_leastWithin_7' V 8 (nI s) 3 x (nI i) g := rfl
      unfold r_X6_leastWithin_7' r_X9_withinAt at st
      rw [grd_t (v_8 hV), h6, brn_f (nI_ge (by omega) (by omega))] at st
      by_cases c : s.testBit i = true
      · rw [brn_t ((b_bit1 (by omega) (by omega)).mpr c), q_8_0 hR, bind_some', grd_t (ok_nI (n := 10) (t := 0) (v_9 hV) (by omega) (by decide)), grd_t (v_3 hV), cl_nI (by omega), c1, grd_t (v_3 hV), q_3_1 hR, bind_some', grd_t (ok_nI (n := 12) (t := 0) (v_5 hV) c2 (by decide)), cl_nI (by omega), bnd_some, e5, nm_eq, nm_eq, nI_1] at st
        rw [lop_l st]
        refine ih (i + 1) _ (by omega) ?_
        by_cases w : F5 (cs i) < x
        · rw [if_pos w]
          rw [i_lt] at w
          exact mi_lt hx c rfl (by omega)
        · rw [if_neg w]
          rw [i_lt] at w
          exact mi_ge hx (by unfold wI; omega)
      · rw [brn_f (fun z => c ((b_bit1 (by omega) (by omega)).mp z)), nm_eq, nI_1] at st
        rw [lop_l st]
        exact ih (i + 1) x (by omega) (mi_n hx c)
  unfold r_X6_leastWithin
  exact key n 0 999 (by omega) mi_0
/-- a tour's length, as the reference has it -/
def TCk (R12 R78 : Nat → Int32) (s : Nat) : Prop := (0 ≤ (R78 s).toInt ∧ (R78 s).toInt ≤ 999 ∧ R12 s = R78 s) ∨ (R78 s = 1000000 ∧ R12 s = 100000)
theorem TCk_cg {R12 R12' R78 : Nat → Int32} {s : Nat} (h : TCk R12 R78 s) (e : R12' s = R12 s) : TCk R12' R78 s := by unfold TCk; rw [e]; exact h
set_option maxHeartbeats 4000000 in
theorem x_mt {D : Nat → Nat → Int} {V : Vk} {n h : Nat} {cs : Nat → Nat} {F10 F5 R77 R78 : Nat → Int32} {g : Hq} (B : CB V n cs F10 F5 g) (hh : h < n) (ml : MLok D (wI F5 cs) n R77 R78 (2 ^ n)) (hd : ∀ i j, i < n → j < n → 0 ≤ D i j ∧ 0 ≤ sD F10 i j ∧ e1k (sD F10 i j) (D i j)) (dg : ∀ i, i < n → D i i = 0) (old : ∀ s, 0 < s → s < 2 ^ n → low s < h → TCk (g.1 12) R78 s) : ∃ g', r_X6_measureTours V 8 (nI h) 3 g = some ((), g') ∧ Fp g g' ∧ ∀ s, 0 < s → s < 2 ^ n → low s < h + 1 → TCk (g'.1 12) R78 s := by
  obtain ⟨hV, hR, hn, h6, hc, e10, e5, b10, b5⟩ := id B
  have n10 := p2_le hn
  have h10 := p2_lt (show h < 10 by omega)
  obtain ⟨o, ho⟩ : ∃ o, h + 1 + o = n := ⟨n - h - 1, by omega⟩
  have o9 : 2 ^ o ≤ 2 ^ 9 := p2_le (by omega)
  have wb : ∀ i, i < n → 1 ≤ wI F5 cs i ∧ wI F5 cs i ≤ 999 := fun i hi => b5 _ (hc i hi).2
  -- the least place alone
  have t0 : R78 (prt h 0) = 0 := by
    have pl : prt h 0 < 2 ^ n := prt_lt (o := o) (Nat.pow_pos (by decide)) ho
    have lw := prt_low (h := h) (q := 0) (by omega)
    obtain ⟨m1, best, bound, m2, m3, m4⟩ := ml (prt h 0) prt_pos pl
    have p0 : (R77 (10 * prt h 0 + h)).toInt = 0 := by
      have := (m1 h prt_h).2.2.1 lw.symm
      rw [if_pos prt_0] at this
      exact this
    have bs : best = 0 := by
      have up := m2.2.1 h hh prt_h
      dsimp only at up
      rw [lw, p0, dg h hh] at up
      rcases m2.2.2 with c | ⟨k, k1, k2, k3⟩
      · omega
      · rcases prt_cs k2 with e | ⟨b, -, e⟩
        · dsimp only at k3
          rw [e, lw, p0, dg h hh] at k3; omega
        · rw [Nat.zero_testBit] at e; cases e
    have bb : 1 ≤ bound := by
      rcases m3.2.2 with c | ⟨k, k1, k2, k3⟩
      · omega
      · have := (wb k k1).1; omega
    rw [i_eq, m4, if_neg (by omega), bs]; rfl
  obtain ⟨ga, ega⟩ : ∃ ga, ga = sI g 12 (2 ^ h) 0 := ⟨_, rfl⟩
  have fa : Fp g ga := by rw [ega]; exact Fp.w (Or.inr rfl)
  have Ba := B.f fa
  have old_w : ∀ (gg : Hq) (q : Nat) (v : Int32), q < 2 ^ o → (∀ s, 0 < s → s < 2 ^ n → low s < h → TCk (gg.1 12) R78 s) → ∀ s, 0 < s → s < 2 ^ n → low s < h → TCk ((sI gg 12 (prt h q) v).1 12) R78 s := by
    intro gg q v hq k s s0 s1 s2
    have pl : prt h q < 2 ^ n := prt_lt hq ho
    have ne : s ≠ prt h q := fun z => by have := prt_low (h := h) (q := q) (by omega); rw [← z] at this; omega
    exact TCk_cg (k s s0 s1 s2) (by rw [sI_1, up2_ne _ _ (Or.inr ne)])
  have key : ∀ d q g', q + d = 2 ^ o → 0 < q → Fp g g' → (∀ q', 0 < q' → q' < q → ∀ b, q'.testBit b = true → CPr (g'.1 11) R77 h q' b) → (∀ s, 0 < s → s < 2 ^ n → low s < h → TCk (g'.1 12) R78 s) → (∀ q', q' < q → TCk (g'.1 12) R78 (prt h q')) → ∃ g'', lop (r_X6_measureTours_21 V) (8, nI h, 3, nI o, nI q, g') = some ((), g'') ∧ Fp g g'' ∧ ∀ s, 0 < s → s < 2 ^ n → low s < h + 1 → TCk (g''.1 12) R78 s := by
    intro d
    induction d with
    | zero =>
      intro q g' hq q0 f1 f2 f3 f4
      have e : q = 2 ^ o := by omega
      refine ⟨g', lop_r ?_, f1, fun s s0 s1 s2 => ?_⟩
      · show r_X6_measureTours_21' V 8 (nI h) 3 (nI o) (nI q) g' = _
        unfold r_X6_measureTours_21'
        rw [b_one (by omega), brn_t (nI_le (by omega) (by omega))]
      · by_cases z : low s = h
        · obtain ⟨q', q1, q2, q3⟩ := prt_of s0 s1 hn
          rw [z] at q1 q3
          rw [q1]
          exact f4 q' (by rw [e, show o = n - 1 - h by omega]; exact q3)
        · exact f3 s s0 s1 (by omega)
    | succ d ih =>
      intro q g' hq q0 f1 f2 f3 f4
      have B' := B.f f1
      have ql : q < 2 ^ o := by omega
      have pl : prt h q < 2 ^ n := prt_lt ql ho
      have lw := prt_low (h := h) (q := q) (by omega)
      obtain ⟨x, g2, k1, k2, k3, k4, k5, k6⟩ := x_tour B' ho ql ml hd f2
      have fp2 : Fp g' g2 := ⟨fun a h1 _ => k2 a h1, k3⟩
      have B2 := B'.f fp2
      obtain ⟨y, y1, y2⟩ := x_within (s := prt h q) B2 (by omega)
      obtain ⟨m1, best, bound, m2, m3, m4⟩ := ml (prt h q) prt_pos pl
      rw [lw] at m2
      have far : (R77 (10 * prt h q + h)).toInt = 1000000 := by
        have := (m1 h prt_h).2.2.1 lw.symm
        rw [if_neg (prt_ne (by omega))] at this
        exact this
      have rel : e1k x.toInt best := by
        refine mi_rel k6 m2 (by decide) (by decide) (fun b hb pb => ?_) (fun i hi pi => ?_)
        · obtain ⟨c1, c2, c3⟩ := k5 b pb
          obtain ⟨d1, d2, d3⟩ := hd (h + 1 + b) h (by omega) hh
          have c4 := (m1 (h + 1 + b) (by rw [prt_s]; exact pb)).1
          exact ⟨h + 1 + b, by omega, by rw [prt_s]; exact pb, e1k_add c1 d3 c2 c4 d2 d1⟩
        · rcases prt_cs pi with c | ⟨b, c, pb⟩
          · left
            show 1000 ≤ (R77 (10 * prt h q + i)).toInt + D i h
            rw [c, far, dg h hh]; omega
          · right
            subst c
            obtain ⟨c1, c2, c3⟩ := k5 b pb
            obtain ⟨d1, d2, d3⟩ := hd (h + 1 + b) h (by omega) hh
            have c4 := (m1 (h + 1 + b) (by rw [prt_s]; exact pb)).1
            exact ⟨b, by omega, pb, e1k_add c1 d3 c2 c4 d2 d1⟩
      have x0 : 0 ≤ x.toInt := mi_nn k6 (by decide) (fun b hb pb => by
        have := (k5 b pb).2.1
        have := (hd (h + 1 + b) h (by omega) hh).2.1
        omega)
      have yb : y.toInt = bound := by
        have b1 := m3.2.1 h hh prt_h
        have b2 := (wb h hh).2
        rcases m3.2.2 with c | ⟨k, c1, c2, c3⟩
        · omega
        · have b3 := y2.2.1 k c1 c2
          rcases y2.2.2 with e | ⟨k', e1, e2, e3⟩
          · omega
          · have := m3.2.1 k' e1 e2; omega
      have y9 := y2.1
      have st : r_X6_measureTours_21 V (8, nI h, 3, nI o, nI q, g') = r_X6_measureTours_21' V 8 (nI h) 3 (nI o) (nI q) g' := rfl
      unfold r_X6_measureTours_21' at st
      rw [b_one (by omega), brn_f (nI_ge ql (by omega)), prt_I (by omega) (by omega), nm_eq, grd_t (v_8 hV), k1, bnd_some, q_8_3 B2.2.1, bind_some', y1, bnd_some] at st
      have o12 : okV V 12 0 (nI (prt h q)) := ok_nI (n := 1024) (v_12 hV) (by omega) (by decide)
      have fin : ∀ v : Int32, (v = R78 (prt h q) ∧ 0 ≤ (R78 (prt h q)).toInt ∧ (R78 (prt h q)).toInt ≤ 999) ∨ (R78 (prt h q) = 1000000 ∧ v = 100000) → r_X6_measureTours_21 V (8, nI h, 3, nI o, nI q, g') = some (.inl (8, nI h, 3, nI o, nI (q + 1), sI g2 12 (prt h q) v)) → ∃ g'', lop (r_X6_measureTours_21 V) (8, nI h, 3, nI o, nI q, g') = some ((), g'') ∧ Fp g g'' ∧ ∀ s, 0 < s → s < 2 ^ n → low s < h + 1 → TCk (g''.1 12) R78 s := by
        intro v hv e
        rw [lop_l e]
        have g11 : (sI g2 12 (prt h q) v).1 11 = g2.1 11 := by rw [sI_1, up2_nk _ _ _ (by decide)]
        refine ih (q + 1) _ (by omega) (by omega) ((f1.tr fp2).tr (Fp.w (Or.inr rfl))) (fun q' p0 p1 b pb => ?_) (old_w g2 q v ql (fun s s0 s1 s2 => TCk_cg (f3 s s0 s1 s2) (by rw [k2 12 (by decide)]))) (fun q' hq' => ?_)
        · rw [g11]
          by_cases z : q' = q
          · subst z; exact k5 b pb
          · have b9 := bit_lt (n := o) (show q' < 2 ^ o by omega) pb
            have := f2 q' p0 (by omega) b pb
            unfold CPr
            rw [k4 _ (by omega)]
            exact this
        · by_cases z : q' = q
          · subst z
            unfold TCk
            rw [sI_1, up2_s]
            rcases hv with ⟨v1, v2, v3⟩ | ⟨v1, v2⟩
            · exact Or.inl ⟨v2, v3, v1⟩
            · exact Or.inr ⟨v1, v2⟩
          · exact TCk_cg (f4 q' (by omega)) (by rw [sI_1, up2_ne _ _ (Or.inr (fun w => z (prt_inj w))), k2 12 (by decide)])
      by_cases w : y < x
      · rw [brn_t w, grd_t o12, cl_nI (by omega), nm_eq, nm_eq, nI_1] at st
        rw [i_lt] at w
        refine fin 100000 (Or.inr ⟨?_, rfl⟩) st
        rw [i_eq, m4, if_pos (by unfold e1k at rel; omega)]; rfl
      · rw [brn_f w, grd_t o12, cl_nI (by omega), nm_eq, nm_eq, nI_1] at st
        rw [i_lt] at w
        have xb : x.toInt = best := by unfold e1k at rel; omega
        have r78 : (R78 (prt h q)).toInt = x.toInt := by rw [m4, if_neg (by omega), xb]
        exact fin x (Or.inl ⟨by rw [i_eq, r78], by omega, by omega⟩) st
  unfold r_X6_measureTours
  rw [grd_t (v_8 hV), q_8_3 hR, bind_some', b_one (by omega), grd_t (ok_nI (n := 1024) (t := 0) (v_12 hV) (by omega) (by decide)), cl_nI (by omega), nm_eq, ← ega, Ba.2.2.2.1, show nI n - (1 : Int32) - nI h = nI o by rw [show (1 : Int32) = nI 1 from rfl, pk_sub (by omega), pk_sub (by omega), show n - 1 - h = o by omega], nm_eq]
  refine key (2 ^ o - 1) 1 ga (by have := Nat.pow_pos (n := o) (show 0 < 2 by decide); omega) (by decide) fa (fun q' p0 p1 => absurd p1 (by omega)) ?_ (fun q' hq' => ?_)
  · have := old_w g 0 0 (Nat.pow_pos (by decide)) old
    rw [prt_0] at this
    rw [ega]; exact this
  · have e : q' = 0 := by omega
    subst e
    refine Or.inl ⟨by rw [t0]; decide, by rw [t0]; decide, ?_⟩
    rw [t0, ega, prt_0, sI_1, up2_s]
