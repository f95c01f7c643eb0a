/-- two answers of a call that may make an object -/
def OpA (V : Vk) (g : Hq) (x : Hq → Option (Int32 × Vk × Hq)) (m : Vk → Hq → Option (Int32 × Hq)) : Prop := ∃ r V1 g1 g2, x g = some (r, V1, g1) ∧ m V1 g1 = some (r, g2) ∧ Inv V1 g2 ∧ V1 70 = some (12, 0) ∧ V1 0 ≠ none
def hg1 (g : Hq) (n : Nat) (a b : Int32) : Hq := sI (sR (sI (sI (sI (sI (newG g (200 + n)) (200 + n) 3 0) (200 + n) 4 (-1)) (200 + n) 0 a) (200 + n) 1 b) 21 n (some (200 + n))) 20 1 (nI (n + 1))
def hg2 (g : Hq) (n : Nat) (a b : Int32) : Hq := sI (sI (sI (sI (hg1 g n a b) 88 n a) 89 n b) 92 n (-1)) 70 32 (nI (n + 1))
theorem hg1_x {g : Hq} {n : Nat} {a b : Int32} {k : Nat} (h1 : k ≠ 200 + n) (h2 : k ≠ 20) : (hg1 g n a b).1 k = g.1 k := by
  unfold hg1
  simp only [sI_1, sR_1]
  rw [up2_nk _ _ _ h2, up2_nk _ _ _ h1, up2_nk _ _ _ h1, up2_nk _ _ _ h1, up2_nk _ _ _ h1]
  show upr g.1 (200 + n) _ k = _
  rw [upr_at, if_neg h1]
theorem hg2_x {g : Hq} {n : Nat} {a b : Int32} {k : Nat} (h1 : k ≠ 200 + n) (h2 : k ≠ 20) (h3 : k ≠ 88) (h4 : k ≠ 89) (h5 : k ≠ 92) (h6 : k ≠ 70) : (hg2 g n a b).1 k = g.1 k := by
  unfold hg2
  simp only [sI_1]
  rw [up2_nk _ _ _ h6, up2_nk _ _ _ h5, up2_nk _ _ _ h4, up2_nk _ _ _ h3, hg1_x h1 h2]
theorem hg2_70 {g : Hq} {n : Nat} {a b : Int32} {j : Nat} (h : j ≠ 32) : (hg2 g n a b).1 70 j = g.1 70 j := by
  unfold hg2
  simp only [sI_1]
  rw [up2_ne _ _ (Or.inr h), up2_ne _ _ (Or.inl (by decide)), up2_ne _ _ (Or.inl (by decide)), up2_ne _ _ (Or.inl (by decide)), hg1_x (by omega) (by decide)]
theorem hg2_R {g : Hq} {n : Nat} {a b : Int32} {k j : Nat} (h1 : k ≠ 200 + n) (h2 : k ≠ 21 ∨ j ≠ n) : (hg2 g n a b).2.2 k j = g.2.2 k j := by
  unfold hg2 hg1
  simp only [sI_3, sR_3]
  rw [up2_ne _ _ h2]
  show upr g.2.2 (200 + n) _ k j = _
  rw [upr_at, if_neg h1]
theorem hg2_L {g : Hq} {n : Nat} {a b : Int32} {k : Nat} (h1 : k ≠ 200 + n) : (hg2 g n a b).2.1 k = g.2.1 k := by
  unfold hg2 hg1
  simp only [sI_2, sR_2]
  show upr g.2.1 (200 + n) _ k = _
  rw [upr_at, if_neg h1]
theorem hg2_Inv {V : Vk} {g : Hq} {n c : Nat} {a b : Int32} (h : Inv V g) (hh : RH V g.1 g.2.2 n) (hy : ∀ w, w < 4 → RY1 g.1 n w) (hn : RN V g.1 g.2.2 c) (hr : RR g.2.2 n c) (n6 : n < 60) (a0 : 0 ≤ a.toInt) (a3 : a.toInt ≤ 3) (b0 : 1500 ≤ b.toInt) (b1 : b.toInt ≤ 1799) : Inv (newV V (200 + n) (2, 0)) (hg2 g n a b) := by
  have ex : ∀ k, k < 200 → k ≠ 20 → k ≠ 88 → k ≠ 89 → k ≠ 92 → k ≠ 70 → (hg2 g n a b).1 k = g.1 k := fun k h1 h2 h3 h4 h5 h6 => hg2_x (by omega) h2 h3 h4 h5 h6
  have vx : ∀ k, k ≠ 200 + n → newV V (200 + n) (2, 0) k = V k := fun k hk => by unfold newV; rw [if_neg hk]
  refine ⟨fun k hk => ?_, fun q hq => ?_, ?_, ?_, ?_, ?_, ?_, ?_, ?_, n + 1, c, ?_, ?_, ?_, ?_⟩
  · rw [vx k (by omega)]; exact h.v k hk
  · have q1 : q.1 < 107 ∧ q.1 ≠ 21 := (by decide +kernel : ∀ q ∈ rfs, q.1 < 107 ∧ q.1 ≠ 21) q hq
    rw [hg2_R (by omega) (Or.inl q1.2)]
    exact h.r q hq
  · exact h.t.cg (ex 1 (by omega) (by omega) (by omega) (by omega) (by omega) (by omega)) (ex 2 (by omega) (by omega) (by omega) (by omega) (by omega) (by omega)) (ex 71 (by omega) (by omega) (by omega) (by omega) (by omega) (by omega)) (hg2_70 (by decide))
  · exact cgW h.w (fun k hk => by unfold sW at hk; exact ex k (by omega) (by omega) (by omega) (by omega) (by omega) (by omega))
  · exact cgP h.p (fun k hk => by unfold sP at hk; exact ex k (by omega) (by omega) (by omega) (by omega) (by omega) (by omega)) (hg2_70 (by decide)) (hg2_70 (by decide)) (hg2_70 (by decide)) (hg2_L (by omega)) (hg2_L (by omega))
  · exact cgF h.f (ex 18 (by omega) (by omega) (by omega) (by omega) (by omega) (by omega)) (hg2_70 (by decide)) (hg2_70 (by decide))
  · exact cgLw h.l (fun k hk => by unfold sLw at hk; exact ex k (by omega) (by omega) (by omega) (by omega) (by omega) (by omega)) (hg2_R (by omega) (Or.inl (by decide))) (fun w hw => hg2_R (by omega) (Or.inl (by omega)))
  · exact cgG h.g (ex 24 (by omega) (by omega) (by omega) (by omega) (by omega) (by omega)) (hg2_70 (by decide)) (hg2_70 (by decide))
  · exact cgX h.x (hg2_70 (by decide)) (hg2_L (by omega))
  · obtain ⟨h1, h2, h3, h4, h5⟩ := hh
    have e20 : (hg2 g n a b).1 20 1 = nI (n + 1) := by
      unfold hg2
      simp only [sI_1]
      rw [up2_nk _ _ _ (by decide), up2_nk _ _ _ (by decide), up2_nk _ _ _ (by decide), up2_nk _ _ _ (by decide)]
      unfold hg1
      rw [sI_1, up2_s]
    have e70 : (hg2 g n a b).1 70 32 = nI (n + 1) := by unfold hg2; rw [sI_1, up2_s]
    have rowx : ∀ k j, (k = 88 ∨ k = 89 ∨ k = 92) → j ≠ n → (hg2 g n a b).1 k j = g.1 k j := by
      intro k j hk hj
      unfold hg2
      simp only [sI_1]
      rw [up2_ne _ _ (Or.inl (by omega)), up2_ne _ _ (Or.inr hj), up2_ne _ _ (Or.inr hj), up2_ne _ _ (Or.inr hj), hg1_x (by omega) (by omega)]
    have e88 : (hg2 g n a b).1 88 n = a := by
      unfold hg2; simp only [sI_1]
      rw [up2_ne _ _ (Or.inl (by decide)), up2_ne _ _ (Or.inl (by decide)), up2_ne _ _ (Or.inl (by decide)), up2_s]
    have e89 : (hg2 g n a b).1 89 n = b := by
      unfold hg2; simp only [sI_1]
      rw [up2_ne _ _ (Or.inl (by decide)), up2_ne _ _ (Or.inl (by decide)), up2_s]
    have e92 : (hg2 g n a b).1 92 n = -1 := by
      unfold hg2; simp only [sI_1]
      rw [up2_ne _ _ (Or.inl (by decide)), up2_s]
    have ex90 := ex 90 (by omega) (by omega) (by omega) (by omega) (by omega) (by omega)
    have ex91 := ex 91 (by omega) (by omega) (by omega) (by omega) (by omega) (by omega)
    have ex93 := ex 93 (by omega) (by omega) (by omega) (by omega) (by omega) (by omega)
    have eob : ∀ j, (hg2 g n a b).1 (200 + n) j = if j = 1 then b else if j = 0 then a else if j = 4 then -1 else 0 := by
      intro j
      unfold hg2; simp only [sI_1]
      rw [up2_nk _ _ _ (by omega), up2_nk _ _ _ (by omega), up2_nk _ _ _ (by omega), up2_nk _ _ _ (by omega)]
      unfold hg1; simp only [sI_1, sR_1]
      rw [up2_nk _ _ _ (by omega)]
      simp only [up2_at, newG, upr_at, true_and, if_true]
      by_cases j3 : j = 3
      · subst j3; simp
      · simp [j3]
    refine ⟨by omega, e20, e70, fun i hi => ?_, fun i hi hi6 => ?_⟩
    · by_cases e : i = n
      · subst e
        refine ⟨?_, by unfold newV; rw [if_pos rfl], ?_⟩
        · unfold hg2 hg1
          simp only [sI_3, sR_3]
          rw [up2_s]
        · obtain ⟨-, z90, z91, z93⟩ := h5 i (Nat.le_refl i) n6
          simp only [eob, e88, e89, e92, ex90, ex91, ex93, z90, z91, z93]
          simp
          exact ⟨a0, a3, b0, b1⟩
      · have hi2 : i < n := by omega
        obtain ⟨r1, r2, x0, x1, x2, x3, x4, x5, y⟩ := h4 i hi2
        have eo : (hg2 g n a b).1 (200 + i) = g.1 (200 + i) := hg2_x (by omega) (by omega) (by omega) (by omega) (by omega) (by omega)
        rw [eo, ex90, ex91, ex93, rowx 88 i (by omega) e, rowx 89 i (by omega) e, rowx 92 i (by omega) e, hg2_R (by omega) (Or.inr e), vx _ (by omega)]
        exact ⟨r1, r2, x0, x1, x2, x3, x4, x5, y⟩
    · obtain ⟨z0, z1, z2, z3⟩ := h5 i (by omega) hi6
      rw [vx _ (by omega), ex90, ex91, ex93]
      exact ⟨z0, z1, z2, z3⟩
  · intro w hw
    have := cgY hw (hy w hw) (I2 := (hg2 g n a b).1) (fun k hk => by unfold sY at hk; exact ex k (by omega) (by omega) (by omega) (by omega) (by omega) (by omega))
    obtain ⟨y1, y2, y3, y4, y5⟩ := this
    exact ⟨y1, y2, y3, by omega, y5⟩
  · have hN := cgN hn (I2 := (hg2 g n a b).1) (R2 := (hg2 g n a b).2.2) (fun k hk => by unfold sN at hk; exact hg2_x (by omega) (by omega) (by omega) (by omega) (by omega) (by omega)) (hg2_70 (by decide)) (by funext j; exact hg2_R (by omega) (Or.inl (by decide)))
    obtain ⟨m1, m2, m3, m4, m5, m6⟩ := hN
    refine ⟨m1, m2, m3, fun i hi => ?_, fun i hi hi2 => by rw [vx _ (by omega)]; exact m5 i hi hi2, m6⟩
    rw [vx _ (by omega)]
    exact m4 i hi
  · intro k j r hk
    by_cases e : k = 200 + n
    · subst e
      have : (hg2 g n a b).2.2 (200 + n) j = none := by
        unfold hg2 hg1
        simp only [sI_3, sR_3]
        rw [up2_nk _ _ _ (by omega)]
        show upr g.2.2 (200 + n) _ (200 + n) j = _
        rw [upr_at, if_pos rfl]
      rw [this] at hk
      cases hk
    · by_cases e2 : k = 21 ∧ j = n
      · obtain ⟨rfl, rfl⟩ := e2
        have : (hg2 g j a b).2.2 21 j = some (200 + j) := by
          unfold hg2 hg1
          simp only [sI_3, sR_3]
          rw [up2_s]
        rw [this] at hk
        cases hk
        exact Or.inr (Or.inl ⟨j, by omega, rfl⟩)
      · rw [hg2_R e (by omega)] at hk
        rcases hr k j r hk with h1 | ⟨i, h1, h2⟩ | h1
        · exact Or.inl h1
        · exact Or.inr (Or.inl ⟨i, by omega, h2⟩)
        · exact Or.inr (Or.inr h1)
theorem k60 : (60 : Int32) = nI 60 := rfl
theorem op_house {V : Vk} {g : Hq} (h : Inv V g) (a b : Int32) : OpA V g (r_X11_house V 0 a b) (fun V => r_X12_house V 70 a b) := by
  have hv0 := v_0 h.v
  have hv := v_70 h.v
  have hv0' : V 0 ≠ none := by rw [hv0]; simp
  by_cases h1 : 0 ≤ a ∧ a ≤ 3
  · by_cases h2 : 1500 ≤ b ∧ b ≤ 1799
    · obtain ⟨-, -, -, -, -, -, -, -, -, n, c, hh, hy, hn, hr⟩ := id h
      by_cases n6 : n < 60
      · have c1 := h1.1
        have c2 := h1.2
        have c3 := h2.1
        have c4 := h2.2
        rw [i_le] at c1 c2 c3 c4
        have fr : frK V g (200 + n) := ⟨(hh.2.2.2.2 n (Nat.le_refl n) n6).1, fun k j e => by
          rcases hr k j _ e with q | ⟨i, q1, q2⟩ | ⟨i, q1, q2⟩
          · omega
          · omega
          · omega⟩
        have vx : ∀ k, k ≠ 200 + n → newV V (200 + n) (2, 0) k = V k := fun k hk => by unfold newV; rw [if_neg hk]
        have vn : newV V (200 + n) (2, 0) (200 + n) = some (2, 0) := by unfold newV; rw [if_pos rfl]
        have e20 := hh.2.1
        have lt6 : nI n < 60 := by rw [k60]; exact nI_lt n6 (by decide)
        have sub1 : nI (n + 1) - 1 = nI n := nI_pred n
        have cl := cl_nI (j := n) (by omega)
        refine ⟨nI n, newV V (200 + n) (2, 0), hg1 g n a b, hg2 g n a b, ?_, ?_, hg2_Inv h hh hy hn hr n6 c1 c2 c3 c4, by rw [vx 70 (by omega)]; exact hv, by rw [vx 0 (by omega)]; exact hv0'⟩
        · have hadd : r_X7_add V 20 a b g = some (nI n, newV V (200 + n) (2, 0), hg1 g n a b) := by
            unfold r_X7_add r_X2_init
            rw [grd_t (v_20 h.v), e20, brn_t lt6, q_20_0 h.r, bind_some', nm_eq, cl, grd_t fr, grd_t (by omega : 20 ≠ 200 + n), grd_t (by omega : 21 ≠ 200 + n), nm_eq, nm_eq, grd_t vn, nm_eq, nm_eq, nm_eq, nm_eq, bnd_some, grd_t (ok_nI (n := 60) (t := 5) (by rw [vx 21 (by omega)]; exact v_21 h.v) n6 (by decide)), grd_t vn, nm_eq, grd_t (by rw [vx 20 (by omega)]; exact v_20 h.v), nm_eq]
            have e1 : (sR (sI (sI (sI (sI (newG g (200 + n)) (200 + n) 3 0) (200 + n) 4 (-1)) (200 + n) 0 a) (200 + n) 1 b) 21 n (some (200 + n))).1 20 1 = nI n := by
              simp only [sR_1, sI_1]
              rw [up2_nk _ _ _ (by omega), up2_nk _ _ _ (by omega), up2_nk _ _ _ (by omega), up2_nk _ _ _ (by omega)]
              show upr g.1 (200 + n) _ 20 1 = _
              rw [upr_at, if_neg (by omega), e20]
            rw [e1, nI_1, sI_1, up2_s, sub1]
            rfl
          unfold r_X11_house
          rw [p_isWard, bnd_some, brn_f (by rw [bI_0]; exact fun k => k h1), p_isFrom, bnd_some, brn_f (by rw [bI_0]; exact fun k => k h2), grd_t hv0, q_0_5 h.r, bind_some', grd_t hv0', grd_t (v_20 h.v), hadd]
          rfl
        · have e32 : (hg1 g n a b).1 70 32 = nI n := by rw [hg1_x (by omega) (by decide)]; exact hh.2.2.1
          have rr : ∀ j, (hg1 g n a b).2.2 70 j = g.2.2 70 j := by
            intro j
            unfold hg1
            simp only [sI_3, sR_3]
            rw [up2_nk _ _ _ (by decide)]
            show upr g.2.2 (200 + n) _ 70 j = _
            rw [upr_at, if_neg (by omega)]
          have u1 : (sI (hg1 g n a b) 88 n a).1 70 32 = nI n := by rw [sI_1, up2_ne _ _ (Or.inl (by decide)), e32]
          have u2 : (sI (sI (hg1 g n a b) 88 n a) 89 n b).1 70 32 = nI n := by rw [sI_1, up2_ne _ _ (Or.inl (by decide)), u1]
          have u3 : (sI (sI (sI (hg1 g n a b) 88 n a) 89 n b) 92 n (-1)).1 70 32 = nI n := by rw [sI_1, up2_ne _ _ (Or.inl (by decide)), u2]
          have ne60 : ¬ nI n = 60 := by rw [k60, nI_eq (by omega) (by decide)]; omega
          show r_X12_house (newV V (200 + n) (2, 0)) 70 a b (hg1 g n a b) = _
          unfold r_X12_house
          rw [m_isWard, bnd_some, brn_f (by rw [bI_0]; exact fun k => k h1), p_in, bnd_some, brn_f (by rw [bI_0]; exact fun k => k h2), grd_t (by rw [vx 70 (by omega)]; exact hv), e32, brn_f ne60, rr, q_70_33 h.r, bind_some', grd_t (ok_nI (n := 60) (t := 0) (by rw [vx 88 (by omega)]; exact v_88 h.v) n6 (by decide)), nm_eq, cl, sI_3, rr, q_70_34 h.r, bind_some', u1, grd_t (ok_nI (n := 60) (t := 0) (by rw [vx 89 (by omega)]; exact v_89 h.v) n6 (by decide)), nm_eq, cl, sI_3, sI_3, rr, q_70_37 h.r, bind_some', u2, grd_t (ok_nI (n := 60) (t := 0) (by rw [vx 92 (by omega)]; exact v_92 h.v) n6 (by decide)), nm_eq, cl, u3, nm_eq, nI_1, sI_1, up2_s, sub1]
          rfl
      · have en : n = 60 := by have := hh.1; omega
        subst en
        refine ⟨-3, V, g, g, ?_, ?_, h, hv, hv0'⟩
        · have hadd : r_X7_add V 20 a b g = some (-3, V, g) := by
            unfold r_X7_add
            rw [grd_t (v_20 h.v), hh.2.1, brn_f (by decide)]
          unfold r_X11_house
          rw [p_isWard, bnd_some, brn_f (by rw [bI_0]; exact fun k => k h1), p_isFrom, bnd_some, brn_f (by rw [bI_0]; exact fun k => k h2), grd_t hv0, q_0_5 h.r, bind_some', grd_t hv0', grd_t (v_20 h.v), hadd]
          rfl
        · show r_X12_house V 70 a b g = _
          unfold r_X12_house
          rw [m_isWard, bnd_some, brn_f (by rw [bI_0]; exact fun k => k h1), p_in, bnd_some, brn_f (by rw [bI_0]; exact fun k => k h2), grd_t hv, hh.2.2.1, brn_t (by decide)]
    · refine ⟨-2, V, g, g, ?_, ?_, h, hv, hv0'⟩
      · unfold r_X11_house
        rw [p_isWard, bnd_some, brn_f (by rw [bI_0]; exact fun k => k h1), p_isFrom, bnd_some, brn_t (by rw [bI_0]; exact h2)]
      · show r_X12_house V 70 a b g = _
        unfold r_X12_house
        rw [m_isWard, bnd_some, brn_f (by rw [bI_0]; exact fun k => k h1), p_in, bnd_some, brn_t (by rw [bI_0]; exact h2)]
  · refine ⟨-2, V, g, g, ?_, ?_, h, hv, hv0'⟩
    · unfold r_X11_house
      rw [p_isWard, bnd_some, brn_t (by rw [bI_0]; exact h1)]
    · show r_X12_house V 70 a b g = _
      unfold r_X12_house
      rw [m_isWard, bnd_some, brn_t (by rw [bI_0]; exact h1)]
