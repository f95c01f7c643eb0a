theorem grd_T {α : Type} (x : Option α) : grd True x = x := grd_t trivial
theorem brn_T {α : Type} (x y : Option α) : brn True x y = x := brn_t trivial
theorem brn_F {α : Type} (x y : Option α) : brn False x y = y := brn_f (fun h => h)
theorem nb (c : Prop) : narrow .boolean (.int (bI c)) = .int (bI c) := by
  by_cases h : c
  · rw [bI_t h]; rfl
  · rw [bI_f h]; rfl
theorem p_isCourt (V : Vk) (a : Int32) (g : Hq) : r_X11_isCourt V a g = some (bI (0 ≤ a ∧ a ≤ 11), g) := by
  unfold r_X11_isCourt; rw [p_isFrom, bnd_some, grd_t (nb _)]
theorem p_isWard (V : Vk) (a : Int32) (g : Hq) : r_X11_isWard V a g = some (bI (0 ≤ a ∧ a ≤ 3), g) := by
  unfold r_X11_isWard; rw [p_isFrom, bnd_some, grd_t (nb _)]
theorem m_isCourt (V : Vk) (a : Int32) (g : Hq) : r_X12_isCourt V a g = some (bI (0 ≤ a ∧ a ≤ 11), g) := by
  unfold r_X12_isCourt; rw [p_in, bnd_some, grd_t (nb _)]
theorem m_isWard (V : Vk) (a : Int32) (g : Hq) : r_X12_isWard V a g = some (bI (0 ≤ a ∧ a ≤ 3), g) := by
  unfold r_X12_isWard; rw [p_in, bnd_some, grd_t (nb _)]
/-- a number between 0 and n -/
theorem nat_of {a b : Int32} {n : Nat} (hb : b.toInt = n) (h : 0 ≤ a ∧ a ≤ b) : ∃ j : Nat, j ≤ n ∧ a = nI j := nI_of2 hb (by have := h.1; rw [i_le] at this; rw [i_lt]; have e : (0 : Int32).toInt = 0 := rfl; omega) h.2
theorem ok_nI {V : Vk} {k t n j : Nat} (hv : V k = some (100 + t, n)) (h : j < n) (hn : n < 2 ^ 31) : okV V k t (nI j) := ⟨n, hv, vp_in_nI h hn⟩
theorem cl_nI {j : Nat} (h : j < 2 ^ 31) : (nI j).toNatClampNeg = j := nI_clamp h
theorem sh_w {R : Nat → Nat → Option Nat} (h : ShR R) {w : Nat} (hw : w < 4) : R 19 w = some (31 + 9 * w) := by
  rcases (show w = 0 ∨ w = 1 ∨ w = 2 ∨ w = 3 by omega) with rfl | rfl | rfl | rfl
  · exact q_19_0 h
  · exact q_19_1 h
  · exact q_19_2 h
  · exact q_19_3 h
theorem sh_vw {V : Vk} (h : ShV V) {w : Nat} (hw : w < 4) : V (31 + 9 * w) = some (10, 0) := by
  rcases (show w = 0 ∨ w = 1 ∨ w = 2 ∨ w = 3 by omega) with rfl | rfl | rfl | rfl
  · exact v_31 h
  · exact v_40 h
  · exact v_49 h
  · exact v_58 h
theorem sh_vl {V : Vk} (h : ShV V) {p : Nat} (hp : lawPl p) : V p = some (4, 0) := by
  rcases hp with rfl | rfl | rfl | rfl | rfl
  · exact v_26 h
  · exact v_32 h
  · exact v_41 h
  · exact v_50 h
  · exact v_59 h
theorem ward_in (w : Nat) (hw : w < 4) : (0 : Int32) ≤ nI w ∧ nI w ≤ 3 := ⟨nI_le (a := 0) (by omega) (by omega), nI_le (b := 3) (by omega) (by omega)⟩
theorem op_fault {V : Vk} {g : Hq} (h : Inv V g) (a : Int32) : Op V g (r_X11_fault V 0 a) (r_X12_fault V 70 a) := by
  obtain ⟨f1, f2⟩ := h.f
  have hv0 := v_0 h.v
  have hv3 := v_18 h.v
  have hv := v_70 h.v
  have hq := q_0_3 h.r
  by_cases a0 : a = 0
  · refine ⟨g.1 70 8, g, g, ?_, ?_, h⟩
    · unfold r_X11_fault r_X3_faultKind; simp [a0, brn_T, brn_F, grd_T, hv0, hv3, hq, bind_some', bnd_some, f1]
    · unfold r_X12_fault; simp [a0, brn_T, grd_T, hv]
  · by_cases a1 : a = 1
    · refine ⟨g.1 70 9, g, g, ?_, ?_, h⟩
      · unfold r_X11_fault r_X3_faultPlace; simp [a0, a1, brn_T, brn_F, grd_T, hv0, hv3, hq, bind_some', bnd_some, f2]
      · unfold r_X12_fault; simp [a0, a1, brn_T, brn_F, grd_T, hv]
    · refine ⟨-1, g, g, ?_, ?_, h⟩
      · unfold r_X11_fault; simp [a0, a1, brn_F]
      · unfold r_X12_fault; simp [a0, a1, brn_F]
theorem op_fled {V : Vk} {g : Hq} (h : Inv V g) (a : Int32) : Op V g (r_X11_fled V 0 a) (r_X12_fled V 70 a) := by
  have hv0 := v_0 h.v
  have hv3 := v_24 h.v
  have hv := v_70 h.v
  have hq := q_0_7 h.r
  have key : ∃ r, r_X1_tell V 24 a g = some (r, g) ∧ r_X12_fled V 70 a g = some (r, g) := by
    unfold r_X1_tell r_X12_fled
    rcases h.g with ⟨e1, e2, e3⟩ | ⟨e1, e2, e3⟩
    · refine ⟨-9, ?_, ?_⟩
      · simp [hv3, grd_T, brn_T, e1]
      · by_cases a0 : a = 0
        · simp [a0, hv, grd_T, brn_T, e2]
        · by_cases a1 : a = 1
          · simp [a1, hv, grd_T, brn_T, brn_F, e3]
          · simp [a0, a1, brn_F]
    · have e4 : ¬ g.1 24 3 = -1 := by intro e; rw [e] at e1; exact absurd e1 (by decide)
      have e5 : ¬ g.1 70 53 = -1 := by rw [← e3]; exact e4
      by_cases a0 : a = 0
      · exact ⟨g.1 70 52, by simp [a0, hv3, grd_T, brn_T, brn_F, e4, e2], by simp [a0, hv, grd_T, brn_T]⟩
      · by_cases a1 : a = 1
        · exact ⟨g.1 70 53, by simp [a1, hv3, grd_T, brn_T, brn_F, e5, e3], by simp [a1, hv, grd_T, brn_T, brn_F]⟩
        · exact ⟨-9, by simp [a0, a1, hv3, grd_T, brn_F, e4], by simp [a0, a1, brn_F]⟩
  obtain ⟨r, k1, k2⟩ := key
  refine ⟨r, g, g, ?_, k2, h⟩
  unfold r_X11_fled
  rw [grd_t hv0, hq, bind_some', grd_t hv3, k1, bnd_some]
def pC (a : Nat) : Prop := a = 4 ∨ a = 5 ∨ a = 72 ∨ a = 73
def qC (j : Nat) : Prop := False
theorem op_court {V : Vk} {g : Hq} (h : Inv V g) (a b c : Int32) : Op V g (r_X11_court V 0 a b c) (r_X12_court V 70 a b c) := by
  by_cases h1 : 0 ≤ a ∧ a ≤ 11
  · by_cases h2 : 0 ≤ b ∧ b ≤ 3
    · by_cases h3 : 1 ≤ c ∧ c ≤ 999
      · have hv0 := v_0 h.v
        have hv := v_70 h.v
        obtain ⟨j, hj, rfl⟩ := nat_of (n := 11) rfl h1
        have cl := cl_nI (j := j) (by omega)
        have b0 := h2.1
        have b3 := h2.2
        have c1 := h3.1
        have c9 := h3.2
        rw [i_le] at b0 b3 c1 c9
        have k0 : (0 : Int32).toInt = 0 := rfl
        have k1 : (1 : Int32).toInt = 1 := rfl
        have k3 : (3 : Int32).toInt = 3 := rfl
        have k9 : (999 : Int32).toInt = 999 := rfl
        refine ⟨1, sI (sI g 4 j b) 5 j c, sI (sI (sI (sI g 4 j b) 5 j c) 72 j b) 73 j c, ?_, ?_, ?_⟩
        · unfold r_X11_court r_X9_place
          rw [p_isCourt, bnd_some, brn_f (by rw [bI_0]; exact fun k => k h1), p_isWard, bnd_some, brn_f (by rw [bI_0]; exact fun k => k h2), p_isFrom, bnd_some, brn_f (by rw [bI_0]; exact fun k => k h3), grd_t hv0, q_0_1 h.r, bind_some', grd_t (v_3 h.v), grd_t (v_3 h.v), q_3_0 h.r, bind_some', grd_t (ok_nI (v_4 h.v) (by omega) (by decide)), nm_eq, sI_3, q_3_1 h.r, bind_some', grd_t (ok_nI (v_5 h.v) (by omega) (by decide)), nm_eq, bnd_some, cl]
        · unfold r_X12_court
          rw [m_isCourt, bnd_some, brn_f (by rw [bI_0]; exact fun k => k h1), m_isWard, bnd_some, brn_f (by rw [bI_0]; exact fun k => k h2), p_in, bnd_some, brn_f (by rw [bI_0]; exact fun k => k h3), grd_t hv, sI_3, sI_3, q_70_10 h.r, bind_some', grd_t (ok_nI (v_72 h.v) (by omega) (by decide)), nm_eq, sI_3, sI_3, sI_3, q_70_11 h.r, bind_some', grd_t (ok_nI (v_73 h.v) (by omega) (by decide)), nm_eq, cl]
        · have w := h.w
          refine Inv.by pC qC h ((((fr_sI (by decide) (by simp [pC])).tr (fr_sI (by decide) (by simp [pC]))).tr (fr_sI (by decide) (by simp [pC]))).tr (fr_sI (by decide) (by simp [pC]))) rfl (Or.inl ⟨(by unfold pC; omega), (by unfold pC; omega), (by unfold pC; omega), (by unfold qC; first | omega | exact id)⟩) (Or.inr (?_)) (Or.inl ⟨(by intro a ha; unfold sP at ha; unfold pC; omega), (by unfold qC; first | omega | exact id), (by unfold qC; first | omega | exact id), (by unfold qC; first | omega | exact id)⟩) (Or.inl ⟨(by unfold pC; omega), (by unfold qC; first | omega | exact id), (by unfold qC; first | omega | exact id)⟩) (Or.inl (by intro a ha; unfold sLw at ha; unfold pC; omega)) (Or.inl ⟨(by unfold pC; omega), (by unfold qC; first | omega | exact id), (by unfold qC; first | omega | exact id)⟩) (by unfold qC; first | omega | exact id) (fun _ _ => Or.inl ⟨(by intro a ha; unfold sH at ha; unfold pC; omega), (by unfold qC; first | omega | exact id)⟩) (fun _ _ _ _ _ => Or.inl (by intro a ha; unfold sY at ha; unfold pC; omega)) (fun _ _ => Or.inl ⟨(by intro a ha; unfold sN at ha; unfold pC; omega), (by unfold qC; first | omega | exact id)⟩)
          obtain ⟨w1, w2, w3, w4, w5, w6, w7, w8⟩ := w
          have e4 : (sI (sI (sI (sI g 4 j b) 5 j c) 72 j b) 73 j c).1 4 = upd (g.1 4) j b := by funext i; simp [sI_1, up2_at, upd]
          have e5 : (sI (sI (sI (sI g 4 j b) 5 j c) 72 j b) 73 j c).1 5 = upd (g.1 5) j c := by funext i; simp [sI_1, up2_at, upd]
          have e72 : (sI (sI (sI (sI g 4 j b) 5 j c) 72 j b) 73 j c).1 72 = upd (g.1 72) j b := by funext i; simp [sI_1, up2_at, upd]
          have e73 : (sI (sI (sI (sI g 4 j b) 5 j c) 72 j b) 73 j c).1 73 = upd (g.1 73) j c := by funext i; simp [sI_1, up2_at, upd]
          have ex : ∀ a, a ≠ 4 → a ≠ 5 → a ≠ 72 → a ≠ 73 → (sI (sI (sI (sI g 4 j b) 5 j c) 72 j b) 73 j c).1 a = g.1 a := by intro a n1 n2 n3 n4; funext i; simp [sI_1, up2_at, n1, n2, n3, n4]
          unfold RW
          rw [e4, e5, e72, e73, ex 6 (by decide) (by decide) (by decide) (by decide), ex 74 (by decide) (by decide) (by decide) (by decide), ex 75 (by decide) (by decide) (by decide) (by decide), ex 3 (by decide) (by decide) (by decide) (by decide), ex 7 (by decide) (by decide) (by decide) (by decide)]
          refine ⟨by rw [w1], by rw [w2], w3, fun i hi => ?_, fun i hi => ?_, w6, w7, w8⟩
          · unfold upd; by_cases hij : i = j
            · simp only [hij, if_true]; omega
            · simp only [hij, if_false]; exact w4 i hi
          · unfold upd; by_cases hij : i = j
            · simp only [hij, if_true]; omega
            · simp only [hij, if_false]; exact w5 i hi
      · refine ⟨-2, g, g, ?_, ?_, h⟩
        · unfold r_X11_court
          rw [p_isCourt, bnd_some, brn_f (by rw [bI_0]; exact fun k => k h1), p_isWard, bnd_some, brn_f (by rw [bI_0]; exact fun k => k h2), p_isFrom, bnd_some, brn_t (by rw [bI_0]; exact h3)]
        · unfold r_X12_court
          rw [m_isCourt, bnd_some, brn_f (by rw [bI_0]; exact fun k => k h1), m_isWard, bnd_some, brn_f (by rw [bI_0]; exact fun k => k h2), p_in, bnd_some, brn_t (by rw [bI_0]; exact h3)]
    · refine ⟨-2, g, g, ?_, ?_, h⟩
      · unfold r_X11_court
        rw [p_isCourt, bnd_some, brn_f (by rw [bI_0]; exact fun k => k h1), p_isWard, bnd_some, brn_t (by rw [bI_0]; exact h2)]
      · unfold r_X12_court
        rw [m_isCourt, bnd_some, brn_f (by rw [bI_0]; exact fun k => k h1), m_isWard, bnd_some, brn_t (by rw [bI_0]; exact h2)]
  · refine ⟨-2, g, g, ?_, ?_, h⟩
    · unfold r_X11_court
      rw [p_isCourt, bnd_some, brn_t (by rw [bI_0]; exact h1)]
    · unfold r_X12_court
      rw [m_isCourt, bnd_some, brn_t (by rw [bI_0]; exact h1)]
theorem op_law {V : Vk} {g : Hq} (h : Inv V g) (a b : Int32) : Op V g (r_X11_law V 0 a b) (r_X12_law V 70 a b) := by
  by_cases h1 : 0 ≤ a ∧ a ≤ 3
  · obtain ⟨w, hw, rfl⟩ := nat_of (n := 3) rfl h1
    have hw4 : w < 4 := by omega
    have cl := cl_nI (j := w) (by omega)
    obtain ⟨f, l1, l2, l3, l4, l5⟩ := h.l
    have l5 := l5 w hw4
    have vp := sh_vl h.v (l1 w (by omega))
    have hx : ∀ r, r_X4_tell V (f w) b g = some (r, g) → r_X11_law V 0 (nI w) b g = some (r, g) := by
      intro r hr
      unfold r_X11_law
      rw [p_isWard, bnd_some, brn_f (by rw [bI_0]; exact fun k => k h1), grd_t (v_0 h.v), q_0_4 h.r, bind_some', grd_t (ok_nI (v_19 h.v) hw4 (by decide)), cl, sh_w h.r hw4, bind_some', grd_t (sh_vw h.v hw4), l3 w hw4, bind_some', grd_t vp, hr, bnd_some]
    obtain ⟨d1, ⟨n, n1, n2, n3, n4⟩, d3, d4, d5, d6, d7, d8, d9, d10, d11, d12, d13, d14, d15⟩ := l5
    by_cases h2 : 0 ≤ b ∧ b ≤ 8
    · obtain ⟨j, hj, rfl⟩ := nat_of (n := 8) rfl h2
      by_cases j8 : j = 8
      · subst j8
        refine ⟨nI n, g, g, hx _ ?_, ?_, h⟩
        · unfold r_X4_tell
          rw [brn_f (by decide), brn_f (by decide), brn_f (by decide), brn_f (by decide), brn_f (by decide), brn_f (by decide), brn_f (by decide), brn_f (by decide), brn_t (by decide), grd_t vp, n2]
        · unfold r_X12_law
          rw [m_isWard, bnd_some, brn_f (by rw [bI_0]; exact fun k => k h1), p_in, bnd_some, brn_f (by rw [bI_0]; exact fun k => k h2), brn_t (by decide), grd_t (v_70 h.v), q_70_31 h.r, bind_some', grd_t (ok_nI (v_87 h.v) (by omega) (by decide)), cl, n3]
      · have hj8 : j < 8 := by omega
        have ix : (8 : Int32) * nI w + nI j = nI (8 * w + j) := by
          rw [show (8 : Int32) = nI 8 from rfl, pk_mul, nI_add]
        have m1 : r_X12_law V 70 (nI w) (nI j) g = some (g.1 85 (8 * w + j), g) := by
          unfold r_X12_law
          rw [m_isWard, bnd_some, brn_f (by rw [bI_0]; exact fun k => k h1), p_in, bnd_some, brn_f (by rw [bI_0]; exact fun k => k h2), brn_f (by rw [show (8 : Int32) = nI 8 from rfl, nI_eq (by omega) (by omega)]; omega), grd_t (v_70 h.v), q_70_29 h.r, bind_some', ix, grd_t (ok_nI (v_85 h.v) (by omega) (by decide)), cl_nI (by omega)]
        refine ⟨g.1 85 (8 * w + j), g, g, hx _ ?_, m1, h⟩
        unfold r_X4_tell
        rcases (show j = 0 ∨ j = 1 ∨ j = 2 ∨ j = 3 ∨ j = 4 ∨ j = 5 ∨ j = 6 ∨ j = 7 by omega) with rfl | rfl | rfl | rfl | rfl | rfl | rfl | rfl
        · rw [brn_t (by decide), grd_t vp, d1 0 (by omega)]
        · rw [brn_f (by decide), brn_t (by decide), grd_t vp, d1 1 (by omega)]
        · rw [brn_f (by decide), brn_f (by decide), brn_t (by decide), grd_t vp, d1 2 (by omega)]
        · rw [brn_f (by decide), brn_f (by decide), brn_f (by decide), brn_t (by decide), grd_t vp, d1 3 (by omega)]
        · rw [brn_f (by decide), brn_f (by decide), brn_f (by decide), brn_f (by decide), brn_t (by decide), grd_t vp, d1 4 (by omega)]
        · rw [brn_f (by decide), brn_f (by decide), brn_f (by decide), brn_f (by decide), brn_f (by decide), brn_t (by decide), grd_t vp, d1 5 (by omega)]
        · rw [brn_f (by decide), brn_f (by decide), brn_f (by decide), brn_f (by decide), brn_f (by decide), brn_f (by decide), brn_t (by decide), grd_t vp, d1 6 (by omega)]
          rcases d13 with e | e
          · rw [brn_t e, e]
          · rw [brn_f (by rw [e]; decide), e]
        · rw [brn_f (by decide), brn_f (by decide), brn_f (by decide), brn_f (by decide), brn_f (by decide), brn_f (by decide), brn_f (by decide), brn_t (by decide), grd_t vp, d1 7 (by omega)]
    · refine ⟨-9, g, g, hx _ ?_, ?_, h⟩
      · have ne : ∀ j : Nat, j ≤ 8 → ¬ b = nI j := by
          intro j hj e
          exact h2 (by rw [e]; exact ⟨nI_le (a := 0) (by omega) (by omega), nI_le (b := 8) (by omega) (by omega)⟩)
        unfold r_X4_tell
        rw [brn_f (show ¬ b = (0 : Int32) from ne 0 (by omega)), brn_f (show ¬ b = (1 : Int32) from ne 1 (by omega)), brn_f (show ¬ b = (2 : Int32) from ne 2 (by omega)), brn_f (show ¬ b = (3 : Int32) from ne 3 (by omega)), brn_f (show ¬ b = (4 : Int32) from ne 4 (by omega)), brn_f (show ¬ b = (5 : Int32) from ne 5 (by omega)), brn_f (show ¬ b = (6 : Int32) from ne 6 (by omega)), brn_f (show ¬ b = (7 : Int32) from ne 7 (by omega)), brn_f (show ¬ b = (8 : Int32) from ne 8 (by omega))]
      · unfold r_X12_law
        rw [m_isWard, bnd_some, brn_f (by rw [bI_0]; exact fun k => k h1), p_in, bnd_some, brn_t (by rw [bI_0]; exact h2)]
  · refine ⟨-9, g, g, ?_, ?_, h⟩
    · unfold r_X11_law
      rw [p_isWard, bnd_some, brn_t (by rw [bI_0]; exact h1)]
    · unfold r_X12_law
      rw [m_isWard, bnd_some, brn_t (by rw [bI_0]; exact h1)]
