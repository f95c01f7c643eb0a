theorem t0 : (0 : Int32).toInt = 0 := rfl
theorem t1 : (1 : Int32).toInt = 1 := rfl
theorem tN {n : Nat} (h : n < 2 ^ 31) : (nI n).toInt = n := nI_toInt h
theorem in_nI {n i : Nat} (h : i < n) (hn : n < 2 ^ 31) : (0 : Int32) ≤ nI i ∧ nI i ≤ nI n - 1 := by
  rw [i_le, i_le, i_sub (by rw [tN hn, t1]; omega) (by rw [tN hn, t1]; omega), tN (by omega), tN hn, t0, t1]
  omega
theorem out_nI {a : Int32} {n : Nat} (hn : n < 2 ^ 31) (h : a < 0 ∨ nI n ≤ a) : ¬ ((0 : Int32) ≤ a ∧ a ≤ nI n - 1) := by
  rw [i_le, i_le, i_sub (by rw [tN hn, t1]; omega) (by rw [tN hn, t1]; omega), tN hn, t0, t1]
  rw [i_lt, i_le, tN hn, t0] at h
  omega
theorem find_in {V : Vk} {g : Hq} {n : Nat} (hV : ShV V) (hR : ShR g.2.2) (h : RH V g.1 g.2.2 n) {i : Nat} (hi : i < n) : r_X7_find V 20 (nI i) g = some (some (200 + i), g) := by
  obtain ⟨h1, h2, h3, h4, h5⟩ := h
  unfold r_X7_find
  rw [brn_f (nI_pos (by omega)), grd_t (v_20 hV), h2, brn_f (nI_ge hi (by omega)), q_20_0 hR, bind_some', grd_t (ok_nI (v_21 hV) (by omega) (by decide)), cl_nI (by omega), (h4 i hi).1, bind_some']
theorem find_out {V : Vk} {g : Hq} {n : Nat} (hV : ShV V) (h : RH V g.1 g.2.2 n) {a : Int32} (ha : a < 0 ∨ nI n ≤ a) : r_X7_find V 20 a g = some (none, g) := by
  obtain ⟨h1, h2, h3, h4, h5⟩ := h
  unfold r_X7_find
  by_cases a0 : a < 0
  · rw [brn_t a0]
  · rw [brn_f a0, grd_t (v_20 hV), h2, brn_t (ha.resolve_left a0)]
theorem house_in {V : Vk} {g : Hq} {n : Nat} (hV : ShV V) (h : RH V g.1 g.2.2 n) {i : Nat} (hi : i < n) : r_X12_isHouse V 70 (nI i) g = some (1, g) := by
  obtain ⟨h1, h2, h3, h4, h5⟩ := h
  unfold r_X12_isHouse
  rw [grd_t (v_70 hV), h3, p_in, bnd_some, grd_t (nb _), bI_t (in_nI hi (by omega))]
theorem house_out {V : Vk} {g : Hq} {n : Nat} (hV : ShV V) (h : RH V g.1 g.2.2 n) {a : Int32} (ha : a < 0 ∨ nI n ≤ a) : r_X12_isHouse V 70 a g = some (0, g) := by
  obtain ⟨h1, h2, h3, h4, h5⟩ := h
  unfold r_X12_isHouse
  rw [grd_t (v_70 hV), h3, p_in, bnd_some, grd_t (nb _), bI_f (out_nI (by omega) ha)]
theorem cfind_in {V : Vk} {g : Hq} {n : Nat} (hV : ShV V) (hR : ShR g.2.2) (h : RN V g.1 g.2.2 n) {i : Nat} (hi : i < n) : r_X5_find V 22 (nI i) g = some (some (300 + i), g) := by
  obtain ⟨h1, h2, h3, h4, h5, h6⟩ := h
  unfold r_X5_find
  rw [brn_f (nI_pos (by omega)), grd_t (v_22 hV), h2, brn_f (nI_ge hi (by omega)), q_22_0 hR, bind_some', grd_t (ok_nI (v_23 hV) (by omega) (by decide)), cl_nI (by omega), (h4 i hi).1, bind_some']
theorem cfind_out {V : Vk} {g : Hq} {n : Nat} (hV : ShV V) (h : RN V g.1 g.2.2 n) {a : Int32} (ha : a < 0 ∨ nI n ≤ a) : r_X5_find V 22 a g = some (none, g) := by
  obtain ⟨h1, h2, h3, h4, h5, h6⟩ := h
  unfold r_X5_find
  by_cases a0 : a < 0
  · rw [brn_t a0]
  · rw [brn_f a0, grd_t (v_22 hV), h2, brn_t (ha.resolve_left a0)]
theorem ix_case (a : Int32) {n : Nat} (hn : n < 2 ^ 31) : (a < 0 ∨ nI n ≤ a) ∨ ∃ i, i < n ∧ a = nI i := by
  rcases pk_ix a hn with h | h | h
  · exact Or.inl (Or.inl h)
  · exact Or.inl (Or.inr h)
  · exact Or.inr h
theorem op_about {V : Vk} {g : Hq} (h : Inv V g) (a b : Int32) : Op V g (r_X11_about V 0 a b) (r_X12_about V 70 a b) := by
  obtain ⟨-, -, -, -, -, -, -, -, -, n, c, hh, -, -, -⟩ := id h
  have hv0 := v_0 h.v
  have hv := v_70 h.v
  rcases ix_case a (n := n) (by have := hh.1; omega) with ha | ⟨i, hi, rfl⟩
  · refine ⟨-1, g, g, ?_, ?_, h⟩
    · unfold r_X11_about
      rw [grd_t hv0, q_0_5 h.r, bind_some', grd_t (v_20 h.v), find_out h.v hh ha, bnd_some, onn_none]
    · unfold r_X12_about
      rw [grd_t hv, house_out h.v hh ha, bnd_some, brn_t rfl]
  · have n60 := hh.1
    have cl := cl_nI (j := i) (by omega)
    obtain ⟨r1, r2, x0, x1, x2, x3, x4, x5, -⟩ := hh.2.2.2.1 i hi
    have X : ∀ r, r_X2_tell V (200 + i) b g = some (r, g) → r_X11_about V 0 (nI i) b g = some (r, g) := by
      intro r hr
      unfold r_X11_about
      rw [grd_t hv0, q_0_5 h.r, bind_some', grd_t (v_20 h.v), find_in h.v h.r hh hi, bnd_some, onn_some, grd_t r2, hr, bnd_some]
    by_cases c0 : b = 0
    · refine ⟨g.1 88 i, g, g, ?_, ?_, h⟩
      · refine X _ ?_
        unfold r_X2_tell
        rw [brn_t c0, grd_t r2, x0]
      · unfold r_X12_about
        rw [grd_t hv, house_in h.v hh hi, bnd_some, brn_f (by decide), brn_t c0, q_70_33 h.r, bind_some', grd_t (ok_nI (v_88 h.v) (by omega) (by decide)), cl]
    by_cases c1 : b = 1
    · refine ⟨g.1 89 i, g, g, ?_, ?_, h⟩
      · refine X _ ?_
        unfold r_X2_tell
        rw [brn_f c0, brn_t c1, grd_t r2, x1]
      · unfold r_X12_about
        rw [grd_t hv, house_in h.v hh hi, bnd_some, brn_f (by decide), brn_f c0, brn_t c1, q_70_34 h.r, bind_some', grd_t (ok_nI (v_89 h.v) (by omega) (by decide)), cl]
    by_cases c2 : b = 2
    · refine ⟨g.1 90 i, g, g, ?_, ?_, h⟩
      · refine X _ ?_
        unfold r_X2_tell
        rw [brn_f c0, brn_f c1, brn_t c2, grd_t r2, x2]
      · unfold r_X12_about
        rw [grd_t hv, house_in h.v hh hi, bnd_some, brn_f (by decide), brn_f c0, brn_f c1, brn_t c2, q_70_35 h.r, bind_some', grd_t (ok_nI (v_90 h.v) (by omega) (by decide)), cl]
    by_cases c3 : b = 3
    · refine ⟨g.1 91 i, g, g, ?_, ?_, h⟩
      · refine X _ ?_
        unfold r_X2_tell
        rw [brn_f c0, brn_f c1, brn_f c2, brn_t c3, grd_t r2, x3]
      · unfold r_X12_about
        rw [grd_t hv, house_in h.v hh hi, bnd_some, brn_f (by decide), brn_f c0, brn_f c1, brn_f c2, brn_t c3, q_70_36 h.r, bind_some', grd_t (ok_nI (v_91 h.v) (by omega) (by decide)), cl]
    by_cases c4 : b = 4
    · refine ⟨g.1 92 i, g, g, ?_, ?_, h⟩
      · refine X _ ?_
        unfold r_X2_tell
        rw [brn_f c0, brn_f c1, brn_f c2, brn_f c3, brn_t c4, grd_t r2, x4]
      · unfold r_X12_about
        rw [grd_t hv, house_in h.v hh hi, bnd_some, brn_f (by decide), brn_f c0, brn_f c1, brn_f c2, brn_f c3, brn_t c4, q_70_37 h.r, bind_some', grd_t (ok_nI (v_92 h.v) (by omega) (by decide)), cl]
    by_cases c5 : b = 5
    · refine ⟨g.1 93 i, g, g, ?_, ?_, h⟩
      · refine X _ ?_
        unfold r_X2_tell
        rw [brn_f c0, brn_f c1, brn_f c2, brn_f c3, brn_f c4, brn_t c5, grd_t r2, x5]
      · unfold r_X12_about
        rw [grd_t hv, house_in h.v hh hi, bnd_some, brn_f (by decide), brn_f c0, brn_f c1, brn_f c2, brn_f c3, brn_f c4, brn_t c5, q_70_38 h.r, bind_some', grd_t (ok_nI (v_93 h.v) (by omega) (by decide)), cl]
    refine ⟨-1, g, g, ?_, ?_, h⟩
    · refine X _ ?_
      unfold r_X2_tell
      rw [brn_f c0, brn_f c1, brn_f c2, brn_f c3, brn_f c4, brn_f c5]
    · unfold r_X12_about
      rw [grd_t hv, house_in h.v hh hi, bnd_some, brn_f (by decide), brn_f c0, brn_f c1, brn_f c2, brn_f c3, brn_f c4, brn_f c5]
theorem op_charged {V : Vk} {g : Hq} (h : Inv V g) (a b : Int32) : Op V g (r_X11_charged V 0 a b) (r_X12_charged V 70 a b) := by
  obtain ⟨-, -, -, -, -, -, -, -, -, n, c, -, -, hh, -⟩ := id h
  have hv0 := v_0 h.v
  have hv := v_70 h.v
  rcases ix_case a (n := c) (by have := hh.1; omega) with ha | ⟨i, hi, rfl⟩
  · refine ⟨-1, g, g, ?_, ?_, h⟩
    · unfold r_X11_charged
      rw [grd_t hv0, q_0_6 h.r, bind_some', grd_t (v_22 h.v), cfind_out h.v hh ha, bnd_some, onn_none]
    · unfold r_X12_charged
      rw [grd_t hv, hh.2.2.1, p_in, bnd_some, brn_t (by rw [bI_0]; exact out_nI (by have := hh.1; omega) ha)]
  · have n60 := hh.1
    have cl := cl_nI (j := i) (by omega)
    obtain ⟨r1, r2, x0, x1, x2, x3, x4⟩ := hh.2.2.2.1 i hi
    have X : ∀ r, r_X0_tell V (300 + i) b g = some (r, g) → r_X11_charged V 0 (nI i) b g = some (r, g) := by
      intro r hr
      unfold r_X11_charged
      rw [grd_t hv0, q_0_6 h.r, bind_some', grd_t (v_22 h.v), cfind_in h.v h.r hh hi, bnd_some, onn_some, grd_t r2, hr, bnd_some]
    have hin : ¬ bI ((0 : Int32) ≤ nI i ∧ nI i ≤ nI c - 1) = 0 := by rw [bI_0]; exact fun k => k (in_nI hi (by omega))
    have h46 := hh.2.2.1
    by_cases c0 : b = 0
    · refine ⟨g.1 101 i, g, g, ?_, ?_, h⟩
      · refine X _ ?_
        unfold r_X0_tell
        rw [brn_t c0, grd_t r2, x0]
      · unfold r_X12_charged
        rw [grd_t hv, h46, p_in, bnd_some, brn_f hin, brn_t c0, q_70_47 h.r, bind_some', grd_t (ok_nI (v_101 h.v) (by omega) (by decide)), cl]
    by_cases c1 : b = 1
    · refine ⟨g.1 102 i, g, g, ?_, ?_, h⟩
      · refine X _ ?_
        unfold r_X0_tell
        rw [brn_f c0, brn_t c1, grd_t r2, x1]
      · unfold r_X12_charged
        rw [grd_t hv, h46, p_in, bnd_some, brn_f hin, brn_f c0, brn_t c1, q_70_48 h.r, bind_some', grd_t (ok_nI (v_102 h.v) (by omega) (by decide)), cl]
    by_cases c2 : b = 2
    · refine ⟨g.1 103 i, g, g, ?_, ?_, h⟩
      · refine X _ ?_
        unfold r_X0_tell
        rw [brn_f c0, brn_f c1, brn_t c2, grd_t r2, x2]
      · unfold r_X12_charged
        rw [grd_t hv, h46, p_in, bnd_some, brn_f hin, brn_f c0, brn_f c1, brn_t c2, q_70_49 h.r, bind_some', grd_t (ok_nI (v_103 h.v) (by omega) (by decide)), cl]
    by_cases c3 : b = 3
    · refine ⟨g.1 104 i, g, g, ?_, ?_, h⟩
      · refine X _ ?_
        unfold r_X0_tell
        rw [brn_f c0, brn_f c1, brn_f c2, brn_t c3, grd_t r2, x3]
      · unfold r_X12_charged
        rw [grd_t hv, h46, p_in, bnd_some, brn_f hin, brn_f c0, brn_f c1, brn_f c2, brn_t c3, q_70_50 h.r, bind_some', grd_t (ok_nI (v_104 h.v) (by omega) (by decide)), cl]
    by_cases c4 : b = 4
    · refine ⟨g.1 105 i, g, g, ?_, ?_, h⟩
      · refine X _ ?_
        unfold r_X0_tell
        rw [brn_f c0, brn_f c1, brn_f c2, brn_f c3, brn_t c4, grd_t r2, x4]
      · unfold r_X12_charged
        rw [grd_t hv, h46, p_in, bnd_some, brn_f hin, brn_f c0, brn_f c1, brn_f c2, brn_f c3, brn_t c4, q_70_51 h.r, bind_some', grd_t (ok_nI (v_105 h.v) (by omega) (by decide)), cl]
    refine ⟨-1, g, g, ?_, ?_, h⟩
    · refine X _ ?_
      unfold r_X0_tell
      rw [brn_f c0, brn_f c1, brn_f c2, brn_f c3, brn_f c4]
    · unfold r_X12_charged
      rw [grd_t hv, h46, p_in, bnd_some, brn_f hin, brn_f c0, brn_f c1, brn_f c2, brn_f c3, brn_f c4]
