/-! ===== one call of the script ===== -/
def StP1 (V : Vk) (g : Hq) (i : Nat) (x : Option ((Int32 × Vk × Hq) ⊕ Int32)) : Prop := ∃ V' g', x = some (.inl (nI (6 * (i + 1)), V', g')) ∧ Inv V' g'
theorem vpj {i j L : Nat} (hj : j < 6) (hi : 6 * i + 6 ≤ L) (hL : L ≤ 3072) : vp_in (nI (6 * i) + nI j) L := by
  rw [nI_add]
  exact vp_in_nI (by omega) (by omega)
theorem six (i : Nat) : nI (6 * i) + 6 = nI (6 * (i + 1)) := by rw [show (6 : Int32) = nI 6 from rfl, nI_add, show 6 * i + 6 = 6 * (i + 1) by omega]
theorem s_r_L_148 {xs : Nat → Int32} {L i : Nat} {V : Vk} {g : Hq} (h : Inv V g) (hi : 6 * i + 6 ≤ L) (hL : L ≤ 3072) : StP1 V g i (r_L_148 xs L (nI (6 * i)) V g) := by
  have v1 : vp_in (nI (6 * i) + 1) L := vpj (j := 1) (by decide) hi hL
  have v2 : vp_in (nI (6 * i) + 2) L := vpj (j := 2) (by decide) hi hL
  have v3 : vp_in (nI (6 * i) + 3) L := vpj (j := 3) (by decide) hi hL
  have v4 : vp_in (nI (6 * i) + 4) L := vpj (j := 4) (by decide) hi hL
  have v5 : vp_in (nI (6 * i) + 5) L := vpj (j := 5) (by decide) hi hL
  obtain ⟨r, g1, g2, h1, h2, h3⟩ := op_feed h (xs (nI (6 * i) + (1 : Int32)).toNatClampNeg) (xs (nI (6 * i) + (2 : Int32)).toNatClampNeg) (xs (nI (6 * i) + (3 : Int32)).toNatClampNeg) (xs (nI (6 * i) + (4 : Int32)).toNatClampNeg) (xs (nI (6 * i) + (5 : Int32)).toNatClampNeg)
  refine ⟨V, g2, ?_, h3⟩
  unfold r_L_148
  rw [grd_t v1, grd_t v2, grd_t v3, grd_t v4, grd_t v5, grd_t (v_0 h.v), h1, bnd_some, grd_t v1, grd_t v2, grd_t v3, grd_t v4, grd_t v5, grd_t (v_70 h.v), h2, bnd_some, brn_t rfl, nm_eq, six]
theorem s_r_L_211 {xs : Nat → Int32} {L i : Nat} {V : Vk} {g : Hq} (h : Inv V g) (hi : 6 * i + 6 ≤ L) (hL : L ≤ 3072) : StP1 V g i (r_L_211 xs L (nI (6 * i)) V g) := by
  have v1 : vp_in (nI (6 * i) + 1) L := vpj (j := 1) (by decide) hi hL
  obtain ⟨r, g1, g2, h1, h2, h3⟩ := op_end h (xs (nI (6 * i) + (1 : Int32)).toNatClampNeg)
  refine ⟨V, g2, ?_, h3⟩
  unfold r_L_211
  rw [grd_t v1, grd_t (v_0 h.v), h1, bnd_some, grd_t v1, grd_t (v_70 h.v), h2, bnd_some, brn_t rfl, nm_eq, six]
theorem s_r_L_234 {xs : Nat → Int32} {L i : Nat} {V : Vk} {g : Hq} (h : Inv V g) (hi : 6 * i + 6 ≤ L) (hL : L ≤ 3072) : StP1 V g i (r_L_234 xs L (nI (6 * i)) V g) := by
  have v1 : vp_in (nI (6 * i) + 1) L := vpj (j := 1) (by decide) hi hL
  have v2 : vp_in (nI (6 * i) + 2) L := vpj (j := 2) (by decide) hi hL
  have v3 : vp_in (nI (6 * i) + 3) L := vpj (j := 3) (by decide) hi hL
  obtain ⟨r, g1, g2, h1, h2, h3⟩ := op_court h (xs (nI (6 * i) + (1 : Int32)).toNatClampNeg) (xs (nI (6 * i) + (2 : Int32)).toNatClampNeg) (xs (nI (6 * i) + (3 : Int32)).toNatClampNeg)
  refine ⟨V, g2, ?_, h3⟩
  unfold r_L_234
  rw [grd_t v1, grd_t v2, grd_t v3, grd_t (v_0 h.v), h1, bnd_some, grd_t v1, grd_t v2, grd_t v3, grd_t (v_70 h.v), h2, bnd_some, brn_t rfl, nm_eq, six]
theorem s_r_L_277 {xs : Nat → Int32} {L i : Nat} {V : Vk} {g : Hq} (h : Inv V g) (hi : 6 * i + 6 ≤ L) (hL : L ≤ 3072) : StP1 V g i (r_L_277 xs L (nI (6 * i)) V g) := by
  have v1 : vp_in (nI (6 * i) + 1) L := vpj (j := 1) (by decide) hi hL
  have v2 : vp_in (nI (6 * i) + 2) L := vpj (j := 2) (by decide) hi hL
  have v3 : vp_in (nI (6 * i) + 3) L := vpj (j := 3) (by decide) hi hL
  obtain ⟨r, g1, g2, h1, h2, h3⟩ := op_way h (xs (nI (6 * i) + (1 : Int32)).toNatClampNeg) (xs (nI (6 * i) + (2 : Int32)).toNatClampNeg) (xs (nI (6 * i) + (3 : Int32)).toNatClampNeg)
  refine ⟨V, g2, ?_, h3⟩
  unfold r_L_277
  rw [grd_t v1, grd_t v2, grd_t v3, grd_t (v_0 h.v), h1, bnd_some, grd_t v1, grd_t v2, grd_t v3, grd_t (v_70 h.v), h2, bnd_some, brn_t rfl, nm_eq, six]
theorem s_r_L_320 {xs : Nat → Int32} {L i : Nat} {V : Vk} {g : Hq} (h : Inv V g) (hi : 6 * i + 6 ≤ L) (hL : L ≤ 3072) : StP1 V g i (r_L_320 xs L (nI (6 * i)) V g) := by
  have v1 : vp_in (nI (6 * i) + 1) L := vpj (j := 1) (by decide) hi hL
  have v2 : vp_in (nI (6 * i) + 2) L := vpj (j := 2) (by decide) hi hL
  obtain ⟨r, g1, g2, h1, h2, h3⟩ := op_far h (xs (nI (6 * i) + (1 : Int32)).toNatClampNeg) (xs (nI (6 * i) + (2 : Int32)).toNatClampNeg)
  refine ⟨V, g2, ?_, h3⟩
  unfold r_L_320
  rw [grd_t v1, grd_t v2, grd_t (v_0 h.v), h1, bnd_some, grd_t v1, grd_t v2, grd_t (v_70 h.v), h2, bnd_some, brn_t rfl, nm_eq, six]
theorem s_r_L_353 {xs : Nat → Int32} {L i : Nat} {V : Vk} {g : Hq} (h : Inv V g) (hi : 6 * i + 6 ≤ L) (hL : L ≤ 3072) : StP1 V g i (r_L_353 xs L (nI (6 * i)) V g) := by
  have v1 : vp_in (nI (6 * i) + 1) L := vpj (j := 1) (by decide) hi hL
  obtain ⟨r, g1, g2, h1, h2, h3⟩ := op_rounds h (xs (nI (6 * i) + (1 : Int32)).toNatClampNeg)
  refine ⟨V, g2, ?_, h3⟩
  unfold r_L_353
  rw [grd_t v1, grd_t (v_0 h.v), h1, bnd_some, grd_t v1, grd_t (v_70 h.v), h2, bnd_some, brn_t rfl, nm_eq, six]
theorem s_r_L_376 {xs : Nat → Int32} {L i : Nat} {V : Vk} {g : Hq} (h : Inv V g) (hi : 6 * i + 6 ≤ L) (hL : L ≤ 3072) : StP1 V g i (r_L_376 xs L (nI (6 * i)) V g) := by
  have v1 : vp_in (nI (6 * i) + 1) L := vpj (j := 1) (by decide) hi hL
  obtain ⟨r, g1, g2, h1, h2, h3⟩ := op_round h (xs (nI (6 * i) + (1 : Int32)).toNatClampNeg)
  refine ⟨V, g2, ?_, h3⟩
  unfold r_L_376
  rw [grd_t v1, grd_t (v_0 h.v), h1, bnd_some, grd_t v1, grd_t (v_70 h.v), h2, bnd_some, brn_t rfl, nm_eq, six]
theorem s_r_L_399 {xs : Nat → Int32} {L i : Nat} {V : Vk} {g : Hq} (h : Inv V g) (hi : 6 * i + 6 ≤ L) (hL : L ≤ 3072) : StP1 V g i (r_L_399 xs L (nI (6 * i)) V g) := by
  have v1 : vp_in (nI (6 * i) + 1) L := vpj (j := 1) (by decide) hi hL
  have v2 : vp_in (nI (6 * i) + 2) L := vpj (j := 2) (by decide) hi hL
  obtain ⟨r, g1, g2, h1, h2, h3⟩ := op_cry h (xs (nI (6 * i) + (1 : Int32)).toNatClampNeg) (xs (nI (6 * i) + (2 : Int32)).toNatClampNeg)
  refine ⟨V, g2, ?_, h3⟩
  unfold r_L_399
  rw [grd_t v1, grd_t v2, grd_t (v_0 h.v), h1, bnd_some, grd_t v1, grd_t v2, grd_t (v_70 h.v), h2, bnd_some, brn_t rfl, nm_eq, six]
theorem s_r_L_432 {xs : Nat → Int32} {L i : Nat} {V : Vk} {g : Hq} (h : Inv V g) (hi : 6 * i + 6 ≤ L) (hL : L ≤ 3072) : StP1 V g i (r_L_432 xs L (nI (6 * i)) V g) := by
  have v1 : vp_in (nI (6 * i) + 1) L := vpj (j := 1) (by decide) hi hL
  obtain ⟨r, g1, g2, h1, h2, h3⟩ := op_laws h (xs (nI (6 * i) + (1 : Int32)).toNatClampNeg)
  refine ⟨V, g2, ?_, h3⟩
  unfold r_L_432
  rw [grd_t v1, grd_t (v_0 h.v), h1, bnd_some, grd_t v1, grd_t (v_70 h.v), h2, bnd_some, brn_t rfl, nm_eq, six]
theorem s_r_L_455 {xs : Nat → Int32} {L i : Nat} {V : Vk} {g : Hq} (h : Inv V g) (hi : 6 * i + 6 ≤ L) (hL : L ≤ 3072) : StP1 V g i (r_L_455 xs L (nI (6 * i)) V g) := by
  have v1 : vp_in (nI (6 * i) + 1) L := vpj (j := 1) (by decide) hi hL
  obtain ⟨r, g1, g2, h1, h2, h3⟩ := op_fault h (xs (nI (6 * i) + (1 : Int32)).toNatClampNeg)
  refine ⟨V, g2, ?_, h3⟩
  unfold r_L_455
  rw [grd_t v1, grd_t (v_0 h.v), h1, bnd_some, grd_t v1, grd_t (v_70 h.v), h2, bnd_some, brn_t rfl, nm_eq, six]
theorem s_r_L_478 {xs : Nat → Int32} {L i : Nat} {V : Vk} {g : Hq} (h : Inv V g) (hi : 6 * i + 6 ≤ L) (hL : L ≤ 3072) : StP1 V g i (r_L_478 xs L (nI (6 * i)) V g) := by
  have v1 : vp_in (nI (6 * i) + 1) L := vpj (j := 1) (by decide) hi hL
  have v2 : vp_in (nI (6 * i) + 2) L := vpj (j := 2) (by decide) hi hL
  obtain ⟨r, g1, g2, h1, h2, h3⟩ := op_law h (xs (nI (6 * i) + (1 : Int32)).toNatClampNeg) (xs (nI (6 * i) + (2 : Int32)).toNatClampNeg)
  refine ⟨V, g2, ?_, h3⟩
  unfold r_L_478
  rw [grd_t v1, grd_t v2, grd_t (v_0 h.v), h1, bnd_some, grd_t v1, grd_t v2, grd_t (v_70 h.v), h2, bnd_some, brn_t rfl, nm_eq, six]
theorem s_r_L_511 {xs : Nat → Int32} {L i : Nat} {V : Vk} {g : Hq} (h : Inv V g) (hi : 6 * i + 6 ≤ L) (hL : L ≤ 3072) : StP1 V g i (r_L_511 xs L (nI (6 * i)) V g) := by
  have v1 : vp_in (nI (6 * i) + 1) L := vpj (j := 1) (by decide) hi hL
  have v2 : vp_in (nI (6 * i) + 2) L := vpj (j := 2) (by decide) hi hL
  have v3 : vp_in (nI (6 * i) + 3) L := vpj (j := 3) (by decide) hi hL
  have v4 : vp_in (nI (6 * i) + 4) L := vpj (j := 4) (by decide) hi hL
  by_cases c : (xs (nI (6 * i) + (4 : Int32)).toNatClampNeg) = 0
  · obtain ⟨r, g1, g2, h1, h2, h3⟩ := op_may h (xs (nI (6 * i) + (1 : Int32)).toNatClampNeg) (xs (nI (6 * i) + (2 : Int32)).toNatClampNeg) (xs (nI (6 * i) + (3 : Int32)).toNatClampNeg) 0
    refine ⟨V, g2, ?_, h3⟩
    unfold r_L_511
    rw [grd_t v1, grd_t v2, grd_t v3, grd_t v4, brn_t c, grd_t (v_0 h.v), h1, bnd_some, grd_t v1, grd_t v2, grd_t v3, grd_t v4, brn_t c, grd_t (v_70 h.v), h2, bnd_some, brn_t rfl, nm_eq, six]
  · obtain ⟨r, g1, g2, h1, h2, h3⟩ := op_may h (xs (nI (6 * i) + (1 : Int32)).toNatClampNeg) (xs (nI (6 * i) + (2 : Int32)).toNatClampNeg) (xs (nI (6 * i) + (3 : Int32)).toNatClampNeg) 1
    refine ⟨V, g2, ?_, h3⟩
    unfold r_L_511
    rw [grd_t v1, grd_t v2, grd_t v3, grd_t v4, brn_f c, grd_t (v_0 h.v), h1, bnd_some, grd_t v1, grd_t v2, grd_t v3, grd_t v4, brn_f c, grd_t (v_70 h.v), h2, bnd_some, brn_t rfl, nm_eq, six]
theorem s_r_L_580 {xs : Nat → Int32} {L i : Nat} {V : Vk} {g : Hq} (h : Inv V g) (hi : 6 * i + 6 ≤ L) (hL : L ≤ 3072) : StP1 V g i (r_L_580 xs L (nI (6 * i)) V g) := by
  have v1 : vp_in (nI (6 * i) + 1) L := vpj (j := 1) (by decide) hi hL
  have v2 : vp_in (nI (6 * i) + 2) L := vpj (j := 2) (by decide) hi hL
  obtain ⟨r, V1, g1, g2, h1, h2, h3, h4, h5⟩ := op_house h (xs (nI (6 * i) + (1 : Int32)).toNatClampNeg) (xs (nI (6 * i) + (2 : Int32)).toNatClampNeg)
  refine ⟨V1, g2, ?_, h3⟩
  have e0 : V 0 ≠ none := by rw [v_0 h.v]; simp
  have e70 : V 70 ≠ none := by rw [v_70 h.v]; simp
  unfold r_L_580
  rw [grd_t v1, grd_t v2, grd_t e0, grd_t e70, grd_t (v_0 h.v), h1, bna_some, grd_t v1, grd_t v2, grd_t h4]
  rw [show r_X12_house V1 70 (xs (nI (6 * i) + (1 : Int32)).toNatClampNeg) (xs (nI (6 * i) + (2 : Int32)).toNatClampNeg) g1 = some (r, g2) from h2, bnd_some, brn_t rfl, nm_eq, six]
theorem s_r_L_613 {xs : Nat → Int32} {L i : Nat} {V : Vk} {g : Hq} (h : Inv V g) (hi : 6 * i + 6 ≤ L) (hL : L ≤ 3072) : StP1 V g i (r_L_613 xs L (nI (6 * i)) V g) := by
  have v1 : vp_in (nI (6 * i) + 1) L := vpj (j := 1) (by decide) hi hL
  have v2 : vp_in (nI (6 * i) + 2) L := vpj (j := 2) (by decide) hi hL
  obtain ⟨r, g1, g2, h1, h2, h3⟩ := op_purse h (xs (nI (6 * i) + (1 : Int32)).toNatClampNeg) (xs (nI (6 * i) + (2 : Int32)).toNatClampNeg)
  refine ⟨V, g2, ?_, h3⟩
  unfold r_L_613
  rw [grd_t v1, grd_t v2, grd_t (v_0 h.v), h1, bnd_some, grd_t v1, grd_t v2, grd_t (v_70 h.v), h2, bnd_some, brn_t rfl, nm_eq, six]
theorem s_r_L_646 {xs : Nat → Int32} {L i : Nat} {V : Vk} {g : Hq} (h : Inv V g) (hi : 6 * i + 6 ≤ L) (hL : L ≤ 3072) : StP1 V g i (r_L_646 xs L (nI (6 * i)) V g) := by
  have v1 : vp_in (nI (6 * i) + 1) L := vpj (j := 1) (by decide) hi hL
  have v2 : vp_in (nI (6 * i) + 2) L := vpj (j := 2) (by decide) hi hL
  obtain ⟨r, g1, g2, h1, h2, h3⟩ := op_would h (xs (nI (6 * i) + (1 : Int32)).toNatClampNeg) (xs (nI (6 * i) + (2 : Int32)).toNatClampNeg)
  refine ⟨V, g2, ?_, h3⟩
  unfold r_L_646
  rw [grd_t v1, grd_t v2, grd_t (v_0 h.v), h1, bnd_some, grd_t v1, grd_t v2, grd_t (v_70 h.v), h2, bnd_some, brn_t rfl, nm_eq, six]
theorem s_r_L_679 {xs : Nat → Int32} {L i : Nat} {V : Vk} {g : Hq} (h : Inv V g) (hi : 6 * i + 6 ≤ L) (hL : L ≤ 3072) : StP1 V g i (r_L_679 xs L (nI (6 * i)) V g) := by
  have v1 : vp_in (nI (6 * i) + 1) L := vpj (j := 1) (by decide) hi hL
  have v2 : vp_in (nI (6 * i) + 2) L := vpj (j := 2) (by decide) hi hL
  obtain ⟨r, g1, g2, h1, h2, h3⟩ := op_fill h (xs (nI (6 * i) + (1 : Int32)).toNatClampNeg) (xs (nI (6 * i) + (2 : Int32)).toNatClampNeg)
  refine ⟨V, g2, ?_, h3⟩
  unfold r_L_679
  rw [grd_t v1, grd_t v2, grd_t (v_0 h.v), h1, bnd_some, grd_t v1, grd_t v2, grd_t (v_70 h.v), h2, bnd_some, brn_t rfl, nm_eq, six]
theorem s_r_L_712 {xs : Nat → Int32} {L i : Nat} {V : Vk} {g : Hq} (h : Inv V g) (hi : 6 * i + 6 ≤ L) (hL : L ≤ 3072) : StP1 V g i (r_L_712 xs L (nI (6 * i)) V g) := by
  have v1 : vp_in (nI (6 * i) + 1) L := vpj (j := 1) (by decide) hi hL
  have v2 : vp_in (nI (6 * i) + 2) L := vpj (j := 2) (by decide) hi hL
  have v3 : vp_in (nI (6 * i) + 3) L := vpj (j := 3) (by decide) hi hL
  obtain ⟨r, g1, g2, h1, h2, h3⟩ := op_year h (xs (nI (6 * i) + (1 : Int32)).toNatClampNeg) (xs (nI (6 * i) + (2 : Int32)).toNatClampNeg) (xs (nI (6 * i) + (3 : Int32)).toNatClampNeg)
  refine ⟨V, g2, ?_, h3⟩
  unfold r_L_712
  rw [grd_t v1, grd_t v2, grd_t v3, grd_t (v_0 h.v), h1, bnd_some, grd_t v1, grd_t v2, grd_t v3, grd_t (v_70 h.v), h2, bnd_some, brn_t rfl, nm_eq, six]
theorem s_r_L_755 {xs : Nat → Int32} {L i : Nat} {V : Vk} {g : Hq} (h : Inv V g) (hi : 6 * i + 6 ≤ L) (hL : L ≤ 3072) : StP1 V g i (r_L_755 xs L (nI (6 * i)) V g) := by
  have v1 : vp_in (nI (6 * i) + 1) L := vpj (j := 1) (by decide) hi hL
  have v2 : vp_in (nI (6 * i) + 2) L := vpj (j := 2) (by decide) hi hL
  obtain ⟨r, g1, g2, h1, h2, h3⟩ := op_about h (xs (nI (6 * i) + (1 : Int32)).toNatClampNeg) (xs (nI (6 * i) + (2 : Int32)).toNatClampNeg)
  refine ⟨V, g2, ?_, h3⟩
  unfold r_L_755
  rw [grd_t v1, grd_t v2, grd_t (v_0 h.v), h1, bnd_some, grd_t v1, grd_t v2, grd_t (v_70 h.v), h2, bnd_some, brn_t rfl, nm_eq, six]
theorem s_r_L_788 {xs : Nat → Int32} {L i : Nat} {V : Vk} {g : Hq} (h : Inv V g) (hi : 6 * i + 6 ≤ L) (hL : L ≤ 3072) : StP1 V g i (r_L_788 xs L (nI (6 * i)) V g) := by
  have v1 : vp_in (nI (6 * i) + 1) L := vpj (j := 1) (by decide) hi hL
  have v2 : vp_in (nI (6 * i) + 2) L := vpj (j := 2) (by decide) hi hL
  have v3 : vp_in (nI (6 * i) + 3) L := vpj (j := 3) (by decide) hi hL
  have v4 : vp_in (nI (6 * i) + 4) L := vpj (j := 4) (by decide) hi hL
  by_cases c : (xs (nI (6 * i) + (4 : Int32)).toNatClampNeg) = 0
  · obtain ⟨r, V1, g1, g2, h1, h2, h3, h4, h5⟩ := op_charge h (xs (nI (6 * i) + (1 : Int32)).toNatClampNeg) (xs (nI (6 * i) + (2 : Int32)).toNatClampNeg) (xs (nI (6 * i) + (3 : Int32)).toNatClampNeg) 0
    refine ⟨V1, g2, ?_, h3⟩
    have e0 : V 0 ≠ none := by rw [v_0 h.v]; simp
    have e70 : V 70 ≠ none := by rw [v_70 h.v]; simp
    unfold r_L_788
    rw [grd_t v1, grd_t v2, grd_t v3, grd_t v4, brn_t c, grd_t e0, grd_t e70, grd_t (v_0 h.v), h1, bna_some, grd_t v1, grd_t v2, grd_t v3, grd_t v4, brn_t c, grd_t h4]
    rw [show r_X12_charge V1 70 (xs (nI (6 * i) + (1 : Int32)).toNatClampNeg) (xs (nI (6 * i) + (2 : Int32)).toNatClampNeg) (xs (nI (6 * i) + (3 : Int32)).toNatClampNeg) 0 g1 = some (r, g2) from h2, bnd_some, brn_t rfl, nm_eq, six]
  · obtain ⟨r, V1, g1, g2, h1, h2, h3, h4, h5⟩ := op_charge h (xs (nI (6 * i) + (1 : Int32)).toNatClampNeg) (xs (nI (6 * i) + (2 : Int32)).toNatClampNeg) (xs (nI (6 * i) + (3 : Int32)).toNatClampNeg) 1
    refine ⟨V1, g2, ?_, h3⟩
    have e0 : V 0 ≠ none := by rw [v_0 h.v]; simp
    have e70 : V 70 ≠ none := by rw [v_70 h.v]; simp
    unfold r_L_788
    rw [grd_t v1, grd_t v2, grd_t v3, grd_t v4, brn_f c, grd_t e0, grd_t e70, grd_t (v_0 h.v), h1, bna_some, grd_t v1, grd_t v2, grd_t v3, grd_t v4, brn_f c, grd_t h4]
    rw [show r_X12_charge V1 70 (xs (nI (6 * i) + (1 : Int32)).toNatClampNeg) (xs (nI (6 * i) + (2 : Int32)).toNatClampNeg) (xs (nI (6 * i) + (3 : Int32)).toNatClampNeg) 1 g1 = some (r, g2) from h2, bnd_some, brn_t rfl, nm_eq, six]
theorem s_r_L_857 {xs : Nat → Int32} {L i : Nat} {V : Vk} {g : Hq} (h : Inv V g) (hi : 6 * i + 6 ≤ L) (hL : L ≤ 3072) : StP1 V g i (r_L_857 xs L (nI (6 * i)) V g) := by
  have v1 : vp_in (nI (6 * i) + 1) L := vpj (j := 1) (by decide) hi hL
  have v2 : vp_in (nI (6 * i) + 2) L := vpj (j := 2) (by decide) hi hL
  obtain ⟨r, g1, g2, h1, h2, h3⟩ := op_charged h (xs (nI (6 * i) + (1 : Int32)).toNatClampNeg) (xs (nI (6 * i) + (2 : Int32)).toNatClampNeg)
  refine ⟨V, g2, ?_, h3⟩
  unfold r_L_857
  rw [grd_t v1, grd_t v2, grd_t (v_0 h.v), h1, bnd_some, grd_t v1, grd_t v2, grd_t (v_70 h.v), h2, bnd_some, brn_t rfl, nm_eq, six]
theorem s_r_L_890 {xs : Nat → Int32} {L i : Nat} {V : Vk} {g : Hq} (h : Inv V g) (hi : 6 * i + 6 ≤ L) (hL : L ≤ 3072) : StP1 V g i (r_L_890 xs L (nI (6 * i)) V g) := by
  obtain ⟨r, g1, g2, h1, h2, h3⟩ := op_morning h 
  refine ⟨V, g2, ?_, h3⟩
  unfold r_L_890
  rw [grd_t (v_0 h.v), h1, bnd_some, grd_t (v_70 h.v), h2, bnd_some, brn_t rfl, nm_eq, six]
theorem s_r_L_903 {xs : Nat → Int32} {L i : Nat} {V : Vk} {g : Hq} (h : Inv V g) (hi : 6 * i + 6 ≤ L) (hL : L ≤ 3072) : StP1 V g i (r_L_903 xs L (nI (6 * i)) V g) := by
  have v1 : vp_in (nI (6 * i) + 1) L := vpj (j := 1) (by decide) hi hL
  by_cases c : (xs (nI (6 * i) + (1 : Int32)).toNatClampNeg) = 0
  · obtain ⟨r, g1, g2, h1, h2, h3⟩ := op_flee h 0
    refine ⟨V, g2, ?_, h3⟩
    unfold r_L_903
    rw [grd_t v1, brn_t c, grd_t (v_0 h.v), h1, bnd_some, grd_t v1, brn_t c, grd_t (v_70 h.v), h2, bnd_some, brn_t rfl, nm_eq, six]
  · obtain ⟨r, g1, g2, h1, h2, h3⟩ := op_flee h 1
    refine ⟨V, g2, ?_, h3⟩
    unfold r_L_903
    rw [grd_t v1, brn_f c, grd_t (v_0 h.v), h1, bnd_some, grd_t v1, brn_f c, grd_t (v_70 h.v), h2, bnd_some, brn_t rfl, nm_eq, six]
theorem s_r_L_942 {xs : Nat → Int32} {L i : Nat} {V : Vk} {g : Hq} (h : Inv V g) (hi : 6 * i + 6 ≤ L) (hL : L ≤ 3072) : StP1 V g i (r_L_942 xs L (nI (6 * i)) V g) := by
  have v1 : vp_in (nI (6 * i) + 1) L := vpj (j := 1) (by decide) hi hL
  obtain ⟨r, g1, g2, h1, h2, h3⟩ := op_fled h (xs (nI (6 * i) + (1 : Int32)).toNatClampNeg)
  refine ⟨V, g2, ?_, h3⟩
  unfold r_L_942
  rw [grd_t v1, grd_t (v_0 h.v), h1, bnd_some, grd_t v1, grd_t (v_70 h.v), h2, bnd_some, brn_t rfl, nm_eq, six]
theorem s_r_L_965 {xs : Nat → Int32} {L i : Nat} {V : Vk} {g : Hq} (h : Inv V g) (hi : 6 * i + 6 ≤ L) (hL : L ≤ 3072) : StP1 V g i (r_L_965 xs L (nI (6 * i)) V g) := by
  have v1 : vp_in (nI (6 * i) + 1) L := vpj (j := 1) (by decide) hi hL
  have v2 : vp_in (nI (6 * i) + 2) L := vpj (j := 2) (by decide) hi hL
  have v3 : vp_in (nI (6 * i) + 3) L := vpj (j := 3) (by decide) hi hL
  have v4 : vp_in (nI (6 * i) + 4) L := vpj (j := 4) (by decide) hi hL
  have v5 : vp_in (nI (6 * i) + 5) L := vpj (j := 5) (by decide) hi hL
  obtain ⟨r, g1, g2, h1, h2, h3⟩ := op_doubt h (xs (nI (6 * i) + (1 : Int32)).toNatClampNeg) (xs (nI (6 * i) + (2 : Int32)).toNatClampNeg) (xs (nI (6 * i) + (3 : Int32)).toNatClampNeg) (xs (nI (6 * i) + (4 : Int32)).toNatClampNeg) (xs (nI (6 * i) + (5 : Int32)).toNatClampNeg)
  refine ⟨V, g2, ?_, h3⟩
  unfold r_L_965
  rw [grd_t v1, grd_t v2, grd_t v3, grd_t v4, grd_t v5, grd_t (v_0 h.v), h1, bnd_some, grd_t v1, grd_t v2, grd_t v3, grd_t v4, grd_t v5, grd_t (v_70 h.v), h2, bnd_some, brn_t lg_same, nm_eq, six]
theorem s_r_L_1029 {xs : Nat → Int32} {L i : Nat} {V : Vk} {g : Hq} (h : Inv V g) (hi : 6 * i + 6 ≤ L) (hL : L ≤ 3072) : StP1 V g i (r_L_1029 xs L (nI (6 * i)) V g) := by
  have v1 : vp_in (nI (6 * i) + 1) L := vpj (j := 1) (by decide) hi hL
  obtain ⟨r, g1, g2, h1, h2, h3⟩ := op_count h (xs (nI (6 * i) + (1 : Int32)).toNatClampNeg)
  refine ⟨V, g2, ?_, h3⟩
  unfold r_L_1029
  rw [grd_t v1, grd_t (v_0 h.v), h1, bnd_some, grd_t v1, grd_t (v_70 h.v), h2, bnd_some, brn_t rfl, nm_eq, six]
theorem nI_ge' {a b : Nat} (h : a ≤ b) (hb : b < 2 ^ 31) : ¬ nI b < nI a := by rw [i_lt, tN hb, tN (n := a) (by omega)]; omega
theorem l_end {L i : Nat} (h : L < 6 * i + 6) (hL : L ≤ 3072) (hi : 6 * i ≤ 3072) : ((Int32.ofNat L) - (6 : Int32)) < nI (6 * i) := by
  have e : (Int32.ofNat L).toInt = L := tN (n := L) (by omega)
  have e6 : (6 : Int32).toInt = 6 := rfl
  rw [i_lt, i_sub (by rw [e, e6]; omega) (by rw [e, e6]; omega), e, e6, tN (by omega)]
  omega
theorem s_18 {xs : Nat → Int32} {L i : Nat} {V : Vk} {g : Hq} (h : Inv V g) (hi : 6 * i + 6 ≤ L) (hL : L ≤ 3072) : StP1 V g i (r_L_18 xs L (nI (6 * i), V, g)) := by
  have v0 : vp_in (nI (6 * i)) L := vp_in_nI (by omega) (by omega)
  have n1 : ¬ ((Int32.ofNat L) - (6 : Int32)) < nI (6 * i) := by
    rw [show (Int32.ofNat L) - (6 : Int32) = nI (L - 6) from pk_sub (a := L) (b := 6) (by omega)]
    exact nI_ge' (by omega) (by omega)
  unfold r_L_18
  rw [nm_eq, nm_eq, nm_eq, brn_f n1, grd_t v0, nm_eq]
  show StP1 V g i (brn (_ = (0 : Int32)) _ _)
  by_cases c0 : xs (nI (6 * i)).toNatClampNeg &&& 31 = 0
  · rw [brn_t c0]; exact s_r_L_148 h hi hL
  rw [brn_f c0]
  by_cases c1 : xs (nI (6 * i)).toNatClampNeg &&& 31 = 1
  · rw [brn_t c1]; exact s_r_L_211 h hi hL
  rw [brn_f c1]
  by_cases c2 : xs (nI (6 * i)).toNatClampNeg &&& 31 = 2
  · rw [brn_t c2]; exact s_r_L_234 h hi hL
  rw [brn_f c2]
  by_cases c3 : xs (nI (6 * i)).toNatClampNeg &&& 31 = 3
  · rw [brn_t c3]; exact s_r_L_277 h hi hL
  rw [brn_f c3]
  by_cases c4 : xs (nI (6 * i)).toNatClampNeg &&& 31 = 4
  · rw [brn_t c4]; exact s_r_L_320 h hi hL
  rw [brn_f c4]
  by_cases c5 : xs (nI (6 * i)).toNatClampNeg &&& 31 = 5
  · rw [brn_t c5]; exact s_r_L_353 h hi hL
  rw [brn_f c5]
  by_cases c6 : xs (nI (6 * i)).toNatClampNeg &&& 31 = 6
  · rw [brn_t c6]; exact s_r_L_376 h hi hL
  rw [brn_f c6]
  by_cases c7 : xs (nI (6 * i)).toNatClampNeg &&& 31 = 7
  · rw [brn_t c7]; exact s_r_L_399 h hi hL
  rw [brn_f c7]
  by_cases c8 : xs (nI (6 * i)).toNatClampNeg &&& 31 = 8
  · rw [brn_t c8]; exact s_r_L_432 h hi hL
  rw [brn_f c8]
  by_cases c9 : xs (nI (6 * i)).toNatClampNeg &&& 31 = 9
  · rw [brn_t c9]; exact s_r_L_455 h hi hL
  rw [brn_f c9]
  by_cases c10 : xs (nI (6 * i)).toNatClampNeg &&& 31 = 10
  · rw [brn_t c10]; exact s_r_L_478 h hi hL
  rw [brn_f c10]
  by_cases c11 : xs (nI (6 * i)).toNatClampNeg &&& 31 = 11
  · rw [brn_t c11]; exact s_r_L_511 h hi hL
  rw [brn_f c11]
  by_cases c12 : xs (nI (6 * i)).toNatClampNeg &&& 31 = 12
  · rw [brn_t c12]; exact s_r_L_580 h hi hL
  rw [brn_f c12]
  by_cases c13 : xs (nI (6 * i)).toNatClampNeg &&& 31 = 13
  · rw [brn_t c13]; exact s_r_L_613 h hi hL
  rw [brn_f c13]
  by_cases c14 : xs (nI (6 * i)).toNatClampNeg &&& 31 = 14
  · rw [brn_t c14]; exact s_r_L_646 h hi hL
  rw [brn_f c14]
  by_cases c15 : xs (nI (6 * i)).toNatClampNeg &&& 31 = 15
  · rw [brn_t c15]; exact s_r_L_679 h hi hL
  rw [brn_f c15]
  by_cases c16 : xs (nI (6 * i)).toNatClampNeg &&& 31 = 16
  · rw [brn_t c16]; exact s_r_L_712 h hi hL
  rw [brn_f c16]
  by_cases c17 : xs (nI (6 * i)).toNatClampNeg &&& 31 = 17
  · rw [brn_t c17]; exact s_r_L_755 h hi hL
  rw [brn_f c17]
  by_cases c18 : xs (nI (6 * i)).toNatClampNeg &&& 31 = 18
  · rw [brn_t c18]; exact s_r_L_788 h hi hL
  rw [brn_f c18]
  by_cases c19 : xs (nI (6 * i)).toNatClampNeg &&& 31 = 19
  · rw [brn_t c19]; exact s_r_L_857 h hi hL
  rw [brn_f c19]
  by_cases c20 : xs (nI (6 * i)).toNatClampNeg &&& 31 = 20
  · rw [brn_t c20]; exact s_r_L_890 h hi hL
  rw [brn_f c20]
  by_cases c21 : xs (nI (6 * i)).toNatClampNeg &&& 31 = 21
  · rw [brn_t c21]; exact s_r_L_903 h hi hL
  rw [brn_f c21]
  by_cases c22 : xs (nI (6 * i)).toNatClampNeg &&& 31 = 22
  · rw [brn_t c22]; exact s_r_L_942 h hi hL
  rw [brn_f c22]
  by_cases c23 : xs (nI (6 * i)).toNatClampNeg &&& 31 = 23
  · rw [brn_t c23]; exact s_r_L_965 h hi hL
  rw [brn_f c23]
  by_cases c24 : xs (nI (6 * i)).toNatClampNeg &&& 31 = 24
  · rw [brn_t c24]; exact s_r_L_1029 h hi hL
  rw [brn_f c24]
  refine ⟨V, g, ?_, h⟩
  rw [nm_eq, six]
theorem run_all {xs : Nat → Int32} {L : Nat} (hL : L ≤ 3072) : ∀ (d i : Nat) (V : Vk) (g : Hq), Inv V g → L < 6 * (i + d) + 6 → 6 * i ≤ 3072 → itr (r_L_18 xs L) (d + 1) (nI (6 * i), V, g) = some 1 := by
  intro d
  induction d with
  | zero =>
    intro i V g h hd hi
    have n1 : ((Int32.ofNat L) - (6 : Int32)) < nI (6 * i) := l_end hd hL hi
    have e : r_L_18 xs L (nI (6 * i), V, g) = some (.inr 1) := by
      unfold r_L_18
      rw [nm_eq, nm_eq, nm_eq, brn_t n1]
    unfold itr
    rw [e]
  | succ d ih =>
    intro i V g h hd hi
    by_cases k : 6 * i + 6 ≤ L
    · obtain ⟨V', g', e, h'⟩ := s_18 (xs := xs) h k hL
      unfold itr
      rw [e]
      exact ih (i + 1) V' g' h' (by omega) (by omega)
    · have n1 : ((Int32.ofNat L) - (6 : Int32)) < nI (6 * i) := l_end (by omega) hL hi
      have e : r_L_18 xs L (nI (6 * i), V, g) = some (.inr 1) := by
        unfold r_L_18
        rw [nm_eq, nm_eq, nm_eq, brn_t n1]
      unfold itr
      rw [e]
theorem pure_main (xs : Nat → Int32) (L : Nat) (hL : L ≤ 3072) : PureMain xs L := by
  obtain ⟨a1, a2, a3, a4⟩ := start_ok
  refine ⟨vT 67, G1, vT 107, GF, a1, a2, a3, a4, ?_⟩
  exact run_all hL 599 0 (vT 107) GF Inv_0 (by omega) (by omega)
