theorem run_to {σ β : Type} {f : σ → Option (σ ⊕ β)} (st : Nat → σ) (i : Nat) (hs : ∀ k, k < i → f (st k) = some (.inl (st (k + 1)))) : lop f (st 0) = lop f (st i) := by
  induction i with
  | zero => rfl
  | succ i ih => rw [ih (fun k hk => hs k (by omega)), lop_l (hs i (by omega))]
theorem first_of (P : Nat → Prop) : ∀ n, (∀ i, i < n → P i) ∨ ∃ i, i < n ∧ ¬ P i ∧ ∀ k, k < i → P k := by
  intro n
  induction n with
  | zero => exact Or.inl (fun i h => absurd h (by omega))
  | succ n ih =>
    rcases ih with h | ⟨i, h1, h2, h3⟩
    · by_cases hn : P n
      · exact Or.inl (fun i hi => by by_cases e : i = n; · rw [e]; exact hn
                                     · exact h i (by omega))
      · exact Or.inr ⟨n, by omega, hn, h⟩
    · exact Or.inr ⟨i, by omega, h2, h3⟩
/-- a byte as a court: signed, or not -/
theorem byt_n {b : Int32} (h : b.toInt8.toInt32 = b) : ∃ n, n < 256 ∧ b = (nI n).toInt8.toInt32 ∧ b &&& 255 = nI n := by
  have hl : b.toBitVec.toNat % 256 < 256 := Nat.mod_lt _ (by decide)
  have e : b &&& 255 = nI (b.toBitVec.toNat % 256) := pk_and b (m := 255) 8 (by decide)
  exact ⟨b.toBitVec.toNat % 256, hl, (sc_eq h hl).mpr e, e⟩
theorem byt_c : ∀ n, n < 256 → (((0 : Int32) ≤ (nI n).toInt8.toInt32 - 65 ∧ (nI n).toInt8.toInt32 - 65 ≤ 11) ↔ (65 ≤ n ∧ n ≤ 76)) ∧ (((0 : Int32) ≤ nI n - 65 ∧ nI n - 65 ≤ 11) ↔ (65 ≤ n ∧ n ≤ 76)) ∧ ((65 ≤ n ∧ n ≤ 76) → (nI n).toInt8.toInt32 = nI n) := by decide +kernel
/-- the courts of the row: of byte j, if it is one -/
def crt (I : Nat → Nat → Int32) (j : Nat) : Nat := (I 71 j - 65).toNatClampNeg
def isC (I : Nat → Nat → Int32) (j : Nat) : Prop := (0 : Int32) ≤ I 71 j - 65 ∧ I 71 j - 65 ≤ 11
theorem crt_x {I : Nat → Nat → Int32} {j : Nat} (h : (I 71 j).toInt8.toInt32 = I 71 j) : (((0 : Int32) ≤ (I 71 j &&& 255) - 65 ∧ (I 71 j &&& 255) - 65 ≤ 11) ↔ isC I j) ∧ (isC I j → (I 71 j &&& 255) - 65 = nI (crt I j) ∧ I 71 j - 65 = nI (crt I j) ∧ crt I j < 12) := by
  obtain ⟨n, hn, e1, e2⟩ := byt_n h
  obtain ⟨b1, b2, b3⟩ := byt_c n hn
  unfold isC crt
  rw [e2, e1]
  refine ⟨b2.trans b1.symm, fun hc => ?_⟩
  have hr := b1.mp hc
  have e3 := b3 hr
  rw [e3]
  have e4 : nI n - 65 = nI (n - 65) := by
    rw [show (65 : Int32) = nI 65 from rfl]; exact pk_sub hr.1
  rw [e4, cl_nI (by omega)]
  exact ⟨rfl, rfl, by omega⟩
/-- byte i of the row may stand there -/
def okF (I : Nat → Nat → Int32) (i : Nat) : Prop := isC I i ∧ (0 < i → ¬ I 74 (12 * crt I (i - 1) + crt I i) = -1)
def rwF (I : Nat → Nat → Int32) (old : Nat → Int32) (i : Nat) : Nat → Int32 := fun j => if j < i then (I 71 j &&& 255) - 65 else old j
theorem rwF_s {I : Nat → Nat → Int32} {old : Nat → Int32} {i : Nat} : upd (rwF I old i) i ((I 71 i &&& 255) - 65) = rwF I old (i + 1) := by
  funext j
  show (if j = i then _ else rwF I old i j) = _
  unfold rwF
  by_cases e : j = i
  · rw [if_pos e, if_pos (by omega), e]
  · rw [if_neg e]
    by_cases l : j < i
    · rw [if_pos l, if_pos (by omega)]
    · rw [if_neg l, if_neg (by omega)]
theorem rwF_0 {I : Nat → Nat → Int32} {old : Nat → Int32} : rwF I old 0 = old := by funext j; unfold rwF; rw [if_neg (by omega)]
theorem x_at {V : Vk} {g : Hq} {n i : Nat} (hV : ShV V) (hR : ShR g.2.2) (e1 : g.1 1 1 = nI n) (hn : n ≤ 800) (hi : i < n) : r_X8_at V 1 (nI i) g = some (g.1 2 i &&& 255, g) := by
  unfold r_X8_at
  rw [brn_f (nI_pos (by omega)), grd_t (v_1 hV), e1, brn_f (nI_ge hi (by omega)), q_1_0 hR, bind_some', grd_t (ok_nI (n := 800) (t := 1) (v_2 hV) (by omega) (by decide)), cl_nI (by omega)]
/-- one byte read by the class -/
theorem x_read1 {V : Vk} {g : Hq} {n i : Nat} (hV : ShV V) (hR : ShR g.2.2) (e1 : g.1 1 1 = nI n) (e24 : g.1 24 1 = nI n) (hn : n ≤ 10) (hi : i < n) (h2 : g.1 2 = g.1 71) (hb : ∀ j, (g.1 71 j).toInt8.toInt32 = g.1 71 j) (h6 : g.1 6 = g.1 74) (hp : ∀ k, k < i → okF g.1 k) : r_X1_read_25 V (24, 1, 3, nI i, sA g 25 (rwF g.1 (g.1 25) i)) = brn (okF g.1 i) (some (.inl (24, 1, 3, nI (i + 1), sA g 25 (rwF g.1 (g.1 25) (i + 1))))) (some (.inr (0, sA g 25 (rwF g.1 (g.1 25) (i + 1))))) := by
  have o25 : ∀ j, j < 10 → okV V 25 0 (nI j) := fun j hj => ok_nI (n := 10) (v_25 hV) hj (by decide)
  obtain ⟨c1, c2⟩ := crt_x (I := g.1) (j := i) (hb i)
  have hat := x_at (g := sA g 25 (rwF g.1 (g.1 25) i)) hV hR (by rw [sA_n (by decide)]; exact e1) (by omega) hi
  have ri : rwF g.1 (g.1 25) (i + 1) i = (g.1 71 i &&& 255) - 65 := by unfold rwF; rw [if_pos (by omega)]
  show r_X1_read_25' V 24 1 3 (nI i) (sA g 25 (rwF g.1 (g.1 25) i)) = _
  unfold r_X1_read_25'
  rw [grd_t (v_24 hV), sA_n (a := 24) (by decide), e24, brn_f (nI_ge hi (by omega)), sA_3, q_24_0 hR, bind_some', grd_t (v_1 hV), hat, bnd_some, grd_t (o25 _ (by omega)), nm_eq, cl_nI (by omega), sA_sI, sA_n (a := 2) (by decide), h2, rwF_s, sA_3, q_24_0 hR, bind_some', grd_t (o25 _ (by omega)), sA_s, ri, p_isCourt, bnd_some]
  by_cases hc : isC g.1 i
  · obtain ⟨d1, d2, d3⟩ := c2 hc
    rw [brn_f (by rw [bI_0]; exact fun k => k (c1.mpr hc))]
    by_cases i0 : i = 0
    · subst i0
      rw [brn_t (by decide), nm_eq, nI_1, brn_t ⟨hc, fun k => absurd k (by omega)⟩]
    · have ei : nI i - 1 = nI (i - 1) := pk_sub (b := 1) (by omega)
      obtain ⟨-, c2'⟩ := crt_x (I := g.1) (j := i - 1) (hb (i - 1))
      obtain ⟨d1', d2', d3'⟩ := c2' (hp (i - 1) (by omega)).1
      have ri' : rwF g.1 (g.1 25) (i + 1) (i - 1) = nI (crt g.1 (i - 1)) := by unfold rwF; rw [if_pos (by omega)]; exact d1'
      have hmin : r_X9_minutesOfWay V 3 (nI (crt g.1 (i - 1))) (nI (crt g.1 i)) (sA g 25 (rwF g.1 (g.1 25) (i + 1))) = some (g.1 74 (12 * crt g.1 (i - 1) + crt g.1 i), sA g 25 (rwF g.1 (g.1 25) (i + 1))) := by
        unfold r_X9_minutesOfWay
        rw [grd_t (v_3 hV), sA_3, q_3_2 hR, bind_some', xx, grd_t (ok_nI (n := 144) (v_6 hV) (by omega) (by decide)), cl_nI (by omega), sA_n (by decide), h6]
      rw [brn_f (by rw [i_le, tN (by omega), t0]; omega), sA_3, q_24_0 hR, bind_some', ei, grd_t (o25 _ (by omega)), bind_some', grd_t (o25 _ (by omega)), grd_t (v_3 hV), cl_nI (by omega), sA_s, ri', ri, d1, hmin, bnd_some]
      by_cases hw : g.1 74 (12 * crt g.1 (i - 1) + crt g.1 i) = -1
      · rw [brn_t hw, brn_f (fun k => k.2 (by omega) hw)]
      · rw [brn_f hw, nm_eq, nI_1, brn_t ⟨hc, fun _ => hw⟩]
  · rw [brn_t (by rw [bI_0]; exact fun k => hc (c1.mp k)), brn_f (fun k => hc k.1)]
theorem x_readN {V : Vk} {g : Hq} {n : Nat} (hV : ShV V) (hR : ShR g.2.2) (e1 : g.1 1 1 = nI n) (e24 : g.1 24 1 = nI n) (hn : n ≤ 10) (h2 : g.1 2 = g.1 71) (hb : ∀ j, (g.1 71 j).toInt8.toInt32 = g.1 71 j) (h6 : g.1 6 = g.1 74) : ((∀ i, i < n → okF g.1 i) → lop (r_X1_read_25 V) (24, 1, 3, 0, g) = some (1, sA g 25 (rwF g.1 (g.1 25) n))) ∧ ((¬ ∀ i, i < n → okF g.1 i) → ∃ i, lop (r_X1_read_25 V) (24, 1, 3, 0, g) = some (0, sA g 25 (rwF g.1 (g.1 25) i))) := by
  have e0 : ((24, 1, 3, (0 : Int32), g) : Nat × Nat × Nat × Int32 × Hq) = (24, 1, 3, nI 0, sA g 25 (rwF g.1 (g.1 25) 0)) := by rw [rwF_0, sA_id]; rfl
  rw [e0]
  have pre : ∀ i, i ≤ n → (∀ k, k < i → okF g.1 k) → lop (r_X1_read_25 V) (24, 1, 3, nI 0, sA g 25 (rwF g.1 (g.1 25) 0)) = lop (r_X1_read_25 V) (24, 1, 3, nI i, sA g 25 (rwF g.1 (g.1 25) i)) := by
    intro i hi hk
    refine run_to (fun i => (24, 1, 3, nI i, sA g 25 (rwF g.1 (g.1 25) i))) i (fun k hki => ?_)
    rw [x_read1 hV hR e1 e24 hn (by omega) h2 hb h6 (fun q hq => hk q (by omega)), brn_t (hk k hki)]
  constructor
  · intro h
    rw [pre n (Nat.le_refl n) h]
    refine lop_r ?_
    show r_X1_read_25' V 24 1 3 (nI n) _ = _
    unfold r_X1_read_25'
    rw [grd_t (v_24 hV), sA_n (a := 24) (by decide), e24, brn_t (nI_le (Nat.le_refl n) (by omega))]
  · intro h
    rcases first_of (okF g.1) n with k | ⟨i, i1, i2, i3⟩
    · exact absurd k h
    · refine ⟨i + 1, ?_⟩
      rw [pre i (by omega) i3]
      refine lop_r ?_
      rw [x_read1 hV hR e1 e24 hn i1 h2 hb h6 i3, brn_f i2]
theorem m_read1 {V : Vk} {g : Hq} {n i : Nat} {cr : Int32} (hV : ShV V) (hR : ShR g.2.2) (hn : n ≤ 10) (hi : i < n) (hb : ∀ j, (g.1 71 j).toInt8.toInt32 = g.1 71 j) (hp : ∀ k, k < i → okF g.1 k) : r_X12_flee_24 V (70, cr, nI n, nI i, g) = brn (okF g.1 i) (some (.inl (70, cr, nI n, nI (i + 1), g))) (some (.inr (-1, g))) := by
  have o71 : ∀ j, j < 10 → okV V 71 1 (nI j) := fun j hj => ok_nI (n := 800) (t := 1) (v_71 hV) (by omega) (by decide)
  obtain ⟨c1, c2⟩ := crt_x (I := g.1) (j := i) (hb i)
  show r_X12_flee_24' V 70 cr (nI n) (nI i) g = _
  unfold r_X12_flee_24'
  rw [brn_f (nI_ge hi (by omega)), grd_t (v_70 hV), q_70_0 hR, bind_some', grd_t (o71 _ (by omega)), cl_nI (by omega), m_isCourt, bnd_some]
  by_cases hc : isC g.1 i
  · obtain ⟨d1, d2, d3⟩ := c2 hc
    rw [brn_f (by rw [bI_0]; exact fun k => k hc)]
    by_cases i0 : i = 0
    · subst i0
      rw [brn_t (by decide), nm_eq, nI_1, brn_t ⟨hc, fun k => absurd k (by omega)⟩]
    · have ei : nI i - 1 = nI (i - 1) := pk_sub (b := 1) (by omega)
      obtain ⟨-, c2'⟩ := crt_x (I := g.1) (j := i - 1) (hb (i - 1))
      obtain ⟨d1', d2', d3'⟩ := c2' (hp (i - 1) (by omega)).1
      have ix : (12 : Int32) * (g.1 71 (i - 1) - 65) + g.1 71 i - 65 = nI (12 * crt g.1 (i - 1) + crt g.1 i) := by
        rw [d2', ← mx, ← d2]
        rw [Int32.sub_eq_add_neg, Int32.add_assoc, ← Int32.sub_eq_add_neg]
      rw [brn_f (by rw [i_le, tN (by omega), t0]; omega), q_70_12 hR, bind_some', q_70_0 hR, bind_some', ei, grd_t (o71 _ (by omega)), bind_some', grd_t (o71 _ (by omega)), cl_nI (by omega), ix, grd_t (ok_nI (n := 144) (v_74 hV) (by omega) (by decide)), cl_nI (by omega)]
      by_cases hw : g.1 74 (12 * crt g.1 (i - 1) + crt g.1 i) = -1
      · rw [brn_t hw, brn_f (fun k => k.2 (by omega) hw)]
      · rw [brn_f hw, nm_eq, nI_1, brn_t ⟨hc, fun _ => hw⟩]
  · rw [brn_t (by rw [bI_0]; exact hc), brn_f (fun k => hc k.1)]
