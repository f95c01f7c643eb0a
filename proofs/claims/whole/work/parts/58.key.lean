/-! ===== words: class and reference ===== -/
def wst : List Nat := [0, 4, 10, 15, 20, 26, 33, 40, 45, 48, 52, 57, 62, 68]
def wsta (j : Nat) : Nat := wst.getD j 0
def wlen (j : Nat) : Nat := wsta (j + 1) - wsta j - 1
def kwt : List Nat := [0, 1, 2, 3, 4, 10, 11, 12, 7, 8, 9, 5, 6]
def kw (t : Nat) : Nat := kwt.getD t 0
theorem w_tab : ∀ j : Fin 13, wsta (j.1 + 1) = wsta j.1 + wlen j.1 + 1 ∧ wlen j.1 ≤ 6 ∧ 0 < wlen j.1 ∧ wsta j.1 + wlen j.1 < 68 ∧ chS 13 (wsta j.1 + wlen j.1) = 32 ∧ ∀ i : Fin 7, i.1 < wlen j.1 → ¬ chS 13 (wsta j.1 + i.1) = 32 := by decide +kernel
theorem k_tab : ∀ t : Fin 13, lnS t.1 = wlen (kw t.1) ∧ kw t.1 < 13 ∧ ∀ i : Fin 7, i.1 < lnS t.1 → chS t.1 i.1 = chS 13 (wsta (kw t.1) + i.1) := by decide +kernel
theorem u_tab : ∀ a b : Fin 13, a ≠ b → ¬ wlen a.1 = wlen b.1 ∨ ∃ i : Fin 7, i.1 < wlen a.1 ∧ ¬ chS 13 (wsta a.1 + i.1) = chS 13 (wsta b.1 + i.1) := by decide +kernel
/-- the n bytes from p are the word j -/
def isK (T : Nat → Int32) (N p n j : Nat) : Prop := n = wlen j ∧ ∀ i, i < wlen j → bt T N (p + i) = chS 13 (wsta j + i)
theorem isK_u {T : Nat → Int32} {N p n a b : Nat} (ha : a < 13) (hb : b < 13) (h1 : isK T N p n a) (h2 : isK T N p n b) : a = b := by
  refine Classical.byContradiction (fun ne => ?_)
  rcases u_tab ⟨a, ha⟩ ⟨b, hb⟩ (fun q => ne (congrArg Fin.val q)) with q | ⟨i, i1, i2⟩
  · exact q (h1.1.symm.trans h2.1)
  · have e := h1.1.symm.trans h2.1
    simp only at i1 i2 e
    exact i2 ((h1.2 i.1 i1).symm.trans (h2.2 i.1 (by omega)))
theorem ln13 : lnS 13 = 68 := by decide
/-- the class: is the token this word -/
theorem x_isWord {V : Vk} {T : Nat → Int32} {N s e t : Nat} {g : Hq} (h : CX V T N g) (ht : t < 13) (h1 : g.1 18 1 = 1) (h2 : g.1 18 2 = nI s) (h3 : g.1 18 3 = nI e) (se : s ≤ e) (eN : e ≤ N) : r_X3_isWord V 18 t g = some (bI (isK T N s (e - s) (kw t)), g) := by
  have hN := h.2.2.2.2
  obtain ⟨l1, l2, l3⟩ := k_tab ⟨t, ht⟩
  simp only at l1 l2 l3
  have w6 := (w_tab ⟨kw t, l2⟩).2.1
  simp only at w6
  have lt : lnS t ≤ 6 := by omega
  unfold r_X3_isWord
  rw [grd_t (v_18 h.1), brn_t h1, grd_t (show t < 14 by omega), p_strlen (by omega), bnd_some, h3, h2, pk_sub se]
  by_cases c : e - s = lnS t
  · rw [brn_t (by rw [c])]
    have stp : ∀ i, i < lnS t → r_X3_isWord_28 V (18, t, nI i, g) = brn (bt T N (s + i) = chS t i) (some (.inl (18, t, nI (i + 1), g))) (some (.inr (0, g))) := by
      intro i hi
      show r_X3_isWord_28' V 18 t (nI i) g = _
      unfold r_X3_isWord_28'
      rw [grd_t (show t < 14 by omega), p_strlen (by omega), bnd_some, brn_f (nI_ge hi (by omega)), grd_t (v_18 h.1), q_18_0 h.2.1, bind_some', grd_t (v_1 h.1), h2, nI_add, xT_at h (by omega), bnd_some, p_char (by omega) hi, bnd_some, nI_1, nm_eq]
    show lop (r_X3_isWord_28 V) (18, t, nI 0, g) = _
    rcases first_of (fun i => bt T N (s + i) = chS t i) (lnS t) with q | ⟨i, i1, i2, i3⟩
    · have pre := run_to (f := r_X3_isWord_28 V) (fun i => (18, t, nI i, g)) (lnS t) (fun i hi => by
        show r_X3_isWord_28 V (18, t, nI i, g) = _
        rw [stp i hi, brn_t (q i hi)])
      rw [pre]
      rw [bI_t (show isK T N s (e - s) (kw t) from ⟨by omega, fun i hi => by rw [q i (by omega)]; exact l3 ⟨i, by omega⟩ (show i < lnS t by omega)⟩)]
      refine lop_r ?_
      show r_X3_isWord_28' V 18 t (nI (lnS t)) g = _
      unfold r_X3_isWord_28'
      rw [grd_t (show t < 14 by omega), p_strlen (by omega), bnd_some, brn_t (nI_le (by omega) (by omega))]
    · have pre := run_to (f := r_X3_isWord_28 V) (fun i => (18, t, nI i, g)) i (fun k hk => by
        show r_X3_isWord_28 V (18, t, nI k, g) = _
        rw [stp k (by omega), brn_t (i3 k hk)])
      rw [pre]
      rw [bI_f (show ¬ isK T N s (e - s) (kw t) from fun k => i2 (by rw [k.2 i (by omega)]; exact (l3 ⟨i, by omega⟩ i1).symm))]
      refine lop_r ?_
      show r_X3_isWord_28 V (18, t, nI i, g) = _
      rw [stp i i1, brn_f i2]
  · rw [brn_f (by rw [nI_eq (by omega) (by omega)]; exact c), bI_f (show ¬ isK T N s (e - s) (kw t) from fun k => c (by rw [k.1, l1]))]
theorem x_isWord0 {V : Vk} {t : Nat} {g : Hq} (hV : ShV V) (h1 : ¬ g.1 18 1 = 1) : r_X3_isWord V 18 t g = some (0, g) := by
  unfold r_X3_isWord
  rw [grd_t (v_18 hV), brn_f h1]
/-- the reference: one word of its list -/
theorem m_key1 {V : Vk} {T : Nat → Int32} {N p n j : Nat} {g : Hq} (h : CM V T N g) (hj : j < 13) (hp : p + n ≤ N) : (isK T N p n j → lop (r_X12_keyAt_8 V) (70, nI p, nI n, nI j, nI (wsta j), nI (wsta j), g) = some (nI j, g)) ∧ (¬ isK T N p n j → lop (r_X12_keyAt_8 V) (70, nI p, nI n, nI j, nI (wsta j), nI (wsta j), g) = lop (r_X12_keyAt_8 V) (70, nI p, nI n, nI (j + 1), nI (wsta (j + 1)), nI (wsta (j + 1)), g)) := by
  have hN := h.2.2.2.2
  obtain ⟨t1, t2, t3, t4, t5, t6⟩ := w_tab ⟨j, hj⟩
  simp only at t1 t2 t3 t4 t5 t6
  have l13 := ln13
  have pre : lop (r_X12_keyAt_8 V) (70, nI p, nI n, nI j, nI (wsta j), nI (wsta j), g) = lop (r_X12_keyAt_8 V) (70, nI p, nI n, nI j, nI (wsta j), nI (wsta j + wlen j), g) :=
    run_to (f := r_X12_keyAt_8 V) (fun i => (70, nI p, nI n, nI j, nI (wsta j), nI (wsta j + i), g)) (wlen j) (fun i hi => by
      show r_X12_keyAt_8' V 70 (nI p) (nI n) (nI j) (nI (wsta j)) (nI (wsta j + i)) g = some (.inl (70, nI p, nI n, nI j, nI (wsta j), nI (wsta j + (i + 1)), g))
      unfold r_X12_keyAt_8'
      rw [p_strlen (by omega), bnd_some, brn_f (nI_ge (by omega) (by omega)), p_char (by omega) (by omega), bnd_some, brn_f (t6 ⟨i, by omega⟩ hi), nI_1, nm_eq]
      rfl)
  have nxt : (nI (wsta j + wlen j) + 1 : Int32) = nI (wsta (j + 1)) := by rw [nI_1, t1]
  have sp : r_X12_keyAt_8 V (70, nI p, nI n, nI j, nI (wsta j), nI (wsta j + wlen j), g) = brn (nI (wlen j) = nI n) (lop (r_X12_keyAt_52 V) (70, nI p, nI n, nI j, nI (wsta j), nI (wsta j + wlen j), 1, 0, g)) (lop (r_X12_keyAt_52 V) (70, nI p, nI n, nI j, nI (wsta j), nI (wsta j + wlen j), 0, 0, g)) := by
    show r_X12_keyAt_8' V 70 (nI p) (nI n) (nI j) (nI (wsta j)) (nI (wsta j + wlen j)) g = _
    unfold r_X12_keyAt_8'
    rw [p_strlen (by omega), bnd_some, brn_f (nI_ge (by omega) (by omega)), p_char (by omega) (by omega), bnd_some, brn_t t5, pk_sub (by omega), show wsta j + wlen j - wsta j = wlen j by omega]
  have out0 : ∀ i : Nat, i ≤ n → r_X12_keyAt_52 V (70, nI p, nI n, nI j, nI (wsta j), nI (wsta j + wlen j), 0, nI i, g) = some (.inr (.inl (70, nI p, nI n, nI (j + 1), nI (wsta (j + 1)), nI (wsta (j + 1)), g))) := by
    intro i hi
    show r_X12_keyAt_52' V 70 (nI p) (nI n) (nI j) (nI (wsta j)) (nI (wsta j + wlen j)) 0 (nI i) g = _
    unfold r_X12_keyAt_52'
    rw [brn_t rfl, brn_t rfl, brn_same, nI_1, nm_eq, nxt, nm_eq, nm_eq]
  have stp : ∀ i, i < n → n = wlen j → r_X12_keyAt_52 V (70, nI p, nI n, nI j, nI (wsta j), nI (wsta j + wlen j), 1, nI i, g) = brn (chS 13 (wsta j + i) = bt T N (p + i)) (some (.inl (70, nI p, nI n, nI j, nI (wsta j), nI (wsta j + wlen j), 1, nI (i + 1), g))) (some (.inl (70, nI p, nI n, nI j, nI (wsta j), nI (wsta j + wlen j), 0, nI (i + 1), g))) := by
    intro i hi hn
    show r_X12_keyAt_52' V 70 (nI p) (nI n) (nI j) (nI (wsta j)) (nI (wsta j + wlen j)) 1 (nI i) g = _
    unfold r_X12_keyAt_52'
    rw [brn_f (nI_ge hi (by omega)), brn_f (by decide), nI_add, p_char (by omega) (by omega), bnd_some, grd_t (v_70 h.1), nI_add, mT_see h (by omega), bnd_some, nI_1, nm_eq, nm_eq]
  rw [pre]
  by_cases c : wlen j = n
  · rw [brn_t (by rw [c])] at sp
    rcases first_of (fun i => chS 13 (wsta j + i) = bt T N (p + i)) n with q | ⟨i, i1, i2, i3⟩
    · have yes : isK T N p n j := ⟨c.symm, fun i hi => (q i (by omega)).symm⟩
      refine ⟨fun _ => ?_, fun k => absurd yes k⟩
      refine lop_r (sp.trans ?_)
      have go : lop (r_X12_keyAt_52 V) (70, nI p, nI n, nI j, nI (wsta j), nI (wsta j + wlen j), 1, 0, g) = lop (r_X12_keyAt_52 V) (70, nI p, nI n, nI j, nI (wsta j), nI (wsta j + wlen j), 1, nI n, g) :=
        run_to (f := r_X12_keyAt_52 V) (fun i => (70, nI p, nI n, nI j, nI (wsta j), nI (wsta j + wlen j), 1, nI i, g)) n (fun i hi => by
          show r_X12_keyAt_52 V (70, nI p, nI n, nI j, nI (wsta j), nI (wsta j + wlen j), 1, nI i, g) = _
          rw [stp i hi c.symm, brn_t (q i hi)])
      rw [go]
      refine lop_r ?_
      show r_X12_keyAt_52' V 70 (nI p) (nI n) (nI j) (nI (wsta j)) (nI (wsta j + wlen j)) 1 (nI n) g = _
      unfold r_X12_keyAt_52'
      rw [brn_t (nI_le (by omega) (by omega)), brn_f (by decide)]
    · have no : ¬ isK T N p n j := fun k => i2 (k.2 i (by omega)).symm
      refine ⟨fun k => absurd k no, fun _ => ?_⟩
      refine lop_l (sp.trans ?_)
      have go : lop (r_X12_keyAt_52 V) (70, nI p, nI n, nI j, nI (wsta j), nI (wsta j + wlen j), 1, 0, g) = lop (r_X12_keyAt_52 V) (70, nI p, nI n, nI j, nI (wsta j), nI (wsta j + wlen j), 1, nI i, g) :=
        run_to (f := r_X12_keyAt_52 V) (fun i => (70, nI p, nI n, nI j, nI (wsta j), nI (wsta j + wlen j), 1, nI i, g)) i (fun k hk => by
          show r_X12_keyAt_52 V (70, nI p, nI n, nI j, nI (wsta j), nI (wsta j + wlen j), 1, nI k, g) = _
          rw [stp k (by omega) c.symm, brn_t (i3 k hk)])
      rw [go, lop_l (show r_X12_keyAt_52 V (70, nI p, nI n, nI j, nI (wsta j), nI (wsta j + wlen j), 1, nI i, g) = _ by rw [stp i i1 c.symm, brn_f i2])]
      exact lop_r (out0 (i + 1) (by omega))
  · rw [brn_f (by rw [nI_eq (by omega) (by omega)]; exact c)] at sp
    refine ⟨fun k => absurd k.1.symm c, fun _ => ?_⟩
    exact lop_l (sp.trans (lop_r (out0 0 (by omega))))
theorem m_keyG {V : Vk} {T : Nat → Int32} {N p n : Nat} {g : Hq} (h : CM V T N g) (hp : p + n ≤ N) : ∀ d j, j + d = 13 → ∃ r, lop (r_X12_keyAt_8 V) (70, nI p, nI n, nI j, nI (wsta j), nI (wsta j), g) = some (r, g) ∧ ((∃ i, i < 13 ∧ isK T N p n i ∧ r = nI i) ∨ ((∀ i, j ≤ i → i < 13 → ¬ isK T N p n i) ∧ r = -1)) := by
  intro d
  induction d with
  | zero =>
    intro j hj
    have : j = 13 := by omega
    subst this
    refine ⟨-1, ?_, Or.inr ⟨fun i h1 h2 => by omega, rfl⟩⟩
    refine lop_r ?_
    show r_X12_keyAt_8' V 70 (nI p) (nI n) (nI 13) (nI (wsta 13)) (nI (wsta 13)) g = _
    unfold r_X12_keyAt_8'
    rw [p_strlen (by omega), bnd_some, brn_t (by decide)]
  | succ d ih =>
    intro j hj
    obtain ⟨k1, k2⟩ := m_key1 (j := j) h (by omega) hp
    by_cases c : isK T N p n j
    · exact ⟨nI j, k1 c, Or.inl ⟨j, by omega, c, rfl⟩⟩
    · obtain ⟨r, r1, r2⟩ := ih (j + 1) (by omega)
      refine ⟨r, (k2 c).trans r1, ?_⟩
      rcases r2 with r2 | ⟨r2, r3⟩
      · exact Or.inl r2
      · refine Or.inr ⟨fun i i1 i2 => ?_, r3⟩
        by_cases e : i = j
        · rw [e]; exact c
        · exact r2 i (by omega) i2
theorem m_keyAt {V : Vk} {T : Nat → Int32} {N p n : Nat} {g : Hq} (h : CM V T N g) (hp : p + n ≤ N) : ∃ r, r_X12_keyAt V 70 (nI p) (nI n) g = some (r, g) ∧ ((∃ i, i < 13 ∧ isK T N p n i ∧ r = nI i) ∨ ((∀ i, i < 13 → ¬ isK T N p n i) ∧ r = -1)) := by
  obtain ⟨r, r1, r2⟩ := m_keyG (n := n) h hp 13 0 rfl
  refine ⟨r, r1, ?_⟩
  rcases r2 with r2 | ⟨r2, r3⟩
  · exact Or.inl r2
  · exact Or.inr ⟨fun i hi => r2 i (by omega) hi, r3⟩
