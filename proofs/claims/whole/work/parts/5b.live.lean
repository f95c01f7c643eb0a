/-! ===== class and reference read the same text ===== -/
theorem adv2 {V : Vk} {T : Nat → Int32} {N p0 : Nat} {gx gm : Hq} (hx : CX V T N gx) (hm : CM V T N gm) (h0 : p0 ≤ N) (h3 : gx.1 18 3 = nI p0) (h6 : gm.1 70 6 = nI p0) : ∃ s e gx' gm', r_X3_advance V 18 gx = some ((), gx') ∧ r_X12_scan V 70 gm = some ((), gm') ∧ F18 gx gx' ∧ F70 gm gm' ∧ p0 ≤ s ∧ s ≤ e ∧ e ≤ N ∧ gx'.1 18 2 = nI s ∧ gx'.1 18 3 = nI e ∧ gm'.1 70 5 = nI s ∧ gm'.1 70 6 = nI e ∧ (gx'.1 18 1 = 0 ∨ s < e) ∧ Tk T N s e (gx'.1 18 1) (gx'.1 18 4) (gm'.1 70 3) (gm'.1 70 4) (gm'.1 70 7) := by
  obtain ⟨s, e, gx', k, v, r, sh, ad, F, f1, f2, f3, f4⟩ := x_tok hx h0 h3
  obtain ⟨gm', sc, G, g5, g6, tk⟩ := m_tok hm r sh h6
  refine ⟨s, e, gx', gm', ad, sc, F, G, r.1, (Sh_le sh).1, (Sh_le sh).2, f2, f3, g5, g6, ?_, by rw [f1, f4]; exact tk⟩
  rcases sh with ⟨a, b, c⟩ | ⟨a, b, c⟩
  · exact Or.inl (by rw [f1]; exact c)
  · exact Or.inr b
def Li (V : Vk) (T : Nat → Int32) (N p : Nat) (gx0 gm0 : Hq) (s : Nat) (gx gm : Hq) : Prop := DX V T N p gx0 gx ∧ CM V T N gm ∧ KM gm0 gm ∧ gx.1 18 6 = 0 ∧ gx.1 18 7 = -1 ∧ gm.1 70 8 = 0 ∧ gm.1 70 9 = -1 ∧ ∃ e, s ≤ e ∧ e ≤ N ∧ gx.1 18 2 = nI s ∧ gx.1 18 3 = nI e ∧ gm.1 70 5 = nI s ∧ gm.1 70 6 = nI e ∧ (gx.1 18 1 = 0 ∨ s < e) ∧ Tk T N s e (gx.1 18 1) (gx.1 18 4) (gm.1 70 3) (gm.1 70 4) (gm.1 70 7)
def Ba (V : Vk) (T : Nat → Int32) (N p : Nat) (gx0 gm0 gx gm : Hq) : Prop := ∃ f q, (¬ f = 0 ∧ 0 < f) ∧ De V T N p gx0 f q gx ∧ CM V T N gm ∧ KM gm0 gm ∧ gm.1 70 8 = f ∧ gm.1 70 9 = q
theorem Li.V {V : Vk} {T : Nat → Int32} {N p : Nat} {gx0 gm0 : Hq} {s : Nat} {gx gm : Hq} (h : Li V T N p gx0 gm0 s gx gm) : ShV V := h.1.2.1.1
theorem Li.R {V : Vk} {T : Nat → Int32} {N p : Nat} {gx0 gm0 : Hq} {s : Nat} {gx gm : Hq} (h : Li V T N p gx0 gm0 s gx gm) : ShR gm.2.2 := h.2.1.2.1
theorem Li.p {V : Vk} {T : Nat → Int32} {N p : Nat} {gx0 gm0 : Hq} {s : Nat} {gx gm : Hq} (h : Li V T N p gx0 gm0 s gx gm) : lawPl p := h.1.1
theorem Li.wm {V : Vk} {T : Nat → Int32} {N p k j : Nat} {v : Int32} {gx0 gm0 : Hq} {s : Nat} {gx gm : Hq} (h : Li V T N p gx0 gm0 s gx gm) (e : (k = 85 ∧ 32 ≤ j) ∨ (k = 86 ∧ 192 ≤ j) ∨ (k = 87 ∧ j = 4)) : Li V T N p gx0 gm0 s gx (sI gm k j v) := by
  obtain ⟨h1, h2, h3, h4, h5, h6, h7, en, a1, a2, a3, a4, a5, a6, a7, a8⟩ := h
  have e70 : ∀ i, (sI gm k j v).1 70 i = gm.1 70 i := fun i => by rw [sI_1, up2_ne _ _ (Or.inl (by omega))]
  refine ⟨h1, h2.w (Or.inl (by omega)) (by omega), h3.w (by omega), h4, h5, by rw [e70]; exact h6, by rw [e70]; exact h7, en, a1, a2, a3, a4, by rw [e70]; exact a5, by rw [e70]; exact a6, a7, ?_⟩
  rw [e70, e70, e70]
  exact a8
theorem Li.wx {V : Vk} {T : Nat → Int32} {N p k j : Nat} {v : Int32} {gx0 gm0 : Hq} {s : Nat} {gx gm : Hq} (h : Li V T N p gx0 gm0 s gx gm) (e : p ≤ k ∧ k ≤ p + 4) (e8 : k ≠ p ∨ j ≠ 8) : Li V T N p gx0 gm0 s (sI gx k j v) gm := by
  obtain ⟨h1, h2, h3, h4, h5, h6, h7, en, a1, a2, a3, a4, a5, a6, a7, a8⟩ := h
  obtain ⟨d1, d2, d3⟩ := d_w (v := v) (j := j) (f := 0) (q := -1) ⟨h1, h4, h5⟩ e e8
  have hp' := law_b h1.1
  have e18 : ∀ i, (sI gx k j v).1 18 i = gx.1 18 i := fun i => by rw [sI_1, up2_ne _ _ (Or.inl (by omega))]
  refine ⟨d1, h2, h3, d2, d3, h6, h7, en, a1, a2, by rw [e18]; exact a3, by rw [e18]; exact a4, a5, a6, by rw [e18]; exact a7, ?_⟩
  rw [e18, e18]
  exact a8
theorem Li.w8 {V : Vk} {T : Nat → Int32} {N p n : Nat} {gx0 gm0 : Hq} {s : Nat} {gx gm : Hq} (h : Li V T N p gx0 gm0 s gx gm) (hn : n ≤ 12) : Li V T N p gx0 gm0 s (sI gx p 8 (nI n)) gm := by
  obtain ⟨h1, h2, h3, h4, h5, h6, h7, en, a1, a2, a3, a4, a5, a6, a7, a8⟩ := h
  obtain ⟨d1, d2, d3⟩ := d_w8 (f := 0) (q := -1) ⟨h1, h4, h5⟩ hn
  have hp' := law_b h1.1
  have e18 : ∀ i, (sI gx p 8 (nI n)).1 18 i = gx.1 18 i := fun i => by rw [sI_1, up2_ne _ _ (Or.inl (by omega))]
  refine ⟨d1, h2, h3, d2, d3, h6, h7, en, a1, a2, by rw [e18]; exact a3, by rw [e18]; exact a4, a5, a6, by rw [e18]; exact a7, ?_⟩
  rw [e18, e18]
  exact a8
theorem Li.w5 {V : Vk} {T : Nat → Int32} {N p : Nat} {v : Int32} {gx0 gm0 : Hq} {s : Nat} {gx gm : Hq} (h : Li V T N p gx0 gm0 s gx gm) : Li V T N p gx0 gm0 s (sI gx 18 5 v) gm := by
  obtain ⟨h1, h2, h3, h4, h5, h6, h7, en, a1, a2, a3, a4, a5, a6, a7, a8⟩ := h
  obtain ⟨d1, d2, d3⟩ := d_w5 (v := v) (f := 0) (q := -1) ⟨h1, h4, h5⟩
  have e18 : ∀ i, i ≠ 5 → (sI gx 18 5 v).1 18 i = gx.1 18 i := fun i hi => by rw [sI_1, up2_ne _ _ (Or.inr hi)]
  refine ⟨d1, h2, h3, d2, d3, h6, h7, en, a1, a2, by rw [e18 _ (by decide)]; exact a3, by rw [e18 _ (by decide)]; exact a4, a5, a6, by rw [e18 _ (by decide)]; exact a7, ?_⟩
  rw [e18 _ (by decide), e18 _ (by decide)]
  exact a8
theorem l_adv {V : Vk} {T : Nat → Int32} {N p : Nat} {gx0 gm0 : Hq} {s : Nat} {gx gm : Hq} (h : Li V T N p gx0 gm0 s gx gm) : ∃ s' gx' gm', r_X3_advance V 18 gx = some ((), gx') ∧ r_X12_scan V 70 gm = some ((), gm') ∧ F18 gx gx' ∧ F70 gm gm' ∧ Li V T N p gx0 gm0 s' gx' gm' ∧ s ≤ s' ∧ (¬ gx.1 18 1 = 0 → s < s') := by
  obtain ⟨⟨hp, hc, hk, ⟨n, n1, n2⟩, -⟩, h2, h3, h4, h5, h6, h7, en, a1, a2, a3, a4, a5, a6, a7, a8⟩ := h
  obtain ⟨s', e', gx', gm', ad, sc, F, G, b1, b2, b3, b4, b5, b6, b7, b8, b9⟩ := adv2 hc h2 a2 a4 a6
  have hp' := law_b hp
  refine ⟨s', gx', gm', ad, sc, F, G, ⟨⟨hp, hc.f F, hk.f F, ⟨n, n1, by rw [F.1 p (by omega)]; exact n2⟩, s', e', b2, b3, b4, b5⟩, h2.f G, h3.f G, by rw [F.2.1 6 (by omega)]; exact h4, by rw [F.2.1 7 (by omega)]; exact h5, by rw [G.2.1 8 (by omega)]; exact h6, by rw [G.2.1 9 (by omega)]; exact h7, e', b2, b3, b4, b5, b6, b7, b8, b9⟩, by omega, fun k => ?_⟩
  have := a7.resolve_left k
  omega
theorem l_blame {V : Vk} {T : Nat → Int32} {N p : Nat} {gx0 gm0 : Hq} {s : Nat} {gx gm : Hq} {c : Int32} (h : Li V T N p gx0 gm0 s gx gm) (hc : ¬ c = 0) : ∃ gx' gm' q, r_X3_blame V 18 c gx = some ((), gx') ∧ r_X12_wrong V 70 c gm = some (0, gm') ∧ De V T N p gx0 c q gx' ∧ (∀ j, j ≠ 6 → j ≠ 7 → gx'.1 18 j = gx.1 18 j) ∧ CM V T N gm' ∧ KM gm0 gm' ∧ gm'.1 70 8 = c ∧ gm'.1 70 9 = q := by
  obtain ⟨⟨hp, hcx, hk, ⟨n, n1, n2⟩, s0, e0, z1, z2, z3, z4⟩, h2, h3, h4, h5, h6, h7, en, a1, a2, a3, a4, a5, a6, a7, a8⟩ := h
  have hp' := law_b hp
  have ne : ∀ j, j ≠ 6 → j ≠ 7 → (sI (sI gx 18 6 c) 18 7 (nI s)).1 18 j = gx.1 18 j := fun j j6 j7 => by
    rw [sI_1, up2_ne _ _ (Or.inr j7), sI_1, up2_ne _ _ (Or.inr j6)]
  refine ⟨sI (sI gx 18 6 c) 18 7 (nI s), sI (sI gm 70 8 c) 70 9 (nI s), nI s, ?_, ?_, ⟨⟨hp, (hcx.w (by decide) (by decide)).w (by decide) (by decide), (hk.w (Or.inl rfl)).w (Or.inl rfl), ⟨n, n1, ?_⟩, s0, e0, z1, z2, by rw [ne 2 (by decide) (by decide)]; exact z3, by rw [ne 3 (by decide) (by decide)]; exact z4⟩, ?_, by rw [sI_1, up2_s]⟩, ne, (h2.w (Or.inr (by decide)) (by decide)).w (Or.inr (by decide)) (by decide), (h3.w (by omega)).w (by omega), ?_, by rw [sI_1, up2_s]⟩
  · unfold r_X3_blame
    rw [grd_t (v_18 hcx.1), brn_t h4, nm_eq, show (sI gx 18 6 c).1 18 2 = nI s by rw [sI_1, up2_ne _ _ (Or.inr (by decide))]; exact a3, nm_eq]
  · unfold r_X12_wrong
    rw [grd_t (v_70 hcx.1), nm_eq, show (sI gm 70 8 c).1 70 5 = nI s by rw [sI_1, up2_ne _ _ (Or.inr (by decide))]; exact a5, nm_eq]
  · rw [sI_1, up2_ne _ _ (Or.inl (by omega)), sI_1, up2_ne _ _ (Or.inl (by omega))]; exact n2
  · rw [sI_1, up2_ne _ _ (Or.inr (by decide)), sI_1, up2_s]
  · rw [sI_1, up2_ne _ _ (Or.inr (by decide)), sI_1, up2_s]
theorem Tk_num {T : Nat → Int32} {N s e : Nat} {k v so wh wo : Int32} (h : Tk T N s e k v so wh wo) : (k = 2 ↔ so = 2) ∧ (k = 3 ↔ so = 3) ∧ (k = 0 ↔ so = 4) := by
  rcases h with ⟨a, b⟩ | ⟨a, ⟨j, j1, j2, b, -⟩ | ⟨-, b⟩⟩ | ⟨a, b, -⟩ | ⟨a, b⟩ | ⟨a, b⟩ <;> rw [a, b] <;> decide
theorem Tk_val {T : Nat → Int32} {N s e : Nat} {k v so wh wo : Int32} (h : Tk T N s e k v so wh wo) (h2 : k = 2) : wo = v ∧ 0 ≤ v.toInt := by
  rcases h with ⟨a, b⟩ | ⟨a, -⟩ | ⟨a, b, c⟩ | ⟨a, b⟩ | ⟨a, b⟩
  · rw [a] at h2; exact absurd h2 (by decide)
  · rw [a] at h2; exact absurd h2 (by decide)
  · exact c
  · rw [a] at h2; exact absurd h2 (by decide)
  · rw [a] at h2; exact absurd h2 (by decide)
theorem Tk_word {T : Nat → Int32} {N s e j : Nat} {k v so wh wo : Int32} (h : Tk T N s e k v so wh wo) (hj : j < 13) : (k = 1 ∧ isK T N s (e - s) j) ↔ (so = 1 ∧ wh = nI j) := by
  rcases h with ⟨a, b⟩ | ⟨a, ⟨i, j1, j2, b, c⟩ | ⟨c, b⟩⟩ | ⟨a, b, -⟩ | ⟨a, b⟩ | ⟨a, b⟩
  · rw [a, b]; exact ⟨fun q => absurd q.1 (by decide), fun q => absurd q.1 (by decide)⟩
  · rw [a, b, c]
    refine ⟨fun q => ⟨rfl, ?_⟩, fun q => ⟨rfl, ?_⟩⟩
    · rw [isK_u j1 hj j2 q.2]
    · have := (nI_eq (by omega) (by omega)).mp q.2
      rw [← this]; exact j2
  · rw [a, b]; exact ⟨fun q => absurd q.2 (c j hj), fun q => absurd q.1 (by decide)⟩
  · rw [a, b]; exact ⟨fun q => absurd q.1 (by decide), fun q => absurd q.1 (by decide)⟩
  · rw [a, b]; exact ⟨fun q => absurd q.1 (by decide), fun q => absurd q.1 (by decide)⟩
  · rw [a, b]; exact ⟨fun q => absurd q.1 (by decide), fun q => absurd q.1 (by decide)⟩
theorem Tk_so1 {T : Nat → Int32} {N s e : Nat} {k v so wh wo : Int32} (h : Tk T N s e k v so wh wo) (h2 : so = 1) : k = 1 ∧ ∃ j, j < 13 ∧ wh = nI j := by
  rcases h with ⟨a, b⟩ | ⟨a, ⟨i, j1, j2, b, c⟩ | ⟨c, b⟩⟩ | ⟨a, b, -⟩ | ⟨a, b⟩ | ⟨a, b⟩
  · rw [b] at h2; exact absurd h2 (by decide)
  · exact ⟨a, i, j1, c⟩
  · rw [b] at h2; exact absurd h2 (by decide)
  · rw [b] at h2; exact absurd h2 (by decide)
  · rw [b] at h2; exact absurd h2 (by decide)
  · rw [b] at h2; exact absurd h2 (by decide)
theorem bI_iff {a b : Prop} (h : a ↔ b) : bI a = bI b := by rw [propext h]
theorem l_isWord {V : Vk} {T : Nat → Int32} {N p t : Nat} {gx0 gm0 : Hq} {s : Nat} {gx gm : Hq} (h : Li V T N p gx0 gm0 s gx gm) (ht : t < 13) : r_X3_isWord V 18 t gx = some (bI (gm.1 70 3 = 1 ∧ gm.1 70 4 = nI (kw t)), gx) := by
  obtain ⟨h1, h2, h3, h4, h5, h6, h7, en, a1, a2, a3, a4, a5, a6, a7, a8⟩ := h
  have kj := (k_tab ⟨t, ht⟩).2.1
  by_cases c : gx.1 18 1 = 1
  · rw [x_isWord h1.2.1 ht c a3 a4 a1 a2, ← bI_iff (Tk_word a8 kj), bI_iff (show isK T N s (en - s) (kw t) ↔ (gx.1 18 1 = 1 ∧ isK T N s (en - s) (kw t)) from ⟨fun q => ⟨c, q⟩, fun q => q.2⟩)]
  · rw [x_isWord0 h1.2.1.1 c, bI_f (fun q => c (Tk_so1 a8 q.1).1)]
theorem nbz : narrow .boolean (.int (0 : Int32)) = .int (0 : Int32) := by decide
theorem nbo : narrow .boolean (.int (1 : Int32)) = .int (1 : Int32) := by decide
theorem l_num {V : Vk} {T : Nat → Int32} {N p l : Nat} {gx0 gm0 : Hq} {s : Nat} {gx gm : Hq} {lo hi : Int32} (h : Li V T N p gx0 gm0 s gx gm) (hl : l < 8) : (∃ v gx' gm' s', r_X3_takeNumber V 18 lo hi gx = some (v, gx') ∧ r_X12_number V 70 (nI l) lo hi gm = some (1, gm') ∧ Li V T N p gx0 gm0 s' gx' gm' ∧ s < s' ∧ F18 gx gx' ∧ F70 (sI gm 85 (32 + l) v) gm' ∧ lo ≤ v ∧ v ≤ hi ∧ 0 ≤ v.toInt) ∨ (∃ v gx' gm', r_X3_takeNumber V 18 lo hi gx = some (v, gx') ∧ r_X12_number V 70 (nI l) lo hi gm = some (0, gm') ∧ Ba V T N p gx0 gm0 gx' gm') := by
  have hV := h.V
  have hR := h.R
  obtain ⟨en, a1, a2, a3, a4, a5, a6, a7, a8⟩ := h.2.2.2.2.2.2.2
  have tn := (Tk_num a8).1
  unfold r_X3_takeNumber r_X12_number
  rw [grd_t (v_18 hV), grd_t (v_70 hV)]
  by_cases c : gx.1 18 1 = 2
  · obtain ⟨v1, v2⟩ := Tk_val a8 c
    rw [brn_t c, brn_t (tn.mp c), p_isFrom, bnd_some, v1, p_in, bnd_some]
    by_cases r : lo ≤ gx.1 18 4 ∧ gx.1 18 4 ≤ hi
    · refine Or.inl ?_
      obtain ⟨s', gx', gm', b1, b2, b3, b4, b5, b6, b7⟩ := l_adv (h.wm (k := 85) (j := 32 + l) (v := gx.1 18 4) (Or.inl ⟨rfl, by omega⟩))
      refine ⟨gx.1 18 4, gx', gm', s', ?_, ?_, b5, b7 (by rw [c]; decide), b3, b4, r.1, r.2, v2⟩
      · rw [brn_f (by rw [bI_0]; exact fun q => q r), nm_eq, b1, bnd_some]
      · rw [brn_f (by rw [bI_0]; exact fun q => q r), q_70_29 hR, bind_some', show (32 : Int32) + nI l = nI (32 + l) from nI_add 32 l, grd_t (ok_nI (n := 40) (t := 0) (v_85 hV) (by omega) (by decide)), cl_nI (by omega), v1, nm_eq, b2, bnd_some]
    · refine Or.inr ?_
      obtain ⟨gx', gm', q, b1, b2, b3, b4, b5, b6, b7, b8⟩ := l_blame (c := 2) h (by decide)
      obtain ⟨g2, d1, d2⟩ := d_adv b3
      refine ⟨gx'.1 18 4, g2, gm', ?_, ?_, 2, q, by decide, d2, b5, b6, b7, b8⟩
      · rw [brn_t (by rw [bI_0]; exact r), b1, bnd_some, nm_eq, d1, bnd_some]
      · rw [brn_t (by rw [bI_0]; exact r), b2, bnd_some, grd_t nbz]
  · refine Or.inr ?_
    obtain ⟨gx', gm', q, b1, b2, b3, b4, b5, b6, b7, b8⟩ := l_blame (c := 1) h (by decide)
    obtain ⟨g2, d1, d2⟩ := d_adv b3
    refine ⟨gx'.1 18 4, g2, gm', ?_, ?_, 1, q, by decide, d2, b5, b6, b7, b8⟩
    · rw [brn_f c, b1, bnd_some, nm_eq, d1, bnd_some]
    · rw [brn_f (fun q => c (tn.mpr q)), b2, bnd_some, grd_t nbz]
theorem l_hour {V : Vk} {T : Nat → Int32} {N p k : Nat} {gx0 gm0 : Hq} {s : Nat} {gx gm : Hq} (h : Li V T N p gx0 gm0 s gx gm) (k1 : 192 ≤ k) (k2 : k < 240) : (∃ v gx' gm' s', r_X3_takeNumber V 18 0 23 gx = some (v, gx') ∧ r_X12_hour V 70 (nI k) gm = some (1, gm') ∧ Li V T N p gx0 gm0 s' gx' gm' ∧ s < s' ∧ F18 gx gx' ∧ F70 (sI gm 86 k v) gm') ∨ (∃ v gx' gm', r_X3_takeNumber V 18 0 23 gx = some (v, gx') ∧ r_X12_hour V 70 (nI k) gm = some (0, gm') ∧ Ba V T N p gx0 gm0 gx' gm') := by
  have hV := h.V
  have hR := h.R
  obtain ⟨en, a1, a2, a3, a4, a5, a6, a7, a8⟩ := h.2.2.2.2.2.2.2
  have tn := (Tk_num a8).1
  unfold r_X3_takeNumber r_X12_hour
  rw [grd_t (v_18 hV), grd_t (v_70 hV)]
  by_cases c : gx.1 18 1 = 2
  · obtain ⟨v1, v2⟩ := Tk_val a8 c
    have v0 : (0 : Int32) ≤ gx.1 18 4 := by rw [i_le, t0]; exact v2
    rw [brn_t c, brn_t (tn.mp c), p_isFrom, bnd_some, v1]
    by_cases r : gx.1 18 4 ≤ 23
    · refine Or.inl ?_
      obtain ⟨s', gx', gm', b1, b2, b3, b4, b5, b6, b7⟩ := l_adv (h.wm (k := 86) (j := k) (v := gx.1 18 4) (Or.inr (Or.inl ⟨rfl, k1⟩)))
      refine ⟨gx.1 18 4, gx', gm', s', ?_, ?_, b5, b7 (by rw [c]; decide), b3, b4⟩
      · rw [brn_f (by rw [bI_0]; exact fun q => q ⟨v0, r⟩), nm_eq, b1, bnd_some]
      · rw [brn_t r, q_70_30 hR, bind_some', grd_t (ok_nI (n := 240) (t := 0) (v_86 hV) (by omega) (by decide)), cl_nI (by omega), nm_eq, b2, bnd_some]
    · refine Or.inr ?_
      obtain ⟨gx', gm', q, b1, b2, b3, b4, b5, b6, b7, b8⟩ := l_blame (c := 2) h (by decide)
      obtain ⟨g2, d1, d2⟩ := d_adv b3
      refine ⟨gx'.1 18 4, g2, gm', ?_, ?_, 2, q, by decide, d2, b5, b6, b7, b8⟩
      · rw [brn_t (by rw [bI_0]; exact fun q => r q.2), b1, bnd_some, nm_eq, d1, bnd_some]
      · rw [brn_f r, b2, bnd_some, grd_t nbz]
  · refine Or.inr ?_
    obtain ⟨gx', gm', q, b1, b2, b3, b4, b5, b6, b7, b8⟩ := l_blame (c := 1) h (by decide)
    obtain ⟨g2, d1, d2⟩ := d_adv b3
    refine ⟨gx'.1 18 4, g2, gm', ?_, ?_, 1, q, by decide, d2, b5, b6, b7, b8⟩
    · rw [brn_f c, b1, bnd_some, nm_eq, d1, bnd_some]
    · rw [brn_f (fun q => c (tn.mpr q)), b2, bnd_some, grd_t nbz]
theorem l_word {V : Vk} {T : Nat → Int32} {N p t : Nat} {gx0 gm0 : Hq} {s : Nat} {gx gm : Hq} {w : Int32} (h : Li V T N p gx0 gm0 s gx gm) (ht : t < 13) (hw : w = nI (kw t)) : (∃ gx' gm' s', r_X3_takeWord V 18 t gx = some ((), gx') ∧ r_X12_word V 70 w gm = some (1, gm') ∧ Li V T N p gx0 gm0 s' gx' gm' ∧ s < s' ∧ F18 gx gx' ∧ F70 gm gm') ∨ (∃ gx' gm', r_X3_takeWord V 18 t gx = some ((), gx') ∧ r_X12_word V 70 w gm = some (0, gm') ∧ Ba V T N p gx0 gm0 gx' gm') := by
  have hV := h.V
  obtain ⟨en, a1, a2, a3, a4, a5, a6, a7, a8⟩ := h.2.2.2.2.2.2.2
  unfold r_X3_takeWord r_X12_word
  rw [grd_t (v_18 hV), grd_t (v_70 hV), l_isWord h ht, bnd_some, hw]
  by_cases c : gm.1 70 3 = 1 ∧ gm.1 70 4 = nI (kw t)
  · refine Or.inl ?_
    obtain ⟨s', gx', gm', b1, b2, b3, b4, b5, b6, b7⟩ := l_adv h
    refine ⟨gx', gm', s', ?_, ?_, b5, b7 (by rw [(Tk_so1 a8 c.1).1]; decide), b3, b4⟩
    · rw [brn_f (by rw [bI_0]; exact fun q => q c), b1, bnd_some]
    · rw [brn_t c.1, brn_t c.2, b2, bnd_some]
  · refine Or.inr ?_
    obtain ⟨gx', gm', q, b1, b2, b3, b4, b5, b6, b7, b8⟩ := l_blame (c := 1) h (by decide)
    obtain ⟨g2, d1, d2⟩ := d_adv b3
    refine ⟨g2, gm', ?_, ?_, 1, q, by decide, d2, b5, b6, b7, b8⟩
    · rw [brn_t (by rw [bI_0]; exact c), b1, bnd_some, d1, bnd_some]
    · rw [b2, bnd_some, grd_t nbz]
      by_cases c1 : gm.1 70 3 = 1
      · rw [brn_t c1, brn_f (fun q => c ⟨c1, q⟩)]
      · rw [brn_f c1]
theorem l_cry {V : Vk} {T : Nat → Int32} {N p : Nat} {gx0 gm0 : Hq} {s : Nat} {gx gm : Hq} (h : Li V T N p gx0 gm0 s gx gm) : ∃ b gx' gm' s', r_X3_takeCry V 18 gx = some (b, gx') ∧ r_X12_hasCry V 70 gm = some (b, gm') ∧ (b = 0 ∨ b = 1) ∧ Li V T N p gx0 gm0 s' gx' gm' ∧ s ≤ s' ∧ F18 gx gx' ∧ F70 gm gm' := by
  have hV := h.V
  unfold r_X3_takeCry r_X12_hasCry
  rw [grd_t (v_18 hV), grd_t (v_70 hV), l_isWord h (t := 10) (by decide), bnd_some]
  by_cases c : gm.1 70 3 = 1 ∧ gm.1 70 4 = nI (kw 10)
  · obtain ⟨s', gx', gm', b1, b2, b3, b4, b5, b6, b7⟩ := l_adv h
    refine ⟨1, gx', gm', s', ?_, ?_, Or.inr rfl, b5, b6, b3, b4⟩
    · rw [brn_f (by rw [bI_0]; exact fun q => q c), b1, bnd_some]
    · rw [brn_t c.1, brn_t (show gm.1 70 4 = 9 from c.2), b2, bnd_some]
  · refine ⟨0, gx, gm, s, ?_, ?_, Or.inl rfl, h, Nat.le_refl _, F18.rf, F70.rf⟩
    · rw [brn_t (by rw [bI_0]; exact c)]
    · by_cases c1 : gm.1 70 3 = 1
      · rw [brn_t c1, brn_f (show ¬ gm.1 70 4 = 9 from fun q => c ⟨c1, q⟩)]
      · rw [brn_f c1]
theorem l_semi {V : Vk} {T : Nat → Int32} {N p : Nat} {gx0 gm0 : Hq} {s : Nat} {gx gm : Hq} (h : Li V T N p gx0 gm0 s gx gm) : (gm.1 70 3 = 3 ∧ ∃ gx' gm' s', r_X3_takeSemicolon V 18 gx = some ((), gx') ∧ r_X12_scan V 70 gm = some ((), gm') ∧ Li V T N p gx0 gm0 s' gx' gm' ∧ s < s' ∧ F18 gx gx' ∧ F70 gm gm') ∨ (¬ gm.1 70 3 = 3 ∧ ∃ gx' gm', r_X3_takeSemicolon V 18 gx = some ((), gx') ∧ r_X12_wrong V 70 1 gm = some (0, gm') ∧ Ba V T N p gx0 gm0 gx' gm') := by
  have hV := h.V
  obtain ⟨en, a1, a2, a3, a4, a5, a6, a7, a8⟩ := h.2.2.2.2.2.2.2
  have tn := (Tk_num a8).2.1
  unfold r_X3_takeSemicolon
  rw [grd_t (v_18 hV)]
  by_cases c : gx.1 18 1 = 3
  · refine Or.inl ⟨tn.mp c, ?_⟩
    obtain ⟨s', gx', gm', b1, b2, b3, b4, b5, b6, b7⟩ := l_adv h
    exact ⟨gx', gm', s', by rw [brn_t c, b1, bnd_some], b2, b5, b7 (by rw [c]; decide), b3, b4⟩
  · refine Or.inr ⟨fun q => c (tn.mpr q), ?_⟩
    obtain ⟨gx', gm', q, b1, b2, b3, b4, b5, b6, b7, b8⟩ := l_blame (c := 1) h (by decide)
    obtain ⟨g2, d1, d2⟩ := d_adv b3
    exact ⟨g2, gm', by rw [brn_f c, b1, bnd_some, d1, bnd_some], b2, 1, q, by decide, d2, b5, b6, b7, b8⟩
theorem l_power {V : Vk} {T : Nat → Int32} {N p k : Nat} {gx0 gm0 : Hq} {s : Nat} {gx gm : Hq} (h : Li V T N p gx0 gm0 s gx gm) (k1 : 192 ≤ k) : (gm.1 70 3 = 1 ∧ 10 ≤ gm.1 70 4 ∧ ∃ v gx' gm' s', gm.1 70 4 - 10 = v ∧ 0 ≤ v.toInt ∧ r_X3_takePower V 18 gx = some (v, gx') ∧ r_X12_scan V 70 (sI gm 86 k v) = some ((), gm') ∧ Li V T N p gx0 gm0 s' gx' gm' ∧ s < s' ∧ F18 gx gx' ∧ F70 (sI gm 86 k v) gm') ∨ (¬ (gm.1 70 3 = 1 ∧ 10 ≤ gm.1 70 4) ∧ ∃ v gx' gm', r_X3_takePower V 18 gx = some (v, gx') ∧ r_X12_wrong V 70 1 gm = some (0, gm') ∧ Ba V T N p gx0 gm0 gx' gm') := by
  have hV := h.V
  obtain ⟨en, a1, a2, a3, a4, a5, a6, a7, a8⟩ := h.2.2.2.2.2.2.2
  unfold r_X3_takePower
  rw [grd_t (v_18 hV), l_isWord h (t := 5) (by decide), bnd_some, l_isWord h (t := 6) (by decide), bnd_some, l_isWord h (t := 7) (by decide), bnd_some, show nI (kw 5) = 10 from rfl, show nI (kw 6) = 11 from rfl, show nI (kw 7) = 12 from rfl]
  by_cases c : gm.1 70 3 = 1 ∧ 10 ≤ gm.1 70 4
  · refine Or.inl ⟨c.1, c.2, ?_⟩
    obtain ⟨z1, j, z2, z3⟩ := Tk_so1 a8 c.1
    have jb : 10 ≤ j := by
      have := c.2
      rw [z3] at this
      exact (nI_leI (a := 10) (by omega) (by omega)).mp this
    obtain ⟨s', gx', gm', b1, b2, b3, b4, b5, b6, b7⟩ := l_adv (h.wm (k := 86) (j := k) (v := gm.1 70 4 - 10) (Or.inr (Or.inl ⟨rfl, k1⟩)))
    have b7 := b7 (by rw [z1]; decide)
    have hj : j = 10 ∨ j = 11 ∨ j = 12 := by omega
    refine ⟨gm.1 70 4 - 10, gx', gm', s', rfl, ?_, ?_, b2, b5, b7, b3, b4⟩
    · rw [z3]
      rcases hj with rfl | rfl | rfl <;> decide
    · rw [b1, bnd_some, bnd_some, bnd_some, z3, c.1]
      rcases hj with rfl | rfl | rfl
      · rw [brn_f (by rw [bI_0]; exact fun q => q ⟨rfl, rfl⟩)]; rfl
      · rw [brn_t (by rw [bI_0]; exact fun q => absurd q.2 (by decide)), brn_f (by rw [bI_0]; exact fun q => q ⟨rfl, rfl⟩)]; rfl
      · rw [brn_t (by rw [bI_0]; exact fun q => absurd q.2 (by decide)), brn_t (by rw [bI_0]; exact fun q => absurd q.2 (by decide)), brn_f (by rw [bI_0]; exact fun q => q ⟨rfl, rfl⟩)]; rfl
  · refine Or.inr ⟨c, ?_⟩
    obtain ⟨gx', gm', q, b1, b2, b3, b4, b5, b6, b7, b8⟩ := l_blame (c := 1) h (by decide)
    obtain ⟨g2, d1, d2⟩ := d_adv b3
    have n10 : ¬ (gm.1 70 3 = 1 ∧ gm.1 70 4 = 10) := fun q => c ⟨q.1, by rw [q.2]; decide⟩
    have n11 : ¬ (gm.1 70 3 = 1 ∧ gm.1 70 4 = 11) := fun q => c ⟨q.1, by rw [q.2]; decide⟩
    have n12 : ¬ (gm.1 70 3 = 1 ∧ gm.1 70 4 = 12) := fun q => c ⟨q.1, by rw [q.2]; decide⟩
    refine ⟨-1, g2, gm', ?_, b2, 1, q, by decide, d2, b5, b6, b7, b8⟩
    rw [brn_t (by rw [bI_0]; exact n10), brn_t (by rw [bI_0]; exact n11), brn_t (by rw [bI_0]; exact n12), b1, bnd_some, d1, bnd_some]
