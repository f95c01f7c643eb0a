/-! ===== what the reading of laws changes ===== -/
def KX (p : Nat) (g0 g : Hq) : Prop := (∀ a, a ≠ 18 → ¬ (p ≤ a ∧ a ≤ p + 4) → g.1 a = g0.1 a) ∧ g.2 = g0.2
def KM (g0 g : Hq) : Prop := (∀ a, a ≠ 70 → a ≠ 85 → a ≠ 86 → a ≠ 87 → g.1 a = g0.1 a) ∧ (∀ j, ¬ (3 ≤ j ∧ j ≤ 9) → g.1 70 j = g0.1 70 j) ∧ (∀ j, j < 32 → g.1 85 j = g0.1 85 j) ∧ (∀ j, j < 192 → g.1 86 j = g0.1 86 j) ∧ (∀ j, j < 4 → g.1 87 j = g0.1 87 j) ∧ g.2 = g0.2
theorem KX.f {p : Nat} {g0 g g2 : Hq} (h : KX p g0 g) (k : F18 g g2) : KX p g0 g2 := ⟨fun a e1 e2 => (k.1 a e1).trans (h.1 a e1 e2), k.2.2.trans h.2⟩
theorem KX.w {p k j : Nat} {v : Int32} {g0 g : Hq} (h : KX p g0 g) (e : k = 18 ∨ (p ≤ k ∧ k ≤ p + 4)) : KX p g0 (sI g k j v) := ⟨fun a e1 e2 => by rw [sI_1, up2_nk _ _ _ (by omega)]; exact h.1 a e1 e2, h.2⟩
theorem KM.f {g0 g g2 : Hq} (h : KM g0 g) (k : F70 g g2) : KM g0 g2 := ⟨fun a e1 e2 e3 e4 => (k.1 a e1).trans (h.1 a e1 e2 e3 e4), fun j e => (k.2.1 j (by omega)).trans (h.2.1 j e), fun j e => by rw [k.1 85 (by decide)]; exact h.2.2.1 j e, fun j e => by rw [k.1 86 (by decide)]; exact h.2.2.2.1 j e, fun j e => by rw [k.1 87 (by decide)]; exact h.2.2.2.2.1 j e, k.2.2.trans h.2.2.2.2.2⟩
theorem KM.w {k j : Nat} {v : Int32} {g0 g : Hq} (h : KM g0 g) (e : (k = 70 ∧ 3 ≤ j ∧ j ≤ 9) ∨ (k = 85 ∧ 32 ≤ j) ∨ (k = 86 ∧ 192 ≤ j) ∨ (k = 87 ∧ j = 4)) : KM g0 (sI g k j v) := ⟨fun a e1 e2 e3 e4 => by rw [sI_1, up2_nk _ _ _ (by omega)]; exact h.1 a e1 e2 e3 e4, fun i q => by rw [sI_1, up2_ne _ _ (by omega)]; exact h.2.1 i q, fun i q => by rw [sI_1, up2_ne _ _ (by omega)]; exact h.2.2.1 i q, fun i q => by rw [sI_1, up2_ne _ _ (by omega)]; exact h.2.2.2.1 i q, fun i q => by rw [sI_1, up2_ne _ _ (by omega)]; exact h.2.2.2.2.1 i q, h.2.2.2.2.2⟩
theorem law_b {p : Nat} (h : lawPl p) : p = 26 ∨ p = 32 ∨ p = 41 ∨ p = 50 ∨ p = 59 := h
/-- the class's reader stands -/
def DX (V : Vk) (T : Nat → Int32) (N p : Nat) (g0 g : Hq) : Prop := lawPl p ∧ CX V T N g ∧ KX p g0 g ∧ (∃ n, n ≤ 12 ∧ g.1 p 8 = nI n) ∧ ∃ s e, s ≤ e ∧ e ≤ N ∧ g.1 18 2 = nI s ∧ g.1 18 3 = nI e
/-- .. behind a fault -/
def De (V : Vk) (T : Nat → Int32) (N p : Nat) (g0 : Hq) (f q : Int32) (g : Hq) : Prop := DX V T N p g0 g ∧ g.1 18 6 = f ∧ g.1 18 7 = q
theorem CX.f {V : Vk} {T : Nat → Int32} {N : Nat} {g g2 : Hq} (h : CX V T N g) (k : F18 g g2) : CX V T N g2 := ⟨h.1, by rw [k.2.2]; exact h.2.1, by rw [k.1 1 (by decide)]; exact h.2.2.1, by rw [k.1 2 (by decide)]; exact h.2.2.2.1, h.2.2.2.2⟩
theorem CM.f {V : Vk} {T : Nat → Int32} {N : Nat} {g g2 : Hq} (h : CM V T N g) (k : F70 g g2) : CM V T N g2 := ⟨h.1, by rw [k.2.2]; exact h.2.1, by rw [k.2.1 2 (by decide)]; exact h.2.2.1, by rw [k.1 71 (by decide)]; exact h.2.2.2.1, h.2.2.2.2⟩
theorem Sh_le {T : Nat → Int32} {N s e : Nat} {k v : Int32} (h : Sh T N s e k v) : s ≤ e ∧ e ≤ N := by
  rcases h with ⟨h1, h2, -⟩ | ⟨h1, h2, h3, -⟩
  · omega
  · omega
theorem Rn_le {P : Int32 → Prop} {T : Nat → Int32} {N p s : Nat} (h : Rn P T N p s) : p ≤ s ∧ s ≤ N := ⟨h.1, h.2.1⟩
theorem d_adv {V : Vk} {T : Nat → Int32} {N p : Nat} {g0 g : Hq} {f q : Int32} (h : De V T N p g0 f q g) : ∃ g2, r_X3_advance V 18 g = some ((), g2) ∧ De V T N p g0 f q g2 := by
  obtain ⟨⟨hp, hc, hk, ⟨n, n1, n2⟩, s, e, se, eN, h2, h3⟩, h6, h7⟩ := h
  obtain ⟨s', e', g2, k, v, r, sh, ad, F, f1, f2, f3, f4⟩ := x_tok hc eN h3
  have hp' := law_b hp
  exact ⟨g2, ad, ⟨hp, hc.f F, hk.f F, ⟨n, n1, by rw [F.1 p (by omega)]; exact n2⟩, s', e', (Sh_le sh).1, (Sh_le sh).2, f2, f3⟩, by rw [F.2.1 6 (by omega)]; exact h6, by rw [F.2.1 7 (by omega)]; exact h7⟩
theorem d_blame {V : Vk} {T : Nat → Int32} {N p : Nat} {g0 g : Hq} {f q c : Int32} (hf : ¬ f = 0) (h : De V T N p g0 f q g) : r_X3_blame V 18 c g = some ((), g) := by
  unfold r_X3_blame
  rw [grd_t (v_18 h.1.2.1.1), brn_f (by rw [h.2.1]; exact hf)]
theorem d_isWord {V : Vk} {T : Nat → Int32} {N p t : Nat} {g0 g : Hq} {f q : Int32} (h : De V T N p g0 f q g) (ht : t < 13) : ∃ b, r_X3_isWord V 18 t g = some (b, g) := by
  obtain ⟨⟨hp, hc, hk, -, s, e, se, eN, h2, h3⟩, -, -⟩ := h
  by_cases c : g.1 18 1 = 1
  · exact ⟨_, x_isWord hc ht c h2 h3 se eN⟩
  · exact ⟨_, x_isWord0 hc.1 c⟩
theorem d_w {V : Vk} {T : Nat → Int32} {N p k j : Nat} {g0 g : Hq} {f q v : Int32} (h : De V T N p g0 f q g) (hk : p ≤ k ∧ k ≤ p + 4) (h8 : k ≠ p ∨ j ≠ 8) : De V T N p g0 f q (sI g k j v) := by
  obtain ⟨⟨hp, hc, hkx, ⟨n, n1, n2⟩, s, e, se, eN, h2, h3⟩, h6, h7⟩ := h
  have hp' := law_b hp
  refine ⟨⟨hp, hc.w (by omega) (by omega), hkx.w (Or.inr hk), ⟨n, n1, by rw [sI_1, up2_ne _ _ (by omega)]; exact n2⟩, s, e, se, eN, ?_, ?_⟩, ?_, ?_⟩
  · rw [sI_1, up2_ne _ _ (Or.inl (by omega))]; exact h2
  · rw [sI_1, up2_ne _ _ (Or.inl (by omega))]; exact h3
  · rw [sI_1, up2_ne _ _ (Or.inl (by omega))]; exact h6
  · rw [sI_1, up2_ne _ _ (Or.inl (by omega))]; exact h7
theorem d_w8 {V : Vk} {T : Nat → Int32} {N p n : Nat} {g0 g : Hq} {f q : Int32} (h : De V T N p g0 f q g) (hn : n ≤ 12) : De V T N p g0 f q (sI g p 8 (nI n)) := by
  obtain ⟨⟨hp, hc, hkx, -, s, e, se, eN, h2, h3⟩, h6, h7⟩ := h
  have hp' := law_b hp
  refine ⟨⟨hp, hc.w (by omega) (by omega), hkx.w (Or.inr (by omega)), ⟨n, hn, by rw [sI_1, up2_s]⟩, s, e, se, eN, ?_, ?_⟩, ?_, ?_⟩
  · rw [sI_1, up2_ne _ _ (Or.inl (by omega))]; exact h2
  · rw [sI_1, up2_ne _ _ (Or.inl (by omega))]; exact h3
  · rw [sI_1, up2_ne _ _ (Or.inl (by omega))]; exact h6
  · rw [sI_1, up2_ne _ _ (Or.inl (by omega))]; exact h7
theorem d_w5 {V : Vk} {T : Nat → Int32} {N p : Nat} {g0 g : Hq} {f q v : Int32} (h : De V T N p g0 f q g) : De V T N p g0 f q (sI g 18 5 v) := by
  obtain ⟨⟨hp, hc, hkx, ⟨n, n1, n2⟩, s, e, se, eN, h2, h3⟩, h6, h7⟩ := h
  have hp' := law_b hp
  refine ⟨⟨hp, hc.w (by omega) (by omega), hkx.w (Or.inl rfl), ⟨n, n1, by rw [sI_1, up2_ne _ _ (Or.inl (by omega))]; exact n2⟩, s, e, se, eN, ?_, ?_⟩, ?_, ?_⟩
  · rw [sI_1, up2_ne _ _ (Or.inr (by omega))]; exact h2
  · rw [sI_1, up2_ne _ _ (Or.inr (by omega))]; exact h3
  · rw [sI_1, up2_ne _ _ (Or.inr (by omega))]; exact h6
  · rw [sI_1, up2_ne _ _ (Or.inr (by omega))]; exact h7
theorem d_num {V : Vk} {T : Nat → Int32} {N p : Nat} {g0 g : Hq} {f q lo hi : Int32} (hf : ¬ f = 0) (h : De V T N p g0 f q g) : ∃ v g2, r_X3_takeNumber V 18 lo hi g = some (v, g2) ∧ De V T N p g0 f q g2 := by
  obtain ⟨g2, a1, a2⟩ := d_adv h
  refine ⟨g.1 18 4, g2, ?_, a2⟩
  unfold r_X3_takeNumber
  rw [grd_t (v_18 h.1.2.1.1)]
  by_cases c : g.1 18 1 = 2
  · rw [brn_t c, p_isFrom, bnd_some, d_blame hf h, bnd_some, nm_eq, a1, bnd_some, brn_same]
  · rw [brn_f c, d_blame hf h, bnd_some, nm_eq, a1, bnd_some]
theorem d_semi {V : Vk} {T : Nat → Int32} {N p : Nat} {g0 g : Hq} {f q : Int32} (hf : ¬ f = 0) (h : De V T N p g0 f q g) : ∃ g2, r_X3_takeSemicolon V 18 g = some ((), g2) ∧ De V T N p g0 f q g2 := by
  obtain ⟨g2, a1, a2⟩ := d_adv h
  refine ⟨g2, ?_, a2⟩
  unfold r_X3_takeSemicolon
  rw [grd_t (v_18 h.1.2.1.1), d_blame hf h, bnd_some, a1, bnd_some, brn_same]
theorem d_word {V : Vk} {T : Nat → Int32} {N p t : Nat} {g0 g : Hq} {f q : Int32} (hf : ¬ f = 0) (h : De V T N p g0 f q g) (ht : t < 13) : ∃ g2, r_X3_takeWord V 18 t g = some ((), g2) ∧ De V T N p g0 f q g2 := by
  obtain ⟨g2, a1, a2⟩ := d_adv h
  obtain ⟨b, hb⟩ := d_isWord h ht
  refine ⟨g2, ?_, a2⟩
  unfold r_X3_takeWord
  rw [grd_t (v_18 h.1.2.1.1), hb, bnd_some, d_blame hf h, bnd_some, a1, bnd_some, brn_same]
theorem d_cry {V : Vk} {T : Nat → Int32} {N p : Nat} {g0 g : Hq} {f q : Int32} (h : De V T N p g0 f q g) : ∃ b g2, r_X3_takeCry V 18 g = some (b, g2) ∧ (b = 0 ∨ b = 1) ∧ De V T N p g0 f q g2 := by
  obtain ⟨g2, a1, a2⟩ := d_adv h
  obtain ⟨b, hb⟩ := d_isWord h (t := 10) (by decide)
  unfold r_X3_takeCry
  rw [grd_t (v_18 h.1.2.1.1), hb, bnd_some]
  by_cases c : b = 0
  · exact ⟨0, g, by rw [brn_t c], Or.inl rfl, h⟩
  · exact ⟨1, g2, by rw [brn_f c, a1, bnd_some], Or.inr rfl, a2⟩
theorem d_power {V : Vk} {T : Nat → Int32} {N p : Nat} {g0 g : Hq} {f q : Int32} (hf : ¬ f = 0) (h : De V T N p g0 f q g) : ∃ v g2, r_X3_takePower V 18 g = some (v, g2) ∧ De V T N p g0 f q g2 := by
  obtain ⟨g2, a1, a2⟩ := d_adv h
  obtain ⟨b5, h5⟩ := d_isWord h (t := 5) (by decide)
  obtain ⟨b6, h6⟩ := d_isWord h (t := 6) (by decide)
  obtain ⟨b7, h7⟩ := d_isWord h (t := 7) (by decide)
  unfold r_X3_takePower
  rw [grd_t (v_18 h.1.2.1.1), h5, bnd_some, h6, bnd_some, h7, bnd_some, d_blame hf h, bnd_some, a1, bnd_some, bnd_some, bnd_some, bnd_some]
  by_cases c5 : b5 = 0
  · rw [brn_t c5]
    by_cases c6 : b6 = 0
    · rw [brn_t c6]
      by_cases c7 : b7 = 0
      · rw [brn_t c7]; exact ⟨_, _, rfl, a2⟩
      · rw [brn_f c7]; exact ⟨_, _, rfl, a2⟩
    · rw [brn_f c6]; exact ⟨_, _, rfl, a2⟩
  · rw [brn_f c5]; exact ⟨_, _, rfl, a2⟩
theorem d_begin {V : Vk} {T : Nat → Int32} {N p : Nat} {g0 g : Hq} {f q c : Int32} (hf : ¬ f = 0) (h : De V T N p g0 f q g) : ∃ g2, r_X3_beginOnly V 18 c g = some ((), g2) ∧ De V T N p g0 f q g2 := by
  obtain ⟨g2, a1, a2⟩ := d_adv (d_w5 (v := g.1 18 5 ||| c) h)
  refine ⟨g2, ?_, a2⟩
  unfold r_X3_beginOnly
  rw [grd_t (v_18 h.1.2.1.1), d_blame hf h, bnd_some, nm_eq, a1, bnd_some, brn_same]
theorem d_add {V : Vk} {T : Nat → Int32} {N p : Nat} {g0 g : Hq} {f q a b c d : Int32} (h : De V T N p g0 f q g) : ∃ g2, r_X4_addPower V p a b c d g = some ((), g2) ∧ De V T N p g0 f q g2 := by
  have hp := h.1.1
  have hp' := law_b hp
  have hV := h.1.2.1.1
  have hR := h.1.2.1.2.1
  obtain ⟨n, n1, n2⟩ := h.1.2.2.2.1
  obtain ⟨v1, v2, v3, v4⟩ := law_v hV hp
  obtain ⟨q1, q2, q3, q4⟩ := law_q hR hp
  unfold r_X4_addPower r_X4_hasRoomForPower
  rw [grd_t (sh_vl hV hp), grd_t (sh_vl hV hp), n2]
  by_cases r : 12 ≤ n
  · refine ⟨g, ?_, h⟩
    rw [brn_t (show (12 : Int32) ≤ nI n from nI_le (a := 12) r (by omega)), bnd_some, brn_t rfl]
  · have cl := cl_nI (j := n) (by omega)
    refine ⟨sI (sI (sI (sI (sI g (p + 1) n a) (p + 2) n b) (p + 3) n c) (p + 4) n (vp_nar .boolean d)) p 8 (nI (n + 1)), ?_, d_w8 (d_w (d_w (d_w (d_w h (by omega) (by omega)) (by omega) (by omega)) (by omega) (by omega)) (by omega) (by omega)) (by omega)⟩
    have e1 : ∀ k v, k ≠ p → ∀ G : Hq, G.1 p 8 = nI n → (sI G k n v).1 p 8 = nI n := fun k v hk G hG => by rw [sI_1, up2_ne _ _ (Or.inl (fun e => hk e.symm))]; exact hG
    have o0 : ∀ k, V k = some (100, 12) → okV V k 0 (nI n) := fun k e => ok_nI (n := 12) (t := 0) e (by omega) (by decide)
    have o2 : okV V (p + 4) 2 (nI n) := ok_nI (n := 12) (t := 2) v4 (by omega) (by decide)
    have w1 := e1 (p + 1) a (by omega) g n2
    have w2 := e1 (p + 2) b (by omega) _ w1
    have w3 := e1 (p + 3) c (by omega) _ w2
    have w4 := e1 (p + 4) (vp_nar .boolean d) (by omega) _ w3
    rw [brn_f (show ¬ (12 : Int32) ≤ nI n from nI_ge (b := 12) (by omega) (by omega)), bnd_some, brn_f (by decide), q1, bind_some', n2, grd_t (o0 _ v1), cl, nm_eq, sI_3, q2, bind_some', w1, grd_t (o0 _ v2), cl, nm_eq, sI_3, sI_3, q3, bind_some', w2, grd_t (o0 _ v3), cl, nm_eq, sI_3, sI_3, sI_3, q4, bind_some', w3, grd_t o2, cl, nm_eq, w4, nI_1, nm_eq]
theorem d_rp12 {V : Vk} {T : Nat → Int32} {N p : Nat} {g0 g : Hq} {f q : Int32} (hf : ¬ f = 0) (h : De V T N p g0 f q g) : ∃ g2, r_X3_readPower_12 V 18 p g = some ((), g2) ∧ De V T N p g0 f q g2 := by
  obtain ⟨g1, a1, h1⟩ := d_adv h
  obtain ⟨v2, g2, a2, h2⟩ := d_power hf h1
  obtain ⟨g3, a3, h3⟩ := d_word hf h2 (t := 8) (by decide)
  obtain ⟨v4, g4, a4, h4⟩ := d_num (lo := 0) (hi := 23) hf h3
  obtain ⟨g5, a5, h5⟩ := d_word hf h4 (t := 9) (by decide)
  obtain ⟨v6, g6, a6, h6⟩ := d_num (lo := 0) (hi := 23) hf h5
  obtain ⟨v7, g7, a7, -, h7⟩ := d_cry h6
  obtain ⟨g8, a8, h8⟩ := d_add (a := v2) (b := v4) (c := v6) (d := v7) h7
  refine ⟨g8, ?_, h8⟩
  unfold r_X3_readPower_12
  rw [grd_t (v_18 h.1.2.1.1), a1, bnd_some, a2, bnd_some, a3, bnd_some, a4, bnd_some, a5, bnd_some, a6, bnd_some, a7, bnd_some, grd_t (sh_vl h.1.2.1.1 h.1.1), a8, bnd_some]
