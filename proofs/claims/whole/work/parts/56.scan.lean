/-! ===== the text of laws: tokens ===== -/
def bt (T : Nat → Int32) (N j : Nat) : Int32 := if j < N then T j &&& 255 else -1
def blk (c : Int32) : Prop := c = 32 ∨ c = 10
def ltr (c : Int32) : Prop := 97 ≤ c ∧ c ≤ 122
def dig (c : Int32) : Prop := 48 ≤ c ∧ c ≤ 57
theorem p_isBlank (V : Vk) (c : Int32) (g : Hq) : r_X3_isBlank V c g = some (bI (blk c), g) := by
  unfold r_X3_isBlank
  by_cases h : c = 32
  · rw [brn_t h, bI_t (show blk c from Or.inl h)]
  · rw [brn_f h]
    by_cases h2 : c = 10
    · rw [brn_t h2, bI_t (show blk c from Or.inr h2)]
    · rw [brn_f h2, bI_f (fun k => k.elim h h2)]
theorem rng2 {lo hi c : Int32} {g : Hq} : brn (c < lo) (some ((0 : Int32), g)) (brn (hi < c) (some ((0 : Int32), g)) (some ((1 : Int32), g))) = some (bI (lo ≤ c ∧ c ≤ hi), g) := by
  by_cases h : c < lo
  · rw [brn_t h, bI_f (fun k => i_nle.mpr h k.1)]
  · rw [brn_f h]
    by_cases h2 : hi < c
    · rw [brn_t h2, bI_f (fun k => i_nle.mpr h2 k.2)]
    · rw [brn_f h2, bI_t ⟨i_nlt.mp h, i_nlt.mp h2⟩]
theorem p_isLetter (V : Vk) (c : Int32) (g : Hq) : r_X3_isLetter V c g = some (bI (ltr c), g) := rng2
theorem p_isDigit (V : Vk) (c : Int32) (g : Hq) : r_X3_isDigit V c g = some (bI (dig c), g) := rng2
theorem m_isSmall (V : Vk) (c : Int32) (g : Hq) : r_X12_isSmall V c g = some (bI (ltr c), g) := rng2
theorem m_isDigit (V : Vk) (c : Int32) (g : Hq) : r_X12_isDigit V c g = some (bI (dig c), g) := rng2
/-- the class's view of the tape -/
def CX (V : Vk) (T : Nat → Int32) (N : Nat) (g : Hq) : Prop := ShV V ∧ ShR g.2.2 ∧ g.1 1 1 = nI N ∧ g.1 2 = T ∧ N ≤ 800
def CM (V : Vk) (T : Nat → Int32) (N : Nat) (g : Hq) : Prop := ShV V ∧ ShR g.2.2 ∧ g.1 70 2 = nI N ∧ g.1 71 = T ∧ N ≤ 800
theorem CX.w {V : Vk} {T : Nat → Int32} {N k j : Nat} {v : Int32} {g : Hq} (h : CX V T N g) (h1 : k ≠ 1) (h2 : k ≠ 2) : CX V T N (sI g k j v) := ⟨h.1, h.2.1, by rw [sI_1, up2_nk _ _ _ (fun q => h1 q.symm)]; exact h.2.2.1, by rw [sI_1, up2_nk _ _ _ (fun q => h2 q.symm)]; exact h.2.2.2.1, h.2.2.2.2⟩
theorem CM.w {V : Vk} {T : Nat → Int32} {N k j : Nat} {v : Int32} {g : Hq} (h : CM V T N g) (h1 : k ≠ 70 ∨ j ≠ 2) (h2 : k ≠ 71) : CM V T N (sI g k j v) := ⟨h.1, h.2.1, by rw [sI_1, up2_ne _ _ (by omega)]; exact h.2.2.1, by rw [sI_1, up2_nk _ _ _ (fun q => h2 q.symm)]; exact h.2.2.2.1, h.2.2.2.2⟩
theorem xT_at {V : Vk} {T : Nat → Int32} {N j : Nat} {g : Hq} (h : CX V T N g) (hj : j ≤ 2000) : r_X8_at V 1 (nI j) g = some (bt T N j, g) := by
  obtain ⟨hV, hR, h1, h2, hN⟩ := h
  unfold r_X8_at bt
  rw [brn_f (by rw [i_lt, tN (by omega), t0]; omega), grd_t (v_1 hV), h1]
  by_cases c : j < N
  · rw [brn_f (nI_ge c (by omega)), q_1_0 hR, bind_some', grd_t (ok_nI (n := 800) (t := 1) (v_2 hV) (by omega) (by decide)), cl_nI (by omega), h2, if_pos c]
  · rw [brn_t (nI_le (by omega) (by omega)), if_neg c]
theorem mT_see {V : Vk} {T : Nat → Int32} {N j : Nat} {g : Hq} (h : CM V T N g) (hj : j ≤ 2000) : r_X12_see V 70 (nI j) g = some (bt T N j, g) := by
  obtain ⟨hV, hR, h1, h2, hN⟩ := h
  unfold r_X12_see bt
  rw [grd_t (v_70 hV), h1]
  by_cases c : j < N
  · rw [brn_f (nI_ge c (by omega)), q_70_0 hR, bind_some', grd_t (ok_nI (n := 800) (t := 1) (v_71 hV) (by omega) (by decide)), cl_nI (by omega), h2, if_pos c]
  · rw [brn_t (nI_le (by omega) (by omega)), if_neg c]
theorem xT_len {V : Vk} {T : Nat → Int32} {N : Nat} {g : Hq} (h : CX V T N g) : r_X8_length V 1 g = some (nI N, g) := by
  unfold r_X8_length
  rw [grd_t (v_1 h.1), h.2.2.1]
theorem lop_map {σ β : Type} {f : σ → Option (σ ⊕ β)} {s : σ} {o : Option β} (h : f s = Option.map Sum.inr o) : lop f s = o := by
  cases o with
  | none => rw [lop_eq, h]; rfl
  | some b => exact lop_r h
/-- a run of bytes of one sort -/
def Rn (P : Int32 → Prop) (T : Nat → Int32) (N p s : Nat) : Prop := p ≤ s ∧ s ≤ N ∧ (∀ i, p ≤ i → i < s → P (bt T N i)) ∧ (s = N ∨ ¬ P (bt T N s))
theorem Rn_ex (P : Int32 → Prop) (T : Nat → Int32) {N p : Nat} (hp : p ≤ N) : ∃ s, Rn P T N p s := by
  rcases first_of (fun i => P (bt T N (p + i))) (N - p) with h | ⟨i, h1, h2, h3⟩
  · exact ⟨N, hp, Nat.le_refl N, fun i h1 h2 => by have := h (i - p) (by omega); rw [show p + (i - p) = i by omega] at this; exact this, Or.inl rfl⟩
  · exact ⟨p + i, by omega, by omega, fun k k1 k2 => by have := h3 (k - p) (by omega); rw [show p + (k - p) = k by omega] at this; exact this, Or.inr h2⟩
theorem bt_N {T : Nat → Int32} {N : Nat} : bt T N N = -1 := by unfold bt; rw [if_neg (by omega)]
theorem and255 (x : Int32) : 0 ≤ (x &&& 255).toInt ∧ (x &&& 255).toInt ≤ 255 := by
  have h : (x &&& 255).toBitVec = x.toBitVec &&& 255#32 := rfl
  have h2 : (x.toBitVec &&& 255#32).toNat ≤ 255 := by
    rw [BitVec.toNat_and]
    exact Nat.and_le_right
  have h3 : (x &&& 255).toInt = (x.toBitVec &&& 255#32).toInt := rfl
  rw [h3, BitVec.toInt_eq_toNat_of_lt (by omega)]
  omega
theorem bt_0 {T : Nat → Int32} {N j : Nat} (h : j < N) : 0 ≤ (bt T N j).toInt ∧ (bt T N j).toInt ≤ 255 := by
  unfold bt
  rw [if_pos h]
  exact and255 (T j)

/-- the class: over the blanks -/
theorem x_skip {V : Vk} {T : Nat → Int32} {N p s : Nat} {g : Hq} (h : CX V T N g) (hr : Rn blk T N p s) (h3 : g.1 18 3 = nI p) : r_X3_advance V 18 g = r_X3_advance_52 V 18 (sI g 18 2 (nI s)) := by
  obtain ⟨r1, r2, r3, r4⟩ := hr
  have hN := h.2.2.2.2
  unfold r_X3_advance
  rw [grd_t (v_18 h.1), h3, nm_eq]
  have pre := run_to (f := r_X3_advance_8 V) (fun k => (18, sI g 18 2 (nI (p + k)))) (s - p) (fun k hk => by
    have c := h.w (k := 18) (j := 2) (v := nI (p + k)) (by decide) (by decide)
    show r_X3_advance_8' V 18 (sI g 18 2 (nI (p + k))) = some (.inl (18, sI g 18 2 (nI (p + (k + 1)))))
    unfold r_X3_advance_8'
    rw [grd_t (v_18 h.1), q_18_0 c.2.1, bind_some', grd_t (v_1 h.1), xT_len c, bnd_some, sI_1, up2_s, brn_f (nI_ge (by omega) (by omega)), q_18_0 c.2.1, bind_some', grd_t (v_1 h.1), xT_at c (by omega), bnd_some, p_isBlank, bnd_some, brn_f (by rw [bI_0]; exact fun q => q (r3 _ (by omega) (by omega))), sI_1, up2_s, nI_1, nm_eq, sI_sI]
    rfl)
  have e0 : lop (r_X3_advance_8 V) (18, sI g 18 2 (nI p)) = lop (r_X3_advance_8 V) (18, sI g 18 2 (nI (p + (s - p)))) := pre
  rw [e0, show p + (s - p) = s by omega]
  refine lop_map ?_
  have c := h.w (k := 18) (j := 2) (v := nI s) (by decide) (by decide)
  show r_X3_advance_8' V 18 (sI g 18 2 (nI s)) = _
  unfold r_X3_advance_8'
  rw [grd_t (v_18 h.1), q_18_0 c.2.1, bind_some', grd_t (v_1 h.1), xT_len c, bnd_some, sI_1, up2_s]
  by_cases e : s = N
  · rw [brn_t (nI_le (by omega) (by omega))]
  · rw [brn_f (nI_ge (by omega) (by omega)), q_18_0 c.2.1, bind_some', grd_t (v_1 h.1), xT_at c (by omega), bnd_some, p_isBlank, bnd_some, brn_t (by rw [bI_0]; exact r4.resolve_left e)]
/-- what a step of the reader leaves -/
def F18 (g g2 : Hq) : Prop := (∀ a, a ≠ 18 → g2.1 a = g.1 a) ∧ (∀ j, j = 5 ∨ j = 6 ∨ j = 7 → g2.1 18 j = g.1 18 j) ∧ g2.2 = g.2
theorem F18.rf {g : Hq} : F18 g g := ⟨fun _ _ => rfl, fun _ _ => rfl, rfl⟩
theorem F18.tr {g g1 g2 : Hq} (h : F18 g g1) (k : F18 g1 g2) : F18 g g2 := ⟨fun a e => (k.1 a e).trans (h.1 a e), fun j e => (k.2.1 j e).trans (h.2.1 j e), k.2.2.trans h.2.2⟩
theorem F18.w {g : Hq} {j : Nat} {v : Int32} (h : j = 1 ∨ j = 2 ∨ j = 3 ∨ j = 4) : F18 g (sI g 18 j v) := ⟨fun a e => by rw [sI_1, up2_nk _ _ _ e], fun i e => by rw [sI_1, up2_ne _ _ (Or.inr (by omega))], rfl⟩
/-- a number's value by its digits -/
def vl (T : Nat → Int32) (N s : Nat) : Nat → Int32
  | 0 => 0
  | k + 1 => vl T N s k * 10 + bt T N (s + k) - 48
/-- the shape of the token from s to e, its kind and value as the class has them -/
def Sh (T : Nat → Int32) (N s e : Nat) (k v : Int32) : Prop := (s = N ∧ e = N ∧ k = 0) ∨ (s < N ∧ s < e ∧ e ≤ N ∧ ((ltr (bt T N s) ∧ Rn ltr T N s e ∧ k = 1) ∨ (dig (bt T N s) ∧ Rn dig T N s e ∧ v = vl T N s (e - s) ∧ k = if 4 < e - s then 4 else 2) ∨ (¬ ltr (bt T N s) ∧ ¬ dig (bt T N s) ∧ e = s + 1 ∧ k = if bt T N s = 59 then 3 else 4)))
theorem ltr_dig {c : Int32} (h : ltr c) : ¬ dig c := by
  intro k
  have h1 := h.1
  have k1 := k.2
  rw [i_le] at h1 k1
  have : (97 : Int32).toInt = 97 := rfl
  have : (57 : Int32).toInt = 57 := rfl
  omega
theorem x_tok {V : Vk} {T : Nat → Int32} {N p : Nat} {g : Hq} (h : CX V T N g) (hp : p ≤ N) (h3 : g.1 18 3 = nI p) : ∃ s e g2 k v, Rn blk T N p s ∧ Sh T N s e k v ∧ r_X3_advance V 18 g = some ((), g2) ∧ F18 g g2 ∧ g2.1 18 1 = k ∧ g2.1 18 2 = nI s ∧ g2.1 18 3 = nI e ∧ g2.1 18 4 = v := by
  obtain ⟨s, hs⟩ := Rn_ex blk T hp
  have hN := h.2.2.2.2
  have sN := hs.2.1
  obtain ⟨gs, egs⟩ : ∃ gs, gs = sI (sI (sI g 18 2 (nI s)) 18 3 (nI s)) 18 4 0 := ⟨_, rfl⟩
  have cs : CX V T N gs := by rw [egs]; exact ((h.w (by decide) (by decide)).w (by decide) (by decide)).w (by decide) (by decide)
  have fs : F18 g gs := by rw [egs]; exact ((F18.w (by omega)).tr (F18.w (by omega))).tr (F18.w (by omega))
  have g2 : gs.1 18 2 = nI s := by rw [egs]; simp [sI_1, up2_at]
  have g3 : gs.1 18 3 = nI s := by rw [egs]; simp [sI_1, up2_at]
  have g4 : gs.1 18 4 = 0 := by rw [egs]; simp [sI_1, up2_at]
  have st : r_X3_advance V 18 g = (brn (bt T N s = (-1 : Int32)) (nm (sI gs 18 1 (0 : Int32)) fun g23 => some ((), g23)) (bnd (r_X3_isLetter V (bt T N s) gs) fun x25 g24 => brn (x25 = 0) (bnd (r_X3_isDigit V (bt T N s) g24) fun x28 g27 => brn (x28 = 0) (brn (bt T N s = (59 : Int32)) (nm (sI g27 18 1 (3 : Int32)) fun g30 => nm (sI g30 18 3 ((g30.1 18 3) + (1 : Int32))) fun g31 => some ((), g31)) (nm (sI g27 18 1 (4 : Int32)) fun g32 => nm (sI g32 18 3 ((g32.1 18 3) + (1 : Int32))) fun g33 => some ((), g33))) ((lop (r_X3_advance_153 V) (18, g27)))) (nm (sI g24 18 1 (1 : Int32)) fun g64 => (lop (r_X3_advance_102 V) (18, g64))))) := by
    rw [x_skip h hs h3]
    unfold r_X3_advance_52
    rw [grd_t (v_18 h.1), sI_1, up2_s, nm_eq, nm_eq, ← egs, q_18_0 cs.2.1, bind_some', grd_t (v_1 h.1), g2, xT_at cs (by omega), bnd_some]
  by_cases e : s = N
  · refine ⟨s, N, sI gs 18 1 0, 0, 0, hs, Or.inl ⟨e, rfl, rfl⟩, ?_, fs.tr (F18.w (by omega)), by rw [sI_1, up2_s], by rw [sI_1, up2_ne _ _ (Or.inr (by decide))]; exact g2, by rw [sI_1, up2_ne _ _ (Or.inr (by decide)), g3, e], by rw [sI_1, up2_ne _ _ (Or.inr (by decide))]; exact g4⟩
    rw [st, brn_t (by rw [e]; exact bt_N), nm_eq]
  · have hlt : s < N := by omega
    have nm1 : ¬ bt T N s = -1 := by
      intro q
      have := (bt_0 (T := T) hlt).1
      rw [q] at this
      exact absurd this (by decide)
    rw [brn_f nm1, p_isLetter, bnd_some] at st
    by_cases l : ltr (bt T N s)
    · obtain ⟨en, he⟩ := Rn_ex ltr T sN
      have se : s < en := by
        rcases Nat.lt_or_ge s en with q | q
        · exact q
        · have : en = s := by have := he.1; omega
          rw [this] at he
          rcases he.2.2.2 with q2 | q2
          · omega
          · exact absurd l q2
      have eN := he.2.1
      have cw := cs.w (k := 18) (j := 1) (v := 1) (by decide) (by decide)
      have id0 : sI gs 18 1 1 = sI (sI gs 18 1 1) 18 3 (nI (s + 0)) := (sI_id (by rw [sI_1, up2_ne _ _ (Or.inr (by decide))]; exact g3)).symm
      refine ⟨s, en, sI (sI gs 18 1 1) 18 3 (nI en), 1, 0, hs, Or.inr ⟨hlt, se, eN, Or.inl ⟨l, he, rfl⟩⟩, ?_, (fs.tr (F18.w (by omega))).tr (F18.w (by omega)), by rw [sI_1, up2_ne _ _ (Or.inr (by decide)), sI_1, up2_s], by rw [sI_1, up2_ne _ _ (Or.inr (by decide)), sI_1, up2_ne _ _ (Or.inr (by decide))]; exact g2, by rw [sI_1, up2_s], by rw [sI_1, up2_ne _ _ (Or.inr (by decide)), sI_1, up2_ne _ _ (Or.inr (by decide))]; exact g4⟩
      rw [st, brn_f (by rw [bI_0]; exact fun q => q l), nm_eq]
      refine Eq.trans (b := lop (r_X3_advance_102 V) (18, sI (sI gs 18 1 1) 18 3 (nI (s + 0)))) (by rw [← id0]) ?_
      have pre := run_to (f := r_X3_advance_102 V) (fun k => (18, sI (sI gs 18 1 1) 18 3 (nI (s + k)))) (en - s) (fun k hk => by
        have c := cw.w (k := 18) (j := 3) (v := nI (s + k)) (by decide) (by decide)
        show r_X3_advance_102' V 18 (sI (sI gs 18 1 1) 18 3 (nI (s + k))) = some (.inl (18, sI (sI gs 18 1 1) 18 3 (nI (s + (k + 1)))))
        unfold r_X3_advance_102'
        rw [grd_t (v_18 h.1), q_18_0 c.2.1, bind_some', grd_t (v_1 h.1), xT_len c, bnd_some, sI_1, up2_s, brn_f (nI_ge (by omega) (by omega)), q_18_0 c.2.1, bind_some', grd_t (v_1 h.1), xT_at c (by omega), bnd_some, p_isLetter, bnd_some, brn_f (by rw [bI_0]; exact fun q => q (he.2.2.1 _ (by omega) (by omega))), sI_1, up2_s, nI_1, nm_eq, sI_sI]
        rfl)
      rw [pre, show s + (en - s) = en by omega]
      refine lop_r ?_
      have c := cw.w (k := 18) (j := 3) (v := nI en) (by decide) (by decide)
      show r_X3_advance_102' V 18 (sI (sI gs 18 1 1) 18 3 (nI en)) = _
      unfold r_X3_advance_102'
      rw [grd_t (v_18 h.1), q_18_0 c.2.1, bind_some', grd_t (v_1 h.1), xT_len c, bnd_some, sI_1, up2_s]
      by_cases q : en = N
      · rw [brn_t (nI_le (by omega) (by omega))]
      · rw [brn_f (nI_ge (by omega) (by omega)), q_18_0 c.2.1, bind_some', grd_t (v_1 h.1), xT_at c (by omega), bnd_some, p_isLetter, bnd_some, brn_t (by rw [bI_0]; exact he.2.2.2.resolve_left q)]
    · rw [brn_t (by rw [bI_0]; exact l), p_isDigit, bnd_some] at st
      by_cases dg : dig (bt T N s)
      · obtain ⟨en, he⟩ := Rn_ex dig T sN
        have se : s < en := by
          rcases Nat.lt_or_ge s en with q | q
          · exact q
          · have : en = s := by have := he.1; omega
            rw [this] at he
            rcases he.2.2.2 with q2 | q2
            · omega
            · exact absurd dg q2
        have eN := he.2.1
        obtain ⟨k, ek⟩ : ∃ k : Int32, k = if 4 < en - s then 4 else 2 := ⟨_, rfl⟩
        have id0 : gs = sI (sI gs 18 4 (vl T N s 0)) 18 3 (nI (s + 0)) := by
          rw [show vl T N s 0 = 0 from rfl, sI_id g4, show s + 0 = s from rfl, sI_id g3]
        obtain ⟨ge, ege⟩ : ∃ ge, ge = sI (sI gs 18 4 (vl T N s (en - s))) 18 3 (nI en) := ⟨_, rfl⟩
        have ge1 : ∀ j, j ≠ 4 → j ≠ 3 → ge.1 18 j = gs.1 18 j := fun j h1 h2 => by rw [ege, sI_1, up2_ne _ _ (Or.inr h2), sI_1, up2_ne _ _ (Or.inr h1)]
        have ge3 : ge.1 18 3 = nI en := by rw [ege, sI_1, up2_s]
        have ge4 : ge.1 18 4 = vl T N s (en - s) := by rw [ege, sI_1, up2_ne _ _ (Or.inr (by decide)), sI_1, up2_s]
        refine ⟨s, en, sI ge 18 1 k, k, vl T N s (en - s), hs, Or.inr ⟨hlt, se, eN, Or.inr (Or.inl ⟨dg, he, rfl, ek⟩)⟩, ?_, ?_, by rw [sI_1, up2_s], by rw [sI_1, up2_ne _ _ (Or.inr (by decide)), ge1 2 (by decide) (by decide)]; exact g2, by rw [sI_1, up2_ne _ _ (Or.inr (by decide))]; exact ge3, by rw [sI_1, up2_ne _ _ (Or.inr (by decide))]; exact ge4⟩
        · rw [st, brn_f (by rw [bI_0]; exact fun q => q dg)]
          refine Eq.trans (b := lop (r_X3_advance_153 V) (18, sI (sI gs 18 4 (vl T N s 0)) 18 3 (nI (s + 0)))) (by rw [← id0]) ?_
          have pre := run_to (f := r_X3_advance_153 V) (fun k => (18, sI (sI gs 18 4 (vl T N s k)) 18 3 (nI (s + k)))) (en - s) (fun k hk => by
            have c := (cs.w (k := 18) (j := 4) (v := vl T N s k) (by decide) (by decide)).w (k := 18) (j := 3) (v := nI (s + k)) (by decide) (by decide)
            have v4 : (sI (sI gs 18 4 (vl T N s k)) 18 3 (nI (s + k))).1 18 4 = vl T N s k := by rw [sI_1, up2_ne _ _ (Or.inr (by decide)), sI_1, up2_s]
            have v3 : ∀ x, (sI (sI (sI gs 18 4 (vl T N s k)) 18 3 (nI (s + k))) 18 4 x).1 18 3 = nI (s + k) := fun x => by rw [sI_1, up2_ne _ _ (Or.inr (by decide)), sI_1, up2_s]
            have cm : ∀ x y, sI (sI (sI (sI gs 18 4 (vl T N s k)) 18 3 (nI (s + k))) 18 4 x) 18 3 y = sI (sI gs 18 4 x) 18 3 y := fun x y => by
              rw [sI_comm (k := 18) (j := 3) (k2 := 18) (j2 := 4) (Or.inr (by decide)), sI_sI, sI_sI]
            show r_X3_advance_153' V 18 (sI (sI gs 18 4 (vl T N s k)) 18 3 (nI (s + k))) = some (.inl (18, sI (sI gs 18 4 (vl T N s (k + 1))) 18 3 (nI (s + (k + 1)))))
            unfold r_X3_advance_153'
            rw [grd_t (v_18 h.1), q_18_0 c.2.1, bind_some', grd_t (v_1 h.1), xT_len c, bnd_some, show (sI (sI gs 18 4 (vl T N s k)) 18 3 (nI (s + k))).1 18 3 = nI (s + k) by rw [sI_1, up2_s], brn_f (nI_ge (by omega) (by omega)), q_18_0 c.2.1, bind_some', grd_t (v_1 h.1), xT_at c (by omega), bnd_some, p_isDigit, bnd_some, brn_f (by rw [bI_0]; exact fun q => q (he.2.2.1 _ (by omega) (by omega))), q_18_0 c.2.1, bind_some', grd_t (v_1 h.1), show (sI (sI gs 18 4 (vl T N s k)) 18 3 (nI (s + k))).1 18 3 = nI (s + k) by rw [sI_1, up2_s], xT_at c (by omega), bnd_some, v4, nm_eq, v3, nI_1, nm_eq, cm]
            rfl)
          rw [pre, show s + (en - s) = en by omega, ← ege]
          refine lop_r ?_
          have c : CX V T N ge := by rw [ege]; exact (cs.w (by decide) (by decide)).w (by decide) (by decide)
          show r_X3_advance_153' V 18 ge = _
          unfold r_X3_advance_153'
          have fin : brn ((4 : Int32) < (ge.1 18 3) - (ge.1 18 2)) (nm (sI ge 18 1 (4 : Int32)) fun g43 => some (.inr ((), g43))) (nm (sI ge 18 1 (2 : Int32)) fun g44 => some (.inr ((), g44))) = (some (.inr ((), sI ge 18 1 k)) : Option ((Nat × Hq) ⊕ (Unit × Hq))) := by
            rw [ge3, ge1 2 (by decide) (by decide), g2, pk_sub (by omega)]
            by_cases q : 4 < en - s
            · rw [brn_t (by rw [show (4 : Int32) = nI 4 from rfl]; exact nI_lt q (by omega)), nm_eq, ek, if_pos q]
            · rw [brn_f (by rw [show (4 : Int32) = nI 4 from rfl, i_lt, tN (by omega), tN (by omega)]; omega), nm_eq, ek, if_neg q]
          rw [grd_t (v_18 h.1), q_18_0 c.2.1, bind_some', grd_t (v_1 h.1), xT_len c, bnd_some]
          by_cases q : en = N
          · rw [brn_t (by rw [ge3]; exact nI_le (by omega) (by omega))]
            exact fin
          · rw [brn_f (by rw [ge3]; exact nI_ge (by omega) (by omega)), q_18_0 c.2.1, bind_some', grd_t (v_1 h.1), ge3, xT_at c (by omega), bnd_some, p_isDigit, bnd_some, brn_t (by rw [bI_0]; exact he.2.2.2.resolve_left q)]
            exact fin
        · rw [ege]
          exact ((fs.tr (F18.w (by omega))).tr (F18.w (by omega))).tr (F18.w (by omega))
      · rw [brn_t (by rw [bI_0]; exact dg)] at st
        obtain ⟨k, ek⟩ : ∃ k : Int32, k = if bt T N s = 59 then 3 else 4 := ⟨_, rfl⟩
        refine ⟨s, s + 1, sI (sI gs 18 1 k) 18 3 (nI (s + 1)), k, 0, hs, Or.inr ⟨hlt, by omega, by omega, Or.inr (Or.inr ⟨l, dg, rfl, ek⟩)⟩, ?_, (fs.tr (F18.w (by omega))).tr (F18.w (by omega)), by rw [sI_1, up2_ne _ _ (Or.inr (by decide)), sI_1, up2_s], by rw [sI_1, up2_ne _ _ (Or.inr (by decide)), sI_1, up2_ne _ _ (Or.inr (by decide))]; exact g2, by rw [sI_1, up2_s], by rw [sI_1, up2_ne _ _ (Or.inr (by decide)), sI_1, up2_ne _ _ (Or.inr (by decide))]; exact g4⟩
        rw [st]
        by_cases q : bt T N s = 59
        · rw [brn_t q, nm_eq, nm_eq, sI_1, up2_ne _ _ (Or.inr (by decide)), g3, nI_1, ek, if_pos q]
        · rw [brn_f q, nm_eq, nm_eq, sI_1, up2_ne _ _ (Or.inr (by decide)), g3, nI_1, ek, if_neg q]
