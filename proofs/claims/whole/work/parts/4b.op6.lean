theorem run_for {σ β : Type} {f : σ → Option (σ ⊕ β)} (st : Nat → σ) (n : Nat) {b : β} (hs : ∀ i, i < n → f (st i) = some (.inl (st (i + 1)))) (he : f (st n) = some (.inr b)) : ∀ d i, i + d = n → lop f (st i) = some b := by
  intro d
  induction d with
  | zero => intro i hi; have : i = n := by omega
            subst this; exact lop_r he
  | succ d ih => intro i hi; rw [lop_l (hs i (by omega))]; exact ih (i + 1) (by omega)
theorem t16 : (1600 : Int32).toInt = 1600 := rfl
theorem sh_qw {R : Nat → Nat → Option Nat} (h : ShR R) {w : Nat} (hw : w < 4) : R (31 + 9 * w) 6 = some (31 + 9 * w + 6) ∧ R (31 + 9 * w) 7 = some (31 + 9 * w + 7) ∧ R (31 + 9 * w) 8 = some (31 + 9 * w + 8) := by
  rcases (show w = 0 ∨ w = 1 ∨ w = 2 ∨ w = 3 by omega) with rfl | rfl | rfl | rfl
  · exact ⟨q_31_6 h, q_31_7 h, q_31_8 h⟩
  · exact ⟨q_40_6 h, q_40_7 h, q_40_8 h⟩
  · exact ⟨q_49_6 h, q_49_7 h, q_49_8 h⟩
  · exact ⟨q_58_6 h, q_58_7 h, q_58_8 h⟩
theorem sh_vy {V : Vk} (h : ShV V) {w : Nat} (hw : w < 4) : V (31 + 9 * w + 6) = some (100, 200) ∧ V (31 + 9 * w + 7) = some (102, 200) ∧ V (31 + 9 * w + 8) = some (100, 200) := by
  rcases (show w = 0 ∨ w = 1 ∨ w = 2 ∨ w = 3 by omega) with rfl | rfl | rfl | rfl
  · exact ⟨v_37 h, v_38 h, v_39 h⟩
  · exact ⟨v_46 h, v_47 h, v_48 h⟩
  · exact ⟨v_55 h, v_56 h, v_57 h⟩
  · exact ⟨v_64 h, v_65 h, v_66 h⟩
theorem op_year {V : Vk} {g : Hq} (h : Inv V g) (a b c : Int32) : Op V g (r_X11_year V 0 a b c) (r_X12_year V 70 a b c) := by
  by_cases h1 : 0 ≤ a ∧ a ≤ 3
  · obtain ⟨w, hw, rfl⟩ := nat_of (n := 3) rfl h1
    have hw4 : w < 4 := by omega
    have cw := cl_nI (j := w) (by omega)
    obtain ⟨-, -, -, -, -, -, -, -, -, n, cc, hh, hy, -, -⟩ := id h
    obtain ⟨y1, y2, y3, y4, y5, y6⟩ := hy w hw4
    have vw := sh_vw h.v hw4
    have hx : ∀ r, r_X10_tellYear V (31 + 9 * w) b c g = some (r, g) → r_X11_year V 0 (nI w) b c g = some (r, g) := by
      intro r hr
      unfold r_X11_year
      rw [p_isWard, bnd_some, brn_f (by rw [bI_0]; exact fun k => k h1), grd_t (v_0 h.v), q_0_4 h.r, bind_some', grd_t (ok_nI (v_19 h.v) hw4 (by decide)), cw, sh_w h.r hw4, bind_some', grd_t vw, hr, bnd_some]
    have o94 : okV V 94 0 (nI w) := ok_nI (n := 4) (v_94 h.v) hw4 (by decide)
    have o96 : okV V 96 0 (nI w) := ok_nI (n := 4) (v_96 h.v) hw4 (by decide)
    by_cases hl : g.1 94 w = -1
    · refine ⟨-9, g, g, hx _ ?_, ?_, h⟩
      · unfold r_X10_tellYear
        rw [grd_t vw, y3, brn_t hl]
      · unfold r_X12_year
        rw [m_isWard, bnd_some, brn_f (by rw [bI_0]; exact fun k => k h1), grd_t (v_70 h.v), q_70_39 h.r, bind_some', grd_t o94, cw, brn_t hl]
    · rcases y6 with ⟨e, -⟩ | ⟨z1, z2, z3, z4, z5⟩
      · exact absurd e hl
      · by_cases hb : g.1 96 w ≤ b ∧ b ≤ g.1 94 w
        · have b1 := hb.1
          have b2 := hb.2
          rw [i_le] at b1 b2
          obtain ⟨t, ht⟩ : ∃ t : Nat, b.toInt = 1600 + (t : Int) := ⟨(b.toInt - 1600).toNat, by omega⟩
          have ht2 : t < 200 := by omega
          have ebt : b - 1600 = nI t := by rw [i_eq, i_sub (by rw [t16]; omega) (by rw [t16]; omega), tN (by omega), t16]; omega
          have ebm : (200 : Int32) * nI w + b - 1600 = nI (200 * w + t) := by
            rw [show (200 : Int32) = nI 200 from rfl, pk_mul]
            have e1 : (nI (200 * w) + b).toInt = 200 * w + b.toInt := by
              have e0 : (nI (200 * w)).toInt = 200 * w := by rw [tN (by omega)]; omega
              rw [i_add (by omega) (by omega), e0]
            rw [i_eq, i_sub (by rw [e1, t16]; omega) (by rw [e1, t16]; omega), tN (by omega), e1, t16]
            omega
          obtain ⟨-, s2⟩ := z5 t ht2
          obtain ⟨s3, s4, s5, s6⟩ := s2 (by omega) (by omega)
          obtain ⟨q6, q7, q8⟩ := sh_qw h.r hw4
          obtain ⟨v6, v7, v8⟩ := sh_vy h.v hw4
          have M : ∀ r, (brn (c = 0) (Option.bind (g.2.2 70 42) fun k21 => grd (okV V k21 0 (nI (200 * w + t))) <| some ((g.1 k21 (nI (200 * w + t)).toNatClampNeg), g)) (brn (c = (1 : Int32)) (Option.bind (g.2.2 70 43) fun k24 => grd (okV V k24 2 (nI (200 * w + t))) <| brn ((g.1 k24 (nI (200 * w + t)).toNatClampNeg) = 0) (some ((0 : Int32), g)) (some ((1 : Int32), g))) (Option.bind (g.2.2 70 44) fun k27 => grd (okV V k27 0 (nI (200 * w + t))) <| some ((g.1 k27 (nI (200 * w + t)).toNatClampNeg), g)))) = some (r, g) → (0 ≤ c ∧ c ≤ 2) → r_X12_year V 70 (nI w) b c g = some (r, g) := by
            intro r hr hc
            unfold r_X12_year
            rw [m_isWard, bnd_some, brn_f (by rw [bI_0]; exact fun k => k h1), grd_t (v_70 h.v), q_70_39 h.r, bind_some', grd_t o94, cw, brn_f hl, q_70_41 h.r, bind_some', grd_t o96, bind_some', grd_t o94, p_in, bnd_some, brn_f (by rw [bI_0]; exact fun k => k hb), p_in, bnd_some, brn_f (by rw [bI_0]; exact fun k => k hc), nm_eq, ebm]
            exact hr
          have X : ∀ r, (brn (c = (0 : Int32)) (Option.bind (g.2.2 (31 + 9 * w) 6) fun k5 => grd (okV V k5 0 (nI t)) <| some ((g.1 k5 (nI t).toNatClampNeg), g)) (brn (c = (1 : Int32)) (Option.bind (g.2.2 (31 + 9 * w) 7) fun k9 => grd (okV V k9 2 (nI t)) <| brn ((g.1 k9 (nI t).toNatClampNeg) = 0) (some ((0 : Int32), g)) (some ((1 : Int32), g))) (brn (c = (2 : Int32)) (Option.bind (g.2.2 (31 + 9 * w) 8) fun k13 => grd (okV V k13 0 (nI t)) <| some ((g.1 k13 (nI t).toNatClampNeg), g)) (some ((-9 : Int32), g))))) = some (r, g) → r_X10_tellYear V (31 + 9 * w) b c g = some (r, g) := by
            intro r hr
            unfold r_X10_tellYear
            rw [grd_t vw, y3, brn_f hl, z1, p_isFrom, bnd_some, brn_f (by rw [bI_0]; exact fun k => k hb), ebt]
            exact hr
          by_cases c0 : c = 0
          · refine ⟨g.1 97 (200 * w + t), g, g, hx _ (X _ ?_), M _ ?_ (by rw [c0]; decide), h⟩
            · rw [brn_t c0, q6, bind_some', grd_t (ok_nI (n := 200) v6 ht2 (by decide)), cl_nI (by omega), s3]
            · rw [brn_t c0, q_70_42 h.r, bind_some', grd_t (ok_nI (n := 800) (v_97 h.v) (by omega) (by decide)), cl_nI (by omega)]
          · by_cases c1 : c = 1
            · refine ⟨g.1 98 (200 * w + t), g, g, hx _ (X _ ?_), M _ ?_ (by rw [c1]; decide), h⟩
              · rw [brn_f c0, brn_t c1, q7, bind_some', grd_t (ok_nI (n := 200) (t := 2) v7 ht2 (by decide)), cl_nI (by omega), s4]
                rcases s6 with e | e
                · rw [brn_t e, e]
                · rw [brn_f (by rw [e]; decide), e]
              · rw [brn_f c0, brn_t c1, q_70_43 h.r, bind_some', grd_t (ok_nI (n := 800) (t := 2) (v_98 h.v) (by omega) (by decide)), cl_nI (by omega)]
                rcases s6 with e | e
                · rw [brn_t e, e]
                · rw [brn_f (by rw [e]; decide), e]
            · by_cases c2 : c = 2
              · refine ⟨g.1 99 (200 * w + t), g, g, hx _ (X _ ?_), M _ ?_ (by rw [c2]; decide), h⟩
                · rw [brn_f c0, brn_f c1, brn_t c2, q8, bind_some', grd_t (ok_nI (n := 200) v8 ht2 (by decide)), cl_nI (by omega), s5]
                · rw [brn_f c0, brn_f c1, q_70_44 h.r, bind_some', grd_t (ok_nI (n := 800) (v_99 h.v) (by omega) (by decide)), cl_nI (by omega)]
              · refine ⟨-9, g, g, hx _ (X _ ?_), ?_, h⟩
                · rw [brn_f c0, brn_f c1, brn_f c2]
                · have hc : ¬ (0 ≤ c ∧ c ≤ 2) := by
                    intro k
                    obtain ⟨j, hj, rfl⟩ := nat_of (n := 2) rfl k
                    rcases (show j = 0 ∨ j = 1 ∨ j = 2 by omega) with rfl | rfl | rfl
                    · exact c0 rfl
                    · exact c1 rfl
                    · exact c2 rfl
                  unfold r_X12_year
                  rw [m_isWard, bnd_some, brn_f (by rw [bI_0]; exact fun k => k h1), grd_t (v_70 h.v), q_70_39 h.r, bind_some', grd_t o94, cw, brn_f hl, q_70_41 h.r, bind_some', grd_t o96, bind_some', grd_t o94, p_in, bnd_some, brn_f (by rw [bI_0]; exact fun k => k hb), p_in, bnd_some, brn_t (by rw [bI_0]; exact hc)]
        · refine ⟨-9, g, g, hx _ ?_, ?_, h⟩
          · unfold r_X10_tellYear
            rw [grd_t vw, y3, brn_f hl, z1, p_isFrom, bnd_some, brn_t (by rw [bI_0]; exact hb)]
          · unfold r_X12_year
            rw [m_isWard, bnd_some, brn_f (by rw [bI_0]; exact fun k => k h1), grd_t (v_70 h.v), q_70_39 h.r, bind_some', grd_t o94, cw, brn_f hl, q_70_41 h.r, bind_some', grd_t o96, bind_some', grd_t o94, p_in, bnd_some, brn_t (by rw [bI_0]; exact hb)]
  · refine ⟨-9, g, g, ?_, ?_, h⟩
    · unfold r_X11_year
      rw [p_isWard, bnd_some, brn_t (by rw [bI_0]; exact h1)]
    · unfold r_X12_year
      rw [m_isWard, bnd_some, brn_t (by rw [bI_0]; exact h1)]
theorem lyC_le (I : Nat → Nat → Int32) (w : Nat) : ∀ c, lyC I w c ≤ c := by
  intro c
  induction c with
  | zero => exact Nat.le_refl 0
  | succ c ih => unfold lyC; split <;> omega
theorem m_lying {V : Vk} {g : Hq} {w c : Nat} (hV : ShV V) (hR : ShR g.2.2) (hw : w < 4) (hc : c ≤ 100) (e46 : g.1 70 46 = nI c) : r_X12_lying V 70 (nI w) g = some (nI (lyC g.1 w c), g) := by
  unfold r_X12_lying
  refine run_for (f := r_X12_lying_4 V) (fun i => (70, nI w, nI (lyC g.1 w i), nI i, g)) c ?_ ?_ c 0 (by omega)
  · intro i hi
    have o1 : okV V 104 0 (nI i) := ok_nI (n := 100) (v_104 hV) (by omega) (by decide)
    have o2 : okV V 105 0 (nI i) := ok_nI (n := 100) (v_105 hV) (by omega) (by decide)
    have z0 : ∀ n, nI n + 0 = nI n := fun n => nI_add n 0
    show r_X12_lying_4' V 70 (nI w) (nI (lyC g.1 w i)) (nI i) g = some (.inl (70, nI w, nI (lyC g.1 w (i + 1)), nI (i + 1), g))
    unfold r_X12_lying_4'
    rw [grd_t (v_70 hV), e46, brn_f (nI_ge hi (by omega)), q_70_50 hR, bind_some', grd_t o1, cl_nI (by omega)]
    rw [show lyC g.1 w (i + 1) = lyC g.1 w i + (if g.1 104 i = 0 ∧ g.1 105 i = nI w then 1 else 0) from rfl]
    by_cases s0 : g.1 104 i = 0
    · rw [brn_t s0, q_70_51 hR, bind_some', grd_t o2]
      by_cases s1 : g.1 105 i = nI w
      · rw [brn_t s1, nm_eq, nm_eq, nI_1, nI_1, if_pos ⟨s0, s1⟩]
      · rw [brn_f s1, nm_eq, nm_eq, nI_1, z0, if_neg (fun k => s1 k.2)]; rfl
    · rw [brn_f s0, nm_eq, nm_eq, nI_1, z0, if_neg (fun k => s0 k.1)]; rfl
  · show r_X12_lying_4' V 70 (nI w) (nI (lyC g.1 w c)) (nI c) g = _
    unfold r_X12_lying_4'
    rw [grd_t (v_70 hV), e46, brn_t (nI_le (Nat.le_refl c) (by omega))]
theorem rng {a : Int32} {lo : Nat} {k3 : Int32} (hl : lo < 100) (h3 : k3 = nI (lo + 3)) (h : nI lo ≤ a ∧ a ≤ k3) : ∃ w, w < 4 ∧ a - nI lo = nI w := by
  subst h3
  have h1 := h.1
  have h2 := h.2
  rw [i_le, tN (by omega)] at h1 h2
  refine ⟨(a.toInt - lo).toNat, by omega, ?_⟩
  rw [i_eq, i_sub (by rw [tN (by omega)]; omega) (by rw [tN (by omega)]; omega), tN (by omega), tN (by omega)]
  omega
theorem op_count {V : Vk} {g : Hq} (h : Inv V g) (a : Int32) : Op V g (r_X11_count V 0 a) (r_X12_count V 70 a) := by
  obtain ⟨-, -, -, -, -, -, -, -, -, n, c, hh, hy, hn, -⟩ := id h
  have hv0 := v_0 h.v
  have hv := v_70 h.v
  by_cases a0 : a = 0
  · refine ⟨g.1 70 32, g, g, ?_, ?_, h⟩
    · unfold r_X11_count r_X7_size
      rw [brn_t a0, grd_t hv0, q_0_5 h.r, bind_some', grd_t (v_20 h.v), grd_t (v_20 h.v), bnd_some, hh.2.1, hh.2.2.1]
    · unfold r_X12_count
      rw [brn_t a0, grd_t hv]
  by_cases a1 : a = 1
  · refine ⟨g.1 70 46, g, g, ?_, ?_, h⟩
    · unfold r_X11_count r_X5_size
      rw [brn_f a0, brn_t a1, grd_t hv0, q_0_6 h.r, bind_some', grd_t (v_22 h.v), grd_t (v_22 h.v), bnd_some, hn.2.1, hn.2.2.1]
    · unfold r_X12_count
      rw [brn_f a0, brn_t a1, grd_t hv]
  by_cases a2 : a = 2
  · refine ⟨g.1 70 1, g, g, ?_, ?_, h⟩
    · unfold r_X11_count r_X8_length
      rw [brn_f a0, brn_f a1, brn_t a2, grd_t hv0, q_0_0 h.r, bind_some', grd_t (v_1 h.v), grd_t (v_1 h.v), bnd_some, h.t.1]
    · unfold r_X12_count
      rw [brn_f a0, brn_f a1, brn_t a2, grd_t hv]
  by_cases b1 : 10 ≤ a ∧ a ≤ 13
  · obtain ⟨w, hw, ew⟩ := rng (lo := 10) (by decide) rfl b1
    have ew : a - 10 = nI w := ew
    refine ⟨g.1 100 w, g, g, ?_, ?_, h⟩
    · unfold r_X11_count
      rw [brn_f a0, brn_f a1, brn_f a2, p_isFrom, bnd_some, brn_f (by rw [bI_0]; exact fun k => k b1), grd_t hv0, q_0_4 h.r, bind_some', ew, grd_t (ok_nI (v_19 h.v) hw (by decide)), cl_nI (by omega), sh_w h.r hw, bind_some', grd_t (sh_vw h.v hw), (hy w hw).1]
    · unfold r_X12_count
      rw [brn_f a0, brn_f a1, brn_f a2, p_in, bnd_some, brn_f (by rw [bI_0]; exact fun k => k b1), grd_t hv, q_70_45 h.r, bind_some', ew, grd_t (ok_nI (v_100 h.v) hw (by decide)), cl_nI (by omega)]
  by_cases b2 : 20 ≤ a ∧ a ≤ 23
  · obtain ⟨w, hw, ew⟩ := rng (lo := 20) (by decide) rfl b2
    have ew : a - 20 = nI w := ew
    refine ⟨nI (lyC g.1 w c), g, g, ?_, ?_, h⟩
    · unfold r_X11_count
      rw [brn_f a0, brn_f a1, brn_f a2, p_isFrom, bnd_some, brn_t (by rw [bI_0]; exact b1), p_isFrom, bnd_some, brn_f (by rw [bI_0]; exact fun k => k b2), grd_t hv0, q_0_4 h.r, bind_some', ew, grd_t (ok_nI (v_19 h.v) hw (by decide)), cl_nI (by omega), sh_w h.r hw, bind_some', grd_t (sh_vw h.v hw), hn.2.2.2.2.2 w hw]
    · unfold r_X12_count
      rw [brn_f a0, brn_f a1, brn_f a2, p_in, bnd_some, brn_t (by rw [bI_0]; exact b1), p_in, bnd_some, brn_f (by rw [bI_0]; exact fun k => k b2), grd_t hv, ew, m_lying h.v h.r hw hn.1 hn.2.2.1, bnd_some]
  by_cases b3 : 30 ≤ a ∧ a ≤ 33
  · obtain ⟨w, hw, ew⟩ := rng (lo := 30) (by decide) rfl b3
    have ew : a - 30 = nI w := ew
    refine ⟨g.1 94 w, g, g, ?_, ?_, h⟩
    · unfold r_X11_count
      rw [brn_f a0, brn_f a1, brn_f a2, p_isFrom, bnd_some, brn_t (by rw [bI_0]; exact b1), p_isFrom, bnd_some, brn_t (by rw [bI_0]; exact b2), p_isFrom, bnd_some, brn_f (by rw [bI_0]; exact fun k => k b3), grd_t hv0, q_0_4 h.r, bind_some', ew, grd_t (ok_nI (v_19 h.v) hw (by decide)), cl_nI (by omega), sh_w h.r hw, bind_some', grd_t (sh_vw h.v hw), (hy w hw).2.2.1]
    · unfold r_X12_count
      rw [brn_f a0, brn_f a1, brn_f a2, p_in, bnd_some, brn_t (by rw [bI_0]; exact b1), p_in, bnd_some, brn_t (by rw [bI_0]; exact b2), p_in, bnd_some, brn_f (by rw [bI_0]; exact fun k => k b3), grd_t hv, q_70_39 h.r, bind_some', ew, grd_t (ok_nI (v_94 h.v) hw (by decide)), cl_nI (by omega)]
  refine ⟨-1, g, g, ?_, ?_, h⟩
  · unfold r_X11_count
    rw [brn_f a0, brn_f a1, brn_f a2, p_isFrom, bnd_some, brn_t (by rw [bI_0]; exact b1), p_isFrom, bnd_some, brn_t (by rw [bI_0]; exact b2), p_isFrom, bnd_some, brn_t (by rw [bI_0]; exact b3)]
  · unfold r_X12_count
    rw [brn_f a0, brn_f a1, brn_f a2, p_in, bnd_some, brn_t (by rw [bI_0]; exact b1), p_in, bnd_some, brn_t (by rw [bI_0]; exact b2), p_in, bnd_some, brn_t (by rw [bI_0]; exact b3)]
