/-! ===== a line of laws, and the text ===== -/
def mcc (c pw : Nat) : Nat := c % 16 + 16 * pw + c / 16 * 32
def cbt : List Nat := [1, 2, 4, 8, 0, 16, 32]
def cb (w : Nat) : Nat := cbt.getD w 0
theorem tr_tab : ∀ c : Fin 64, ∀ pw : Fin 2, ∀ w : Fin 7, w.1 ≠ 4 → ((nI c.1 &&& nI (cb w.1) = 0) ↔ ¬ ((nI (mcc c.1 pw.1) >>> (nI w.1 &&& 31)) &&& 1 = 1)) ∧ nI c.1 ||| nI (cb w.1) = nI (c.1 ||| cb w.1) ∧ (c.1 ||| cb w.1) < 64 ∧ nI (mcc c.1 pw.1) ||| ((1 : Int32) <<< (nI w.1 &&& 31)) = nI (mcc (c.1 ||| cb w.1) pw.1) := by decide +kernel
theorem pw_tab : ∀ c : Fin 64, ∀ pw : Fin 2, nI (mcc c.1 pw.1) ||| ((1 : Int32) <<< (nI 4 &&& 31)) = nI (mcc c.1 1) := by decide +kernel
theorem RL1_num {p l : Nat} {gx gm gx' gm' : Hq} {v : Int32} (hp : lawPl p) (h : RL1 (cmb gx gm).1 p 4) (hl : l < 8) (b : bdL l v) (F : F18 gx gx') (G : F70 (sI gm 85 (32 + l) v) gm') : RL1 (cmb (sI gx' p l v) gm').1 p 4 := by
  refine RL1_f hp (RL1_set hp h hl b) (fun a ha => ?_) G
  funext j
  rw [sI_1, sI_1, up2_at, up2_at, F.1 a ha]
theorem l_begin {V : Vk} {T : Nat → Int32} {N p w c pw : Nat} {gx0 gm0 : Hq} {s : Nat} {gx gm : Hq} (h : Li V T N p gx0 gm0 s gx gm) (hd : RL1 (cmb gx gm).1 p 4) (k1 : ¬ gx.1 18 1 = 0) (h5 : gx.1 18 5 = nI c) (hc : c < 64) (hpw : pw < 2) (hw : w < 7) (w4 : w ≠ 4) : (¬ ((nI (mcc c pw) >>> (nI w &&& 31)) &&& 1 = 1) ∧ ∃ gx' gm' s', r_X3_beginOnly V 18 (nI (cb w)) gx = some ((), gx') ∧ r_X12_scan V 70 gm = some ((), gm') ∧ Li V T N p gx0 gm0 s' gx' gm' ∧ s < s' ∧ RL1 (cmb gx' gm').1 p 4 ∧ gx'.1 18 5 = nI (c ||| cb w)) ∨ (((nI (mcc c pw) >>> (nI w &&& 31)) &&& 1 = 1) ∧ ∃ gx' gm', r_X3_beginOnly V 18 (nI (cb w)) gx = some ((), gx') ∧ r_X12_wrong V 70 3 gm = some (0, gm') ∧ Ba V T N p gx0 gm0 gx' gm') := by
  have hV := h.V
  obtain ⟨t1, t2, t3, t4⟩ := tr_tab ⟨c, hc⟩ ⟨pw, hpw⟩ ⟨w, hw⟩ w4
  simp only at t1 t2 t3 t4
  unfold r_X3_beginOnly
  rw [grd_t (v_18 hV), h5]
  by_cases q : nI c &&& nI (cb w) = 0
  · refine Or.inl ⟨t1.mp q, ?_⟩
    obtain ⟨s1, gx1, gm1, b1, b2, b3, b4, b5, b6, b7⟩ := l_adv (h.w5 (v := nI (c ||| cb w)))
    refine ⟨gx1, gm1, s1, ?_, b2, b5, b7 (by rw [sI_1, up2_ne _ _ (Or.inr (by decide))]; exact k1), ?_, ?_⟩
    · rw [brn_t q, t2, nm_eq, b1, bnd_some]
    · exact RL1_f h.p hd (fun a ha => by rw [b3.1 a ha, sI_1, up2_nk _ _ _ ha]) b4
    · rw [b3.2.1 5 (by omega), sI_1, up2_s]
  · refine Or.inr ⟨Classical.not_not.mp (fun z => q (t1.mpr z)), ?_⟩
    obtain ⟨gx', gm', q', b1, b2, b3, b4, b5, b6, b7, b8⟩ := l_blame (c := 3) h (by decide)
    obtain ⟨g2, d1, d2⟩ := d_adv (d_w5 (v := gx'.1 18 5 ||| nI (cb w)) b3)
    exact ⟨g2, gm', by rw [brn_f q, b1, bnd_some, nm_eq, d1, bnd_some], b2, 3, q', by decide, d2, b5, b6, b7, b8⟩
theorem l_line1 {V : Vk} {T : Nat → Int32} {N p w c pw l : Nat} {gx0 gm0 : Hq} {s : Nat} {gx gm : Hq} {hi : Int32} (h : Li V T N p gx0 gm0 s gx gm) (hd : RL1 (cmb gx gm).1 p 4) (k1 : ¬ gx.1 18 1 = 0) (h5 : gx.1 18 5 = nI c) (hc : c < 64) (hpw : pw < 2) (hw : w < 7) (w4 : w ≠ 4) (hl : l < 8) (hb : ∀ v : Int32, 0 ≤ v.toInt → v ≤ hi → bdL l v) : OutP V T N p gx0 gm0 (s + 1) (nI (c ||| cb w)) (bnd (r_X3_beginOnly V 18 (nI (cb w)) gx) fun u27 g26 => bnd (r_X3_takeNumber V 18 (0 : Int32) hi g26) fun x30 g29 => grd (V p = some (4, 0)) <| nm (sI g29 p l x30) fun g33 => some ((), g33)) (brn (((nI (mcc c pw) >>> (nI w &&& 31)) &&& (1 : Int32)) = (1 : Int32)) (bnd (r_X12_wrong V 70 (3 : Int32) gm) fun x8 g7 => grd (narrow .boolean (.int x8) = .int x8) <| some (x8, g7)) (bnd (r_X12_scan V 70 gm) fun u12 g11 => bnd (r_X12_number V 70 (nI l) (0 : Int32) hi g11) fun x24 g23 => grd (narrow .boolean (.int x24) = .int x24) <| some (x24, g23))) := by
  have hV := h.V
  have hp := h.p
  have hp' := law_b hp
  rcases l_begin h hd k1 h5 hc hpw hw w4 with ⟨q, gx1, gm1, s1, b1, b2, b3, b4, b5, b6⟩ | ⟨q, gx1, gm1, b1, b2, f, q', b3, b4, b5⟩
  · rw [b1, bnd_some, brn_f q, b2, bnd_some]
    rcases l_num (l := l) (lo := 0) (hi := hi) b3 hl with ⟨v, gx2, gm2, s2, c1, c2, c3, c4, c5, c6, c7, c8, c9⟩ | ⟨v, gx2, gm2, c1, c2, f, q', c3, c4, c5⟩
    · rw [c1, bnd_some, c2, bnd_some, grd_t (sh_vl hV hp), nm_eq, grd_t nbo]
      refine Or.inl ⟨_, gm2, s2, rfl, rfl, c3.wx (by omega) (by omega), by omega, RL1_num hp b5 hl (hb v c9 c8) c5 c6, ?_⟩
      rw [sI_1, up2_ne _ _ (Or.inl (by omega)), c5.2.1 5 (by omega)]
      exact b6
    · rw [c1, bnd_some, c2, bnd_some, grd_t (sh_vl hV hp), nm_eq, grd_t nbz]
      exact Or.inr ⟨_, gm2, rfl, rfl, f, q', c3, d_w c4 (by omega) (by omega), c5⟩
  · rw [b1, bnd_some, brn_t q, b2, bnd_some, grd_t nbz]
    obtain ⟨v, g2, d1, d2⟩ := d_num (lo := 0) (hi := hi) b3.1 b4
    rw [d1, bnd_some, grd_t (sh_vl hV hp), nm_eq]
    exact Or.inr ⟨_, gm1, rfl, rfl, f, q', b3, d_w d2 (by omega) (by omega), b5⟩
theorem l_age {V : Vk} {T : Nat → Int32} {N p c pw : Nat} {gx0 gm0 : Hq} {s : Nat} {gx gm : Hq} (h : Li V T N p gx0 gm0 s gx gm) (hd : RL1 (cmb gx gm).1 p 4) (k1 : ¬ gx.1 18 1 = 0) (h5 : gx.1 18 5 = nI c) (hc : c < 64) (hpw : pw < 2) : OutP V T N p gx0 gm0 (s + 1) (nI (c ||| cb 0)) (bnd (r_X3_beginOnly V 18 (1 : Int32) gx) fun u75 g74 => bnd (r_X3_takeNumber V 18 (0 : Int32) (99 : Int32) g74) fun x78 g77 => grd (V p = some (4, 0)) <| nm (sI g77 p 0 x78) fun g81 => bnd (r_X3_takeNumber V 18 (g81.1 p 0) (99 : Int32) g81) fun x83 g82 => nm (sI g82 p 1 x83) fun g85 => some ((), g85)) (brn (((nI (mcc c pw) >>> (nI 0 &&& 31)) &&& (1 : Int32)) = (1 : Int32)) (bnd (r_X12_wrong V 70 (3 : Int32) gm) fun x8 g7 => grd (narrow .boolean (.int x8) = .int x8) <| some (x8, g7)) (bnd (r_X12_scan V 70 gm) fun u12 g11 => bnd (r_X12_number V 70 (0 : Int32) (0 : Int32) (99 : Int32) g11) fun x15 g14 => brn (x15 = 0) (some ((0 : Int32), g14)) (Option.bind (g14.2.2 70 29) fun k17 => grd (okV V k17 0 (32 : Int32)) <| bnd (r_X12_number V 70 (1 : Int32) (g14.1 k17 (32 : Int32).toNatClampNeg) (99 : Int32) g14) fun x21 g20 => brn (x21 = 0) (some ((0 : Int32), g20)) (some ((1 : Int32), g20))))) := by
  have hV := h.V
  have hp := h.p
  have hp' := law_b hp
  have t99 : (99 : Int32).toInt = 99 := rfl
  rcases l_begin (w := 0) (pw := pw) h hd k1 h5 hc hpw (by decide) (by decide) with ⟨q, gx1, gm1, s1, b1, b2, b3, b4, b5, b6⟩ | ⟨q, gx1, gm1, b1, b2, f, q', b3, b4, b5⟩
  · rw [show r_X3_beginOnly V 18 (1 : Int32) gx = some ((), gx1) from b1, bnd_some, brn_f q, b2, bnd_some]
    rcases l_num (l := 0) (lo := 0) (hi := 99) b3 (by decide) with ⟨v, gx2, gm2, s2, c1, c2, c3, c4, c5, c6, c7, c8, c9⟩ | ⟨v, gx2, gm2, c1, c2, f, q', c3, c4, c5⟩
    · have c2' : r_X12_number V 70 (0 : Int32) (0 : Int32) (99 : Int32) gm1 = some (1, gm2) := c2
      have L2 : Li V T N p gx0 gm0 s2 (sI gx2 p 0 v) gm2 := c3.wx (by omega) (by omega)
      have D2 : RL1 (cmb (sI gx2 p 0 v) gm2).1 p 4 := RL1_num hp b5 (by decide) (by refine ⟨?_, ?_, ?_, ?_, ?_, ?_, ?_, ?_⟩ <;> intro q <;> first | exact absurd q (by decide) | omega) c5 c6
      have e85 : gm2.1 85 32 = v := by rw [c6.1 85 (by decide)]; show up2 gm1.1 85 (32 + 0) v 85 (32 + 0) = v; exact up2_s _ _ _ _
      rw [c1, bnd_some, c2', bnd_some, grd_t (sh_vl hV hp), nm_eq, brn_f (by decide), q_70_29 c3.R, bind_some', grd_t (show okV V 85 0 (32 : Int32) from ok_nI (n := 40) (j := 32) (t := 0) (v_85 hV) (by omega) (by decide)), show (32 : Int32).toNatClampNeg = 32 from rfl, e85, show (sI gx2 p 0 v).1 p 0 = v by rw [sI_1, up2_s]]
      rcases l_num (l := 1) (lo := v) (hi := 99) L2 (by decide) with ⟨v2, gx3, gm3, s3, d1, d2, d3, d4, d5, d6, d7, d8, d9⟩ | ⟨v2, gx3, gm3, d1, d2, f, q', d3, d4, d5⟩
      · have d2' : r_X12_number V 70 (1 : Int32) v (99 : Int32) gm2 = some (1, gm3) := d2
        rw [d1, bnd_some, d2', bnd_some, nm_eq, brn_f (by decide)]
        rw [i_le] at d8
        refine Or.inl ⟨_, gm3, s3, rfl, rfl, d3.wx (by omega) (by omega), by omega, RL1_num hp D2 (by decide) (by refine ⟨?_, ?_, ?_, ?_, ?_, ?_, ?_, ?_⟩ <;> intro q <;> first | exact absurd q (by decide) | omega) d5 d6, ?_⟩
        rw [sI_1, up2_ne _ _ (Or.inl (by omega)), d5.2.1 5 (by omega), sI_1, up2_ne _ _ (Or.inl (by omega)), c5.2.1 5 (by omega)]
        exact b6
      · have d2' : r_X12_number V 70 (1 : Int32) v (99 : Int32) gm2 = some (0, gm3) := d2
        rw [d1, bnd_some, d2', bnd_some, nm_eq, brn_t rfl]
        exact Or.inr ⟨_, gm3, rfl, rfl, f, q', d3, d_w d4 (by omega) (by omega), d5⟩
    · have c2' : r_X12_number V 70 (0 : Int32) (0 : Int32) (99 : Int32) gm1 = some (0, gm2) := c2
      rw [c1, bnd_some, c2', bnd_some, grd_t (sh_vl hV hp), nm_eq, brn_t rfl]
      obtain ⟨v2, g2, d1, d2⟩ := d_num (lo := (sI gx2 p 0 v).1 p 0) (hi := 99) c3.1 (d_w (k := p) (j := 0) (v := v) c4 (by omega) (by omega))
      rw [d1, bnd_some, nm_eq]
      exact Or.inr ⟨_, gm2, rfl, rfl, f, q', c3, d_w d2 (by omega) (by omega), c5⟩
  · rw [show r_X3_beginOnly V 18 (1 : Int32) gx = some ((), gx1) from b1, bnd_some, brn_t q, b2, bnd_some, grd_t nbz]
    obtain ⟨v, g2, d1, d2⟩ := d_num (lo := 0) (hi := 99) b3.1 b4
    rw [d1, bnd_some, grd_t (sh_vl hV hp), nm_eq]
    obtain ⟨v2, g3, e1, e2⟩ := d_num (lo := (sI g2 p 0 v).1 p 0) (hi := 99) b3.1 (d_w (k := p) (j := 0) (v := v) d2 (by omega) (by omega))
    rw [e1, bnd_some, nm_eq]
    exact Or.inr ⟨_, gm1, rfl, rfl, f, q', b3, d_w e2 (by omega) (by omega), b5⟩
theorem fit01 {b : Int32} (h : b = 0 ∨ b = 1) : narrow .boolean (.int b) = .int b ∧ fits .boolean (.int b) = true := by rcases h with h | h <;> rw [h] <;> exact ⟨rfl, rfl⟩
theorem l_follow {V : Vk} {T : Nat → Int32} {N p c pw : Nat} {gx0 gm0 : Hq} {s : Nat} {gx gm : Hq} (h : Li V T N p gx0 gm0 s gx gm) (hd : RL1 (cmb gx gm).1 p 4) (k1 : ¬ gx.1 18 1 = 0) (h5 : gx.1 18 5 = nI c) (hc : c < 64) (hpw : pw < 2) : OutP V T N p gx0 gm0 (s + 1) (nI (c ||| cb 5)) (bnd (r_X3_beginOnly V 18 (16 : Int32) gx) fun u35 g34 => bnd (r_X3_takeNumber V 18 (0 : Int32) (999 : Int32) g34) fun x38 g37 => grd (V p = some (4, 0)) <| nm (sI g37 p 5 x38) fun g41 => bnd (r_X3_takeCry V 18 g41) fun x43 g42 => grd (narrow .boolean (.int x43) = .int x43 ∧ fits .boolean (.int x43) = true) <| nm (sI g42 p 6 x43) fun g45 => some ((), g45)) (brn (((nI (mcc c pw) >>> (nI 5 &&& 31)) &&& (1 : Int32)) = (1 : Int32)) (bnd (r_X12_wrong V 70 (3 : Int32) gm) fun x8 g7 => grd (narrow .boolean (.int x8) = .int x8) <| some (x8, g7)) (bnd (r_X12_scan V 70 gm) fun u12 g11 => bnd (r_X12_number V 70 (5 : Int32) (0 : Int32) (999 : Int32) g11) fun x40 g39 => brn (x40 = 0) (some ((0 : Int32), g39)) (Option.bind (g39.2.2 70 29) fun k42 => bnd (r_X12_hasCry V 70 g39) fun x45 g44 => brn (x45 = 0) (grd (okV V k42 0 (38 : Int32)) <| nm (sI g44 k42 (38 : Int32).toNatClampNeg (0 : Int32)) fun g48 => some ((1 : Int32), g48)) (grd (okV V k42 0 (38 : Int32)) <| nm (sI g44 k42 (38 : Int32).toNatClampNeg (1 : Int32)) fun g50 => some ((1 : Int32), g50))))) := by
  have hV := h.V
  have hp := h.p
  have hp' := law_b hp
  have t999 : (999 : Int32).toInt = 999 := rfl
  rcases l_begin (w := 5) (pw := pw) h hd k1 h5 hc hpw (by decide) (by decide) with ⟨q, gx1, gm1, s1, b1, b2, b3, b4, b5, b6⟩ | ⟨q, gx1, gm1, b1, b2, f, q', b3, b4, b5⟩
  · rw [show r_X3_beginOnly V 18 (16 : Int32) gx = some ((), gx1) from b1, bnd_some, brn_f q, b2, bnd_some]
    rcases l_num (l := 5) (lo := 0) (hi := 999) b3 (by decide) with ⟨v, gx2, gm2, s2, c1, c2, c3, c4, c5, c6, c7, c8, c9⟩ | ⟨v, gx2, gm2, c1, c2, f, q', c3, c4, c5⟩
    · have c2' : r_X12_number V 70 (5 : Int32) (0 : Int32) (999 : Int32) gm1 = some (1, gm2) := c2
      have L2 : Li V T N p gx0 gm0 s2 (sI gx2 p 5 v) gm2 := c3.wx (by omega) (by omega)
      rw [i_le] at c8
      have D2 : RL1 (cmb (sI gx2 p 5 v) gm2).1 p 4 := RL1_num hp b5 (by decide) (by refine ⟨?_, ?_, ?_, ?_, ?_, ?_, ?_, ?_⟩ <;> intro q <;> first | exact absurd q (by decide) | omega) c5 c6
      obtain ⟨d, gx3, gm3, s3, d1, d2, d3, d4, d5, d6, d7⟩ := l_cry L2
      have D3 : RL1 (cmb gx3 gm3).1 p 4 := RL1_f hp D2 d6.1 d7
      rw [c1, bnd_some, c2', bnd_some, grd_t (sh_vl hV hp), nm_eq, brn_f (by decide), q_70_29 c3.R, bind_some', d1, bnd_some, d2, bnd_some, grd_t (fit01 d3), nm_eq, show (38 : Int32).toNatClampNeg = 38 from rfl]
      refine Or.inl ⟨_, sI gm3 85 38 d, s3, rfl, ?_, (d4.wx (by omega) (by omega)).wm (Or.inl ⟨rfl, by omega⟩), by omega, RL1_set hp D3 (l := 6) (by decide) (by refine ⟨?_, ?_, ?_, ?_, ?_, ?_, ?_, ?_⟩ <;> intro q <;> first | exact absurd q (by decide) | exact d3), ?_⟩
      · have o85 : okV V 85 0 (38 : Int32) := ok_nI (n := 40) (j := 38) (t := 0) (v_85 hV) (by omega) (by decide)
        rcases d3 with z | z
        · rw [z, brn_t rfl, grd_t o85, nm_eq]
        · rw [z, brn_f (by decide), grd_t o85, nm_eq]
      · rw [sI_1, up2_ne _ _ (Or.inl (by omega)), d6.2.1 5 (by omega), sI_1, up2_ne _ _ (Or.inl (by omega)), c5.2.1 5 (by omega)]
        exact b6
    · have c2' : r_X12_number V 70 (5 : Int32) (0 : Int32) (999 : Int32) gm1 = some (0, gm2) := c2
      rw [c1, bnd_some, c2', bnd_some, grd_t (sh_vl hV hp), nm_eq, brn_t rfl]
      obtain ⟨v2, g2, d1, d0, d2⟩ := d_cry (d_w (k := p) (j := 5) (v := v) c4 (by omega) (by omega))
      rw [d1, bnd_some, grd_t (fit01 d0), nm_eq]
      exact Or.inr ⟨_, gm2, rfl, rfl, f, q', c3, d_w d2 (by omega) (by omega), c5⟩
  · rw [show r_X3_beginOnly V 18 (16 : Int32) gx = some ((), gx1) from b1, bnd_some, brn_t q, b2, bnd_some, grd_t nbz]
    obtain ⟨v, g2, d1, d2⟩ := d_num (lo := 0) (hi := 999) b3.1 b4
    rw [d1, bnd_some, grd_t (sh_vl hV hp), nm_eq]
    obtain ⟨v2, g3, e1, e0, e2⟩ := d_cry (d_w (k := p) (j := 5) (v := v) d2 (by omega) (by omega))
    rw [e1, bnd_some, grd_t (fit01 e0), nm_eq]
    exact Or.inr ⟨_, gm1, rfl, rfl, f, q', b3, d_w e2 (by omega) (by omega), b5⟩
theorem l_readLine {V : Vk} {T : Nat → Int32} {N p c pw : Nat} {gx0 gm0 : Hq} {s : Nat} {gx gm : Hq} (h : Li V T N p gx0 gm0 s gx gm) (hd : RL1 (cmb gx gm).1 p 4) (k1 : ¬ gx.1 18 1 = 0) (h5 : gx.1 18 5 = nI c) (hc : c < 64) (hpw : pw < 2) : (∃ j c' pw', j < 7 ∧ gm.1 70 3 = 1 ∧ gm.1 70 4 = nI j ∧ c' < 64 ∧ pw' < 2 ∧ nI (mcc c pw) ||| ((1 : Int32) <<< (nI j &&& 31)) = nI (mcc c' pw') ∧ OutP V T N p gx0 gm0 (s + 1) (nI c') (r_X3_readLine V 18 p gx) (r_X12_readLine V 70 (nI (mcc c pw)) gm)) ∨ (∃ gx' gm', r_X3_readLine V 18 p gx = some ((), gx') ∧ r_X12_readLine V 70 (nI (mcc c pw)) gm = some (0, gm') ∧ Ba V T N p gx0 gm0 gx' gm') := by
  have hV := h.V
  obtain ⟨en, a1, a2, a3, a4, a5, a6, a7, a8⟩ := h.2.2.2.2.2.2.2
  unfold r_X3_readLine r_X12_readLine
  rw [grd_t (v_18 hV), grd_t (v_70 hV), l_isWord h (t := 0) (by decide), bnd_some, l_isWord h (t := 1) (by decide), bnd_some, l_isWord h (t := 2) (by decide), bnd_some, l_isWord h (t := 3) (by decide), bnd_some, l_isWord h (t := 4) (by decide), bnd_some, l_isWord h (t := 11) (by decide), bnd_some, l_isWord h (t := 12) (by decide), bnd_some]
  rw [show kw 0 = 0 from rfl, show kw 1 = 1 from rfl, show kw 2 = 2 from rfl, show kw 3 = 3 from rfl, show kw 4 = 4 from rfl, show kw 11 = 5 from rfl, show kw 12 = 6 from rfl]
  by_cases c1 : gm.1 70 3 = 1 ∧ gm.1 70 4 ≤ 6
  · refine Or.inl ?_
    obtain ⟨z1, j, z2, z3⟩ := Tk_so1 a8 c1.1
    have j7 : j < 7 := by
      have := c1.2
      rw [z3] at this
      have := (nI_leI (b := 6) (by omega) (by omega)).mp this
      omega
    rw [c1.1, z3, brn_t (c := (1 : Int32) = 1) rfl, brn_t (show nI j ≤ 6 from nI_le (b := 6) (by omega) (by omega)), nm_eq]
    rcases (show j = 0 ∨ j = 1 ∨ j = 2 ∨ j = 3 ∨ j = 4 ∨ j = 5 ∨ j = 6 by omega) with rfl | rfl | rfl | rfl | rfl | rfl | rfl
    · obtain ⟨t1, t2, t3, t4⟩ := tr_tab ⟨c, hc⟩ ⟨pw, hpw⟩ ⟨0, by decide⟩ (by decide)
      refine ⟨0, c ||| cb 0, pw, by decide, rfl, rfl, t3, hpw, t4, ?_⟩
      rw [brn_f (show ¬ bI ((1 : Int32) = 1 ∧ nI 0 = nI 0) = 0 by rw [bI_0]; exact fun q => q ⟨rfl, rfl⟩), brn_f (show ¬ nI 0 = 4 by decide)]
      simp only [brn_t (show nI 0 = 0 from rfl)]
      exact l_age h hd k1 h5 hc hpw
    · obtain ⟨t1, t2, t3, t4⟩ := tr_tab ⟨c, hc⟩ ⟨pw, hpw⟩ ⟨1, by decide⟩ (by decide)
      refine ⟨1, c ||| cb 1, pw, by decide, rfl, rfl, t3, hpw, t4, ?_⟩
      rw [brn_t (show bI ((1 : Int32) = 1 ∧ nI 1 = nI 0) = 0 by rw [bI_0]; exact fun q => absurd q.2 (by decide)), brn_f (show ¬ bI ((1 : Int32) = 1 ∧ nI 1 = nI 1) = 0 by rw [bI_0]; exact fun q => q ⟨rfl, rfl⟩), brn_f (show ¬ nI 1 = 4 by decide)]
      simp only [brn_f (show ¬ nI 1 = 0 by decide), brn_t (show nI 1 = 1 from rfl)]
      exact l_line1 (w := 1) (l := 2) (hi := 30) h hd k1 h5 hc hpw (by decide) (by decide) (by decide) (fun v v0 v1 => by rw [i_le, show (30 : Int32).toInt = 30 from rfl] at v1; refine ⟨?_, ?_, ?_, ?_, ?_, ?_, ?_, ?_⟩ <;> intro q <;> first | exact absurd q (by decide) | omega)
    · obtain ⟨t1, t2, t3, t4⟩ := tr_tab ⟨c, hc⟩ ⟨pw, hpw⟩ ⟨2, by decide⟩ (by decide)
      refine ⟨2, c ||| cb 2, pw, by decide, rfl, rfl, t3, hpw, t4, ?_⟩
      rw [brn_t (show bI ((1 : Int32) = 1 ∧ nI 2 = nI 0) = 0 by rw [bI_0]; exact fun q => absurd q.2 (by decide)), brn_t (show bI ((1 : Int32) = 1 ∧ nI 2 = nI 1) = 0 by rw [bI_0]; exact fun q => absurd q.2 (by decide)), brn_f (show ¬ bI ((1 : Int32) = 1 ∧ nI 2 = nI 2) = 0 by rw [bI_0]; exact fun q => q ⟨rfl, rfl⟩), brn_f (show ¬ nI 2 = 4 by decide)]
      simp only [brn_f (show ¬ nI 2 = 0 by decide), brn_f (show ¬ nI 2 = 1 by decide), brn_t (show nI 2 = 2 from rfl)]
      exact l_line1 (w := 2) (l := 3) (hi := 9999) h hd k1 h5 hc hpw (by decide) (by decide) (by decide) (fun v v0 v1 => by rw [i_le, show (9999 : Int32).toInt = 9999 from rfl] at v1; refine ⟨?_, ?_, ?_, ?_, ?_, ?_, ?_, ?_⟩ <;> intro q <;> first | exact absurd q (by decide) | omega)
    · obtain ⟨t1, t2, t3, t4⟩ := tr_tab ⟨c, hc⟩ ⟨pw, hpw⟩ ⟨3, by decide⟩ (by decide)
      refine ⟨3, c ||| cb 3, pw, by decide, rfl, rfl, t3, hpw, t4, ?_⟩
      rw [brn_t (show bI ((1 : Int32) = 1 ∧ nI 3 = nI 0) = 0 by rw [bI_0]; exact fun q => absurd q.2 (by decide)), brn_t (show bI ((1 : Int32) = 1 ∧ nI 3 = nI 1) = 0 by rw [bI_0]; exact fun q => absurd q.2 (by decide)), brn_t (show bI ((1 : Int32) = 1 ∧ nI 3 = nI 2) = 0 by rw [bI_0]; exact fun q => absurd q.2 (by decide)), brn_f (show ¬ bI ((1 : Int32) = 1 ∧ nI 3 = nI 3) = 0 by rw [bI_0]; exact fun q => q ⟨rfl, rfl⟩), brn_f (show ¬ nI 3 = 4 by decide)]
      simp only [brn_f (show ¬ nI 3 = 0 by decide), brn_f (show ¬ nI 3 = 1 by decide), brn_f (show ¬ nI 3 = 2 by decide), brn_t (show nI 3 = 3 from rfl)]
      exact l_line1 (w := 3) (l := 4) (hi := 9999) h hd k1 h5 hc hpw (by decide) (by decide) (by decide) (fun v v0 v1 => by rw [i_le, show (9999 : Int32).toInt = 9999 from rfl] at v1; refine ⟨?_, ?_, ?_, ?_, ?_, ?_, ?_, ?_⟩ <;> intro q <;> first | exact absurd q (by decide) | omega)
    · refine ⟨4, c, 1, by decide, rfl, rfl, hc, by decide, pw_tab ⟨c, hc⟩ ⟨pw, hpw⟩, ?_⟩
      rw [brn_t (show bI ((1 : Int32) = 1 ∧ nI 4 = nI 0) = 0 by rw [bI_0]; exact fun q => absurd q.2 (by decide)), brn_t (show bI ((1 : Int32) = 1 ∧ nI 4 = nI 1) = 0 by rw [bI_0]; exact fun q => absurd q.2 (by decide)), brn_t (show bI ((1 : Int32) = 1 ∧ nI 4 = nI 2) = 0 by rw [bI_0]; exact fun q => absurd q.2 (by decide)), brn_t (show bI ((1 : Int32) = 1 ∧ nI 4 = nI 3) = 0 by rw [bI_0]; exact fun q => absurd q.2 (by decide)), brn_f (show ¬ bI ((1 : Int32) = 1 ∧ nI 4 = nI 4) = 0 by rw [bI_0]; exact fun q => q ⟨rfl, rfl⟩), brn_t (show nI 4 = 4 from rfl)]
      rcases l_readPower h hd h5 k1 with ⟨gx', gm', s', b1, b2, b3⟩ | ⟨gx', gm', b1, b2, b3⟩
      · rw [b1, bnd_some, b2, bnd_some, grd_t nbo]
        exact Or.inl ⟨gx', gm', s', rfl, rfl, b3⟩
      · rw [b1, bnd_some, b2, bnd_some, grd_t nbz]
        exact Or.inr ⟨gx', gm', rfl, rfl, b3⟩
    · obtain ⟨t1, t2, t3, t4⟩ := tr_tab ⟨c, hc⟩ ⟨pw, hpw⟩ ⟨5, by decide⟩ (by decide)
      refine ⟨5, c ||| cb 5, pw, by decide, rfl, rfl, t3, hpw, t4, ?_⟩
      rw [brn_t (show bI ((1 : Int32) = 1 ∧ nI 5 = nI 0) = 0 by rw [bI_0]; exact fun q => absurd q.2 (by decide)), brn_t (show bI ((1 : Int32) = 1 ∧ nI 5 = nI 1) = 0 by rw [bI_0]; exact fun q => absurd q.2 (by decide)), brn_t (show bI ((1 : Int32) = 1 ∧ nI 5 = nI 2) = 0 by rw [bI_0]; exact fun q => absurd q.2 (by decide)), brn_t (show bI ((1 : Int32) = 1 ∧ nI 5 = nI 3) = 0 by rw [bI_0]; exact fun q => absurd q.2 (by decide)), brn_t (show bI ((1 : Int32) = 1 ∧ nI 5 = nI 4) = 0 by rw [bI_0]; exact fun q => absurd q.2 (by decide)), brn_f (show ¬ bI ((1 : Int32) = 1 ∧ nI 5 = nI 5) = 0 by rw [bI_0]; exact fun q => q ⟨rfl, rfl⟩), brn_f (show ¬ nI 5 = 4 by decide)]
      simp only [brn_f (show ¬ nI 5 = 0 by decide), brn_f (show ¬ nI 5 = 1 by decide), brn_f (show ¬ nI 5 = 2 by decide), brn_f (show ¬ nI 5 = 3 by decide), brn_f (show ¬ nI 5 = 6 by decide)]
      exact l_follow h hd k1 h5 hc hpw
    · obtain ⟨t1, t2, t3, t4⟩ := tr_tab ⟨c, hc⟩ ⟨pw, hpw⟩ ⟨6, by decide⟩ (by decide)
      refine ⟨6, c ||| cb 6, pw, by decide, rfl, rfl, t3, hpw, t4, ?_⟩
      rw [brn_t (show bI ((1 : Int32) = 1 ∧ nI 6 = nI 0) = 0 by rw [bI_0]; exact fun q => absurd q.2 (by decide)), brn_t (show bI ((1 : Int32) = 1 ∧ nI 6 = nI 1) = 0 by rw [bI_0]; exact fun q => absurd q.2 (by decide)), brn_t (show bI ((1 : Int32) = 1 ∧ nI 6 = nI 2) = 0 by rw [bI_0]; exact fun q => absurd q.2 (by decide)), brn_t (show bI ((1 : Int32) = 1 ∧ nI 6 = nI 3) = 0 by rw [bI_0]; exact fun q => absurd q.2 (by decide)), brn_t (show bI ((1 : Int32) = 1 ∧ nI 6 = nI 4) = 0 by rw [bI_0]; exact fun q => absurd q.2 (by decide)), brn_t (show bI ((1 : Int32) = 1 ∧ nI 6 = nI 5) = 0 by rw [bI_0]; exact fun q => absurd q.2 (by decide)), brn_f (show ¬ bI ((1 : Int32) = 1 ∧ nI 6 = nI 6) = 0 by rw [bI_0]; exact fun q => q ⟨rfl, rfl⟩), brn_f (show ¬ nI 6 = 4 by decide)]
      simp only [brn_f (show ¬ nI 6 = 0 by decide), brn_f (show ¬ nI 6 = 1 by decide), brn_f (show ¬ nI 6 = 2 by decide), brn_f (show ¬ nI 6 = 3 by decide), brn_t (show nI 6 = 6 from rfl)]
      exact l_line1 (w := 6) (l := 7) (hi := 20) h hd k1 h5 hc hpw (by decide) (by decide) (by decide) (fun v v0 v1 => by rw [i_le, show (20 : Int32).toInt = 20 from rfl] at v1; refine ⟨?_, ?_, ?_, ?_, ?_, ?_, ?_, ?_⟩ <;> intro q <;> first | exact absurd q (by decide) | omega)
  · refine Or.inr ?_
    obtain ⟨gx', gm', q', b1, b2, b3, b4, b5, b6, b7, b8⟩ := l_blame (c := 1) h (by decide)
    have no : ∀ j, j ≤ 6 → bI (gm.1 70 3 = 1 ∧ gm.1 70 4 = nI j) = 0 := fun j hj => by
      rw [bI_0]
      exact fun q => c1 ⟨q.1, by rw [q.2]; exact nI_le (b := 6) hj (by omega)⟩
    refine ⟨gx', gm', ?_, ?_, 1, q', by decide, b3, b5, b6, b7, b8⟩
    · rw [brn_t (no 0 (by decide)), brn_t (no 1 (by decide)), brn_t (no 2 (by decide)), brn_t (no 3 (by decide)), brn_t (no 4 (by decide)), brn_t (no 5 (by decide)), brn_t (no 6 (by decide)), b1, bnd_some]
    · rw [b2, bnd_some, grd_t nbz]
      by_cases z : gm.1 70 3 = 1
      · rw [brn_t z, brn_f (fun y => c1 ⟨z, y⟩)]
      · rw [brn_f z]
