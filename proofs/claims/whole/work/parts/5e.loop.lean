/-! ===== the text, line by line ===== -/
theorem x_dead {V : Vk} {T : Nat → Int32} {N p : Nat} {g0 g : Hq} {f q x : Int32} (hf : ¬ f = 0) (h : De V T N p g0 f q g) : r_X3_read_30 V (18, p, x, g) = some (.inr (-1, g)) := by
  show r_X3_read_30' V 18 p x g = _
  unfold r_X3_read_30'
  have f6 : ¬ g.1 18 6 = 0 := by rw [h.2.1]; exact hf
  rw [grd_t (v_18 h.1.2.1.1), brn_f f6, brn_f f6, brn_same]
theorem l_loop {V : Vk} {T : Nat → Int32} {N p : Nat} {W : Int32} {gx0 gm0 : Hq} : ∀ (d s lines c pw : Nat) (gx gm : Hq), N < s + d → Li V T N p gx0 gm0 s gx gm → RL1 (cmb gx gm).1 p 4 → gx.1 18 5 = nI c → c < 64 → pw < 2 → lines ≤ s → (∃ gx' gm' n s', lop (r_X3_read_30 V) (18, p, nI lines, gx) = some (nI n, gx') ∧ lop (r_X12_laws_80 V) (70, W, nI (mcc c pw), nI lines, gm) = lop (r_X12_laws_175 V) (70, W, nI n, 0, gm') ∧ Li V T N p gx0 gm0 s' gx' gm' ∧ RL1 (cmb gx' gm').1 p 4 ∧ n ≤ 800) ∨ (∃ gx' gm', lop (r_X3_read_30 V) (18, p, nI lines, gx) = some (-1, gx') ∧ lop (r_X12_laws_80 V) (70, W, nI (mcc c pw), nI lines, gm) = some (-1, gm') ∧ Ba V T N p gx0 gm0 gx' gm') := by
  intro d
  induction d with
  | zero =>
    intro s lines c pw gx gm hd h
    obtain ⟨en, a1, a2, -⟩ := h.2.2.2.2.2.2.2
    omega
  | succ d ih =>
    intro s lines c pw gx gm hd h hD h5 hc hpw hl
    have hV := h.V
    have hN := h.2.1.2.2.2.2
    obtain ⟨en, a1, a2, a3, a4, a5, a6, a7, a8⟩ := h.2.2.2.2.2.2.2
    have x6 := h.2.2.2.1
    have m8 := h.2.2.2.2.2.1
    have te := (Tk_num a8).2.2
    by_cases k0 : gx.1 18 1 = 0
    · refine Or.inl ⟨gx, gm, lines, s, lop_r ?_, lop_map ?_, h, hD, by omega⟩
      · show r_X3_read_30' V 18 p (nI lines) gx = _
        unfold r_X3_read_30'
        rw [grd_t (v_18 hV), brn_t k0, brn_t x6]
      · show r_X12_laws_80' V 70 W (nI (mcc c pw)) (nI lines) gm = _
        unfold r_X12_laws_80'
        rw [grd_t (v_70 hV), brn_t (te.mp k0)]
    · have se := a7.resolve_left k0
      have X : r_X3_read_30 V (18, p, nI lines, gx) = bnd (r_X3_readLine V 18 p gx) fun u25 g24 => bnd (r_X3_takeSemicolon V 18 g24) fun u28 g27 => some (.inl (18, p, nI (lines + 1), g27)) := by
        show r_X3_read_30' V 18 p (nI lines) gx = _
        unfold r_X3_read_30'
        rw [grd_t (v_18 hV), brn_f k0, brn_t x6, q_18_0 h.1.2.1.2.1, bind_some', grd_t (v_1 hV), xT_len h.1.2.1, bnd_some, brn_f (nI_ge (by omega) (by omega)), nI_1]
        rfl
      have dead : ∀ gx1, r_X3_readLine V 18 p gx = some ((), gx1) → ∀ f q, (¬ f = 0 ∧ 0 < f) → De V T N p gx0 f q gx1 → ∃ gx2, lop (r_X3_read_30 V) (18, p, nI lines, gx) = some (-1, gx2) ∧ De V T N p gx0 f q gx2 := by
        intro gx1 e1 f q hf hde
        obtain ⟨g2, d1, d2⟩ := d_semi hf.1 hde
        refine ⟨g2, ?_, d2⟩
        rw [e1, bnd_some, d1, bnd_some] at X
        rw [lop_l X]
        exact lop_r (x_dead hf.1 d2)
      have bad : ∀ gm1 bit f, r_X12_readLine V 70 (nI (mcc c pw)) gm = some (0, gm1) → gm1.1 70 8 = f → 0 < f → r_X12_laws_115 V 70 W (nI (mcc c pw)) (nI lines) bit gm = some (.inr (-1, gm1)) := by
        intro gm1 bit f e1 e2 e3
        unfold r_X12_laws_115
        rw [grd_t (v_70 hV), e1, bnd_some, brn_t rfl, brn_t (by rw [e2]; exact e3)]
      have n4 : ¬ gm.1 70 3 = 4 := fun z => k0 (te.mpr z)
      rcases l_readLine (pw := pw) h hD k0 h5 hc hpw with ⟨j, c', pw', j7, z3, z4, hc', hpw', tt, out⟩ | ⟨gx1, gm1, e1, e2, f, q, hf, hde, cm, km, m8', m9'⟩
      · have M : r_X12_laws_80 V (70, W, nI (mcc c pw), nI lines, gm) = r_X12_laws_115 V 70 W (nI (mcc c pw)) (nI lines) ((1 : Int32) <<< (nI j &&& 31)) gm := by
          show r_X12_laws_80' V 70 W (nI (mcc c pw)) (nI lines) gm = _
          unfold r_X12_laws_80'
          rw [grd_t (v_70 hV), brn_f n4, brn_t z3, z4, brn_f (show ¬ (6 : Int32) < nI j from nI_nlt (a := 6) (by omega) (by omega))]
        rcases out with ⟨gx1, gm1, s1, e1, e2, L, ss, D, t5⟩ | ⟨gx1, gm1, e1, e2, f, q, hf, hde, cm, km, m8', m9'⟩
        · have m8'' := L.2.2.2.2.2.1
          rw [e1, bnd_some] at X
          have M1 : r_X12_laws_115 V 70 W (nI (mcc c pw)) (nI lines) ((1 : Int32) <<< (nI j &&& 31)) gm = brn ((gm1.1 70 3) = (3 : Int32)) (bnd (r_X12_scan V 70 gm1) fun u78 g77 => some (.inl (70, W, nI (mcc c' pw'), nI (lines + 1), g77))) (bnd (r_X12_wrong V 70 (1 : Int32) gm1) fun x83 g82 => some (.inr ((-1 : Int32), g82))) := by
            unfold r_X12_laws_115
            rw [grd_t (v_70 hV), e2, bnd_some, brn_f (by decide), tt, nI_1, brn_f (show ¬ (0 : Int32) < gm1.1 70 8 by rw [m8'']; decide)]
            simp only [nm_eq, brn_same]
          rcases l_semi L with ⟨q3, gx2, gm2, s2, f1, f2, f3, f4, f5, f6⟩ | ⟨q3, gx2, gm2, f1, f2, f, q, hf, hde, cm, km, m8', m9'⟩
          · rw [f1, bnd_some] at X
            rw [brn_t q3, f2, bnd_some] at M1
            have D2 := RL1_f h.p D f5.1 f6
            have := ih s2 (lines + 1) c' pw' gx2 gm2 (by omega) f3 D2 (by rw [f5.2.1 5 (by omega)]; exact t5) hc' hpw' (by omega)
            rw [lop_l X, lop_l (M.trans M1)]
            exact this
          · rw [f1, bnd_some] at X
            rw [brn_f q3, f2, bnd_some] at M1
            refine Or.inr ⟨gx2, gm2, ?_, lop_r (M.trans M1), f, q, hf, hde, cm, km, m8', m9'⟩
            rw [lop_l X]
            exact lop_r (x_dead hf.1 hde)
        · obtain ⟨gx2, y1, y2⟩ := dead gx1 e1 f q hf hde
          exact Or.inr ⟨gx2, gm1, y1, lop_r (M.trans (bad gm1 _ f e2 m8' hf.2)), f, q, hf, y2, cm, km, m8', m9'⟩
      · obtain ⟨gx2, y1, y2⟩ := dead gx1 e1 f q hf hde
        refine Or.inr ⟨gx2, gm1, y1, lop_r ?_, f, q, hf, y2, cm, km, m8', m9'⟩
        show r_X12_laws_80' V 70 W (nI (mcc c pw)) (nI lines) gm = _
        unfold r_X12_laws_80'
        rw [grd_t (v_70 hV), brn_f n4, bad gm1 _ f e2 m8' hf.2, bad gm1 _ f e2 m8' hf.2, brn_same, brn_same]
