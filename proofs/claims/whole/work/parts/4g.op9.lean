theorem dg_at {f : Nat → Int32} : ∀ c j, dg f c j = if ∃ k, k < c ∧ j = 12 * k + k then 0 else f j := by
  intro c
  induction c with
  | zero => intro j; rw [if_neg (by rintro ⟨k, h, -⟩; omega)]; rfl
  | succ c ih =>
    intro j
    show upd (dg f c) (12 * c + c) 0 j = _
    by_cases e : j = 12 * c + c
    · rw [e, upd_s, if_pos ⟨c, by omega, rfl⟩]
    · rw [upd_n e, ih j]
      by_cases k : ∃ k, k < c ∧ j = 12 * k + k
      · obtain ⟨k, k1, k2⟩ := k
        rw [if_pos ⟨k, k1, k2⟩, if_pos ⟨k, by omega, k2⟩]
      · rw [if_neg k, if_neg]
        rintro ⟨i, i1, i2⟩
        by_cases ei : i = c
        · subst ei; exact e i2
        · exact k ⟨i, by omega, i2⟩
theorem dg_13 {f : Nat → Int32} {j : Nat} (hj : j < 144) : dg f 12 j = if j % 13 = 0 then 0 else f j := by
  rw [dg_at]
  by_cases z : j % 13 = 0
  · rw [if_pos z, if_pos ⟨j / 13, by omega, by omega⟩]
  · rw [if_neg z, if_neg]
    rintro ⟨k, k1, k2⟩
    omega
def fx (ways : Nat → Int32) (j : Nat) : Int32 := if mf ways j = 1000000 then -1 else mf ways j
theorem far_all {ways : Nat → Int32} (hw : ∀ j, j < 144 → ways j = -1 ∨ (1 ≤ (ways j).toInt ∧ (ways j).toInt ≤ 99)) : FB (mf0 ways) 99 ∧ FDg (mf0 ways) := by
  constructor
  · intro j hj
    unfold mf0
    by_cases z : j % 13 = 0
    · rw [if_pos z]; exact Or.inr (by decide)
    · rw [if_neg z]
      rcases hw j hj with e | e
      · rw [if_pos e]; exact Or.inl rfl
      · have ne : ¬ ways j = -1 := by intro k; rw [k, tm1] at e; omega
        rw [if_neg ne]; exact Or.inr ⟨by omega, e.2⟩
  · intro k hk
    unfold mf0
    rw [if_pos (by omega)]
theorem mf_FB {ways : Nat → Int32} (hw : ∀ j, j < 144 → ways j = -1 ∨ (1 ≤ (ways j).toInt ∧ (ways j).toInt ≤ 99)) : FB (mf ways) 405504 ∧ FDg (mf ways) := by
  have h := far_all hw
  have rel : Frel (fun j => if mf0 ways j = 1000000 then -1 else mf0 ways j) (mf0 ways) := fun j _ => rfl
  obtain ⟨-, h2, h3⟩ := fl_all h.1 h.2 rel 12 (Nat.le_refl 12)
  exact ⟨h2, h3⟩
theorem xrow {ways old : Nat → Int32} (hw : ∀ j, j < 144 → ways j = -1 ∨ (1 ≤ (ways j).toInt ∧ (ways j).toInt ≤ 99)) : ∀ j, j < 144 → xM (dg (va_cpy ways old 0 0 144) 12) 12 j = fx ways j := by
  have h := far_all hw
  have rel : Frel (dg (va_cpy ways old 0 0 144) 12) (mf0 ways) := by
    intro j hj
    have ec : va_cpy ways old 0 0 144 j = ways j := by rw [pk_cpy_in (by omega) (by omega)]; congr 1; omega
    rw [dg_13 hj, ec]
    unfold mf0
    by_cases z : j % 13 = 0
    · rw [if_pos z, if_pos z]; rfl
    · rw [if_neg z, if_neg z]
      rcases hw j hj with e | e
      · rw [if_pos e, if_pos rfl, e]
      · have ne : ¬ ways j = -1 := by intro k; rw [k, tm1] at e; omega
        have ne2 : ¬ ways j = 1000000 := by intro k; rw [k, tM] at e; omega
        rw [if_neg ne, if_neg ne2]
  exact (fl_all h.1 h.2 rel 12 (Nat.le_refl 12)).1
/-- FAR worked out, if it was stale -/
noncomputable def fresh (g : Hq) : Hq := @ite _ (g.1 3 4 = 0) (Classical.propDecidable _) g (sI (sA g 7 (xM (dg (va_cpy (g.1 6) (g.1 7) 0 0 144) 12) 12)) 3 4 0)
theorem fresh_f {g : Hq} (h : g.1 3 4 = 0) : fresh g = g := by unfold fresh; rw [if_pos h]
theorem fresh_s {g : Hq} (h : ¬ g.1 3 4 = 0) : fresh g = sI (sA g 7 (xM (dg (va_cpy (g.1 6) (g.1 7) 0 0 144) 12) 12)) 3 4 0 := by unfold fresh; rw [if_neg h]
theorem fresh_0 (g : Hq) : (fresh g).1 3 4 = 0 := by
  by_cases h : g.1 3 4 = 0
  · rw [fresh_f h]; exact h
  · rw [fresh_s h, sI_1, up2_s]
theorem fresh_R (g : Hq) : (fresh g).2 = g.2 := by
  by_cases h : g.1 3 4 = 0
  · rw [fresh_f h]
  · rw [fresh_s h]; rfl
theorem fresh_x {g : Hq} {a : Nat} (h1 : a ≠ 3) (h2 : a ≠ 7) : (fresh g).1 a = g.1 a := by
  by_cases h : g.1 3 4 = 0
  · rw [fresh_f h]
  · rw [fresh_s h, sI_1, up2_nk _ _ _ h1, sA_n h2]
theorem fresh_i (g : Hq) : fresh (fresh g) = fresh g := fresh_f (fresh_0 g)
theorem fresh_7 {g : Hq} (w : RW g.1) : ∀ j, j < 144 → (fresh g).1 7 j = fx (g.1 74) j := by
  obtain ⟨w1, w2, w3, w4, w5, w6, w7, w8⟩ := w
  intro j hj
  by_cases h : g.1 3 4 = 0
  · rw [fresh_f h]
    rcases w8 with e | ⟨-, e⟩
    · rw [e] at h; exact absurd h (by decide)
    · exact e j hj
  · rw [fresh_s h, sI_1, up2_nk _ _ _ (by decide), sA_s, w3]
    exact xrow w6 j hj
theorem fresh_RW {g : Hq} (w : RW g.1) : RW (fresh g).1 := by
  have h7 := fresh_7 w
  obtain ⟨w1, w2, w3, w4, w5, w6, w7, w8⟩ := w
  unfold RW
  rw [fresh_x (a := 4) (by decide) (by decide), fresh_x (a := 5) (by decide) (by decide), fresh_x (a := 6) (by decide) (by decide), fresh_x (a := 72) (by decide) (by decide), fresh_x (a := 73) (by decide) (by decide), fresh_x (a := 74) (by decide) (by decide), fresh_x (a := 75) (by decide) (by decide)]
  exact ⟨w1, w2, w3, w4, w5, w6, w7, Or.inr ⟨fresh_0 g, h7⟩⟩
theorem p_least {V : Vk} {g : Hq} {c d : Nat} (hV : ShV V) (hR : ShR g.2.2) (w : RW g.1) (hc : c < 12) (hd : d < 12) : r_X9_leastMinutes V 3 (nI c) (nI d) g = some (fx (g.1 74) (12 * c + d), fresh g) := by
  have ok : okV V 7 0 (nI (12 * c + d)) := ok_nI (n := 144) (v_7 hV) (by omega) (by decide)
  have h7 := fresh_7 w (12 * c + d) (by omega)
  unfold r_X9_leastMinutes
  rw [grd_t (v_3 hV)]
  by_cases h : g.1 3 4 = 0
  · rw [fresh_f h] at h7 ⊢
    rw [brn_t h, q_3_3 hR, bind_some', xx, grd_t ok, cl_nI (by omega), h7]
  · rw [fresh_s h] at h7 ⊢
    rw [brn_f h, x_measure hV hR, bnd_some, nm_eq, sI_3, sA_3, q_3_3 hR, bind_some', xx, grd_t ok, cl_nI (by omega), h7]
def pF (a : Nat) : Prop := a = 3 ∨ a = 7
def qF (j : Nat) : Prop := False
theorem fresh_Inv {V : Vk} {g : Hq} (h : Inv V g) : Inv V (fresh g) := by
  have fr : Fr pF qF g (fresh g) := ⟨fun a ha _ => by unfold pF at ha; exact fresh_x (by omega) (by omega), fun j _ => by rw [fresh_x (a := 70) (by decide) (by decide)]⟩
  exact Inv.by pF qF h fr (fresh_R g) (Or.inl ⟨(by unfold pF; omega), (by unfold pF; omega), (by unfold pF; omega), (by unfold qF; first | omega | exact id)⟩) (Or.inr (fresh_RW h.w)) (Or.inl ⟨(by intro a ha; unfold sP at ha; unfold pF; omega), (by unfold qF; first | omega | exact id), (by unfold qF; first | omega | exact id), (by unfold qF; first | omega | exact id)⟩) (Or.inl ⟨(by unfold pF; omega), (by unfold qF; first | omega | exact id), (by unfold qF; first | omega | exact id)⟩) (Or.inl (by intro a ha; unfold sLw at ha; unfold pF; omega)) (Or.inl ⟨(by unfold pF; omega), (by unfold qF; first | omega | exact id), (by unfold qF; first | omega | exact id)⟩) (by unfold qF; first | omega | exact id) (fun _ _ => Or.inl ⟨(by intro a ha; unfold sH at ha; unfold pF; omega), (by unfold qF; first | omega | exact id)⟩) (fun _ _ _ _ _ => Or.inl (by intro a ha; unfold sY at ha; unfold pF; omega)) (fun _ _ => Or.inl ⟨(by intro a ha; unfold sN at ha; unfold pF; omega), (by unfold qF; first | omega | exact id)⟩)
theorem m_farv {ways : Nat → Int32} {j : Nat} (hj : j < 144) (hw : ∀ j, j < 144 → ways j = -1 ∨ (1 ≤ (ways j).toInt ∧ (ways j).toInt ≤ 99)) : (mf ways j < 1000000 ∧ fx ways j = mf ways j ∧ 0 ≤ (mf ways j).toInt) ∨ (¬ mf ways j < 1000000 ∧ fx ways j = -1 ∧ mf ways j = 1000000) := by
  unfold fx
  rcases (mf_FB hw).1 j hj with e | e
  · right; rw [e]; exact ⟨by decide, by rw [if_pos rfl], rfl⟩
  · left
    have fe := fin_ne (by omega) e
    exact ⟨by rw [i_lt, tM]; omega, by rw [if_neg fe.1], e.1⟩
theorem op_far {V : Vk} {g : Hq} (h : Inv V g) (a b : Int32) : Op V g (r_X11_far V 0 a b) (r_X12_far V 70 a b) := by
  by_cases h1 : 0 ≤ a ∧ a ≤ 11
  · by_cases h2 : 0 ≤ b ∧ b ≤ 11
    · obtain ⟨c, hc, rfl⟩ := nat_of (n := 11) rfl h1
      obtain ⟨d, hd, rfl⟩ := nat_of (n := 11) rfl h2
      have w := h.w
      have e75 : (fresh g).1 75 (12 * c + d) = mf (g.1 74) (12 * c + d) := by rw [fresh_x (by decide) (by decide)]; exact w.2.2.2.2.2.2.1 _ (by omega)
      refine ⟨fx (g.1 74) (12 * c + d), fresh g, fresh g, ?_, ?_, fresh_Inv h⟩
      · unfold r_X11_far
        rw [p_isCourt, bnd_some, brn_f (by rw [bI_0]; exact fun k => k h1), p_isCourt, bnd_some, brn_f (by rw [bI_0]; exact fun k => k h2), grd_t (v_0 h.v), q_0_1 h.r, bind_some', grd_t (v_3 h.v), p_least h.v h.r w (by omega) (by omega), bnd_some]
      · unfold r_X12_far
        rw [m_isCourt, bnd_some, brn_f (by rw [bI_0]; exact fun k => k h1), m_isCourt, bnd_some, brn_f (by rw [bI_0]; exact fun k => k h2), grd_t (v_70 h.v), fresh_R, q_70_13 h.r, bind_some', mx, grd_t (ok_nI (n := 144) (v_75 h.v) (by omega) (by decide)), nm_eq, cl_nI (by omega), e75]
        rcases m_farv (ways := g.1 74) (j := 12 * c + d) (by omega) w.2.2.2.2.2.1 with ⟨q1, q2, -⟩ | ⟨q1, q2, -⟩
        · rw [brn_t q1, q2]
        · rw [brn_f q1, q2]
    · refine ⟨-2, g, g, ?_, ?_, h⟩
      · unfold r_X11_far
        rw [p_isCourt, bnd_some, brn_f (by rw [bI_0]; exact fun k => k h1), p_isCourt, bnd_some, brn_t (by rw [bI_0]; exact h2)]
      · unfold r_X12_far
        rw [m_isCourt, bnd_some, brn_f (by rw [bI_0]; exact fun k => k h1), m_isCourt, bnd_some, brn_t (by rw [bI_0]; exact h2)]
  · refine ⟨-2, g, g, ?_, ?_, h⟩
    · unfold r_X11_far
      rw [p_isCourt, bnd_some, brn_t (by rw [bI_0]; exact h1)]
    · unfold r_X12_far
      rw [m_isCourt, bnd_some, brn_t (by rw [bI_0]; exact h1)]
def acF (ways : Nat → Int32) (c : Nat) (mn : Int32) : Nat → Int32
  | 0 => 0
  | d + 1 => if mf ways (12 * c + d) ≤ mn then acF ways c mn d ||| ((1 : Int32) <<< (nI d &&& 31)) else acF ways c mn d
theorem t999 : (999 : Int32).toInt = 999 := rfl
theorem op_cry {V : Vk} {g : Hq} (h : Inv V g) (a b : Int32) : Op V g (r_X11_cry V 0 a b) (r_X12_cry V 70 a b) := by
  by_cases h1 : 0 ≤ a ∧ a ≤ 11
  · by_cases h2 : 0 ≤ b ∧ b ≤ 999
    · obtain ⟨c, hc, rfl⟩ := nat_of (n := 11) rfl h1
      have w := h.w
      have b9 := h2.2
      rw [i_le, t999] at b9
      have e75 : ∀ j, j < 144 → (fresh g).1 75 j = mf (g.1 74) j := fun j hj => by rw [fresh_x (by decide) (by decide)]; exact w.2.2.2.2.2.2.1 _ hj
      refine ⟨acF (g.1 74) c b 12, fresh g, fresh g, ?_, ?_, fresh_Inv h⟩
      · have st : ∀ (d : Nat) (g' : Hq), d < 12 → g'.2 = g.2 → RW g'.1 → g'.1 74 = g.1 74 → r_X11_cry_26 V (0, nI c, b, acF (g.1 74) c b d, nI d, g') = some (.inl (0, nI c, b, acF (g.1 74) c b (d + 1), nI (d + 1), fresh g')) := by
          intro d g' hd eR w' e74
          have hR' : ShR g'.2.2 := by rw [eR]; exact h.r
          show r_X11_cry_26' V 0 (nI c) b (acF (g.1 74) c b d) (nI d) g' = _
          unfold r_X11_cry_26'
          rw [brn_f (by rw [k12]; exact nI_ge hd (by decide)), grd_t (v_0 h.v), q_0_1 hR', bind_some', grd_t (v_3 h.v), p_least h.v hR' w' (by omega) hd, bnd_some, e74]
          show _ = some (Sum.inl (0, nI c, b, (if mf (g.1 74) (12 * c + d) ≤ b then acF (g.1 74) c b d ||| ((1 : Int32) <<< (nI d &&& 31)) else acF (g.1 74) c b d), nI (d + 1), fresh g'))
          rcases m_farv (ways := g.1 74) (j := 12 * c + d) (by omega) w.2.2.2.2.2.1 with ⟨q1, q2, q3⟩ | ⟨q1, q2, q3⟩
          · rw [q2, brn_f (by intro k; rw [k, tm1] at q3; omega)]
            by_cases l : mf (g.1 74) (12 * c + d) ≤ b
            · rw [brn_f (i_nlt.mpr l), nm_eq, nm_eq, nI_1, if_pos l]
            · rw [brn_t (i_nle.mp l), nm_eq, nI_1, if_neg l]
          · rw [q2, brn_t rfl, nm_eq, nI_1, if_neg]
            rw [q3, i_le, tM]; omega
        unfold r_X11_cry
        rw [p_isCourt, bnd_some, brn_f (by rw [bI_0]; exact fun k => k h1), p_isFrom, bnd_some, brn_f (by rw [bI_0]; exact fun k => k h2)]
        refine (lop_l (st 0 g (by decide) rfl w rfl)).trans ?_
        refine run_for (f := r_X11_cry_26 V) (fun d => (0, nI c, b, acF (g.1 74) c b d, nI d, fresh g)) 12 ?_ ?_ 11 1 (by omega)
        · intro d hd
          have := st d (fresh g) hd (fresh_R g) (fresh_RW w) (fresh_x (by decide) (by decide))
          rw [fresh_i] at this
          exact this
        · show r_X11_cry_26' V 0 (nI c) b (acF (g.1 74) c b 12) (nI 12) (fresh g) = _
          unfold r_X11_cry_26'
          rw [brn_t (by decide)]
      · unfold r_X12_cry
        rw [m_isCourt, bnd_some, brn_f (by rw [bI_0]; exact fun k => k h1), p_in, bnd_some, brn_f (by rw [bI_0]; exact fun k => k h2)]
        refine run_for (f := r_X12_cry_26 V) (fun d => (70, nI c, b, acF (g.1 74) c b d, nI d, fresh g)) 12 ?_ ?_ 12 0 (by omega)
        · intro d hd
          show r_X12_cry_26' V 70 (nI c) b (acF (g.1 74) c b d) (nI d) (fresh g) = some (.inl (70, nI c, b, (if mf (g.1 74) (12 * c + d) ≤ b then acF (g.1 74) c b d ||| ((1 : Int32) <<< (nI d &&& 31)) else acF (g.1 74) c b d), nI (d + 1), fresh g))
          unfold r_X12_cry_26'
          rw [brn_f (by rw [k12]; exact nI_ge hd (by decide)), grd_t (v_70 h.v), fresh_R, q_70_13 h.r, bind_some', mx, grd_t (ok_nI (n := 144) (v_75 h.v) (by omega) (by decide)), cl_nI (by omega), e75 _ (by omega)]
          by_cases l : mf (g.1 74) (12 * c + d) ≤ b
          · rw [brn_f (i_nlt.mpr l), nm_eq, nm_eq, nI_1, if_pos l]
          · rw [brn_t (i_nle.mp l), nm_eq, nI_1, if_neg l]
        · show r_X12_cry_26' V 70 (nI c) b (acF (g.1 74) c b 12) (nI 12) (fresh g) = _
          unfold r_X12_cry_26'
          rw [brn_t (by decide)]
    · refine ⟨-2, g, g, ?_, ?_, h⟩
      · unfold r_X11_cry
        rw [p_isCourt, bnd_some, brn_f (by rw [bI_0]; exact fun k => k h1), p_isFrom, bnd_some, brn_t (by rw [bI_0]; exact h2)]
      · unfold r_X12_cry
        rw [m_isCourt, bnd_some, brn_f (by rw [bI_0]; exact fun k => k h1), p_in, bnd_some, brn_t (by rw [bI_0]; exact h2)]
  · refine ⟨-2, g, g, ?_, ?_, h⟩
    · unfold r_X11_cry
      rw [p_isCourt, bnd_some, brn_t (by rw [bI_0]; exact h1)]
    · unfold r_X12_cry
      rw [m_isCourt, bnd_some, brn_t (by rw [bI_0]; exact h1)]
