def pWy (a : Nat) : Prop := a = 3 ∨ a = 6 ∨ a = 74 ∨ a = 75
def qWy (j : Nat) : Prop := False
def wx (g : Hq) (c d : Nat) (v : Int32) : Hq := sI (sI (sI g 6 (12 * c + d) v) 6 (12 * d + c) v) 3 4 1
def wm (g : Hq) (c d : Nat) (v : Int32) : Hq := sI (sI g 74 (12 * c + d) v) 74 (12 * d + c) v
def wy (g : Hq) (c d : Nat) (v : Int32) : Hq := sA (wm (wx g c d v) c d v) 75 (flM (r0 ((wm (wx g c d v) c d v).1 74) ((wm (wx g c d v) c d v).1 75) 144) 12)
theorem r0_ag {ways old : Nat → Int32} : ag1 (r0 ways old 144) (mf0 ways) := fun j hj => by unfold r0; rw [if_pos hj]
theorem wy_Inv {V : Vk} {g : Hq} {c d : Nat} {v : Int32} (h : Inv V g) (hc : c < 12) (hd : d < 12) (hv : v = -1 ∨ (1 ≤ v.toInt ∧ v.toInt ≤ 99)) : Inv V (wy g c d v) := by
  unfold wy
  have ex : ∀ a, a ≠ 3 → a ≠ 6 → a ≠ 74 → a ≠ 75 → (sA (wm (wx g c d v) c d v) 75 (flM (r0 ((wm (wx g c d v) c d v).1 74) ((wm (wx g c d v) c d v).1 75) 144) 12)).1 a = g.1 a := by
    intro a n1 n2 n3 n4
    rw [sA_n n4]
    unfold wm wx
    simp only [sI_1]
    rw [up2_nk _ _ _ n3, up2_nk _ _ _ n3, up2_nk _ _ _ n1, up2_nk _ _ _ n2, up2_nk _ _ _ n2]
  have fr : Fr pWy qWy g (sA (wm (wx g c d v) c d v) 75 (flM (r0 ((wm (wx g c d v) c d v).1 74) ((wm (wx g c d v) c d v).1 75) 144) 12)) := ⟨fun a ha _ => by unfold pWy at ha; exact ex a (by omega) (by omega) (by omega) (by omega), fun j _ => by rw [ex 70 (by decide) (by decide) (by decide) (by decide)]⟩
  refine Inv.by pWy qWy h fr rfl (Or.inl ⟨(by unfold pWy; omega), (by unfold pWy; omega), (by unfold pWy; omega), (by unfold qWy; first | omega | exact id)⟩) (Or.inr (?_)) (Or.inl ⟨(by intro a ha; unfold sP at ha; unfold pWy; omega), (by unfold qWy; first | omega | exact id), (by unfold qWy; first | omega | exact id), (by unfold qWy; first | omega | exact id)⟩) (Or.inl ⟨(by unfold pWy; omega), (by unfold qWy; first | omega | exact id), (by unfold qWy; first | omega | exact id)⟩) (Or.inl (by intro a ha; unfold sLw at ha; unfold pWy; omega)) (Or.inl ⟨(by unfold pWy; omega), (by unfold qWy; first | omega | exact id), (by unfold qWy; first | omega | exact id)⟩) (by unfold qWy; first | omega | exact id) (fun _ _ => Or.inl ⟨(by intro a ha; unfold sH at ha; unfold pWy; omega), (by unfold qWy; first | omega | exact id)⟩) (fun _ _ _ _ _ => Or.inl (by intro a ha; unfold sY at ha; unfold pWy; omega)) (fun _ _ => Or.inl ⟨(by intro a ha; unfold sN at ha; unfold pWy; omega), (by unfold qWy; first | omega | exact id)⟩)
  obtain ⟨w1, w2, w3, w4, w5, w6, w7, w8⟩ := h.w
  have e74 : (wm (wx g c d v) c d v).1 74 = upd (upd (g.1 74) (12 * c + d) v) (12 * d + c) v := by
    funext j
    unfold wm wx
    simp [sI_1, up2_at, upd]
  have e6 : (wm (wx g c d v) c d v).1 6 = upd (upd (g.1 6) (12 * c + d) v) (12 * d + c) v := by
    funext j
    unfold wm wx
    simp [sI_1, up2_at, upd]
  have e34 : (wm (wx g c d v) c d v).1 3 4 = 1 := by
    unfold wm wx
    simp [sI_1, up2_at]
  unfold RW
  rw [ex 4 (by decide) (by decide) (by decide) (by decide), ex 5 (by decide) (by decide) (by decide) (by decide), ex 72 (by decide) (by decide) (by decide) (by decide), ex 73 (by decide) (by decide) (by decide) (by decide), sA_n (a := 6) (by decide), sA_n (a := 74) (by decide), sA_s, sA_n (a := 3) (by decide), e34]
  refine ⟨w1, w2, by rw [e6, e74, w3], w4, w5, fun j hj => ?_, fun j hj => ?_, Or.inl rfl⟩
  · rw [e74]
    by_cases e1 : j = 12 * d + c
    · rw [e1, upd_s]; exact hv
    · rw [upd_n e1]
      by_cases e2 : j = 12 * c + d
      · rw [e2, upd_s]; exact hv
      · rw [upd_n e2]; exact w6 j hj
  · exact ag1_M r0_ag 12 (Nat.le_refl 12) j hj
theorem x_way20 {V : Vk} {g : Hq} {c d : Nat} {v : Int32} (h : Inv V g) (hc : c < 12) (hd : d < 12) (hne : c ≠ d) : r_X11_way_20 V 0 (nI c) (nI d) v 1 g = some (g.1 74 (12 * c + d), wx g c d v) := by
  have h1 : (0 : Int32) ≤ nI c ∧ nI c ≤ 11 := ⟨nI_le (a := 0) (by omega) (by omega), nI_le (b := 11) (by omega) (by omega)⟩
  have h2 : (0 : Int32) ≤ nI d ∧ nI d ≤ 11 := ⟨nI_le (a := 0) (by omega) (by omega), nI_le (b := 11) (by omega) (by omega)⟩
  have ok : ∀ j, j < 144 → okV V 6 0 (nI j) := fun j hj => ok_nI (n := 144) (v_6 h.v) hj (by decide)
  unfold r_X11_way_20 r_X9_minutesOfWay r_X9_setWay
  rw [p_isCourt, bnd_some, brn_f (by rw [bI_0]; exact fun k => k h1), p_isCourt, bnd_some, brn_f (by rw [bI_0]; exact fun k => k h2), brn_f (by rw [nI_eq (by omega) (by omega)]; exact hne), brn_f (by decide), grd_t (v_0 h.v), q_0_1 h.r, bind_some', grd_t (v_3 h.v), grd_t (v_3 h.v), q_3_2 h.r, bind_some', xx, grd_t (ok _ (by omega)), bnd_some, q_0_1 h.r, bind_some', grd_t (v_3 h.v), grd_t (v_3 h.v), q_3_2 h.r, bind_some', grd_t (ok _ (by omega)), nm_eq, sI_3, q_3_2 h.r, bind_some', xx, grd_t (ok _ (by omega)), nm_eq, nm_eq, bnd_some, cl_nI (by omega), cl_nI (by omega), h.w.2.2.1]
  rfl
theorem x_way20_no {V : Vk} {g : Hq} {a b v x5 : Int32} (h : ¬ (0 ≤ a ∧ a ≤ 11) ∨ ¬ (0 ≤ b ∧ b ≤ 11) ∨ a = b ∨ x5 = 0) : r_X11_way_20 V 0 a b v x5 g = some (-2, g) := by
  unfold r_X11_way_20
  rw [p_isCourt, bnd_some]
  by_cases h1 : 0 ≤ a ∧ a ≤ 11
  · rw [brn_f (by rw [bI_0]; exact fun k => k h1), p_isCourt, bnd_some]
    by_cases h2 : 0 ≤ b ∧ b ≤ 11
    · rw [brn_f (by rw [bI_0]; exact fun k => k h2)]
      by_cases h3 : a = b
      · rw [brn_t h3]
      · rw [brn_f h3, brn_t (by rcases h with q | q | q | q; exact absurd h1 q; exact absurd h2 q; exact absurd q h3; exact q)]
    · rw [brn_t (by rw [bI_0]; exact h2)]
  · rw [brn_t (by rw [bI_0]; exact h1)]
theorem op_way {V : Vk} {g : Hq} (h : Inv V g) (a b v : Int32) : Op V g (r_X11_way V 0 a b v) (r_X12_way V 70 a b v) := by
  by_cases hv : v = -1 ∨ (1 ≤ v ∧ v ≤ 99)
  · have hx : ∀ r, r_X11_way_20 V 0 a b v 1 g = r → r_X11_way V 0 a b v g = r := by
      intro r hr
      unfold r_X11_way
      by_cases v1 : v = -1
      · rw [brn_t v1]; exact hr
      · rw [brn_f v1, p_isFrom, bnd_some, brn_f (by rw [bI_0]; exact fun k => k (hv.resolve_left v1))]; exact hr
    by_cases h1 : 0 ≤ a ∧ a ≤ 11
    · by_cases h2 : 0 ≤ b ∧ b ≤ 11
      · by_cases h3 : a = b
        · refine ⟨-2, g, g, hx _ (x_way20_no (Or.inr (Or.inr (Or.inl h3)))), ?_, h⟩
          unfold r_X12_way
          rw [m_isCourt, bnd_some, brn_f (by rw [bI_0]; exact fun k => k h1), m_isCourt, bnd_some, brn_f (by rw [bI_0]; exact fun k => k h2), brn_t h3]
        · obtain ⟨c, hc, rfl⟩ := nat_of (n := 11) rfl h1
          obtain ⟨d, hd, rfl⟩ := nat_of (n := 11) rfl h2
          have hne : c ≠ d := fun e => h3 (by rw [e])
          have ok : ∀ j, j < 144 → okV V 74 0 (nI j) := fun j hj => ok_nI (n := 144) (v_74 h.v) hj (by decide)
          have hv2 : v = -1 ∨ (1 ≤ v.toInt ∧ v.toInt ≤ 99) := by
            rcases hv with e | e
            · exact Or.inl e
            · right
              have e1 := e.1
              have e2 := e.2
              rw [i_le] at e1 e2
              have t99 : (99 : Int32).toInt = 99 := rfl
              rw [t1] at e1
              omega
          have e74 : (wx g c d v).1 74 = g.1 74 := by
            unfold wx
            simp only [sI_1]
            rw [up2_nk _ _ _ (by decide), up2_nk _ _ _ (by decide), up2_nk _ _ _ (by decide)]
          have hm : r_X12_way_37 V 70 (nI c) (nI d) v (wx g c d v) = some (g.1 74 (12 * c + d), wy g c d v) := by
            have hmf := m_makeFar (g := wm (wx g c d v) c d v) h.v h.r
            unfold r_X12_way_37
            rw [grd_t (v_70 h.v), show (wx g c d v).2.2 = g.2.2 from rfl, q_70_12 h.r, bind_some', mx, grd_t (ok _ (by omega)), nm_eq, bind_some', grd_t (ok _ (by omega)), nm_eq, sI_3, show (wx g c d v).2.2 = g.2.2 from rfl, q_70_12 h.r, bind_some', mx, grd_t (ok _ (by omega)), nm_eq, cl_nI (by omega), cl_nI (by omega)]
            show bnd (r_X12_makeFar V 70 (wm (wx g c d v) c d v)) _ = _
            rw [hmf, bnd_some, e74]
            rfl
          refine ⟨g.1 74 (12 * c + d), wx g c d v, wy g c d v, hx _ (x_way20 h (by omega) (by omega) hne), ?_, wy_Inv h (by omega) (by omega) hv2⟩
          unfold r_X12_way
          rw [m_isCourt, bnd_some, brn_f (by rw [bI_0]; exact fun k => k h1), m_isCourt, bnd_some, brn_f (by rw [bI_0]; exact fun k => k h2), brn_f h3]
          by_cases v1 : v = -1
          · rw [brn_t v1]; exact hm
          · rw [brn_f v1, p_in, bnd_some, brn_f (by rw [bI_0]; exact fun k => k (hv.resolve_left v1))]; exact hm
      · refine ⟨-2, g, g, hx _ (x_way20_no (Or.inr (Or.inl h2))), ?_, h⟩
        unfold r_X12_way
        rw [m_isCourt, bnd_some, brn_f (by rw [bI_0]; exact fun k => k h1), m_isCourt, bnd_some, brn_t (by rw [bI_0]; exact h2)]
    · refine ⟨-2, g, g, hx _ (x_way20_no (Or.inl h1)), ?_, h⟩
      unfold r_X12_way
      rw [m_isCourt, bnd_some, brn_t (by rw [bI_0]; exact h1)]
  · have v1 : ¬ v = -1 := fun e => hv (Or.inl e)
    have v2 : ¬ (1 ≤ v ∧ v ≤ 99) := fun e => hv (Or.inr e)
    refine ⟨-2, g, g, ?_, ?_, h⟩
    · unfold r_X11_way
      rw [brn_f v1, p_isFrom, bnd_some, brn_t (by rw [bI_0]; exact v2)]
      exact x_way20_no (Or.inr (Or.inr (Or.inr rfl)))
    · unfold r_X12_way
      rw [m_isCourt, bnd_some]
      by_cases h1 : 0 ≤ a ∧ a ≤ 11
      · rw [brn_f (by rw [bI_0]; exact fun k => k h1), m_isCourt, bnd_some]
        by_cases h2 : 0 ≤ b ∧ b ≤ 11
        · rw [brn_f (by rw [bI_0]; exact fun k => k h2)]
          by_cases h3 : a = b
          · rw [brn_t h3]
          · rw [brn_f h3, brn_f v1, p_in, bnd_some, brn_t (by rw [bI_0]; exact v2)]
        · rw [brn_t (by rw [bI_0]; exact h2)]
      · rw [brn_t (by rw [bI_0]; exact h1)]
