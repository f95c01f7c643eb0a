def pHi (i r a : Nat) : Prop := a = 200 + i ∨ a = r
def qHi (j : Nat) : Prop := False
theorem RH_set {V : Vk} {g : Hq} {n i s : Nat} {v : Int32} (h : RH V g.1 g.2.2 n) (hi : i < n) (hs : 2 ≤ s) (hs5 : s ≤ 5) (b2 : s = 2 → 0 ≤ v.toInt ∧ v.toInt ≤ 1000000) (b3 : s = 3 → 0 ≤ v.toInt ∧ v.toInt ≤ 2) (b4 : s = 4 → v = -1 ∨ (1600 ≤ v.toInt ∧ v.toInt ≤ 1799)) : RH V (sI (sI g (200 + i) s v) (88 + s) i v).1 g.2.2 n := by
  obtain ⟨h1, h2, h3, h4, h5⟩ := h
  have ex : ∀ a j, a ≠ 200 + i → a ≠ 88 + s → (sI (sI g (200 + i) s v) (88 + s) i v).1 a j = g.1 a j := by
    intro a j n1 n2
    simp [sI_1, up2_at, n1, n2]
  have eo : ∀ a, (sI (sI g (200 + i) s v) (88 + s) i v).1 (200 + a) s = if a = i then v else g.1 (200 + a) s := by
    intro a
    simp only [sI_1, up2_at]
    by_cases e : a = i
    · subst e
      rw [if_neg (by omega), if_pos (by simp), if_pos rfl]
    · rw [if_neg (by omega), if_neg (by omega), if_neg e]
  have en : ∀ a j, j ≠ s → (sI (sI g (200 + i) s v) (88 + s) i v).1 (200 + a) j = g.1 (200 + a) j := by
    intro a j hj
    simp only [sI_1, up2_at]
    rw [if_neg (by omega), if_neg (by omega)]
  have er : ∀ j, (sI (sI g (200 + i) s v) (88 + s) i v).1 (88 + s) j = if j = i then v else g.1 (88 + s) j := by
    intro j
    simp only [sI_1, up2_at]
    by_cases e : j = i
    · subst e
      rw [if_pos (by simp), if_pos rfl]
    · rw [if_neg (by omega), if_neg (by omega), if_neg e]
  refine ⟨h1, by rw [ex 20 1 (by omega) (by omega)]; exact h2, by rw [ex 70 32 (by omega) (by omega)]; exact h3, fun k hk => ?_, fun k hk hk6 => ?_⟩
  · obtain ⟨r1, r2, x0, x1, x2, x3, x4, x5, y0, y1, y2, y3, y4, y5, y6, y7, y8⟩ := h4 k hk
    rcases (show s = 2 ∨ s = 3 ∨ s = 4 ∨ s = 5 by omega) with rfl | rfl | rfl | rfl
    · have er' : ∀ j, (sI (sI g (200 + i) 2 v) (88 + 2) i v).1 90 j = if j = i then v else g.1 90 j := er
      refine ⟨r1, r2, ?_, ?_, ?_, ?_, ?_, ?_, ?_⟩
      · rw [en k 0 (by decide), ex 88 k (by omega) (by decide)]; exact x0
      · rw [en k 1 (by decide), ex 89 k (by omega) (by decide)]; exact x1
      · rw [eo k, er' k]
        by_cases e : k = i
        · simp only [e, if_true]
        · simp only [e, if_false]; exact x2
      · rw [en k 3 (by decide), ex 91 k (by omega) (by decide)]; exact x3
      · rw [en k 4 (by decide), ex 92 k (by omega) (by decide)]; exact x4
      · rw [en k 5 (by decide), ex 93 k (by omega) (by decide)]; exact x5
      · rw [ex 88 k (by omega) (by decide), ex 89 k (by omega) (by decide), ex 91 k (by omega) (by decide), ex 92 k (by omega) (by decide), er' k]
        by_cases e : k = i
        · simp only [e, if_true]
          refine ⟨?_, ?_, ?_, ?_, ?_, ?_, ?_, ?_, ?_⟩ <;> first | (have := b2; have := b3; have := b4; subst e; first | exact y0 | exact y1 | exact y2 | exact y3 | exact y4 | exact y5 | exact y6 | exact y7 | exact y8 | exact (b2 rfl).1 | exact (b2 rfl).2 | exact (b3 rfl).1 | exact (b3 rfl).2 | exact b4 rfl)
        · simp only [e, if_false]
          exact ⟨y0, y1, y2, y3, y4, y5, y6, y7, y8⟩
    · have er' : ∀ j, (sI (sI g (200 + i) 3 v) (88 + 3) i v).1 91 j = if j = i then v else g.1 91 j := er
      refine ⟨r1, r2, ?_, ?_, ?_, ?_, ?_, ?_, ?_⟩
      · rw [en k 0 (by decide), ex 88 k (by omega) (by decide)]; exact x0
      · rw [en k 1 (by decide), ex 89 k (by omega) (by decide)]; exact x1
      · rw [en k 2 (by decide), ex 90 k (by omega) (by decide)]; exact x2
      · rw [eo k, er' k]
        by_cases e : k = i
        · simp only [e, if_true]
        · simp only [e, if_false]; exact x3
      · rw [en k 4 (by decide), ex 92 k (by omega) (by decide)]; exact x4
      · rw [en k 5 (by decide), ex 93 k (by omega) (by decide)]; exact x5
      · rw [ex 88 k (by omega) (by decide), ex 89 k (by omega) (by decide), ex 90 k (by omega) (by decide), ex 92 k (by omega) (by decide), er' k]
        by_cases e : k = i
        · simp only [e, if_true]
          refine ⟨?_, ?_, ?_, ?_, ?_, ?_, ?_, ?_, ?_⟩ <;> first | (have := b2; have := b3; have := b4; subst e; first | exact y0 | exact y1 | exact y2 | exact y3 | exact y4 | exact y5 | exact y6 | exact y7 | exact y8 | exact (b2 rfl).1 | exact (b2 rfl).2 | exact (b3 rfl).1 | exact (b3 rfl).2 | exact b4 rfl)
        · simp only [e, if_false]
          exact ⟨y0, y1, y2, y3, y4, y5, y6, y7, y8⟩
    · have er' : ∀ j, (sI (sI g (200 + i) 4 v) (88 + 4) i v).1 92 j = if j = i then v else g.1 92 j := er
      refine ⟨r1, r2, ?_, ?_, ?_, ?_, ?_, ?_, ?_⟩
      · rw [en k 0 (by decide), ex 88 k (by omega) (by decide)]; exact x0
      · rw [en k 1 (by decide), ex 89 k (by omega) (by decide)]; exact x1
      · rw [en k 2 (by decide), ex 90 k (by omega) (by decide)]; exact x2
      · rw [en k 3 (by decide), ex 91 k (by omega) (by decide)]; exact x3
      · rw [eo k, er' k]
        by_cases e : k = i
        · simp only [e, if_true]
        · simp only [e, if_false]; exact x4
      · rw [en k 5 (by decide), ex 93 k (by omega) (by decide)]; exact x5
      · rw [ex 88 k (by omega) (by decide), ex 89 k (by omega) (by decide), ex 90 k (by omega) (by decide), ex 91 k (by omega) (by decide), er' k]
        by_cases e : k = i
        · simp only [e, if_true]
          refine ⟨?_, ?_, ?_, ?_, ?_, ?_, ?_, ?_, ?_⟩ <;> first | (have := b2; have := b3; have := b4; subst e; first | exact y0 | exact y1 | exact y2 | exact y3 | exact y4 | exact y5 | exact y6 | exact y7 | exact y8 | exact (b2 rfl).1 | exact (b2 rfl).2 | exact (b3 rfl).1 | exact (b3 rfl).2 | exact b4 rfl)
        · simp only [e, if_false]
          exact ⟨y0, y1, y2, y3, y4, y5, y6, y7, y8⟩
    · have er' : ∀ j, (sI (sI g (200 + i) 5 v) (88 + 5) i v).1 93 j = if j = i then v else g.1 93 j := er
      refine ⟨r1, r2, ?_, ?_, ?_, ?_, ?_, ?_, ?_⟩
      · rw [en k 0 (by decide), ex 88 k (by omega) (by decide)]; exact x0
      · rw [en k 1 (by decide), ex 89 k (by omega) (by decide)]; exact x1
      · rw [en k 2 (by decide), ex 90 k (by omega) (by decide)]; exact x2
      · rw [en k 3 (by decide), ex 91 k (by omega) (by decide)]; exact x3
      · rw [en k 4 (by decide), ex 92 k (by omega) (by decide)]; exact x4
      · rw [eo k, er' k]
        by_cases e : k = i
        · simp only [e, if_true]
        · simp only [e, if_false]; exact x5
      · rw [ex 88 k (by omega) (by decide), ex 89 k (by omega) (by decide), ex 90 k (by omega) (by decide), ex 91 k (by omega) (by decide), ex 92 k (by omega) (by decide)]
        exact ⟨y0, y1, y2, y3, y4, y5, y6, y7, y8⟩
  · have z := h5 k hk hk6
    have fin : ∀ r, r = 90 ∨ r = 91 ∨ r = 93 → (sI (sI g (200 + i) s v) (88 + s) i v).1 r k = g.1 r k := by
      intro r hr
      simp only [sI_1, up2_at]
      rw [if_neg (by omega), if_neg (by omega)]
    rw [fin 90 (by simp), fin 91 (by simp), fin 93 (by simp)]
    exact z
theorem op_would {V : Vk} {g : Hq} (h : Inv V g) (a b : Int32) : Op V g (r_X11_would V 0 a b) (r_X12_would V 70 a b) := by
  obtain ⟨-, -, -, -, -, -, -, -, -, n, c, hh, -, -, -⟩ := id h
  have hv0 := v_0 h.v
  have hv := v_70 h.v
  rcases ix_case a (n := n) (by have := hh.1; omega) with ha | ⟨i, hi, rfl⟩
  · refine ⟨-2, g, g, ?_, ?_, h⟩
    · unfold r_X11_would
      rw [grd_t hv0, q_0_5 h.r, bind_some', grd_t (v_20 h.v), find_out h.v hh ha, bnd_some, onn_none]
    · unfold r_X12_would
      rw [grd_t hv, house_out h.v hh ha, bnd_some, brn_t rfl]
  · have n60 := hh.1
    have cl := cl_nI (j := i) (by omega)
    obtain ⟨r1, r2, x0, x1, x2, x3, x4, x5, -⟩ := hh.2.2.2.1 i hi
    by_cases hb : 0 ≤ b ∧ b ≤ 2
    · refine ⟨g.1 91 i, sI g (200 + i) 3 b, sI (sI g (200 + i) 3 b) 91 i b, ?_, ?_, ?_⟩
      · unfold r_X11_would
        rw [grd_t hv0, q_0_5 h.r, bind_some', grd_t (v_20 h.v), find_in h.v h.r hh hi, bnd_some, onn_some, p_isFrom, bnd_some, brn_f (by rw [bI_0]; exact fun k => k hb), grd_t r2, nm_eq, nm_eq, x3]
      · have hn2 : RH V (sI g (200 + i) 3 b).1 g.2.2 n ∨ True := Or.inr trivial
        have e32 : (sI g (200 + i) 3 b).1 70 32 = g.1 70 32 := up2_ne _ _ (Or.inl (by omega))
        have e91 : (sI g (200 + i) 3 b).1 91 i = g.1 91 i := up2_ne _ _ (Or.inl (by omega))
        have hi2 : r_X12_isHouse V 70 (nI i) (sI g (200 + i) 3 b) = some (1, sI g (200 + i) 3 b) := by
          unfold r_X12_isHouse
          rw [grd_t hv, e32, hh.2.2.1, p_in, bnd_some, grd_t (nb _), bI_t (in_nI hi (by omega))]
        unfold r_X12_would
        rw [grd_t hv, hi2, bnd_some, brn_f (by decide), p_in, bnd_some, brn_f (by rw [bI_0]; exact fun k => k hb), sI_3, q_70_36 h.r, bind_some', grd_t (ok_nI (v_91 h.v) (by omega) (by decide)), nm_eq, bind_some', grd_t (ok_nI (v_91 h.v) (by omega) (by decide)), nm_eq, cl, e91]
      · have b0 := hb.1
        have b2 := hb.2
        rw [i_le] at b0 b2
        refine Inv.by (pHi i 91) qHi h ((fr_sI (by omega) (Or.inl rfl)).tr (fr_sI (by decide) (Or.inr rfl))) rfl (Or.inl ⟨(by unfold pHi; omega), (by unfold pHi; omega), (by unfold pHi; omega), (by unfold qHi; first | omega | exact id)⟩) (Or.inl (by intro a ha; unfold sW at ha; unfold pHi; omega)) (Or.inl ⟨(by intro a ha; unfold sP at ha; unfold pHi; omega), (by unfold qHi; first | omega | exact id), (by unfold qHi; first | omega | exact id), (by unfold qHi; first | omega | exact id)⟩) (Or.inl ⟨(by unfold pHi; omega), (by unfold qHi; first | omega | exact id), (by unfold qHi; first | omega | exact id)⟩) (Or.inl (by intro a ha; unfold sLw at ha; unfold pHi; omega)) (Or.inl ⟨(by unfold pHi; omega), (by unfold qHi; first | omega | exact id), (by unfold qHi; first | omega | exact id)⟩) (by unfold qHi; first | omega | exact id) (fun n hn => Or.inr (?_)) (fun _ _ _ _ _ => Or.inl (by intro a ha; unfold sY at ha; unfold pHi; omega)) (fun _ _ => Or.inl ⟨(by intro a ha; unfold sN at ha; unfold pHi; omega), (by unfold qHi; first | omega | exact id)⟩)
        exact RH_set hn (by have e1 := hn.2.2.1; have e2 := hh.2.2.1; rw [e1] at e2; rw [nI_eq (by have := hn.1; omega) (by omega)] at e2; omega) (by decide) (by decide) (fun e => absurd e (by decide)) (fun _ => ⟨b0, b2⟩) (fun e => absurd e (by decide))
    · refine ⟨-2, g, g, ?_, ?_, h⟩
      · unfold r_X11_would
        rw [grd_t hv0, q_0_5 h.r, bind_some', grd_t (v_20 h.v), find_in h.v h.r hh hi, bnd_some, onn_some, p_isFrom, bnd_some, brn_t (by rw [bI_0]; exact hb)]
      · unfold r_X12_would
        rw [grd_t hv, house_in h.v hh hi, bnd_some, brn_f (by decide), p_in, bnd_some, brn_t (by rw [bI_0]; exact hb)]
theorem tM : (1000000 : Int32).toInt = 1000000 := rfl
theorem op_purse {V : Vk} {g : Hq} (h : Inv V g) (a b : Int32) : Op V g (r_X11_purse V 0 a b) (r_X12_purse V 70 a b) := by
  obtain ⟨-, -, -, -, -, -, -, -, -, n, c, hh, -, -, -⟩ := id h
  have hv0 := v_0 h.v
  have hv := v_70 h.v
  rcases ix_case a (n := n) (by have := hh.1; omega) with ha | ⟨i, hi, rfl⟩
  · refine ⟨-2, g, g, ?_, ?_, h⟩
    · unfold r_X11_purse
      rw [grd_t hv0, q_0_5 h.r, bind_some', grd_t (v_20 h.v), find_out h.v hh ha, bnd_some, onn_none]
    · unfold r_X12_purse
      rw [grd_t hv, house_out h.v hh ha, bnd_some, brn_t rfl]
  · have n60 := hh.1
    have cl := cl_nI (j := i) (by omega)
    obtain ⟨r1, r2, x0, x1, x2, x3, x4, x5, -, -, -, -, y4, y5, -⟩ := hh.2.2.2.1 i hi
    by_cases hb : 1 ≤ b ∧ b ≤ 100000
    · have b0 := hb.1
      have b2 := hb.2
      rw [i_le] at b0 b2
      have k5 : (100000 : Int32).toInt = 100000 := rfl
      have es : (g.1 90 i + b).toInt = (g.1 90 i).toInt + b.toInt := i_add (by rw [t1] at b0; omega) (by rw [k5] at b2; omega)
      by_cases hs : g.1 90 i + b ≤ 1000000
      · refine ⟨g.1 90 i + b, sI g (200 + i) 2 (g.1 90 i + b), sI (sI g (200 + i) 2 (g.1 90 i + b)) 90 i (g.1 90 i + b), ?_, ?_, ?_⟩
        · unfold r_X11_purse
          rw [grd_t hv0, q_0_5 h.r, bind_some', grd_t (v_20 h.v), find_in h.v h.r hh hi, bnd_some, onn_some, p_isFrom, bnd_some, brn_f (by rw [bI_0]; exact fun k => k hb), grd_t r2, x2, brn_t hs, nm_eq, sI_1, up2_s]
        · have e32 : (sI g (200 + i) 2 (g.1 90 i + b)).1 70 32 = g.1 70 32 := up2_ne _ _ (Or.inl (by omega))
          have e90 : (sI g (200 + i) 2 (g.1 90 i + b)).1 90 i = g.1 90 i := up2_ne _ _ (Or.inl (by omega))
          have hi2 : r_X12_isHouse V 70 (nI i) (sI g (200 + i) 2 (g.1 90 i + b)) = some (1, sI g (200 + i) 2 (g.1 90 i + b)) := by
            unfold r_X12_isHouse
            rw [grd_t hv, e32, hh.2.2.1, p_in, bnd_some, grd_t (nb _), bI_t (in_nI hi (by omega))]
          have ok : okV V 90 0 (nI i) := ok_nI (n := 60) (v_90 h.v) (by omega) (by decide)
          unfold r_X12_purse
          rw [grd_t hv, hi2, bnd_some, brn_f (by decide), p_in, bnd_some, brn_f (by rw [bI_0]; exact fun k => k hb), sI_3, q_70_35 h.r, bind_some', grd_t ok, cl, e90, brn_t hs, bind_some', grd_t ok, grd_t ok, nm_eq, sI_3, sI_3, q_70_35 h.r, bind_some', grd_t ok, e90, sI_1, up2_s]
        · rw [i_le, es, tM] at hs
          refine Inv.by (pHi i 90) qHi h ((fr_sI (by omega) (Or.inl rfl)).tr (fr_sI (by decide) (Or.inr rfl))) rfl (Or.inl ⟨(by unfold pHi; omega), (by unfold pHi; omega), (by unfold pHi; omega), (by unfold qHi; first | omega | exact id)⟩) (Or.inl (by intro a ha; unfold sW at ha; unfold pHi; omega)) (Or.inl ⟨(by intro a ha; unfold sP at ha; unfold pHi; omega), (by unfold qHi; first | omega | exact id), (by unfold qHi; first | omega | exact id), (by unfold qHi; first | omega | exact id)⟩) (Or.inl ⟨(by unfold pHi; omega), (by unfold qHi; first | omega | exact id), (by unfold qHi; first | omega | exact id)⟩) (Or.inl (by intro a ha; unfold sLw at ha; unfold pHi; omega)) (Or.inl ⟨(by unfold pHi; omega), (by unfold qHi; first | omega | exact id), (by unfold qHi; first | omega | exact id)⟩) (by unfold qHi; first | omega | exact id) (fun n hn => Or.inr (?_)) (fun _ _ _ _ _ => Or.inl (by intro a ha; unfold sY at ha; unfold pHi; omega)) (fun _ _ => Or.inl ⟨(by intro a ha; unfold sN at ha; unfold pHi; omega), (by unfold qHi; first | omega | exact id)⟩)
          exact RH_set hn (by have e1 := hn.2.2.1; have e2 := hh.2.2.1; rw [e1] at e2; rw [nI_eq (by have := hn.1; omega) (by omega)] at e2; omega) (by decide) (by decide) (fun _ => by rw [es]; rw [t1] at b0; omega) (fun e => absurd e (by decide)) (fun e => absurd e (by decide))
      · refine ⟨-2, g, g, ?_, ?_, h⟩
        · unfold r_X11_purse
          rw [grd_t hv0, q_0_5 h.r, bind_some', grd_t (v_20 h.v), find_in h.v h.r hh hi, bnd_some, onn_some, p_isFrom, bnd_some, brn_f (by rw [bI_0]; exact fun k => k hb), grd_t r2, x2, brn_f hs]
        · unfold r_X12_purse
          rw [grd_t hv, house_in h.v hh hi, bnd_some, brn_f (by decide), p_in, bnd_some, brn_f (by rw [bI_0]; exact fun k => k hb), q_70_35 h.r, bind_some', grd_t (ok_nI (j := i) (v_90 h.v) (by omega) (by decide)), cl, brn_f hs]
    · refine ⟨-2, g, g, ?_, ?_, h⟩
      · unfold r_X11_purse
        rw [grd_t hv0, q_0_5 h.r, bind_some', grd_t (v_20 h.v), find_in h.v h.r hh hi, bnd_some, onn_some, p_isFrom, bnd_some, brn_t (by rw [bI_0]; exact hb)]
      · unfold r_X12_purse
        rw [grd_t hv, house_in h.v hh hi, bnd_some, brn_f (by decide), p_in, bnd_some, brn_t (by rw [bI_0]; exact hb)]
