/-! ===== op laws ===== -/
def fgG (g : Hq) (p : Nat) : Hq := sI (sI (sI (sI (sI (sI (sI (sI (sI g p 0 21) p 1 60) p 2 7) p 3 100) p 4 (-1)) p 5 (-1)) p 6 0) p 7 4) p 8 0
theorem x_forget {V : Vk} {g : Hq} {p : Nat} (hv : V p = some (4, 0)) : r_X4_forget V p g = some ((), fgG g p) := by
  unfold r_X4_forget
  rw [grd_t hv]
  rfl
theorem fgG_n {g : Hq} {p a : Nat} (h : a ≠ p) : (fgG g p).1 a = g.1 a := by
  unfold fgG
  simp only [sI_1]
  rw [up2_nk _ _ _ h, up2_nk _ _ _ h, up2_nk _ _ _ h, up2_nk _ _ _ h, up2_nk _ _ _ h, up2_nk _ _ _ h, up2_nk _ _ _ h, up2_nk _ _ _ h, up2_nk _ _ _ h]
theorem fgG_8 {g : Hq} {p : Nat} : (fgG g p).1 p 8 = 0 := by unfold fgG; rw [sI_1, up2_s]
theorem fgG_j {g : Hq} {p : Nat} : ∀ j, j < 8 → (fgG g p).1 p j = plv j := by
  intro j hj
  unfold fgG
  simp only [sI_1, up2_at]
  rcases (show j = 0 ∨ j = 1 ∨ j = 2 ∨ j = 3 ∨ j = 4 ∨ j = 5 ∨ j = 6 ∨ j = 7 by omega) with rfl | rfl | rfl | rfl | rfl | rfl | rfl | rfl <;> simp [plv]
def drF (f : Nat → Int32) (i : Nat) : Nat → Int32 := fun j => if 32 ≤ j ∧ j < 32 + i then plv (j - 32) else f j
theorem drF_0 (f : Nat → Int32) : drF f 0 = f := by funext j; unfold drF; rw [if_neg (by omega)]
theorem drF_s {f : Nat → Int32} {i : Nat} : upd (drF f i) (32 + i) (plv i) = drF f (i + 1) := by
  funext j
  show (if j = 32 + i then _ else drF f i j) = _
  unfold drF
  by_cases e : j = 32 + i
  · rw [if_pos e, if_pos (by omega), e, show 32 + i - 32 = i by omega]
  · rw [if_neg e]
    by_cases q : 32 ≤ j ∧ j < 32 + i
    · rw [if_pos q, if_pos (by omega)]
    · rw [if_neg q, if_neg (by omega)]
def drG (g : Hq) : Hq := sI (sI (sA g 85 (drF (g.1 85) 8)) 87 4 0) 70 6 0
theorem m_draft {V : Vk} {g g' : Hq} {W : Int32} (hV : ShV V) (hR : ShR g.2.2) (hs : r_X12_scan V 70 (drG g) = some ((), g')) : lop (r_X12_laws_35 V) (70, W, 0, g) = lop (r_X12_laws_80 V) (70, W, 0, 0, g') := by
  have pre : lop (r_X12_laws_35 V) (70, W, 0, g) = lop (r_X12_laws_35 V) (70, W, nI 8, sA g 85 (drF (g.1 85) 8)) := by
    have := run_to (f := r_X12_laws_35 V) (fun i => (70, W, nI i, sA g 85 (drF (g.1 85) i))) 8 (fun i hi => by
      show r_X12_laws_35' V 70 W (nI i) (sA g 85 (drF (g.1 85) i)) = some (.inl (70, W, nI (i + 1), sA g 85 (drF (g.1 85) (i + 1))))
      unfold r_X12_laws_35'
      rw [brn_f (show ¬ (8 : Int32) ≤ nI i from nI_ge (b := 8) hi (by decide)), grd_t (v_70 hV), sA_3, q_70_29 hR, bind_some', m_plain V _ i hi, bnd_some, show (32 : Int32) + nI i = nI (32 + i) from nI_add 32 i, grd_t (ok_nI (n := 40) (t := 0) (v_85 hV) (by omega) (by decide)), cl_nI (by omega), sA_sI, drF_s, nm_eq, nm_eq, nI_1])
    simp only [drF_0, sA_id] at this
    exact this
  rw [pre]
  refine lop_map ?_
  show r_X12_laws_35' V 70 W (nI 8) (sA g 85 (drF (g.1 85) 8)) = _
  unfold r_X12_laws_35'
  rw [brn_t (by decide), grd_t (v_70 hV), sA_3, q_70_31 hR, bind_some', grd_t (show okV V 87 0 (4 : Int32) from ok_nI (n := 5) (j := 4) (t := 0) (v_87 hV) (by omega) (by decide)), show (4 : Int32).toNatClampNeg = 4 from rfl, nm_eq, nm_eq]
  show bnd (r_X12_scan V 70 (drG g)) _ = _
  rw [hs, bnd_some]
theorem Inv_law {V : Vk} {g g2 : Hq} (h : Inv V g) (ex : ∀ a, a ≠ 1 → a ≠ 18 → a ≠ 70 → ¬ sLw a → g2.1 a = g.1 a) (e1 : g2.1 1 1 = 0) (e70 : ∀ j, ¬ (1 ≤ j ∧ j ≤ 9) → g2.1 70 j = g.1 70 j) (e701 : g2.1 70 1 = 0) (hF : RF g2.1) (hL : RLw g2.1 g2.2.2) (hl : g2.2.1 = g.2.1) (hS : ShR g2.2.2) (r21 : g2.2.2 21 = g.2.2 21) (r23 : g2.2.2 23 = g.2.2 23) (hr : ∀ a j r, g2.2.2 a j = some r → r < 107 ∨ g.2.2 a j = some r) : Inv V g2 := by
  obtain ⟨h1, h2, h3, h4, h5, h6, h7, h8, h9, n, c, h10, h11, h12, h13⟩ := h
  obtain ⟨t1, t2, t3, t4, t5⟩ := h3
  refine ⟨h1, hS, ?_, ?_, ?_, hF, hL, ?_, ?_, n, c, ?_, ?_, ?_, ?_⟩
  · refine ⟨by rw [e1, e701], by rw [e701]; decide, by rw [e701]; decide, ?_, fun j => ?_⟩
    · rw [ex 2 (by decide) (by decide) (by decide) (by unfold sLw; omega), ex 71 (by decide) (by decide) (by decide) (by unfold sLw; omega)]; exact t4
    · rw [ex 71 (by decide) (by decide) (by decide) (by unfold sLw; omega)]; exact t5 j
  · exact cgW h4 (fun a ha => by unfold sW at ha; exact ex a (by omega) (by omega) (by omega) (by unfold sLw; omega))
  · exact cgP h5 (fun a ha => by unfold sP at ha; exact ex a (by omega) (by omega) (by omega) (by unfold sLw; omega)) (e70 _ (by omega)) (e70 _ (by omega)) (e70 _ (by omega)) (by rw [hl]) (by rw [hl])
  · exact cgG h8 (ex 24 (by decide) (by decide) (by decide) (by unfold sLw; omega)) (e70 _ (by omega)) (e70 _ (by omega))
  · exact cgX h9 (e70 _ (by omega)) (by rw [hl])
  · exact cgH h10 (fun a ha => by unfold sH at ha; exact ex a (by omega) (by omega) (by omega) (by unfold sLw; omega)) (e70 _ (by omega)) r21
  · exact fun w hw => cgY hw (h11 w hw) (fun a ha => by unfold sY at ha; exact ex a (by omega) (by omega) (by omega) (by unfold sLw; omega))
  · exact cgN h12 (fun a ha => by unfold sN at ha; exact ex a (by omega) (by omega) (by omega) (by unfold sLw; omega)) (e70 _ (by omega)) r23
  · intro a j r e
    rcases hr a j r e with k | k
    · exact Or.inl k
    · exact h13 a j r k
theorem law_sl {p a : Nat} (h : lawPl p) (k : p ≤ a ∧ a ≤ p + 4) : sLw a ∧ ¬ md a ∧ a ≠ 1 ∧ a ≠ 18 := by unfold lawPl at h; unfold sLw md; omega
theorem law_dj {p q i : Nat} (h : lawPl p) (k : lawPl q) (n : ¬ q = p) (hi : i ≤ 4) : ¬ (p ≤ q + i ∧ q + i ≤ p + 4) := by unfold lawPl at h k; omega
theorem rfs_ne : ∀ w : Fin 4, ∀ q ∈ rfs, ¬ (q.1 = 0 ∧ q.2.1 = 8) ∧ ¬ (q.1 = 31 + 9 * w.1 ∧ q.2.1 = 0) := by decide
