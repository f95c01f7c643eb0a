/-! ===== the start ===== -/
def G1 : Hq := e_X11_0 g00
def G0 : Hq := e_X12 G1
def GF : Hq := far0 (g367 (g345 (g316 G0 12) 144))
theorem St_0 : St 1 g00 := ⟨(fun a j r e => by cases e), fun a j _ => ⟨rfl, rfl⟩⟩
theorem St_1 : St 67 G1 := (i_X11_0 St_0).2
theorem St_2 : St 71 G1 := ⟨fun a j r e => by have := St_1.1 a j r e; omega, fun a j e => St_1.2 a j (by omega)⟩
theorem vT67 : newV (vT 67) 70 (12, 0) = vT 71 := by
  funext a
  unfold newV vT
  by_cases k : a = 70
  · rw [if_pos k, if_pos (by omega), k]; rfl
  · rw [if_neg k]
    by_cases l : a < 67
    · rw [if_pos l, if_pos (by omega)]
    · rw [if_neg l]
      by_cases q : a < 71
      · rw [if_pos q]
        rcases (show a = 67 ∨ a = 68 ∨ a = 69 by omega) with rfl | rfl | rfl <;> rfl
      · rw [if_neg q]
theorem sR_0 : ShR G0.2.2 := by
  have : ∀ q ∈ rfs, G0.2.2 q.1 q.2.1 = some q.2.2 := by decide +kernel
  exact this
theorem St_3 : St 107 G0 := (i_X12 St_2 sR_0).2
theorem GF_L : GF.2 = G0.2 := rfl
theorem GF_n {a : Nat} (h : a ≠ 73 ∧ a ≠ 82 ∧ a ≠ 74 ∧ a ≠ 94 ∧ a ≠ 95 ∧ a ≠ 85 ∧ a ≠ 75) : GF.1 a = G0.1 a := by
  unfold GF far0 g367 j367 g345 g316
  rw [sA_n h.2.2.2.2.2.2, sA_n h.2.2.2.2.2.1, sA_n h.2.2.2.2.1, sA_n h.2.2.2.1, sA_n h.2.2.1, sA_n h.2.1, sA_n h.1]

set_option maxRecDepth 100000 in
theorem z_row : ∀ j, G0.1 1 j = 0 ∧ G0.1 2 j = 0 ∧ G0.1 4 j = 0 ∧ G0.1 8 j = 0 ∧ G0.1 20 j = 0 ∧ G0.1 22 j = 0 ∧ G0.1 71 j = 0 ∧ G0.1 72 j = 0 ∧ G0.1 73 j = 0 ∧ G0.1 74 j = 0 ∧ G0.1 87 j = 0 ∧ G0.1 90 j = 0 ∧ G0.1 91 j = 0 ∧ G0.1 93 j = 0 ∧ G0.1 100 j = 0 := fun j => ⟨rfl, rfl, rfl, rfl, rfl, rfl, rfl, rfl, rfl, rfl, rfl, rfl, rfl, rfl, rfl⟩
set_option maxRecDepth 100000 in
theorem z_wd : ∀ j, G0.1 38 j = 0 ∧ G0.1 39 j = 0 ∧ G0.1 47 j = 0 ∧ G0.1 48 j = 0 ∧ G0.1 56 j = 0 ∧ G0.1 57 j = 0 ∧ G0.1 65 j = 0 ∧ G0.1 66 j = 0 := fun j => ⟨rfl, rfl, rfl, rfl, rfl, rfl, rfl, rfl⟩
set_option maxRecDepth 100000 in
theorem r_5 : ∀ j, G0.1 5 j = flR 12 60 (fun _ => 0) j := fun j => rfl
set_option maxRecDepth 100000 in
theorem r_6 : ∀ j, G0.1 6 j = flR 144 (-1) (fun _ => 0) j := fun j => rfl
set_option maxRecDepth 100000 in
theorem L_14 : ∀ j, G0.2.1 14 j = oR 1024 j := fun j => rfl
set_option maxRecDepth 100000 in
theorem L_106 : ∀ j, G0.2.1 106 j = 0 := fun j => rfl
theorem cl_1 : G0.1 3 4 = 1 ∧ G0.1 70 23 = 0 ∧ G0.1 8 7 = 0 ∧ G0.2.1 13 0 = 0 ∧ G0.1 18 6 = 0 ∧ G0.1 70 8 = 0 ∧ G0.1 18 7 = -1 ∧ G0.1 70 9 = -1 ∧ G0.1 24 3 = -1 ∧ G0.1 70 52 = -9 ∧ G0.1 70 53 = -9 ∧ G0.1 70 55 = 0 ∧ G0.1 70 32 = 0 ∧ G0.1 70 46 = 0 ∧ G0.1 70 1 = 0 := by decide +kernel
theorem cl_2 : ∀ w : Fin 4, (∀ j : Fin 8, G0.1 (32 + 9 * w.1) j.1 = plv j.1) ∧ G0.1 (32 + 9 * w.1) 8 = 0 ∧ G0.1 (31 + 9 * w.1) 1 = 0 ∧ G0.1 (31 + 9 * w.1) 2 = 0 ∧ G0.1 (31 + 9 * w.1) 3 = -1 ∧ G0.1 (31 + 9 * w.1) 5 = -1 ∧ G0.2.2 (31 + 9 * w.1) 0 = some (32 + 9 * w.1) := by decide +kernel
theorem cl_3 : G0.2.2 0 8 = some 26 := by decide +kernel
theorem F_73 : ∀ c, c < 12 → GF.1 73 c = 60 := by
  intro c hc
  unfold GF far0 g367 j367 g345 g316
  rw [sA_n (by decide), sA_n (by decide), sA_n (by decide), sA_n (by decide), sA_n (by decide), sA_n (by decide), sA_s]
  unfold flR
  rw [if_pos hc]
theorem F_73' : GF.1 73 = flR 12 60 (G0.1 73) := by
  unfold GF far0 g367 j367 g345 g316
  rw [sA_n (by decide), sA_n (by decide), sA_n (by decide), sA_n (by decide), sA_n (by decide), sA_n (by decide), sA_s]
theorem F_74 : GF.1 74 = flR 144 (-1) (G0.1 74) := by
  unfold GF far0 g367 j367 g345 g316
  rw [sA_n (by decide), sA_n (by decide), sA_n (by decide), sA_n (by decide), sA_s, sA_n (by decide), sA_n (by decide)]
theorem F_94 : ∀ w, w < 4 → GF.1 94 w = -1 ∧ GF.1 95 w = -1 := by
  intro w hw
  unfold GF far0 g367 j367 g345 g316
  rw [sA_n (by decide), sA_n (by decide), sA_n (by decide), sA_s, sA_n (a := 95) (by decide), sA_n (a := 95) (by decide), sA_s]
  unfold flR
  exact ⟨if_pos hw, if_pos hw⟩
theorem F_85 : ∀ j, j < 32 → GF.1 85 j = plv (j % 8) := by
  intro j hj
  unfold GF far0 g367 j367 g345 g316
  rw [sA_n (by decide), sA_s]
  unfold plR
  rw [if_pos hj]
theorem F_75 : ∀ j, j < 144 → GF.1 75 j = mf (GF.1 74) j := by
  intro j hj
  obtain ⟨X, eX⟩ : ∃ X, X = g367 (g345 (g316 G0 12) 144) := ⟨_, rfl⟩
  have e : GF = far0 X := by rw [eX]; rfl
  have e74 : GF.1 74 = X.1 74 := by rw [e]; unfold far0; rw [sA_n (by decide)]
  rw [e74, e]
  unfold far0 mf
  rw [sA_s]
  exact ag1_M r0_ag 12 (by omega) j hj
theorem Inv_0 : Inv (vT 107) GF := by
  have hV : ShV (vT 107) := fun k hk => by unfold vT; rw [if_pos hk]
  obtain ⟨c1, c2, c3, c4, c5, c6, c7, c8, c9, c10, c11, c12, c13, c14, c15⟩ := cl_1
  have nn : ∀ a, (a ≠ 73 ∧ a ≠ 82 ∧ a ≠ 74 ∧ a ≠ 94 ∧ a ≠ 95 ∧ a ≠ 85 ∧ a ≠ 75) → GF.1 a = G0.1 a := fun a h => GF_n h
  have n70 := nn 70 (by decide)
  have w74 : ∀ j, j < 144 → GF.1 74 j = -1 := fun j hj => by rw [F_74]; unfold flR; rw [if_pos hj]
  refine ⟨hV, sR_0, ?_, ?_, ?_, ?_, ?_, ?_, ?_, 0, 0, ?_, ?_, ?_, ?_⟩
  · unfold RT
    rw [n70, nn 1 (by decide), nn 2 (by decide), nn 71 (by decide), c15]
    refine ⟨(z_row 1).1, by decide, by decide, ?_, fun j => ?_⟩
    · funext j
      rw [(z_row j).2.1, (z_row j).2.2.2.2.2.2.1]
    · rw [(z_row j).2.2.2.2.2.2.1]; decide
  · refine ⟨?_, ?_, ?_, fun c hc => ?_, fun c hc => ?_, fun j hj => Or.inl (w74 j hj), F_75, Or.inl ?_⟩
    · rw [nn 4 (by decide), nn 72 (by decide)]; funext j; rw [(z_row j).2.2.1, (z_row j).2.2.2.2.2.2.2.1]
    · rw [nn 5 (by decide), F_73']; funext j; rw [r_5 j]; unfold flR; rw [(z_row j).2.2.2.2.2.2.2.2.1]
    · rw [nn 6 (by decide), F_74]; funext j; rw [r_6 j]; unfold flR; rw [(z_row j).2.2.2.2.2.2.2.2.2.1]
    · rw [nn 72 (by decide), (z_row c).2.2.2.2.2.2.2.1]; decide
    · rw [F_73 c hc]; decide
    · rw [nn 3 (by decide)]; exact c1
  · refine ⟨fun p hp => ?_, ?_, Or.inl ⟨?_, ?_⟩⟩
    · rw [GF_L, L_14 p]; unfold oR; rw [if_pos hp]
    · rw [GF_L]; exact c4
    · rw [n70]; exact c2
    · rw [nn 8 (by decide)]; exact c3
  · unfold RF
    rw [n70, nn 18 (by decide), c5, c6, c7, c8]
    exact ⟨rfl, rfl⟩
  · refine ⟨fun i => if i = 4 then 26 else 32 + 9 * i, fun i hi => ?_, fun i j hi hj e => ?_, fun w hw => ?_, ?_, fun w hw => ?_⟩
    · unfold lawPl
      by_cases e : i = 4
      · simp [e]
      · simp only [e, if_false]; omega
    · simp only at e
      by_cases e1 : i = 4
      · by_cases e2 : j = 4
        · omega
        · rw [if_pos e1, if_neg e2] at e; omega
      · by_cases e2 : j = 4
        · rw [if_neg e1, if_pos e2] at e; omega
        · rw [if_neg e1, if_neg e2] at e; omega
    · rw [GF_L]
      simp only [show w ≠ 4 by omega, if_false]
      exact (cl_2 ⟨w, hw⟩).2.2.2.2.2.2
    · rw [GF_L]; exact cl_3
    · have k := cl_2 ⟨w, hw⟩
      simp only [show w ≠ 4 by omega, if_false]
      have f85 : ∀ j, j < 8 → GF.1 85 (8 * w + j) = plv j := fun j hj => by rw [F_85 _ (by omega), show (8 * w + j) % 8 = j by omega]
      have f850 : GF.1 85 (8 * w) = plv 0 := f85 0 (by decide)
      refine ⟨fun j hj => ?_, ⟨0, by decide, ?_, ?_, fun i hi => absurd hi (by omega)⟩, ?_⟩
      · rw [f85 j hj, nn _ (by omega)]
        exact k.1 ⟨j, hj⟩
      · rw [nn _ (by omega)]; exact k.2.1
      · rw [nn 87 (by decide)]; exact (z_row w).2.2.2.2.2.2.2.2.2.2.1
      · rw [f850, f85 1 (by decide), f85 2 (by decide), f85 3 (by decide), f85 4 (by decide), f85 5 (by decide), f85 6 (by decide), f85 7 (by decide)]
        decide
  · left
    rw [n70, nn 24 (by decide)]
    exact ⟨c9, c10, c11⟩
  · left
    rw [n70, GF_L]
    exact ⟨c12, L_106⟩
  · refine ⟨by decide, ?_, ?_, fun i hi => absurd hi (by omega), fun i _ hi => ⟨?_, ?_, ?_, ?_⟩⟩
    · rw [nn 20 (by decide)]; exact (z_row 1).2.2.2.2.1
    · rw [n70]; exact c13
    · unfold vT; rw [if_neg (by omega)]
    · rw [nn 90 (by decide)]; exact (z_row i).2.2.2.2.2.2.2.2.2.2.2.1
    · rw [nn 91 (by decide)]; exact (z_row i).2.2.2.2.2.2.2.2.2.2.2.2.1
    · rw [nn 93 (by decide)]; exact (z_row i).2.2.2.2.2.2.2.2.2.2.2.2.2.1
  · intro w hw
    have k := (cl_2 ⟨w, hw⟩).2.2
    obtain ⟨a1, a2⟩ := F_94 w hw
    unfold RY1
    rw [nn (31 + 9 * w) (by omega), nn 100 (by decide), a1, a2, nn (31 + 9 * w + 7) (by omega), nn (31 + 9 * w + 8) (by omega)]
    refine ⟨by rw [(z_row w).2.2.2.2.2.2.2.2.2.2.2.2.2.2]; exact k.1, k.2.2.1, k.2.2.2.1, by decide, by decide, Or.inl ⟨rfl, fun t _ => ?_⟩⟩
    have q := z_wd t
    rcases (show w = 0 ∨ w = 1 ∨ w = 2 ∨ w = 3 by omega) with rfl | rfl | rfl | rfl
    · exact ⟨q.1, q.2.1⟩
    · exact ⟨q.2.2.1, q.2.2.2.1⟩
    · exact ⟨q.2.2.2.2.1, q.2.2.2.2.2.1⟩
    · exact ⟨q.2.2.2.2.2.2.1, q.2.2.2.2.2.2.2⟩
  · refine ⟨by decide, ?_, ?_, fun i hi => absurd hi (by omega), fun i _ _ => ?_, fun w hw => ?_⟩
    · rw [nn 22 (by decide)]; exact (z_row 1).2.2.2.2.2.1
    · rw [n70]; exact c14
    · unfold vT; rw [if_neg (by omega)]
    · rw [nn (31 + 9 * w) (by omega)]; exact (cl_2 ⟨w, hw⟩).2.2.2.1
  · intro a j r e
    rw [GF_L] at e
    exact Or.inl (St_3.1 a j r e).2
theorem start_ok : r_X11_init (newV V00 0 (11, 0)) 0 (newG g00 0) = some ((), vT 67, G1) ∧ vT 67 0 ≠ none ∧ frK (vT 67) G1 70 ∧ r_X12_init (newV (vT 67) 70 (12, 0)) 70 (newG G1 70) = some ((), vT 107, GF) := by
  have e1 : newV V00 0 (11, 0) = vT 1 := by
    funext a
    unfold newV V00 vT
    by_cases e : a = 0
    · rw [if_pos e, if_pos (by omega), e]; rfl
    · rw [if_neg e, if_neg (by omega)]
  have e2 : newG g00 0 = g00 := by
    refine Prod.ext ?_ (Prod.ext ?_ ?_)
    · funext a j; show upr g00.1 0 _ a j = _; rw [upr_at]; split <;> rfl
    · funext a j; show upr g00.2.1 0 _ a j = _; rw [upr_at]; split <;> rfl
    · funext a j; show upr g00.2.2 0 _ a j = _; rw [upr_at]; split <;> rfl
  have s70 : St 70 G1 := ⟨fun a j r e => by have := St_1.1 a j r e; omega, fun a j e => St_1.2 a j (by omega)⟩
  refine ⟨by rw [e1, e2]; exact (i_X11_0 St_0).1, by decide, ⟨by decide, s70.fr.2⟩, ?_⟩
  rw [vT67, s70.nw]
  exact (i_X12 St_2 sR_0).1
