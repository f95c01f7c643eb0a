def e_X12 (g : Hq) : Hq := (sR (sI (sI (sR (sR (sR (sR (sR (sR (sR (sR (sR (sR (sR (sR (sR (sR (sR (sR (sR (sR (sR (sR (sR (sR (sR (sR (sR (sR (sR (sR (sR (sR (sR (sR (sR (sR (sI (sR g 70 0 (some 71)) 70 9 (-1)) 70 10 (some 72)) 70 11 (some 73)) 70 12 (some 74)) 70 13 (some 75)) 70 14 (some 76)) 70 16 (some 77)) 70 17 (some 78)) 70 18 (some 79)) 70 19 (some 80)) 70 20 (some 81)) 70 26 (some 82)) 70 27 (some 83)) 70 28 (some 84)) 70 29 (some 85)) 70 30 (some 86)) 70 31 (some 87)) 70 33 (some 88)) 70 34 (some 89)) 70 35 (some 90)) 70 36 (some 91)) 70 37 (some 92)) 70 38 (some 93)) 70 39 (some 94)) 70 40 (some 95)) 70 41 (some 96)) 70 42 (some 97)) 70 43 (some 98)) 70 44 (some 99)) 70 45 (some 100)) 70 47 (some 101)) 70 48 (some 102)) 70 49 (some 103)) 70 50 (some 104)) 70 51 (some 105)) 70 52 (-9)) 70 53 (-9)) 70 54 (some 106))
theorem sA_sI_ne {g : Hq} {k k2 j : Nat} {r : Nat → Int32} {v : Int32} (h : k ≠ k2) : sI (sA g k2 r) k j v = sA (sI g k j v) k2 r := by
  refine Prod.ext ?_ rfl
  funext a b
  show up2 (upr g.1 k2 r) k j v a b = upr (up2 g.1 k j v) k2 r a b
  rw [up2_at, upr_at, upr_at]
  by_cases e : a = k2
  · rw [if_pos e, if_pos e, if_neg (fun q => h (q.1.symm.trans e))]
  · rw [if_neg e, if_neg e, up2_at]
/-- the reference's plain laws -/
def plv : Nat → Int32
  | 0 => 21
  | 1 => 60
  | 2 => 7
  | 3 => 100
  | 4 => -1
  | 5 => -1
  | 6 => 0
  | _ => 4
def plR (m : Nat) (old : Nat → Int32) : Nat → Int32 := fun q => if q < m then plv (q % 8) else old q
theorem plR_0 {old : Nat → Int32} : plR 0 old = old := by funext j; unfold plR; rw [if_neg (by omega)]
theorem plR_s {m : Nat} {old : Nat → Int32} {v : Int32} (h : v = plv (m % 8)) : upd (plR m old) m v = plR (m + 1) old := by
  funext j
  show (if j = m then v else plR m old j) = _
  unfold plR
  by_cases e : j = m
  · rw [if_pos e, if_pos (by omega), h, e]
  · rw [if_neg e]
    by_cases l : j < m
    · rw [if_pos l, if_pos (by omega)]
    · rw [if_neg l, if_neg (by omega)]
theorem m_plain (V : Vk) (g : Hq) : ∀ j : Nat, j < 8 → r_X12_plain V (nI j) g = some (plv j, g) := by
  intro j hj
  unfold r_X12_plain
  have e : ∀ i, i < 8 → (nI j = nI i ↔ j = i) := fun i hi => nI_eq (by omega) (by omega)
  have e0 : (nI j = 0 ↔ j = 0) := e 0 (by decide)
  have e1 : (nI j = 1 ↔ j = 1) := e 1 (by decide)
  have e2 : (nI j = 2 ↔ j = 2) := e 2 (by decide)
  have e3 : (nI j = 3 ↔ j = 3) := e 3 (by decide)
  have e4 : (nI j = 4 ↔ j = 4) := e 4 (by decide)
  have e5 : (nI j = 5 ↔ j = 5) := e 5 (by decide)
  have e6 : (nI j = 6 ↔ j = 6) := e 6 (by decide)
  rcases (show j = 0 ∨ j = 1 ∨ j = 2 ∨ j = 3 ∨ j = 4 ∨ j = 5 ∨ j = 6 ∨ j = 7 by omega) with rfl | rfl | rfl | rfl | rfl | rfl | rfl | rfl
  · rw [brn_t (by decide)]; rfl
  · rw [brn_f (by decide), brn_t (by decide)]; rfl
  · rw [brn_f (by decide), brn_f (by decide), brn_t (by decide)]; rfl
  · rw [brn_f (by decide), brn_f (by decide), brn_f (by decide), brn_t (by decide)]; rfl
  · rw [brn_f (by decide), brn_f (by decide), brn_f (by decide), brn_f (by decide), brn_t (by decide)]; rfl
  · rw [brn_f (by decide), brn_f (by decide), brn_f (by decide), brn_f (by decide), brn_f (by decide), brn_t (by decide)]; rfl
  · rw [brn_f (by decide), brn_f (by decide), brn_f (by decide), brn_f (by decide), brn_f (by decide), brn_f (by decide), brn_t (by decide)]; rfl
  · rw [brn_f (by decide), brn_f (by decide), brn_f (by decide), brn_f (by decide), brn_f (by decide), brn_f (by decide), brn_f (by decide)]; rfl
def j367 (g : Hq) (w m : Nat) : Hq := sA (sA (sA g 94 (flR w (-1) (g.1 94))) 95 (flR w (-1) (g.1 95))) 85 (plR m (g.1 85))
theorem m_388 {V : Vk} {g : Hq} {w : Nat} (hV : ShV V) (hR : ShR g.2.2) (hw : w < 4) : lop (r_X12_init_388 V) (70, nI w, 0, j367 g (w + 1) (8 * w)) = some (.inl (70, nI (w + 1), j367 g (w + 1) (8 * (w + 1)))) := by
  refine run_for (f := r_X12_init_388 V) (fun j => (70, nI w, nI j, j367 g (w + 1) (8 * w + j))) 8 ?_ ?_ 8 0 (by omega)
  · intro j hj
    show r_X12_init_388' V 70 (nI w) (nI j) (j367 g (w + 1) (8 * w + j)) = some (.inl (70, nI w, nI (j + 1), j367 g (w + 1) (8 * w + (j + 1))))
    unfold r_X12_init_388'
    rw [brn_f (by rw [show (8 : Int32) = nI 8 from rfl]; exact nI_ge hj (by decide)), grd_t (v_70 hV), bind_ref (k := 85) (q_70_29 (R := (j367 g (w + 1) (8 * w + j)).2.2) hR), m_plain V _ j hj, bnd_some, i85, grd_t (ok_nI (n := 40) (t := 0) (v_85 hV) (by omega) (by decide)), cl_nI (by omega), nm_eq, nm_eq, nI_1]
    unfold j367
    rw [sA_sI, plR_s (by rw [show (8 * w + j) % 8 = j by omega])]
    rfl
  · show r_X12_init_388' V 70 (nI w) (nI 8) (j367 g (w + 1) (8 * w + 8)) = _
    unfold r_X12_init_388'
    rw [brn_t (by decide), nm_eq, nI_1]
    rfl
def g367 (g : Hq) : Hq := j367 g 4 32
def far0 (g : Hq) : Hq := sA g 75 (flM (r0 (g.1 74) (g.1 75) 144) 12)
theorem m_367 {V : Vk} {g : Hq} (hV : ShV V) (hR : ShR g.2.2) : lop (r_X12_init_367 V) (70, 0, g) = some ((), V, far0 (g367 g)) := by
  have e0 : ((70, (0 : Int32), g) : Nat × Int32 × Hq) = (70, nI 0, j367 g 0 (8 * 0)) := by
    unfold j367
    rw [flR_0, flR_0, sA_id, sA_id, plR_0, sA_id]
    rfl
  rw [e0]
  refine run_for (f := r_X12_init_367 V) (fun w => (70, nI w, j367 g w (8 * w))) 4 ?_ ?_ 4 0 (by omega)
  · intro w hw
    have ow : ∀ k, V k = some (100, 4) → okV V k 0 (nI w) := fun k e => ok_nI (n := 4) (t := 0) e hw (by decide)
    show r_X12_init_367' V 70 (nI w) (j367 g w (8 * w)) = some (.inl (70, nI (w + 1), j367 g (w + 1) (8 * (w + 1))))
    unfold r_X12_init_367'
    have hj : sI (sI (j367 g w (8 * w)) 94 w (-1)) 95 w (-1) = j367 g (w + 1) (8 * w) := by
      unfold j367
      rw [sA_sI_ne (k := 94) (k2 := 85) (by decide), sA_sI_ne (k := 94) (k2 := 95) (by decide), sA_sI, sA_sI_ne (k := 95) (k2 := 85) (by decide), sA_sI, flR_s, flR_s]
    rw [brn_f (by rw [show (4 : Int32) = nI 4 from rfl]; exact nI_ge hw (by decide)), grd_t (v_70 hV), bind_ref (k := 94) (q_70_39 (R := (j367 g w (8 * w)).2.2) hR), grd_t (ow 94 (v_94 hV)), cl_nI (by omega), nm_eq, bind_ref (k := 95) (q_70_40 (R := (sI (j367 g w (8 * w)) 94 w (-1)).2.2) hR), grd_t (ow 95 (v_95 hV)), nm_eq, hj]
    exact m_388 hV hR hw
  · show r_X12_init_367' V 70 (nI 4) (j367 g 4 (8 * 4)) = _
    unfold r_X12_init_367'
    rw [brn_t (by decide), grd_t (v_70 hV), m_makeFar (g := j367 g 4 (8 * 4)) hV hR, bnd_some]
    rfl
def g345 (g : Hq) (n : Nat) : Hq := sA g 74 (flR n (-1) (g.1 74))
theorem m_345 {V : Vk} {g : Hq} (hV : ShV V) (hR : ShR g.2.2) : lop (r_X12_init_345 V) (70, 0, g) = some ((), V, far0 (g367 (g345 g 144))) := by
  have e0 : ((70, (0 : Int32), g) : Nat × Int32 × Hq) = (70, nI 0, g345 g 0) := by
    unfold g345
    rw [flR_0, sA_id]
    rfl
  rw [e0]
  refine run_for (f := r_X12_init_345 V) (fun j => (70, nI j, g345 g j)) 144 ?_ ?_ 144 0 (by omega)
  · intro j hj
    show r_X12_init_345' V 70 (nI j) (g345 g j) = some (.inl (70, nI (j + 1), g345 g (j + 1)))
    unfold r_X12_init_345'
    rw [brn_f (by rw [show (144 : Int32) = nI 144 from rfl]; exact nI_ge hj (by decide)), grd_t (v_70 hV), bind_ref (k := 74) (q_70_12 (R := (g345 g j).2.2) hR), grd_t (ok_nI (n := 144) (t := 0) (v_74 hV) hj (by decide)), cl_nI (by omega), nm_eq, nm_eq, nI_1]
    unfold g345
    rw [sA_sI, flR_s]
  · show r_X12_init_345' V 70 (nI 144) (g345 g 144) = _
    unfold r_X12_init_345'
    rw [brn_t (by decide), m_367 (g := g345 g 144) hV hR]
    rfl
def g316 (g : Hq) (n : Nat) : Hq := sA (sA g 73 (flR n 60 (g.1 73))) 82 (flR n (-1) (g.1 82))
theorem m_316 {V : Vk} {g : Hq} (hV : ShV V) (hR : ShR g.2.2) : lop (r_X12_init_316 V) (70, 0, g) = some ((), V, far0 (g367 (g345 (g316 g 12) 144))) := by
  have e0 : ((70, (0 : Int32), g) : Nat × Int32 × Hq) = (70, nI 0, g316 g 0) := by
    unfold g316
    rw [flR_0, flR_0, sA_id, sA_id]
    rfl
  rw [e0]
  refine run_for (f := r_X12_init_316 V) (fun j => (70, nI j, g316 g j)) 12 ?_ ?_ 12 0 (by omega)
  · intro j hj
    have oj : ∀ k, V k = some (100, 12) → okV V k 0 (nI j) := fun k e => ok_nI (n := 12) (t := 0) e hj (by decide)
    show r_X12_init_316' V 70 (nI j) (g316 g j) = some (.inl (70, nI (j + 1), g316 g (j + 1)))
    unfold r_X12_init_316'
    rw [brn_f (by rw [show (12 : Int32) = nI 12 from rfl]; exact nI_ge hj (by decide)), grd_t (v_70 hV), bind_ref (k := 73) (q_70_11 (R := (g316 g j).2.2) hR), grd_t (oj 73 (v_73 hV)), cl_nI (by omega), nm_eq, bind_ref (k := 82) (q_70_26 (R := (sI (g316 g j) 73 j 60).2.2) hR), grd_t (oj 82 (v_82 hV)), nm_eq, nm_eq, nI_1]
    unfold g316
    rw [sA_sI_ne (k := 73) (k2 := 82) (by decide), sA_sI, sA_sI, flR_s, flR_s]
  · show r_X12_init_316' V 70 (nI 12) (g316 g 12) = _
    unfold r_X12_init_316'
    rw [brn_t (by decide), m_345 (g := g316 g 12) hV hR]
    rfl
set_option maxHeartbeats 4000000 in
set_option maxRecDepth 100000 in
theorem i_X12 {g : Hq} (h : St 71 g) (hR : ShR (e_X12 g).2.2) : r_X12_init (vT 71) 70 g = some ((), vT 107, far0 (g367 (g345 (g316 (e_X12 g) 12) 144))) ∧ St 107 (e_X12 g) := by
  have h1 := h.al
  have h2 := h1.sr (k := 70) (j := 0) (r := 71) (by decide) (by decide)
  have h3 := h2.si (k := 70) (j := 9) (v := -1) (by decide)
  have h4 := h3.al
  have h5 := h4.sr (k := 70) (j := 10) (r := 72) (by decide) (by decide)
  have h6 := h5.al
  have h7 := h6.sr (k := 70) (j := 11) (r := 73) (by decide) (by decide)
  have h8 := h7.al
  have h9 := h8.sr (k := 70) (j := 12) (r := 74) (by decide) (by decide)
  have h10 := h9.al
  have h11 := h10.sr (k := 70) (j := 13) (r := 75) (by decide) (by decide)
  have h12 := h11.al
  have h13 := h12.sr (k := 70) (j := 14) (r := 76) (by decide) (by decide)
  have h14 := h13.al
  have h15 := h14.sr (k := 70) (j := 16) (r := 77) (by decide) (by decide)
  have h16 := h15.al
  have h17 := h16.sr (k := 70) (j := 17) (r := 78) (by decide) (by decide)
  have h18 := h17.al
  have h19 := h18.sr (k := 70) (j := 18) (r := 79) (by decide) (by decide)
  have h20 := h19.al
  have h21 := h20.sr (k := 70) (j := 19) (r := 80) (by decide) (by decide)
  have h22 := h21.al
  have h23 := h22.sr (k := 70) (j := 20) (r := 81) (by decide) (by decide)
  have h24 := h23.al
  have h25 := h24.sr (k := 70) (j := 26) (r := 82) (by decide) (by decide)
  have h26 := h25.al
  have h27 := h26.sr (k := 70) (j := 27) (r := 83) (by decide) (by decide)
  have h28 := h27.al
  have h29 := h28.sr (k := 70) (j := 28) (r := 84) (by decide) (by decide)
  have h30 := h29.al
  have h31 := h30.sr (k := 70) (j := 29) (r := 85) (by decide) (by decide)
  have h32 := h31.al
  have h33 := h32.sr (k := 70) (j := 30) (r := 86) (by decide) (by decide)
  have h34 := h33.al
  have h35 := h34.sr (k := 70) (j := 31) (r := 87) (by decide) (by decide)
  have h36 := h35.al
  have h37 := h36.sr (k := 70) (j := 33) (r := 88) (by decide) (by decide)
  have h38 := h37.al
  have h39 := h38.sr (k := 70) (j := 34) (r := 89) (by decide) (by decide)
  have h40 := h39.al
  have h41 := h40.sr (k := 70) (j := 35) (r := 90) (by decide) (by decide)
  have h42 := h41.al
  have h43 := h42.sr (k := 70) (j := 36) (r := 91) (by decide) (by decide)
  have h44 := h43.al
  have h45 := h44.sr (k := 70) (j := 37) (r := 92) (by decide) (by decide)
  have h46 := h45.al
  have h47 := h46.sr (k := 70) (j := 38) (r := 93) (by decide) (by decide)
  have h48 := h47.al
  have h49 := h48.sr (k := 70) (j := 39) (r := 94) (by decide) (by decide)
  have h50 := h49.al
  have h51 := h50.sr (k := 70) (j := 40) (r := 95) (by decide) (by decide)
  have h52 := h51.al
  have h53 := h52.sr (k := 70) (j := 41) (r := 96) (by decide) (by decide)
  have h54 := h53.al
  have h55 := h54.sr (k := 70) (j := 42) (r := 97) (by decide) (by decide)
  have h56 := h55.al
  have h57 := h56.sr (k := 70) (j := 43) (r := 98) (by decide) (by decide)
  have h58 := h57.al
  have h59 := h58.sr (k := 70) (j := 44) (r := 99) (by decide) (by decide)
  have h60 := h59.al
  have h61 := h60.sr (k := 70) (j := 45) (r := 100) (by decide) (by decide)
  have h62 := h61.al
  have h63 := h62.sr (k := 70) (j := 47) (r := 101) (by decide) (by decide)
  have h64 := h63.al
  have h65 := h64.sr (k := 70) (j := 48) (r := 102) (by decide) (by decide)
  have h66 := h65.al
  have h67 := h66.sr (k := 70) (j := 49) (r := 103) (by decide) (by decide)
  have h68 := h67.al
  have h69 := h68.sr (k := 70) (j := 50) (r := 104) (by decide) (by decide)
  have h70 := h69.al
  have h71 := h70.sr (k := 70) (j := 51) (r := 105) (by decide) (by decide)
  have h72 := h71.si (k := 70) (j := 52) (v := -9) (by decide)
  have h73 := h72.si (k := 70) (j := 53) (v := -9) (by decide)
  have h74 := h73.al
  have h75 := h74.sr (k := 70) (j := 54) (r := 106) (by decide) (by decide)
  refine ⟨?_, h75⟩
  have hV : ShV (vT 107) := fun k hk => by unfold vT; rw [if_pos hk]
  unfold r_X12_init
  simp only [Nat.reduceAdd]
  rw [nm_eq, grd_t h.fr, grd_t (by decide), nm_eq, vT_nv (n := 71) rfl, nm_eq, h.nw, grd_t (by decide), nm_eq, nm_eq, nm_eq, grd_t h3.fr, grd_t (by decide), nm_eq, vT_nv (n := 72) rfl, nm_eq, h3.nw, grd_t (by decide), nm_eq, nm_eq, grd_t h5.fr, grd_t (by decide), nm_eq, vT_nv (n := 73) rfl, nm_eq, h5.nw, grd_t (by decide), nm_eq, nm_eq, grd_t h7.fr, grd_t (by decide), nm_eq, vT_nv (n := 74) rfl, nm_eq, h7.nw, grd_t (by decide), nm_eq, nm_eq, grd_t h9.fr, grd_t (by decide), nm_eq, vT_nv (n := 75) rfl, nm_eq, h9.nw, grd_t (by decide), nm_eq, nm_eq, grd_t h11.fr, grd_t (by decide), nm_eq, vT_nv (n := 76) rfl, nm_eq, h11.nw, grd_t (by decide), nm_eq, nm_eq, grd_t h13.fr, grd_t (by decide), nm_eq, vT_nv (n := 77) rfl, nm_eq, h13.nw, grd_t (by decide), nm_eq, nm_eq, grd_t h15.fr, grd_t (by decide), nm_eq, vT_nv (n := 78) rfl, nm_eq, h15.nw, grd_t (by decide), nm_eq, nm_eq, grd_t h17.fr, grd_t (by decide), nm_eq, vT_nv (n := 79) rfl, nm_eq, h17.nw, grd_t (by decide), nm_eq, nm_eq, grd_t h19.fr, grd_t (by decide), nm_eq, vT_nv (n := 80) rfl, nm_eq, h19.nw, grd_t (by decide), nm_eq, nm_eq, grd_t h21.fr, grd_t (by decide), nm_eq, vT_nv (n := 81) rfl, nm_eq, h21.nw, grd_t (by decide), nm_eq, nm_eq, grd_t h23.fr, grd_t (by decide), nm_eq, vT_nv (n := 82) rfl, nm_eq, h23.nw, grd_t (by decide), nm_eq, nm_eq, grd_t h25.fr, grd_t (by decide), nm_eq, vT_nv (n := 83) rfl, nm_eq, h25.nw, grd_t (by decide), nm_eq, nm_eq, grd_t h27.fr, grd_t (by decide), nm_eq, vT_nv (n := 84) rfl, nm_eq, h27.nw, grd_t (by decide), nm_eq, nm_eq, grd_t h29.fr, grd_t (by decide), nm_eq, vT_nv (n := 85) rfl, nm_eq, h29.nw, grd_t (by decide), nm_eq, nm_eq, grd_t h31.fr, grd_t (by decide), nm_eq, vT_nv (n := 86) rfl, nm_eq, h31.nw, grd_t (by decide), nm_eq, nm_eq, grd_t h33.fr, grd_t (by decide), nm_eq, vT_nv (n := 87) rfl, nm_eq, h33.nw, grd_t (by decide), nm_eq, nm_eq, grd_t h35.fr, grd_t (by decide), nm_eq, vT_nv (n := 88) rfl, nm_eq, h35.nw, grd_t (by decide), nm_eq, nm_eq, grd_t h37.fr, grd_t (by decide), nm_eq, vT_nv (n := 89) rfl, nm_eq, h37.nw, grd_t (by decide), nm_eq, nm_eq, grd_t h39.fr, grd_t (by decide), nm_eq, vT_nv (n := 90) rfl, nm_eq, h39.nw, grd_t (by decide), nm_eq, nm_eq, grd_t h41.fr, grd_t (by decide), nm_eq, vT_nv (n := 91) rfl, nm_eq, h41.nw, grd_t (by decide), nm_eq, nm_eq, grd_t h43.fr, grd_t (by decide), nm_eq, vT_nv (n := 92) rfl, nm_eq, h43.nw, grd_t (by decide), nm_eq, nm_eq, grd_t h45.fr, grd_t (by decide), nm_eq, vT_nv (n := 93) rfl, nm_eq, h45.nw, grd_t (by decide), nm_eq, nm_eq, grd_t h47.fr, grd_t (by decide), nm_eq, vT_nv (n := 94) rfl, nm_eq, h47.nw, grd_t (by decide), nm_eq, nm_eq, grd_t h49.fr, grd_t (by decide), nm_eq, vT_nv (n := 95) rfl, nm_eq, h49.nw, grd_t (by decide), nm_eq, nm_eq, grd_t h51.fr, grd_t (by decide), nm_eq, vT_nv (n := 96) rfl, nm_eq, h51.nw, grd_t (by decide), nm_eq, nm_eq, grd_t h53.fr, grd_t (by decide), nm_eq, vT_nv (n := 97) rfl, nm_eq, h53.nw, grd_t (by decide), nm_eq, nm_eq, grd_t h55.fr, grd_t (by decide), nm_eq, vT_nv (n := 98) rfl, nm_eq, h55.nw, grd_t (by decide), nm_eq, nm_eq, grd_t h57.fr, grd_t (by decide), nm_eq, vT_nv (n := 99) rfl, nm_eq, h57.nw, grd_t (by decide), nm_eq, nm_eq, grd_t h59.fr, grd_t (by decide), nm_eq, vT_nv (n := 100) rfl, nm_eq, h59.nw, grd_t (by decide), nm_eq, nm_eq, grd_t h61.fr, grd_t (by decide), nm_eq, vT_nv (n := 101) rfl, nm_eq, h61.nw, grd_t (by decide), nm_eq, nm_eq, grd_t h63.fr, grd_t (by decide), nm_eq, vT_nv (n := 102) rfl, nm_eq, h63.nw, grd_t (by decide), nm_eq, nm_eq, grd_t h65.fr, grd_t (by decide), nm_eq, vT_nv (n := 103) rfl, nm_eq, h65.nw, grd_t (by decide), nm_eq, nm_eq, grd_t h67.fr, grd_t (by decide), nm_eq, vT_nv (n := 104) rfl, nm_eq, h67.nw, grd_t (by decide), nm_eq, nm_eq, grd_t h69.fr, grd_t (by decide), nm_eq, vT_nv (n := 105) rfl, nm_eq, h69.nw, grd_t (by decide), nm_eq, nm_eq, nm_eq, nm_eq, grd_t h73.fr, grd_t (by decide), nm_eq, vT_nv (n := 106) rfl, nm_eq, h73.nw, grd_t (by decide), nm_eq]
  exact m_316 (g := e_X12 g) hV hR
