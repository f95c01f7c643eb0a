def moC (f : Nat → Int32) : Nat → Nat
  | 0 => 0
  | i + 1 => moC f i + if f i = 0 then 1 else 0
theorem moC_le (f : Nat → Int32) : ∀ c, moC f c ≤ c := by
  intro c
  induction c with
  | zero => exact Nat.le_refl 0
  | succ c ih => unfold moC; split <;> omega
theorem moC_cg {f f2 : Nat → Int32} : ∀ c, (∀ i, i < c → f2 i = f i) → moC f2 c = moC f c := by
  intro c
  induction c with
  | zero => intro _; rfl
  | succ c ih => intro h; unfold moC; rw [ih (fun i hi => h i (by omega)), h c (by omega)]
def bx (g : Hq) (c : Nat) : Hq := (fun a j => if (300 ≤ a ∧ a < 300 + c) ∧ j = 3 ∧ g.1 a 3 = 0 then 3 else g.1 a j, g.2)
def bm (g : Hq) (c : Nat) : Hq := (fun a j => if a = 104 ∧ j < c ∧ g.1 104 j = 0 then 3 else g.1 a j, g.2)
theorem bx_s {g : Hq} {i : Nat} (h : g.1 (300 + i) 3 = 0) : sI (bx g i) (300 + i) 3 3 = bx g (i + 1) := by
  unfold bx
  refine Prod.ext ?_ rfl
  funext a j
  show up2 _ (300 + i) 3 3 a j = _
  rw [up2_at]
  by_cases e : a = 300 + i ∧ j = 3
  · obtain ⟨rfl, rfl⟩ := e
    rw [if_pos ⟨rfl, rfl⟩]
    show _ = if (300 ≤ 300 + i ∧ 300 + i < 300 + (i + 1)) ∧ 3 = 3 ∧ g.1 (300 + i) 3 = 0 then 3 else _
    rw [if_pos ⟨⟨by omega, by omega⟩, rfl, h⟩]
  · rw [if_neg e]
    show (if (300 ≤ a ∧ a < 300 + i) ∧ j = 3 ∧ g.1 a 3 = 0 then 3 else g.1 a j) = if (300 ≤ a ∧ a < 300 + (i + 1)) ∧ j = 3 ∧ g.1 a 3 = 0 then 3 else g.1 a j
    by_cases k : (300 ≤ a ∧ a < 300 + i) ∧ j = 3 ∧ g.1 a 3 = 0
    · rw [if_pos k, if_pos ⟨⟨k.1.1, by omega⟩, k.2⟩]
    · rw [if_neg k, if_neg]
      rintro ⟨⟨k1, k2⟩, k3, k4⟩
      by_cases e2 : a = 300 + i
      · exact e ⟨e2, k3⟩
      · exact k ⟨⟨k1, by omega⟩, k3, k4⟩
theorem bx_n {g : Hq} {i : Nat} (h : ¬ g.1 (300 + i) 3 = 0) : bx g (i + 1) = bx g i := by
  unfold bx
  refine Prod.ext ?_ rfl
  funext a j
  show (if (300 ≤ a ∧ a < 300 + (i + 1)) ∧ j = 3 ∧ g.1 a 3 = 0 then 3 else g.1 a j) = if (300 ≤ a ∧ a < 300 + i) ∧ j = 3 ∧ g.1 a 3 = 0 then 3 else g.1 a j
  by_cases k : (300 ≤ a ∧ a < 300 + i) ∧ j = 3 ∧ g.1 a 3 = 0
  · rw [if_pos k, if_pos ⟨⟨k.1.1, by omega⟩, k.2⟩]
  · rw [if_neg k, if_neg]
    rintro ⟨⟨k1, k2⟩, k3, k4⟩
    by_cases e2 : a = 300 + i
    · subst e2; exact h k4
    · exact k ⟨⟨k1, by omega⟩, k3, k4⟩
theorem bm_s {g : Hq} {i : Nat} (h : g.1 104 i = 0) : sI (bm g i) 104 i 3 = bm g (i + 1) := by
  unfold bm
  refine Prod.ext ?_ rfl
  funext a j
  show up2 _ 104 i 3 a j = _
  rw [up2_at]
  by_cases e : a = 104 ∧ j = i
  · obtain ⟨rfl, rfl⟩ := e
    rw [if_pos ⟨rfl, rfl⟩]
    show _ = if 104 = 104 ∧ j < j + 1 ∧ g.1 104 j = 0 then 3 else _
    rw [if_pos ⟨rfl, by omega, h⟩]
  · rw [if_neg e]
    show (if a = 104 ∧ j < i ∧ g.1 104 j = 0 then 3 else g.1 a j) = if a = 104 ∧ j < i + 1 ∧ g.1 104 j = 0 then 3 else g.1 a j
    by_cases k : a = 104 ∧ j < i ∧ g.1 104 j = 0
    · rw [if_pos k, if_pos ⟨k.1, by omega, k.2.2⟩]
    · rw [if_neg k, if_neg]
      rintro ⟨k1, k2, k3⟩
      by_cases e2 : j = i
      · exact e ⟨k1, e2⟩
      · exact k ⟨k1, by omega, k3⟩
theorem bm_n {g : Hq} {i : Nat} (h : ¬ g.1 104 i = 0) : bm g (i + 1) = bm g i := by
  unfold bm
  refine Prod.ext ?_ rfl
  funext a j
  show (if a = 104 ∧ j < i + 1 ∧ g.1 104 j = 0 then 3 else g.1 a j) = if a = 104 ∧ j < i ∧ g.1 104 j = 0 then 3 else g.1 a j
  by_cases k : a = 104 ∧ j < i ∧ g.1 104 j = 0
  · rw [if_pos k, if_pos ⟨k.1, by omega, k.2.2⟩]
  · rw [if_neg k, if_neg]
    rintro ⟨k1, k2, k3⟩
    by_cases e2 : j = i
    · subst e2; exact h k3
    · exact k ⟨k1, by omega, k3⟩
theorem bx_0 (g : Hq) : bx g 0 = g := by
  unfold bx
  refine Prod.ext ?_ rfl
  funext a j
  show (if (300 ≤ a ∧ a < 300 + 0) ∧ j = 3 ∧ g.1 a 3 = 0 then 3 else g.1 a j) = g.1 a j
  rw [if_neg (by omega)]
theorem bm_0 (g : Hq) : bm g 0 = g := by
  unfold bm
  refine Prod.ext ?_ rfl
  funext a j
  show (if a = 104 ∧ j < 0 ∧ g.1 104 j = 0 then 3 else g.1 a j) = g.1 a j
  rw [if_neg (by omega)]
theorem bx_x {g : Hq} {c a : Nat} (h : a < 300) : (bx g c).1 a = g.1 a := by
  funext j
  show (if (300 ≤ a ∧ a < 300 + c) ∧ j = 3 ∧ g.1 a 3 = 0 then 3 else g.1 a j) = g.1 a j
  rw [if_neg (by omega)]
theorem bx_at {g : Hq} {c i j : Nat} : (bx g c).1 (300 + i) j = if i < c ∧ j = 3 ∧ g.1 (300 + i) 3 = 0 then 3 else g.1 (300 + i) j := by
  show (if (300 ≤ 300 + i ∧ 300 + i < 300 + c) ∧ j = 3 ∧ g.1 (300 + i) 3 = 0 then 3 else g.1 (300 + i) j) = _
  by_cases k : i < c ∧ j = 3 ∧ g.1 (300 + i) 3 = 0
  · rw [if_pos k, if_pos ⟨⟨by omega, by omega⟩, k.2⟩]
  · rw [if_neg k, if_neg]
    rintro ⟨⟨k1, k2⟩, k3⟩
    exact k ⟨by omega, k3⟩
theorem bm_x {g : Hq} {c a : Nat} (h : a ≠ 104) : (bm g c).1 a = g.1 a := by
  funext j
  show (if a = 104 ∧ j < c ∧ g.1 104 j = 0 then 3 else g.1 a j) = g.1 a j
  rw [if_neg (fun k => h k.1)]
theorem p_bringAll {V : Vk} {g : Hq} {c : Nat} (hV : ShV V) (hR : ShR g.2.2) (hc : c ≤ 100) (e1 : g.1 22 1 = nI c) (hr : ∀ i, i < c → g.2.2 23 i = some (300 + i) ∧ V (300 + i) = some (0, 0)) : r_X5_bringAll V 22 g = some (nI (moC (fun i => g.1 (300 + i) 3) c), bx g c) := by
  unfold r_X5_bringAll
  have e0 : ((22, (0 : Int32), (0 : Int32), g) : Nat × Int32 × Int32 × Hq) = (22, nI (moC (fun i => g.1 (300 + i) 3) 0), nI 0, bx g 0) := by rw [bx_0]; rfl
  rw [e0]
  refine run_for (f := r_X5_bringAll_4 V) (fun i => (22, nI (moC (fun i => g.1 (300 + i) 3) i), nI i, bx g i)) c ?_ ?_ c 0 (by omega)
  · intro i hi
    obtain ⟨r1, r2⟩ := hr i hi
    have o1 : okV V 23 6 (nI i) := ok_nI (n := 100) (v_23 hV) (by omega) (by decide)
    have e3 : (bx g i).1 (300 + i) 3 = g.1 (300 + i) 3 := by rw [bx_at, if_neg (by omega)]
    show r_X5_bringAll_4' V 22 (nI (moC _ i)) (nI i) (bx g i) = some (.inl (22, nI (moC _ (i + 1)), nI (i + 1), bx g (i + 1)))
    unfold r_X5_bringAll_4'
    rw [grd_t (v_22 hV), bx_x (by decide), e1, brn_f (nI_ge hi (by omega)), show (bx g i).2.2 = g.2.2 from rfl, q_22_0 hR, bind_some', grd_t o1, cl_nI (by omega), r1, bind_some', grd_t r2, e3]
    rw [show moC (fun i => g.1 (300 + i) 3) (i + 1) = moC (fun i => g.1 (300 + i) 3) i + (if g.1 (300 + i) 3 = 0 then 1 else 0) from rfl]
    by_cases s0 : g.1 (300 + i) 3 = 0
    · rw [brn_t s0, bind_some', grd_t o1, r1, bind_some', grd_t r2, nm_eq, nm_eq, nm_eq, nI_1, nI_1, bx_s s0, if_pos s0]
    · rw [brn_f s0, nm_eq, nI_1, bx_n s0, if_neg s0]; rfl
  · show r_X5_bringAll_4' V 22 (nI (moC _ c)) (nI c) (bx g c) = _
    unfold r_X5_bringAll_4'
    rw [grd_t (v_22 hV), bx_x (by decide), e1, brn_t (nI_le (Nat.le_refl c) (by omega))]
theorem m_morning {V : Vk} {g : Hq} {c : Nat} (hV : ShV V) (hR : ShR g.2.2) (hc : c ≤ 100) (e1 : g.1 70 46 = nI c) : r_X12_morning V 70 g = some (nI (moC (g.1 104) c), bm g c) := by
  unfold r_X12_morning
  have e0 : ((70, (0 : Int32), (0 : Int32), g) : Nat × Int32 × Int32 × Hq) = (70, nI (moC (g.1 104) 0), nI 0, bm g 0) := by rw [bm_0]; rfl
  rw [e0]
  refine run_for (f := r_X12_morning_4 V) (fun i => (70, nI (moC (g.1 104) i), nI i, bm g i)) c ?_ ?_ c 0 (by omega)
  · intro i hi
    have o1 : okV V 104 0 (nI i) := ok_nI (n := 100) (v_104 hV) (by omega) (by decide)
    have e3 : (bm g i).1 104 i = g.1 104 i := by
      show (if 104 = 104 ∧ i < i ∧ g.1 104 i = 0 then 3 else g.1 104 i) = _
      rw [if_neg (by omega)]
    show r_X12_morning_4' V 70 (nI (moC _ i)) (nI i) (bm g i) = some (.inl (70, nI (moC _ (i + 1)), nI (i + 1), bm g (i + 1)))
    unfold r_X12_morning_4'
    rw [grd_t (v_70 hV), bm_x (by decide), e1, brn_f (nI_ge hi (by omega)), show (bm g i).2.2 = g.2.2 from rfl, q_70_50 hR, bind_some', grd_t o1, cl_nI (by omega), e3]
    rw [show moC (g.1 104) (i + 1) = moC (g.1 104) i + (if g.1 104 i = 0 then 1 else 0) from rfl]
    by_cases s0 : g.1 104 i = 0
    · rw [brn_t s0, bind_some', grd_t o1, nm_eq, nm_eq, nm_eq, nI_1, nI_1, bm_s s0, if_pos s0]
    · rw [brn_f s0, nm_eq, nI_1, bm_n s0, if_neg s0]; rfl
  · show r_X12_morning_4' V 70 (nI (moC _ c)) (nI c) (bm g c) = _
    unfold r_X12_morning_4'
    rw [grd_t (v_70 hV), bm_x (by decide), e1, brn_t (nI_le (Nat.le_refl c) (by omega))]
def z4 (g : Hq) : Hq := sI (sI (sI (sI g 31 2 0) 40 2 0) 49 2 0) 58 2 0
theorem z4_x {g : Hq} {a j : Nat} (h : j ≠ 2 ∨ (a ≠ 31 ∧ a ≠ 40 ∧ a ≠ 49 ∧ a ≠ 58)) : (z4 g).1 a j = g.1 a j := by
  unfold z4
  simp only [sI_1]
  rw [up2_ne _ _ (by omega), up2_ne _ _ (by omega), up2_ne _ _ (by omega), up2_ne _ _ (by omega)]
theorem z4_0 {g : Hq} {w : Nat} (hw : w < 4) : (z4 g).1 (31 + 9 * w) 2 = 0 := by
  unfold z4
  simp only [sI_1, up2_at]
  rcases (show w = 0 ∨ w = 1 ∨ w = 2 ∨ w = 3 by omega) with rfl | rfl | rfl | rfl <;> simp
theorem p_morning {V : Vk} {g : Hq} {c : Nat} (hV : ShV V) (hR : ShR g.2.2) (hc : c ≤ 100) (e1 : g.1 22 1 = nI c) (hr : ∀ i, i < c → g.2.2 23 i = some (300 + i) ∧ V (300 + i) = some (0, 0)) : r_X11_morning V 0 g = some (nI (moC (fun i => g.1 (300 + i) 3) c), bx (z4 g) c) := by
  have st : ∀ (w : Nat) (g' : Hq), w < 4 → g'.2.2 = g.2.2 → r_X11_morning_2 V (0, nI w, g') = some (.inl (0, nI (w + 1), sI g' (31 + 9 * w) 2 0)) := by
    intro w g' hw e
    show r_X11_morning_2' V 0 (nI w) g' = _
    unfold r_X11_morning_2'
    rw [brn_f (by rw [show (4 : Int32) = nI 4 from rfl]; exact nI_ge hw (by decide)), grd_t (v_0 hV), e, q_0_4 hR, bind_some', grd_t (ok_nI (v_19 hV) hw (by decide)), cl_nI (by omega), sh_w hR hw, bind_some', grd_t (sh_vw hV hw), nm_eq, nm_eq, nI_1]
  have hb := p_bringAll (g := z4 g) hV hR hc (by rw [z4_x (by omega)]; exact e1) hr
  unfold r_X11_morning
  refine (lop_l (st 0 g (by decide) rfl)).trans ?_
  refine (lop_l (st 1 (sI g 31 2 0) (by decide) rfl)).trans ?_
  refine (lop_l (st 2 (sI (sI g 31 2 0) 40 2 0) (by decide) rfl)).trans ?_
  refine (lop_l (st 3 (sI (sI (sI g 31 2 0) 40 2 0) 49 2 0) (by decide) rfl)).trans ?_
  refine lop_r ?_
  show r_X11_morning_2' V 0 (nI 4) (z4 g) = _
  unfold r_X11_morning_2'
  rw [brn_t (by decide), grd_t (v_0 hV), show (z4 g).2.2 = g.2.2 from rfl, q_0_6 hR, bind_some', grd_t (v_22 hV), hb, bnd_some]
  rw [moC_cg (f := fun i => g.1 (300 + i) 3) (f2 := fun i => (z4 g).1 (300 + i) 3) c (fun i _ => z4_x (by omega))]
def sY2 (a : Nat) : Prop := (37 ≤ a ∧ a ≤ 39) ∨ (46 ≤ a ∧ a ≤ 48) ∨ (55 ≤ a ∧ a ≤ 57) ∨ (64 ≤ a ∧ a ≤ 66) ∨ (94 ≤ a ∧ a ≤ 100)
theorem cgY2 {I I2 : Nat → Nat → Int32} {n w : Nat} (hw : w < 4) (h : RY1 I n w) (e : ∀ a, sY2 a → I2 a = I a) (e1 : I2 (31 + 9 * w) 1 = I (31 + 9 * w) 1) (e3 : I2 (31 + 9 * w) 3 = I (31 + 9 * w) 3) (e4 : I2 (31 + 9 * w) 4 = I (31 + 9 * w) 4) (e5 : I2 (31 + 9 * w) 5 = I (31 + 9 * w) 5) : RY1 I2 n w := by
  unfold RY1 at h ⊢
  rw [e1, e3, e4, e5, e (31 + 9 * w + 6) (by unfold sY2; omega), e (31 + 9 * w + 7) (by unfold sY2; omega), e (31 + 9 * w + 8) (by unfold sY2; omega), e 94 (by simp [sY2]), e 95 (by simp [sY2]), e 96 (by simp [sY2]), e 97 (by simp [sY2]), e 98 (by simp [sY2]), e 99 (by simp [sY2]), e 100 (by simp [sY2])]
  exact h
theorem lyC_0 {I : Nat → Nat → Int32} {w : Nat} : ∀ c, (∀ i, i < c → ¬ I 104 i = 0) → lyC I w c = 0 := by
  intro c
  induction c with
  | zero => intro _; rfl
  | succ c ih => intro h; unfold lyC; rw [ih (fun i hi => h i (by omega)), if_neg (fun k => h c (by omega) k.1)]
def pM (a : Nat) : Prop := (300 ≤ a ∧ a < 400) ∨ a = 31 ∨ a = 40 ∨ a = 49 ∨ a = 58 ∨ a = 104
def qM (j : Nat) : Prop := False
theorem op_morning {V : Vk} {g : Hq} (h : Inv V g) : Op V g (r_X11_morning V 0) (r_X12_morning V 70) := by
  obtain ⟨-, -, -, -, -, -, -, -, -, n, c, hh, hy, hn, -⟩ := id h
  obtain ⟨n1, n2, n3, n4, n5, n6⟩ := hn
  have e46 : (bx (z4 g) c).1 70 46 = nI c := by rw [bx_x (by decide), z4_x (by omega)]; exact n3
  have e104 : (bx (z4 g) c).1 104 = g.1 104 := by rw [bx_x (by decide)]; funext j; exact z4_x (by omega)
  have ec : moC (fun i => g.1 (300 + i) 3) c = moC (g.1 104) c := moC_cg c (fun i hi => (n4 i hi).2.2.2.2.2.1)
  refine ⟨nI (moC (g.1 104) c), bx (z4 g) c, bm (bx (z4 g) c) c, ?_, ?_, ?_⟩
  · rw [p_morning h.v h.r n1 n2 (fun i hi => ⟨(n4 i hi).1, (n4 i hi).2.1⟩), ec]
  · rw [m_morning (g := bx (z4 g) c) h.v h.r n1 e46, e104]
  · have ex : ∀ a j, ¬ (300 ≤ a ∧ a < 400) → a ≠ 104 → (j ≠ 2 ∨ (a ≠ 31 ∧ a ≠ 40 ∧ a ≠ 49 ∧ a ≠ 58)) → (bm (bx (z4 g) c) c).1 a j = g.1 a j := by
      intro a j h1 h2 h3
      rw [bm_x h2]
      show (if (300 ≤ a ∧ a < 300 + c) ∧ j = 3 ∧ (z4 g).1 a 3 = 0 then 3 else (z4 g).1 a j) = _
      rw [if_neg (by omega), z4_x h3]
    have fr : Fr pM qM g (bm (bx (z4 g) c) c) := ⟨fun a ha hb => by funext j; unfold pM at ha; exact ex a j (by omega) (by omega) (by omega), fun j _ => ex 70 j (by omega) (by omega) (by omega)⟩
    refine Inv.by pM qM h fr rfl (Or.inl ⟨(by unfold pM; omega), (by unfold pM; omega), (by unfold pM; omega), (by unfold qM; first | omega | exact id)⟩) (Or.inl (by intro a ha; unfold sW at ha; unfold pM; omega)) (Or.inl ⟨(by intro a ha; unfold sP at ha; unfold pM; omega), (by unfold qM; first | omega | exact id), (by unfold qM; first | omega | exact id), (by unfold qM; first | omega | exact id)⟩) (Or.inl ⟨(by unfold pM; omega), (by unfold qM; first | omega | exact id), (by unfold qM; first | omega | exact id)⟩) (Or.inl (by intro a ha; unfold sLw at ha; unfold pM; omega)) (Or.inl ⟨(by unfold pM; omega), (by unfold qM; first | omega | exact id), (by unfold qM; first | omega | exact id)⟩) (by unfold qM; first | omega | exact id) (fun _ _ => Or.inl ⟨(by intro a ha; unfold sH at ha; unfold pM; omega), (by unfold qM; first | omega | exact id)⟩) (fun n w hw hn hy => Or.inr (?_)) (fun c_1 hc => Or.inr (?_ : RN V (bm (bx (z4 g) c) c).1 g.2.2 c_1))
    · exact cgY2 hw hy (fun a ha => by funext j; unfold sY2 at ha; exact ex a j (by omega) (by omega) (by omega)) (ex _ 1 (by omega) (by omega) (by omega)) (ex _ 3 (by omega) (by omega) (by omega)) (ex _ 4 (by omega) (by omega) (by omega)) (ex _ 5 (by omega) (by omega) (by omega))
    · have ecc : c_1 = c := by
        have := hc.2.2.1
        rw [n3, nI_eq (by omega) (by have := hc.1; omega)] at this
        omega
      subst ecc
      have s3 : ∀ i, i < c_1 → (bm (bx (z4 g) c_1) c_1).1 104 i = if g.1 104 i = 0 then 3 else g.1 104 i := by
        intro i hi
        show (if 104 = 104 ∧ i < c_1 ∧ (bx (z4 g) c_1).1 104 i = 0 then 3 else (bx (z4 g) c_1).1 104 i) = _
        rw [e104]
        by_cases s0 : g.1 104 i = 0
        · rw [if_pos ⟨rfl, hi, s0⟩, if_pos s0]
        · rw [if_neg (fun k => s0 k.2.2), if_neg s0]
      have ob : ∀ i j, i < c_1 → (bm (bx (z4 g) c_1) c_1).1 (300 + i) j = if j = 3 ∧ g.1 (300 + i) 3 = 0 then 3 else g.1 (300 + i) j := by
        intro i j hi
        rw [bm_x (by omega), bx_at, z4_x (by omega), z4_x (by omega)]
        by_cases k : j = 3 ∧ g.1 (300 + i) 3 = 0
        · rw [if_pos ⟨hi, k⟩, if_pos k]
        · rw [if_neg (fun q => k q.2), if_neg k]
      refine ⟨n1, by rw [ex 22 1 (by omega) (by omega) (by omega)]; exact n2, by rw [ex 70 46 (by omega) (by omega) (by omega)]; exact n3, fun i hi => ?_, n5, fun w hw => ?_⟩
      · obtain ⟨r1, r2, x0, x1, x2, x3, x4⟩ := n4 i hi
        refine ⟨r1, r2, ?_, ?_, ?_, ?_, ?_⟩
        · rw [ob i 0 hi, if_neg (by omega), ex 101 i (by omega) (by omega) (by omega)]; exact x0
        · rw [ob i 1 hi, if_neg (by omega), ex 102 i (by omega) (by omega) (by omega)]; exact x1
        · rw [ob i 2 hi, if_neg (by omega), ex 103 i (by omega) (by omega) (by omega)]; exact x2
        · rw [ob i 3 hi, s3 i hi, x3]
          by_cases s0 : g.1 104 i = 0
          · rw [if_pos ⟨rfl, s0⟩, if_pos s0]
          · rw [if_neg (fun k => s0 k.2), if_neg s0]
        · rw [ob i 4 hi, if_neg (by omega), ex 105 i (by omega) (by omega) (by omega)]; exact x4
      · rw [lyC_0 c_1 (fun i hi => by rw [s3 i hi]; by_cases s0 : g.1 104 i = 0; · rw [if_pos s0]; decide
                                      · rw [if_neg s0]; exact s0)]
        rw [bm_x (by omega), bx_x (by omega), z4_0 hw]
        rfl
theorem op_round {V : Vk} {g : Hq} (h : Inv V g) (a : Int32) : Op V g (r_X11_round V 0 a) (r_X12_round V 70 a) := by
  obtain ⟨-, -, hp⟩ := h.p
  have hv := v_70 h.v
  have hx : ∀ r, r_X6_tell V 8 a g = some (r, g) → r_X11_round V 0 a g = some (r, g) := by
    intro r hr
    unfold r_X11_round
    rw [grd_t (v_0 h.v), q_0_2 h.r, bind_some', grd_t (v_8 h.v), hr, bnd_some]
  rcases hp with ⟨p1, p2⟩ | ⟨p1, p2, p3, p4, p5, p6, p7⟩
  · refine ⟨-9, g, g, hx _ ?_, ?_, h⟩
    · unfold r_X6_tell
      rw [grd_t (v_8 h.v), brn_t p2]
    · unfold r_X12_round
      rw [grd_t hv, brn_t p1]
  · have m0 : ¬ g.1 8 7 = 0 := by rw [p4]; intro e; rw [e, t0] at p2; omega
    have h0 : ¬ g.1 70 23 = 0 := by rw [p1]; decide
    have b30 : (30 : Int32) + g.1 8 7 - 1 = 29 + g.1 70 24 := by
      rw [p4, i_eq, i_sub, i_add, i_add] <;> first | (have t30 : (30 : Int32).toInt = 30 := rfl; have t29 : (29 : Int32).toInt = 29 := rfl; rw [t30, t29, t1]; omega) | (have t30 : (30 : Int32).toInt = 30 := rfl; have t29 : (29 : Int32).toInt = 29 := rfl; rw [i_add (by rw [t30]; omega) (by rw [t30]; omega), t30, t1]; omega) | (have t30 : (30 : Int32).toInt = 30 := rfl; have t29 : (29 : Int32).toInt = 29 := rfl; first | (rw [t30]; omega) | (rw [t29]; omega))
    have b50 : (50 : Int32) + g.1 8 7 - 1 = 49 + g.1 70 24 := by
      rw [p4, i_eq, i_sub, i_add, i_add] <;> first | (have t30 : (50 : Int32).toInt = 50 := rfl; have t29 : (49 : Int32).toInt = 49 := rfl; rw [t30, t29, t1]; omega) | (have t30 : (50 : Int32).toInt = 50 := rfl; have t29 : (49 : Int32).toInt = 49 := rfl; rw [i_add (by rw [t30]; omega) (by rw [t30]; omega), t30, t1]; omega) | (have t30 : (50 : Int32).toInt = 50 := rfl; have t29 : (49 : Int32).toInt = 49 := rfl; first | (rw [t30]; omega) | (rw [t29]; omega))
    by_cases a0 : a = 0
    · refine ⟨g.1 70 25, g, g, hx _ ?_, ?_, h⟩
      · unfold r_X6_tell
        rw [grd_t (v_8 h.v), brn_f m0, brn_t a0, p5]
      · unfold r_X12_round
        rw [grd_t hv, brn_f h0, brn_t a0]
    by_cases a1 : 10 ≤ a ∧ a ≤ 21
    · have c1 := a1.1
      have c2 := a1.2
      rw [i_le] at c1 c2
      have t10 : (10 : Int32).toInt = 10 := rfl
      have t21 : (21 : Int32).toInt = 21 := rfl
      obtain ⟨j, ej⟩ : ∃ j : Nat, a.toInt = 10 + (j : Int) := ⟨(a.toInt - 10).toNat, by omega⟩
      have ea : a - 10 = nI j := by rw [i_eq, i_sub (by rw [t10]; omega) (by rw [t10]; omega), tN (by omega), t10]; omega
      refine ⟨g.1 82 j, g, g, hx _ ?_, ?_, h⟩
      · unfold r_X6_tell
        rw [grd_t (v_8 h.v), brn_f m0, brn_f a0, p_isFrom, bnd_some, brn_f (by rw [bI_0]; exact fun k => k a1), q_8_9 h.r, bind_some', ea, grd_t (ok_nI (n := 12) (v_15 h.v) (by omega) (by decide)), cl_nI (by omega), p6 j (by omega)]
      · unfold r_X12_round
        rw [grd_t hv, brn_f h0, brn_f a0, p_in, bnd_some, brn_f (by rw [bI_0]; exact fun k => k a1), q_70_26 h.r, bind_some', ea, grd_t (ok_nI (n := 12) (v_82 h.v) (by omega) (by decide)), cl_nI (by omega)]
    by_cases a2 : 30 ≤ a ∧ a ≤ 29 + g.1 70 24
    · have c1 := a2.1
      have c2 := a2.2
      have t30 : (30 : Int32).toInt = 30 := rfl
      have t29 : (29 : Int32).toInt = 29 := rfl
      rw [i_le] at c1 c2
      rw [i_add (by rw [t29]; omega) (by rw [t29]; omega), t29] at c2
      obtain ⟨j, ej⟩ : ∃ j : Nat, a.toInt = 30 + (j : Int) := ⟨(a.toInt - 30).toNat, by omega⟩
      have ea : a - 30 = nI j := by rw [i_eq, i_sub (by rw [t30]; omega) (by rw [t30]; omega), tN (by omega), t30]; omega
      refine ⟨g.1 83 j, g, g, hx _ ?_, ?_, h⟩
      · unfold r_X6_tell
        rw [grd_t (v_8 h.v), brn_f m0, brn_f a0, p_isFrom, bnd_some, brn_t (by rw [bI_0]; exact a1), b30, p_isFrom, bnd_some, brn_f (by rw [bI_0]; exact fun k => k a2), q_8_10 h.r, bind_some', ea, grd_t (ok_nI (n := 10) (v_16 h.v) (by omega) (by decide)), cl_nI (by omega), (p7 j (by omega)).1]
      · unfold r_X12_round
        rw [grd_t hv, brn_f h0, brn_f a0, p_in, bnd_some, brn_t (by rw [bI_0]; exact a1), p_in, bnd_some, brn_f (by rw [bI_0]; exact fun k => k a2), q_70_27 h.r, bind_some', ea, grd_t (ok_nI (n := 10) (v_83 h.v) (by omega) (by decide)), cl_nI (by omega)]
    by_cases a3 : 50 ≤ a ∧ a ≤ 49 + g.1 70 24
    · have c1 := a3.1
      have c2 := a3.2
      have t50 : (50 : Int32).toInt = 50 := rfl
      have t49 : (49 : Int32).toInt = 49 := rfl
      rw [i_le] at c1 c2
      rw [i_add (by rw [t49]; omega) (by rw [t49]; omega), t49] at c2
      obtain ⟨j, ej⟩ : ∃ j : Nat, a.toInt = 50 + (j : Int) := ⟨(a.toInt - 50).toNat, by omega⟩
      have ea : a - 50 = nI j := by rw [i_eq, i_sub (by rw [t50]; omega) (by rw [t50]; omega), tN (by omega), t50]; omega
      refine ⟨g.1 84 j, g, g, hx _ ?_, ?_, h⟩
      · unfold r_X6_tell
        rw [grd_t (v_8 h.v), brn_f m0, brn_f a0, p_isFrom, bnd_some, brn_t (by rw [bI_0]; exact a1), b30, p_isFrom, bnd_some, brn_t (by rw [bI_0]; exact a2), b50, p_isFrom, bnd_some, brn_f (by rw [bI_0]; exact fun k => k a3), q_8_11 h.r, bind_some', ea, grd_t (ok_nI (n := 10) (v_17 h.v) (by omega) (by decide)), cl_nI (by omega), (p7 j (by omega)).2]
      · unfold r_X12_round
        rw [grd_t hv, brn_f h0, brn_f a0, p_in, bnd_some, brn_t (by rw [bI_0]; exact a1), p_in, bnd_some, brn_t (by rw [bI_0]; exact a2), p_in, bnd_some, brn_f (by rw [bI_0]; exact fun k => k a3), q_70_28 h.r, bind_some', ea, grd_t (ok_nI (n := 10) (v_84 h.v) (by omega) (by decide)), cl_nI (by omega)]
    refine ⟨-9, g, g, hx _ ?_, ?_, h⟩
    · unfold r_X6_tell
      rw [grd_t (v_8 h.v), brn_f m0, brn_f a0, p_isFrom, bnd_some, brn_t (by rw [bI_0]; exact a1), b30, p_isFrom, bnd_some, brn_t (by rw [bI_0]; exact a2), b50, p_isFrom, bnd_some, brn_t (by rw [bI_0]; exact a3)]
    · unfold r_X12_round
      rw [grd_t hv, brn_f h0, brn_f a0, p_in, bnd_some, brn_t (by rw [bI_0]; exact a1), p_in, bnd_some, brn_t (by rw [bI_0]; exact a2), p_in, bnd_some, brn_t (by rw [bI_0]; exact a3)]
