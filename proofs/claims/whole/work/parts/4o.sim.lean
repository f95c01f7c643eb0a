/-! ===== class and reference side by side ===== -/
abbrev md (a : Nat) : Prop := 70 ≤ a ∧ a ≤ 106
def cmb (gx gm : Hq) : Hq := (fun a => if md a then gm.1 a else gx.1 a, fun a => if md a then gm.2.1 a else gx.2.1 a, gx.2.2)
theorem cmb_1 {gx gm : Hq} {a : Nat} (h : ¬ md a) : (cmb gx gm).1 a = gx.1 a := by show (if md a then _ else _) = _; rw [if_neg h]
theorem cmb_2 {gx gm : Hq} {a : Nat} (h : md a) : (cmb gx gm).1 a = gm.1 a := by show (if md a then _ else _) = _; rw [if_pos h]
theorem cmb_R {gx gm : Hq} : (cmb gx gm).2.2 = gx.2.2 := rfl
theorem cmb_L1 {gx gm : Hq} {a : Nat} (h : ¬ md a) : (cmb gx gm).2.1 a = gx.2.1 a := by show (if md a then _ else _) = _; rw [if_neg h]
theorem cmb_L2 {gx gm : Hq} {a : Nat} (h : md a) : (cmb gx gm).2.1 a = gm.2.1 a := by show (if md a then _ else _) = _; rw [if_pos h]
theorem cmb_x {gx gm : Hq} {k j : Nat} {v : Int32} (h : ¬ md k) : cmb (sI gx k j v) gm = sI (cmb gx gm) k j v := by
  refine Prod.ext ?_ rfl
  funext a b
  show (if md a then gm.1 a else up2 gx.1 k j v a) b = up2 (fun a => if md a then gm.1 a else gx.1 a) k j v a b
  rw [up2_at]
  by_cases e : md a
  · rw [if_pos e, if_neg (by omega), if_pos e]
  · rw [if_neg e, up2_at, if_neg e]
theorem cmb_m {gx gm : Hq} {k j : Nat} {v : Int32} (h : md k) : cmb gx (sI gm k j v) = sI (cmb gx gm) k j v := by
  refine Prod.ext ?_ rfl
  funext a b
  show (if md a then up2 gm.1 k j v a else gx.1 a) b = up2 (fun a => if md a then gm.1 a else gx.1 a) k j v a b
  rw [up2_at]
  by_cases e : md a
  · rw [if_pos e, up2_at, if_pos e]
  · rw [if_neg e, if_neg (by omega), if_neg e]
theorem cmb_same (g g1 : Hq) (h1 : ∀ a, md a → g1.1 a = g.1 a) (h2 : ∀ a, md a → g1.2.1 a = g.2.1 a) : cmb g g1 = g := by
  refine Prod.ext ?_ (Prod.ext ?_ rfl)
  · funext a
    show (if md a then g1.1 a else g.1 a) = _
    by_cases e : md a
    · rw [if_pos e, h1 a e]
    · rw [if_neg e]
  · funext a
    show (if md a then g1.2.1 a else g.2.1 a) = _
    by_cases e : md a
    · rw [if_pos e, h2 a e]
    · rw [if_neg e]
theorem cmb_same2 (g1 g2 : Hq) (h1 : ∀ a, ¬ md a → g2.1 a = g1.1 a) (h2 : ∀ a, ¬ md a → g2.2.1 a = g1.2.1 a) (h3 : g2.2.2 = g1.2.2) : cmb g1 g2 = g2 := by
  refine Prod.ext ?_ (Prod.ext ?_ h3.symm)
  · funext a
    show (if md a then g2.1 a else g1.1 a) = _
    by_cases e : md a
    · rw [if_pos e]
    · rw [if_neg e, h1 a e]
  · funext a
    show (if md a then g2.2.1 a else g1.2.1 a) = _
    by_cases e : md a
    · rw [if_pos e]
    · rw [if_neg e, h2 a e]
/-- what the class's side may change, what the reference's side may change -/
def FX (g g2 : Hq) : Prop := (∀ a, md a → g2.1 a = g.1 a) ∧ ∀ a, md a → g2.2.1 a = g.2.1 a
def FM (g g2 : Hq) : Prop := (∀ a, ¬ md a → g2.1 a = g.1 a) ∧ (∀ a, ¬ md a → g2.2.1 a = g.2.1 a) ∧ g2.2.2 = g.2.2
theorem FX.rf {g : Hq} : FX g g := ⟨fun _ _ => rfl, fun _ _ => rfl⟩
theorem FM.rf {g : Hq} : FM g g := ⟨fun _ _ => rfl, fun _ _ => rfl, rfl⟩
theorem FX.tr {g g1 g2 : Hq} (h : FX g g1) (k : FX g1 g2) : FX g g2 := ⟨fun a e => (k.1 a e).trans (h.1 a e), fun a e => (k.2 a e).trans (h.2 a e)⟩
theorem FM.tr {g g1 g2 : Hq} (h : FM g g1) (k : FM g1 g2) : FM g g2 := ⟨fun a e => (k.1 a e).trans (h.1 a e), fun a e => (k.2.1 a e).trans (h.2.1 a e), k.2.2.trans h.2.2⟩
theorem FX.w {g : Hq} {k j : Nat} {v : Int32} (h : ¬ md k) : FX g (sI g k j v) := ⟨fun a e => by rw [sI_1, up2_nk _ _ _ (by omega)], fun _ _ => rfl⟩
theorem FM.w {g : Hq} {k j : Nat} {v : Int32} (h : md k) : FM g (sI g k j v) := ⟨fun a e => by rw [sI_1, up2_nk _ _ _ (by omega)], fun _ _ => rfl, rfl⟩
def Sim {α : Type} (V : Vk) (x m : Hq → Option (α × Hq)) (gx gm : Hq) : Prop := ∃ r gx' gm', x gx = some (r, gx') ∧ m gm = some (r, gm') ∧ FX gx gx' ∧ FM gm gm' ∧ Inv V (cmb gx' gm')
theorem Op_of {α : Type} {V : Vk} {x m : Hq → Option (α × Hq)} {g : Hq} (h : Inv V g) (hs : ∀ gx gm, ShR gm.2.2 → Inv V (cmb gx gm) → Sim V x m gx gm) : Op V g x m := by
  have e0 : cmb g g = g := cmb_same g g (fun _ _ => rfl) (fun _ _ => rfl)
  obtain ⟨r, gx, gm, h1, h2, h3, h4, h5⟩ := hs g g h.r (by rw [e0]; exact h)
  have e1 : cmb g gx = g := cmb_same g gx h3.1 h3.2
  obtain ⟨r', gx', gm', k1, k2, k3, k4, k5⟩ := hs g gx h5.r (by rw [e1]; exact h)
  have q := Option.some.inj (h1.symm.trans k1)
  have q1 : r = r' := congrArg Prod.fst q
  have q2 : gx = gx' := congrArg Prod.snd q
  refine ⟨r, gx, gm', h1, by rw [q1]; exact k2, ?_⟩
  rw [← q2] at k5
  rw [cmb_same2 gx gm' k4.1 k4.2.1 k4.2.2] at k5
  exact k5
theorem sI_comm {g : Hq} {k j k2 j2 : Nat} {v v2 : Int32} (h : k ≠ k2 ∨ j ≠ j2) : sI (sI g k j v) k2 j2 v2 = sI (sI g k2 j2 v2) k j v := by
  refine Prod.ext ?_ rfl
  funext a b
  show up2 (up2 g.1 k j v) k2 j2 v2 a b = up2 (up2 g.1 k2 j2 v2) k j v a b
  simp only [up2_at]
  by_cases e1 : a = k2 ∧ b = j2
  · rw [if_pos e1, if_neg (by omega), if_pos e1]
  · rw [if_neg e1, if_neg e1]
theorem sI_id {g : Hq} {k j : Nat} {v : Int32} (h : g.1 k j = v) : sI g k j v = g := by
  refine Prod.ext ?_ rfl
  funext a b
  show up2 g.1 k j v a b = _
  rw [up2_at]
  by_cases e : a = k ∧ b = j
  · rw [if_pos e, e.1, e.2, h]
  · rw [if_neg e]
/-- pairs of writes that keep the invariant -/
theorem RN_wd {V : Vk} {I I2 : Nat → Nat → Int32} {R : Nat → Nat → Option Nat} {c : Nat} (h : RN V I R c) (e : ∀ a, a = 22 ∨ (101 ≤ a ∧ a ≤ 105) ∨ (300 ≤ a ∧ a < 400) → I2 a = I a) (e1 : I2 70 46 = I 70 46) (e2 : ∀ u, u < 4 → I2 (31 + 9 * u) 2 = I (31 + 9 * u) 2) : RN V I2 R c := by
  obtain ⟨n1, n2, n3, n4, n5, n6⟩ := h
  refine ⟨n1, by rw [e 22 (by omega)]; exact n2, by rw [e1]; exact n3, fun i hi => ?_, n5, fun u hu => ?_⟩
  · rw [e (300 + i) (by omega), e 101 (by omega), e 102 (by omega), e 103 (by omega), e 104 (by omega), e 105 (by omega)]
    exact n4 i hi
  · rw [e2 u hu, n6 u hu, lyC_cg (e 104 (by omega)) (e 105 (by omega))]
theorem Inv_house {V : Vk} {g : Hq} {n i s : Nat} {v : Int32} (h : Inv V g) (hh : RH V g.1 g.2.2 n) (hi : i < n) (hs : 2 ≤ s) (hs5 : s ≤ 5) (b2 : s = 2 → 0 ≤ v.toInt ∧ v.toInt ≤ 1000000) (b3 : s = 3 → 0 ≤ v.toInt ∧ v.toInt ≤ 2) (b4 : s = 4 → v = -1 ∨ (1600 ≤ v.toInt ∧ v.toInt ≤ 1799)) : Inv V (sI (sI g (200 + i) s v) (88 + s) i v) := by
  have n60 := hh.1
  obtain ⟨-, -, h3, h4, h5, h6, h7, h8, h9, n', c, h10, h11, h12, h13⟩ := id h
  have en : n' = n := by
    have e1 := hh.2.1
    rw [h10.2.1, nI_eq (by have := h10.1; omega) (by omega)] at e1
    exact e1
  subst en
  have ex : ∀ a, a ≠ 200 + i → a ≠ 88 + s → (sI (sI g (200 + i) s v) (88 + s) i v).1 a = g.1 a := fun a e1 e2 => by
    simp only [sI_1]
    rw [up2_nk _ _ _ e2, up2_nk _ _ _ e1]
  refine ⟨h.v, h.r, ?_, ?_, ?_, ?_, ?_, ?_, ?_, n', c, RH_set hh hi hs hs5 b2 b3 b4, ?_, ?_, h13⟩
  · exact h3.cg (ex 1 (by omega) (by omega)) (ex 2 (by omega) (by omega)) (ex 71 (by omega) (by omega)) (by rw [ex 70 (by omega) (by omega)])
  · exact cgW h4 (fun a ha => by unfold sW at ha; exact ex a (by omega) (by omega))
  · exact cgP h5 (fun a ha => by unfold sP at ha; exact ex a (by omega) (by omega)) (by rw [ex 70 (by omega) (by omega)]) (by rw [ex 70 (by omega) (by omega)]) (by rw [ex 70 (by omega) (by omega)]) rfl rfl
  · exact cgF h6 (ex 18 (by omega) (by omega)) (by rw [ex 70 (by omega) (by omega)]) (by rw [ex 70 (by omega) (by omega)])
  · exact cgLw h7 (fun a ha => by unfold sLw at ha; exact ex a (by omega) (by omega)) rfl (fun _ _ => rfl)
  · exact cgG h8 (ex 24 (by omega) (by omega)) (by rw [ex 70 (by omega) (by omega)]) (by rw [ex 70 (by omega) (by omega)])
  · exact cgX h9 (by rw [ex 70 (by omega) (by omega)]) rfl
  · exact fun w hw => cgY hw (h11 w hw) (fun a ha => by unfold sY at ha; exact ex a (by omega) (by omega))
  · exact cgN h12 (fun a ha => by unfold sN at ha; exact ex a (by omega) (by omega)) (by rw [ex 70 (by omega) (by omega)]) rfl
/-- writes in the wards' years only -/
def yP (a : Nat) : Prop := a = 31 ∨ a = 40 ∨ a = 49 ∨ a = 58 ∨ (37 ≤ a ∧ a ≤ 39) ∨ (46 ≤ a ∧ a ≤ 48) ∨ (55 ≤ a ∧ a ≤ 57) ∨ (64 ≤ a ∧ a ≤ 66) ∨ (94 ≤ a ∧ a ≤ 100)
theorem Inv_year {V : Vk} {g g2 : Hq} (h : Inv V g) (ex : ∀ a, ¬ yP a → g2.1 a = g.1 a) (e2 : ∀ u, u < 4 → g2.1 (31 + 9 * u) 2 = g.1 (31 + 9 * u) 2) (hg : g2.2 = g.2) (hy : ∀ n, (∀ w, w < 4 → RY1 g.1 n w) → RH V g.1 g.2.2 n → ∀ w, w < 4 → RY1 g2.1 n w) : Inv V g2 := by
  obtain ⟨h1, h2, h3, h4, h5, h6, h7, h8, h9, n, c, h10, h11, h12, h13⟩ := h
  have x70 := ex 70 (by unfold yP; omega)
  rw [← hg] at h2 h5 h9 h10 h12 h13 h7
  refine ⟨h1, h2, ?_, ?_, ?_, ?_, ?_, ?_, ?_, n, c, ?_, hy n h11 (by rw [← hg]; exact h10), ?_, h13⟩
  · exact h3.cg (ex 1 (by unfold yP; omega)) (ex 2 (by unfold yP; omega)) (ex 71 (by unfold yP; omega)) (by rw [x70])
  · exact cgW h4 (fun a ha => by unfold sW at ha; exact ex a (by unfold yP; omega))
  · exact cgP h5 (fun a ha => by unfold sP at ha; exact ex a (by unfold yP; omega)) (by rw [x70]) (by rw [x70]) (by rw [x70]) rfl rfl
  · exact cgF h6 (ex 18 (by unfold yP; omega)) (by rw [x70]) (by rw [x70])
  · exact cgLw h7 (fun a ha => by unfold sLw at ha; exact ex a (by unfold yP; omega)) rfl (fun _ _ => rfl)
  · exact cgG h8 (ex 24 (by unfold yP; omega)) (by rw [x70]) (by rw [x70])
  · exact cgX h9 (by rw [x70]) rfl
  · exact cgH h10 (fun a ha => by unfold sH at ha; exact ex a (by unfold yP; omega)) (by rw [x70]) rfl
  · exact RN_wd h12 (fun a ha => ex a (by unfold yP; omega)) (by rw [x70]) e2
/-- one ward's year relation reads only these -/
theorem RY1_cg {I I2 : Nat → Nat → Int32} {n w : Nat} (h : RY1 I n w) (a1 : I2 (31 + 9 * w) 1 = I (31 + 9 * w) 1) (a3 : I2 (31 + 9 * w) 3 = I (31 + 9 * w) 3) (a4 : I2 (31 + 9 * w) 4 = I (31 + 9 * w) 4) (a5 : I2 (31 + 9 * w) 5 = I (31 + 9 * w) 5) (m1 : I2 100 w = I 100 w) (m3 : I2 95 w = I 95 w) (m4 : I2 96 w = I 96 w) (m5 : I2 94 w = I 94 w) (y : ∀ t, t < 200 → I2 (31 + 9 * w + 6) t = I (31 + 9 * w + 6) t ∧ I2 (31 + 9 * w + 7) t = I (31 + 9 * w + 7) t ∧ I2 (31 + 9 * w + 8) t = I (31 + 9 * w + 8) t ∧ I2 97 (200 * w + t) = I 97 (200 * w + t) ∧ I2 98 (200 * w + t) = I 98 (200 * w + t) ∧ I2 99 (200 * w + t) = I 99 (200 * w + t)) : RY1 I2 n w := by
  obtain ⟨y1, y2, y3, y4, y5, y6⟩ := h
  refine ⟨by rw [a1, m1]; exact y1, by rw [a3, m3]; exact y2, by rw [a5, m5]; exact y3, by rw [m3]; exact y4, by rw [m3]; exact y5, ?_⟩
  rcases y6 with ⟨z1, z2⟩ | ⟨z1, z2, z3, z4, z5⟩
  · refine Or.inl ⟨by rw [m5]; exact z1, fun t ht => ?_⟩
    obtain ⟨q1, q2, q3, -⟩ := y t ht
    rw [q2, q3]; exact z2 t ht
  · refine Or.inr ⟨by rw [a4, m4]; exact z1, by rw [m4]; exact z2, by rw [m4, m5]; exact z3, by rw [m5]; exact z4, fun t ht => ?_⟩
    obtain ⟨q1, q2, q3, q4, q5, q6⟩ := y t ht
    rw [m4, m5, q1, q2, q3, q4, q5, q6]; exact z5 t ht
theorem Inv_chest {V : Vk} {g : Hq} {w : Nat} {v : Int32} (h : Inv V g) (hw : w < 4) : Inv V (sI (sI g (31 + 9 * w) 1 v) 100 w v) := by
  refine Inv_year h (fun a ha => by unfold yP at ha; simp only [sI_1]; rw [up2_nk _ _ _ (by omega), up2_nk _ _ _ (by omega)]) (fun u hu => by simp only [sI_1]; rw [up2_nk _ _ _ (by omega), up2_ne _ _ (Or.inr (by decide))]) rfl (fun n hy _ u hu => ?_)
  by_cases e : u = w
  · subst e
    obtain ⟨y1, y2, y3, y4, y5, y6⟩ := hy u hu
    have ex : ∀ a j, (a ≠ 31 + 9 * u ∨ j ≠ 1) → a ≠ 100 → (sI (sI g (31 + 9 * u) 1 v) 100 u v).1 a j = g.1 a j := fun a j h1 h2 => by
      simp only [sI_1]; rw [up2_nk _ _ _ h2, up2_ne _ _ h1]
    have f : ∀ a, a ≠ 31 + 9 * u → a ≠ 100 → (sI (sI g (31 + 9 * u) 1 v) 100 u v).1 a = g.1 a := fun a h1 h2 => by funext j; exact ex a j (Or.inl h1) h2
    unfold RY1
    rw [ex (31 + 9 * u) 3 (Or.inr (by decide)) (by omega), ex (31 + 9 * u) 4 (Or.inr (by decide)) (by omega), ex (31 + 9 * u) 5 (Or.inr (by decide)) (by omega), f (31 + 9 * u + 6) (by omega) (by omega), f (31 + 9 * u + 7) (by omega) (by omega), f (31 + 9 * u + 8) (by omega) (by omega), f 94 (by omega) (by omega), f 95 (by omega) (by omega), f 96 (by omega) (by omega), f 97 (by omega) (by omega), f 98 (by omega) (by omega), f 99 (by omega) (by omega)]
    refine ⟨?_, y2, y3, y4, y5, y6⟩
    simp only [sI_1]
    rw [up2_s, up2_nk _ _ _ (by omega), up2_s]
  · have ex : ∀ a j, a ≠ 31 + 9 * w → (a ≠ 100 ∨ j ≠ w) → (sI (sI g (31 + 9 * w) 1 v) 100 w v).1 a j = g.1 a j := fun a j h1 h2 => by
      simp only [sI_1]; rw [up2_ne _ _ h2, up2_nk _ _ _ h1]
    refine RY1_cg (hy u hu) ?_ ?_ ?_ ?_ ?_ ?_ ?_ ?_ (fun t ht => ⟨?_, ?_, ?_, ?_, ?_, ?_⟩) <;> exact ex _ _ (by omega) (by omega)
theorem Inv_turn {V : Vk} {g : Hq} {w n : Nat} {v : Int32} (h : Inv V g) (hh : RH V g.1 g.2.2 n) (hw : w < 4) (v0 : -1 ≤ v.toInt) (v1 : v.toInt < n) : Inv V (sI (sI g (31 + 9 * w) 3 v) 95 w v) := by
  refine Inv_year h (fun a ha => by unfold yP at ha; simp only [sI_1]; rw [up2_nk _ _ _ (by omega), up2_nk _ _ _ (by omega)]) (fun u hu => by simp only [sI_1]; rw [up2_nk _ _ _ (by omega), up2_ne _ _ (Or.inr (by decide))]) rfl (fun n' hy hh' u hu => ?_)
  have en : n' = n := by
    have e1 := hh.2.1
    rw [hh'.2.1, nI_eq (by have := hh'.1; omega) (by have := hh.1; omega)] at e1
    exact e1
  subst en
  by_cases e : u = w
  · subst e
    obtain ⟨y1, y2, y3, y4, y5, y6⟩ := hy u hu
    have ex : ∀ a j, (a ≠ 31 + 9 * u ∨ j ≠ 3) → a ≠ 95 → (sI (sI g (31 + 9 * u) 3 v) 95 u v).1 a j = g.1 a j := fun a j h1 h2 => by
      simp only [sI_1]; rw [up2_nk _ _ _ h2, up2_ne _ _ h1]
    have f : ∀ a, a ≠ 31 + 9 * u → a ≠ 95 → (sI (sI g (31 + 9 * u) 3 v) 95 u v).1 a = g.1 a := fun a h1 h2 => by funext j; exact ex a j (Or.inl h1) h2
    have v95 : (sI (sI g (31 + 9 * u) 3 v) 95 u v).1 95 u = v := by rw [sI_1, up2_s]
    have v3 : (sI (sI g (31 + 9 * u) 3 v) 95 u v).1 (31 + 9 * u) 3 = v := by simp only [sI_1]; rw [up2_nk _ _ _ (by omega), up2_s]
    unfold RY1
    rw [v95, v3, ex (31 + 9 * u) 1 (Or.inr (by decide)) (by omega), ex (31 + 9 * u) 4 (Or.inr (by decide)) (by omega), ex (31 + 9 * u) 5 (Or.inr (by decide)) (by omega), f (31 + 9 * u + 6) (by omega) (by omega), f (31 + 9 * u + 7) (by omega) (by omega), f (31 + 9 * u + 8) (by omega) (by omega), f 94 (by omega) (by omega), f 96 (by omega) (by omega), f 97 (by omega) (by omega), f 98 (by omega) (by omega), f 99 (by omega) (by omega), f 100 (by omega) (by omega)]
    exact ⟨y1, rfl, y3, v1, v0, y6⟩
  · have ex : ∀ a j, a ≠ 31 + 9 * w → (a ≠ 95 ∨ j ≠ w) → (sI (sI g (31 + 9 * w) 3 v) 95 w v).1 a j = g.1 a j := fun a j h1 h2 => by
      simp only [sI_1]; rw [up2_ne _ _ h2, up2_nk _ _ _ h1]
    refine RY1_cg (hy u hu) ?_ ?_ ?_ ?_ ?_ ?_ ?_ ?_ (fun t ht => ⟨?_, ?_, ?_, ?_, ?_, ?_⟩) <;> exact ex _ _ (by omega) (by omega)
/-- the year y of ward w is open -/
def yOpen (I : Nat → Nat → Int32) (w t : Nat) : Prop := t < 200 ∧ (I 94 w).toInt = 1600 + t
theorem Inv_ent {V : Vk} {g : Hq} {w t s : Nat} {v : Int32} (h : Inv V g) (hw : w < 4) (ho : yOpen g.1 w t) (hs : s < 3) (hv : s = 1 → v = 0 ∨ v = 1) : Inv V (sI (sI g (31 + 9 * w + 6 + s) t v) (97 + s) (200 * w + t) v) := by
  obtain ⟨t2, ho⟩ := ho
  refine Inv_year h (fun a ha => by unfold yP at ha; simp only [sI_1]; rw [up2_nk _ _ _ (by omega), up2_nk _ _ _ (by omega)]) (fun u hu => by simp only [sI_1]; rw [up2_nk _ _ _ (by omega), up2_nk _ _ _ (by omega)]) rfl (fun n' hy hh' u hu => ?_)
  by_cases e : u = w
  · subst e
    obtain ⟨y1, y2, y3, y4, y5, y6⟩ := hy u hu
    have f : ∀ a, a ≠ 31 + 9 * u + 6 + s → a ≠ 97 + s → (sI (sI g (31 + 9 * u + 6 + s) t v) (97 + s) (200 * u + t) v).1 a = g.1 a := fun a h1 h2 => by simp only [sI_1]; rw [up2_nk _ _ _ h2, up2_nk _ _ _ h1]
    have p1 : ∀ r q, r < 3 → (sI (sI g (31 + 9 * u + 6 + s) t v) (97 + s) (200 * u + t) v).1 (31 + 9 * u + 6 + r) q = if r = s ∧ q = t then v else g.1 (31 + 9 * u + 6 + r) q := fun r q hr => by
      simp only [sI_1]
      rw [up2_nk _ _ _ (by omega), up2_at]
      by_cases k : r = s ∧ q = t
      · rw [if_pos (by omega), if_pos k]
      · rw [if_neg (by omega), if_neg k]
    have p2 : ∀ r q, r < 3 → (sI (sI g (31 + 9 * u + 6 + s) t v) (97 + s) (200 * u + t) v).1 (97 + r) (200 * u + q) = if r = s ∧ q = t then v else g.1 (97 + r) (200 * u + q) := fun r q hr => by
      simp only [sI_1]
      rw [up2_at]
      by_cases k : r = s ∧ q = t
      · rw [if_pos (by omega), if_pos k]
      · rw [if_neg (by omega), if_neg k, up2_nk _ _ _ (by omega)]
    have p10 := fun q => p1 0 q (by decide)
    have p11 := fun q => p1 1 q (by decide)
    have p12 := fun q => p1 2 q (by decide)
    have p20 : ∀ q, (sI (sI g (31 + 9 * u + 6 + s) t v) (97 + s) (200 * u + t) v).1 97 (200 * u + q) = if 0 = s ∧ q = t then v else g.1 97 (200 * u + q) := fun q => p2 0 q (by decide)
    have p21 : ∀ q, (sI (sI g (31 + 9 * u + 6 + s) t v) (97 + s) (200 * u + t) v).1 98 (200 * u + q) = if 1 = s ∧ q = t then v else g.1 98 (200 * u + q) := fun q => p2 1 q (by decide)
    have p22 : ∀ q, (sI (sI g (31 + 9 * u + 6 + s) t v) (97 + s) (200 * u + t) v).1 99 (200 * u + q) = if 2 = s ∧ q = t then v else g.1 99 (200 * u + q) := fun q => p2 2 q (by decide)
    have f94 := f 94 (by omega) (by omega)
    have f95 := f 95 (by omega) (by omega)
    have f96 := f 96 (by omega) (by omega)
    have f100 := f 100 (by omega) (by omega)
    have fw := f (31 + 9 * u) (by omega) (by omega)
    refine ⟨by rw [fw, f100]; exact y1, by rw [fw, f95]; exact y2, by rw [fw, f94]; exact y3, by rw [f95]; exact y4, by rw [f95]; exact y5, ?_⟩
    rcases y6 with ⟨z1, z2⟩ | ⟨z1, z2, z3, z4, z5⟩
    · exfalso
      rw [z1] at ho
      have : (-1 : Int32).toInt = -1 := rfl
      omega
    · refine Or.inr ⟨by rw [fw, f96]; exact z1, by rw [f96]; exact z2, by rw [f96, f94]; exact z3, by rw [f94]; exact z4, fun q hq => ?_⟩
      obtain ⟨k1, k2⟩ := z5 q hq
      rw [f94, f96]
      refine ⟨fun a1 => ?_, fun a1 a2 => ?_⟩
      · obtain ⟨j1, j2⟩ := k1 a1
        have a7 := p11 q
        have a8 := p12 q
        rw [if_neg (by omega)] at a7 a8
        exact ⟨a7.trans j1, a8.trans j2⟩
      · obtain ⟨j1, j2, j3, j4⟩ := k2 a1 a2
        have a6 := p10 q
        have a7 := p11 q
        have a8 := p12 q
        have b6 := p20 q
        have b7 := p21 q
        have b8 := p22 q
        rw [show 31 + 9 * u + 6 + 0 = 31 + 9 * u + 6 from rfl] at a6
        rw [show 31 + 9 * u + 6 + 1 = 31 + 9 * u + 7 from rfl] at a7
        rw [show 31 + 9 * u + 6 + 2 = 31 + 9 * u + 8 from rfl] at a8
        rw [a6, a7, a8, b6, b7, b8]
        refine ⟨by rw [j1], by rw [j2], by rw [j3], ?_⟩
        by_cases k : 1 = s ∧ q = t
        · rw [if_pos k]; exact hv k.1.symm
        · rw [if_neg k]; exact j4
  · have ex : ∀ a j, a ≠ 31 + 9 * w + 6 + s → (a ≠ 97 + s ∨ j ≠ 200 * w + t) → (sI (sI g (31 + 9 * w + 6 + s) t v) (97 + s) (200 * w + t) v).1 a j = g.1 a j := fun a j h1 h2 => by
      simp only [sI_1]; rw [up2_ne _ _ h2, up2_nk _ _ _ h1]
    refine RY1_cg (hy u hu) ?_ ?_ ?_ ?_ ?_ ?_ ?_ ?_ (fun q hq => ⟨?_, ?_, ?_, ?_, ?_, ?_⟩) <;> exact ex _ _ (by omega) (by omega)
