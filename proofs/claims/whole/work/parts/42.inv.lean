theorem lop_l {σ β : Type} {f : σ → Option (σ ⊕ β)} {s t : σ} (h : f s = some (.inl t)) : lop f s = lop f t := by rw [lop_eq, h]
theorem lop_r {σ β : Type} {f : σ → Option (σ ⊕ β)} {s : σ} {b : β} (h : f s = some (.inr b)) : lop f s = some b := by rw [lop_eq, h]
/-- what a call leaves as it was: the places outside p, the Model's numbers outside q -/
def Fr (p q : Nat → Prop) (g g2 : Hq) : Prop := (∀ a, ¬ p a → a ≠ 70 → g2.1 a = g.1 a) ∧ ∀ j, ¬ q j → g2.1 70 j = g.1 70 j
theorem Fr.rf {p q : Nat → Prop} {g : Hq} : Fr p q g g := ⟨fun _ _ _ => rfl, fun _ _ => rfl⟩
theorem Fr.tr {p q : Nat → Prop} {g g1 g2 : Hq} (h : Fr p q g g1) (h1 : Fr p q g1 g2) : Fr p q g g2 := ⟨fun a ha hb => (h1.1 a ha hb).trans (h.1 a ha hb), fun j hj => (h1.2 j hj).trans (h.2 j hj)⟩
theorem Fr.wk {p q p2 q2 : Nat → Prop} {g g1 : Hq} (h : Fr p q g g1) (hp : ∀ a, p a → p2 a) (hq : ∀ a, q a → q2 a) : Fr p2 q2 g g1 := ⟨fun a ha hb => h.1 a (fun x => ha (hp a x)) hb, fun j hj => h.2 j (fun x => hj (hq j x))⟩
theorem Fr.sI {p q : Nat → Prop} {g : Hq} {k j : Nat} {v : Int32} (h : (k ≠ 70 ∧ p k) ∨ (k = 70 ∧ q j)) : Fr p q g (sI g k j v) := by
  refine ⟨fun a ha hb => ?_, fun i hi => ?_⟩
  · have hne : a ≠ k := by
      rintro rfl
      rcases h with h | h
      · exact ha h.2
      · exact hb h.1
    exact up2_nk _ _ _ hne
  · refine up2_ne _ _ ?_
    rcases h with h | ⟨rfl, h⟩
    · exact Or.inl (fun e => h.1 e.symm)
    · exact Or.inr (fun e => hi (e ▸ h))
/-! ===== the relation between class and reference, module by module ===== -/
def RT (g : Hq) : Prop := g.1 1 1 = g.1 70 1 ∧ 0 ≤ (g.1 70 1).toInt ∧ (g.1 70 1).toInt ≤ 800 ∧ g.1 2 = g.1 71 ∧ ∀ j, (g.1 71 j).toInt8.toInt32 = g.1 71 j
theorem RT.cg {g g2 : Hq} (h : RT g) (e1 : g2.1 1 = g.1 1) (e2 : g2.1 2 = g.1 2) (e3 : g2.1 71 = g.1 71) (e4 : g2.1 70 1 = g.1 70 1) : RT g2 := by
  unfold RT at h ⊢
  rw [e1, e2, e3, e4]
  exact h
/-- one byte more on a tape: its number of bytes at (o, 1), its bytes at r -/
def putB (g : Hq) (o r : Nat) (v : Int32) : Hq := sI (sI g r (g.1 o 1).toNatClampNeg v) o 1 ((sI g r (g.1 o 1).toNatClampNeg v).1 o 1 + 1)
def by4 (a s : Int32) : Int32 := vp_nar .byte (a >>> (s &&& 31)).toInt8.toInt32
def put4 (g : Hq) (o r : Nat) (a : Int32) : Hq := putB (putB (putB (putB g o r (by4 a 24)) o r (by4 a 16)) o r (by4 a 8)) o r (by4 a 0)
theorem putB_o {g : Hq} {o r : Nat} {v : Int32} (h : r ≠ o) : (putB g o r v).1 o 1 = g.1 o 1 + 1 := by
  unfold putB
  rw [sI_1, up2_s, sI_1, up2_ne _ _ (Or.inl (fun e => h e.symm))]
theorem putB_r {g : Hq} {o r : Nat} {v : Int32} (h : r ≠ o) : (putB g o r v).1 r = upd (g.1 r) (g.1 o 1).toNatClampNeg v := by
  unfold putB
  rw [sI_1, up2_nk _ _ _ h, sI_1]
  funext b
  simp [up2, upd]
theorem putB_R {g : Hq} {o r : Nat} {v : Int32} : (putB g o r v).2 = g.2 := rfl
theorem putB_x {g : Hq} {o r : Nat} {v : Int32} {a : Nat} (h1 : a ≠ o) (h2 : a ≠ r) : (putB g o r v).1 a = g.1 a := by
  unfold putB
  rw [sI_1, up2_nk _ _ _ h1, sI_1, up2_nk _ _ _ h2]
theorem putB_s {g : Hq} {o r : Nat} {v : Int32} {j : Nat} (h : r ≠ o) (h1 : j ≠ 1) : (putB g o r v).1 o j = g.1 o j := by
  unfold putB
  rw [sI_1, up2_ne _ _ (Or.inr h1), sI_1, up2_ne _ _ (Or.inl (fun e => h e.symm))]
theorem byte_ok (x : Int32) : vp_nar .byte x.toInt8.toInt32 = x.toInt8.toInt32 := pk_vb x
theorem by4_ok (a s : Int32) : (by4 a s).toInt8.toInt32 = by4 a s := by
  unfold by4
  rw [byte_ok]
  exact (vp_nar_byte _).symm.trans (byte_ok _)
/-- both tapes take the same byte -/
theorem RT_put {g : Hq} {v : Int32} (h : RT g) (hv : v.toInt8.toInt32 = v) (hn : (g.1 70 1).toInt < 800) : RT (putB (putB g 1 2 v) 70 71 v) := by
  obtain ⟨h1, h2, h3, h4, h5⟩ := h
  have e1 : (putB g 1 2 v).1 70 1 = g.1 70 1 := by rw [putB_x (by decide) (by decide)]
  have e2 : (putB (putB g 1 2 v) 70 71 v).1 70 1 = g.1 70 1 + 1 := by rw [putB_o (by decide), e1]
  have e3 : (putB (putB g 1 2 v) 70 71 v).1 1 1 = g.1 1 1 + 1 := by rw [putB_x (by decide) (by decide), putB_o (by decide)]
  have e4 : (putB (putB g 1 2 v) 70 71 v).1 2 = upd (g.1 2) (g.1 1 1).toNatClampNeg v := by rw [putB_x (by decide) (by decide), putB_r (by decide)]
  have e5 : (putB (putB g 1 2 v) 70 71 v).1 71 = upd (g.1 71) (g.1 70 1).toNatClampNeg v := by rw [putB_r (by decide), e1, putB_x (by decide) (by decide)]
  have e6 : (g.1 70 1 + 1).toInt = (g.1 70 1).toInt + 1 := i_add (by have : (1 : Int32).toInt = 1 := rfl; omega) (by have : (1 : Int32).toInt = 1 := rfl; omega)
  unfold RT
  rw [e2, e3, e4, e5]
  refine ⟨by rw [h1], by omega, by omega, by rw [h1, h4], ?_⟩
  intro j
  unfold upd
  by_cases hj : j = (g.1 70 1).toNatClampNeg
  · simp [hj, hv]
  · simp [hj, h5 j]
