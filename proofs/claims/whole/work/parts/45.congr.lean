def sW (a : Nat) : Prop := a = 3 ∨ a = 4 ∨ a = 5 ∨ a = 6 ∨ a = 7 ∨ a = 72 ∨ a = 73 ∨ a = 74 ∨ a = 75
def sP (a : Nat) : Prop := a = 8 ∨ a = 15 ∨ a = 16 ∨ a = 17 ∨ a = 82 ∨ a = 83 ∨ a = 84
def sLw (a : Nat) : Prop := (26 ≤ a ∧ a ≤ 30) ∨ (32 ≤ a ∧ a ≤ 36) ∨ (41 ≤ a ∧ a ≤ 45) ∨ (50 ≤ a ∧ a ≤ 54) ∨ (59 ≤ a ∧ a ≤ 63) ∨ a = 85 ∨ a = 86 ∨ a = 87
def sH (a : Nat) : Prop := a = 20 ∨ (88 ≤ a ∧ a ≤ 93) ∨ (200 ≤ a ∧ a < 260)
def sY (a : Nat) : Prop := a = 31 ∨ a = 40 ∨ a = 49 ∨ a = 58 ∨ (37 ≤ a ∧ a ≤ 39) ∨ (46 ≤ a ∧ a ≤ 48) ∨ (55 ≤ a ∧ a ≤ 57) ∨ (64 ≤ a ∧ a ≤ 66) ∨ (94 ≤ a ∧ a ≤ 100)
def sN (a : Nat) : Prop := a = 22 ∨ (101 ≤ a ∧ a ≤ 105) ∨ a = 31 ∨ a = 40 ∨ a = 49 ∨ a = 58 ∨ (300 ≤ a ∧ a < 400)
theorem cgW {I I2 : Nat → Nat → Int32} (h : RW I) (e : ∀ a, sW a → I2 a = I a) : RW I2 := by
  unfold RW at h ⊢
  rw [e 3 (by simp [sW]), e 4 (by simp [sW]), e 5 (by simp [sW]), e 6 (by simp [sW]), e 7 (by simp [sW]), e 72 (by simp [sW]), e 73 (by simp [sW]), e 74 (by simp [sW]), e 75 (by simp [sW])]
  exact h
theorem cgP {I I2 : Nat → Nat → Int32} {L L2 : Nat → Nat → Int64} (h : RP I L) (e : ∀ a, sP a → I2 a = I a) (e1 : I2 70 23 = I 70 23) (e2 : I2 70 24 = I 70 24) (e3 : I2 70 25 = I 70 25) (l1 : L2 13 = L 13) (l2 : L2 14 = L 14) : RP I2 L2 := by
  unfold RP at h ⊢
  rw [e 8 (by simp [sP]), e 15 (by simp [sP]), e 16 (by simp [sP]), e 17 (by simp [sP]), e 82 (by simp [sP]), e 83 (by simp [sP]), e 84 (by simp [sP]), e1, e2, e3, l1, l2]
  exact h
theorem cgF {I I2 : Nat → Nat → Int32} (h : RF I) (e : I2 18 = I 18) (e1 : I2 70 8 = I 70 8) (e2 : I2 70 9 = I 70 9) : RF I2 := by
  unfold RF at h ⊢
  rw [e, e1, e2]
  exact h
theorem law_s {p : Nat} (h : lawPl p) {i : Nat} (hi : i ≤ 4) : sLw (p + i) := by
  unfold lawPl at h
  unfold sLw
  omega
theorem cgL1 {I I2 : Nat → Nat → Int32} {p w : Nat} (hp : lawPl p) (h : RL1 I p w) (e : ∀ a, sLw a → I2 a = I a) : RL1 I2 p w := by
  have e0 := e p (law_s hp (i := 0) (by omega))
  unfold RL1 at h ⊢
  rw [e0, e (p + 1) (law_s hp (by omega)), e (p + 2) (law_s hp (by omega)), e (p + 3) (law_s hp (by omega)), e (p + 4) (law_s hp (by omega)), e 85 (by simp [sLw]), e 86 (by simp [sLw]), e 87 (by simp [sLw])]
  exact h
theorem cgLw {I I2 : Nat → Nat → Int32} {R R2 : Nat → Nat → Option Nat} (h : RLw I R) (e : ∀ a, sLw a → I2 a = I a) (r0 : R2 0 8 = R 0 8) (r1 : ∀ w, w < 4 → R2 (31 + 9 * w) 0 = R (31 + 9 * w) 0) : RLw I2 R2 := by
  obtain ⟨f, h1, h2, h3, h4, h5⟩ := h
  exact ⟨f, h1, h2, fun w hw => (r1 w hw).trans (h3 w hw), r0.trans h4, fun w hw => cgL1 (h1 w (by omega)) (h5 w hw) e⟩
theorem cgH {V : Vk} {I I2 : Nat → Nat → Int32} {R R2 : Nat → Nat → Option Nat} {n : Nat} (h : RH V I R n) (e : ∀ a, sH a → I2 a = I a) (e1 : I2 70 32 = I 70 32) (r : R2 21 = R 21) : RH V I2 R2 n := by
  obtain ⟨h1, h2, h3, h4, h5⟩ := h
  have e88 := e 88 (by simp [sH])
  have e89 := e 89 (by simp [sH])
  have e90 := e 90 (by simp [sH])
  have e91 := e 91 (by simp [sH])
  have e92 := e 92 (by simp [sH])
  have e93 := e 93 (by simp [sH])
  refine ⟨h1, by rw [e 20 (by simp [sH])]; exact h2, by rw [e1]; exact h3, fun i hi => ?_, fun i hi hj => ?_⟩
  · rw [r, e (200 + i) (by unfold sH; omega), e88, e89, e90, e91, e92, e93]
    exact h4 i hi
  · rw [e90, e91, e93]
    exact h5 i hi hj
theorem cgY {I I2 : Nat → Nat → Int32} {n w : Nat} (hw : w < 4) (h : RY1 I n w) (e : ∀ a, sY a → I2 a = I a) : RY1 I2 n w := by
  unfold RY1 at h ⊢
  rw [e (31 + 9 * w) (by unfold sY; omega), e (31 + 9 * w + 6) (by unfold sY; omega), e (31 + 9 * w + 7) (by unfold sY; omega), e (31 + 9 * w + 8) (by unfold sY; omega), e 94 (by simp [sY]), e 95 (by simp [sY]), e 96 (by simp [sY]), e 97 (by simp [sY]), e 98 (by simp [sY]), e 99 (by simp [sY]), e 100 (by simp [sY])]
  exact h
theorem lyC_cg {I I2 : Nat → Nat → Int32} {w : Nat} (e4 : I2 104 = I 104) (e5 : I2 105 = I 105) : ∀ c, lyC I2 w c = lyC I w c := by
  intro c
  induction c with
  | zero => rfl
  | succ c ih => unfold lyC; rw [ih, e4, e5]
theorem cgN {V : Vk} {I I2 : Nat → Nat → Int32} {R R2 : Nat → Nat → Option Nat} {c : Nat} (h : RN V I R c) (e : ∀ a, sN a → I2 a = I a) (e1 : I2 70 46 = I 70 46) (r : R2 23 = R 23) : RN V I2 R2 c := by
  obtain ⟨h1, h2, h3, h4, h5, h6⟩ := h
  refine ⟨h1, by rw [e 22 (by simp [sN])]; exact h2, by rw [e1]; exact h3, fun i hi => ?_, h5, fun w hw => ?_⟩
  · rw [r, e (300 + i) (by unfold sN; omega), e 101 (by simp [sN]), e 102 (by simp [sN]), e 103 (by simp [sN]), e 104 (by simp [sN]), e 105 (by simp [sN])]
    exact h4 i hi
  · rw [e (31 + 9 * w) (by unfold sN; omega), lyC_cg (e 104 (by simp [sN])) (e 105 (by simp [sN]))]
    exact h6 w hw
theorem cgG {I I2 : Nat → Nat → Int32} (h : RG I) (e : I2 24 = I 24) (e1 : I2 70 52 = I 70 52) (e2 : I2 70 53 = I 70 53) : RG I2 := by
  unfold RG at h ⊢
  rw [e, e1, e2]
  exact h
theorem cgX {I I2 : Nat → Nat → Int32} {L L2 : Nat → Nat → Int64} (h : RX I L) (e : I2 70 55 = I 70 55) (l : L2 106 = L 106) : RX I2 L2 := by
  unfold RX at h ⊢
  rw [e, l]
  exact h
/-- a call that writes only at places of p, at the Model's numbers of q: what is to be shown again is what it touches -/
theorem Inv.by {V : Vk} {g g2 : Hq} (p q : Nat → Prop) (h : Inv V g) (fr : Fr p q g g2) (hg : g2.2 = g.2)
    (hT : ((¬ p 1 ∧ ¬ p 2 ∧ ¬ p 71 ∧ ¬ q 1) ∨ RT g2)) (hW : (∀ a, sW a → ¬ p a) ∨ RW g2.1) (hP : ((∀ a, sP a → ¬ p a) ∧ ¬ q 23 ∧ ¬ q 24 ∧ ¬ q 25) ∨ RP g2.1 g2.2.1) (hF : (¬ p 18 ∧ ¬ q 8 ∧ ¬ q 9) ∨ RF g2.1) (hL : (∀ a, sLw a → ¬ p a) ∨ RLw g2.1 g2.2.2)
    (hG : (¬ p 24 ∧ ¬ q 52 ∧ ¬ q 53) ∨ RG g2.1) (hX : ¬ q 55) (hH : ∀ n, RH V g.1 g.2.2 n → ((∀ a, sH a → ¬ p a) ∧ ¬ q 32) ∨ RH V g2.1 g2.2.2 n) (hY : ∀ n w, w < 4 → RH V g.1 g.2.2 n → RY1 g.1 n w → (∀ a, sY a → ¬ p a) ∨ RY1 g2.1 n w) (hN : ∀ c, RN V g.1 g.2.2 c → ((∀ a, sN a → ¬ p a) ∧ ¬ q 46) ∨ RN V g2.1 g2.2.2 c) : Inv V g2 := by
  obtain ⟨h1, h2, h3, h4, h5, h6, h7, h8, h9, n, c, h10, h11, h12, h13⟩ := h
  have e1 : g2.2.1 = g.2.1 := by rw [hg]
  have e2 : g2.2.2 = g.2.2 := by rw [hg]
  have s7 : ∀ a, sW a → a ≠ 70 := by intro a ha; unfold sW at ha; omega
  have sp : ∀ a, sP a → a ≠ 70 := by intro a ha; unfold sP at ha; omega
  have sl : ∀ a, sLw a → a ≠ 70 := by intro a ha; unfold sLw at ha; omega
  have sh : ∀ a, sH a → a ≠ 70 := by intro a ha; unfold sH at ha; omega
  have sy : ∀ a, sY a → a ≠ 70 := by intro a ha; unfold sY at ha; omega
  have sn : ∀ a, sN a → a ≠ 70 := by intro a ha; unfold sN at ha; omega
  refine ⟨h1, by rw [e2]; exact h2, ?_, ?_, ?_, ?_, ?_, ?_, ?_, n, c, ?_, ?_, ?_, by rw [e2]; exact h13⟩
  · exact hT.elim (fun k => h3.cg (fr.1 1 k.1 (by decide)) (fr.1 2 k.2.1 (by decide)) (fr.1 71 k.2.2.1 (by decide)) (fr.2 1 k.2.2.2)) id
  · exact hW.elim (fun k => cgW h4 (fun a ha => fr.1 a (k a ha) (s7 a ha))) id
  · exact hP.elim (fun k => cgP h5 (fun a ha => fr.1 a (k.1 a ha) (sp a ha)) (fr.2 _ k.2.1) (fr.2 _ k.2.2.1) (fr.2 _ k.2.2.2) (by rw [e1]) (by rw [e1])) id
  · exact hF.elim (fun k => cgF h6 (fr.1 18 k.1 (by decide)) (fr.2 _ k.2.1) (fr.2 _ k.2.2)) id
  · exact hL.elim (fun k => cgLw h7 (fun a ha => fr.1 a (k a ha) (sl a ha)) (by rw [e2]) (fun w _ => by rw [e2])) id
  · exact hG.elim (fun k => cgG h8 (fr.1 24 k.1 (by decide)) (fr.2 _ k.2.1) (fr.2 _ k.2.2)) id
  · exact cgX h9 (fr.2 _ hX) (by rw [e1])
  · exact (hH n h10).elim (fun k => cgH h10 (fun a ha => fr.1 a (k.1 a ha) (sh a ha)) (fr.2 _ k.2) (by rw [e2])) id
  · exact fun w hw => (hY n w hw h10 (h11 w hw)).elim (fun k => cgY hw (h11 w hw) (fun a ha => fr.1 a (k a ha) (sy a ha))) id
  · exact (hN c h12).elim (fun k => cgN h12 (fun a ha => fr.1 a (k.1 a ha) (sn a ha)) (fr.2 _ k.2) (by rw [e2])) id
