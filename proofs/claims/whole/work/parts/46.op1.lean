theorem Inv.v {V : Vk} {g : Hq} (h : Inv V g) : ShV V := h.1
theorem Inv.r {V : Vk} {g : Hq} (h : Inv V g) : ShR g.2.2 := h.2.1
theorem Inv.t {V : Vk} {g : Hq} (h : Inv V g) : RT g := h.2.2.1
theorem Inv.w {V : Vk} {g : Hq} (h : Inv V g) : RW g.1 := h.2.2.2.1
theorem Inv.p {V : Vk} {g : Hq} (h : Inv V g) : RP g.1 g.2.1 := h.2.2.2.2.1
theorem Inv.f {V : Vk} {g : Hq} (h : Inv V g) : RF g.1 := h.2.2.2.2.2.1
theorem Inv.l {V : Vk} {g : Hq} (h : Inv V g) : RLw g.1 g.2.2 := h.2.2.2.2.2.2.1
theorem Inv.g {V : Vk} {g : Hq} (h : Inv V g) : RG g.1 := h.2.2.2.2.2.2.2.1
theorem Inv.x {V : Vk} {g : Hq} (h : Inv V g) : RX g.1 g.2.1 := h.2.2.2.2.2.2.2.2.1
def pT (a : Nat) : Prop := a = 1 ∨ a = 2 ∨ a = 71
def qT (j : Nat) : Prop := j = 1
theorem by20_ok (a1 a2 a3 a4 a5 : Int32) : ∀ v ∈ by20 a1 a2 a3 a4 a5, v.toInt8.toInt32 = v := by
  intro v hv
  simp only [by20, List.mem_append] at hv
  rcases hv with h | h | h | h | h <;> exact by5_ok _ v h
theorem fr_putX {g : Hq} {vs : List Int32} : Fr pT qT g (putL g 1 2 vs) := ⟨fun a ha _ => putL_x (by rintro rfl; exact ha (Or.inl rfl)) (by rintro rfl; exact ha (Or.inr (Or.inl rfl))) vs g, fun j _ => by rw [putL_x (a := 70) (by decide) (by decide)]⟩
theorem fr_putM {g : Hq} {vs : List Int32} : Fr pT qT g (putL g 70 71 vs) := ⟨fun a ha hb => putL_x hb (by rintro rfl; exact ha (Or.inr (Or.inr rfl))) vs g, fun j hj => putL_s (by decide) hj vs g⟩
theorem op_feed {V : Vk} {g : Hq} (h : Inv V g) (a1 a2 a3 a4 a5 : Int32) : Op V g (r_X11_feed V 0 a1 a2 a3 a4 a5) (r_X12_feed V 70 a1 a2 a3 a4 a5) := by
  obtain ⟨t1, t2, t3, t4, t5⟩ := h.t
  by_cases hr : (g.1 70 1).toInt + 20 ≤ 800
  · have e70 : (putL g 1 2 (by20 a1 a2 a3 a4 a5)).1 70 = g.1 70 := putL_x (by decide) (by decide) _ _
    refine ⟨g.1 70 1 + 20, putL g 1 2 (by20 a1 a2 a3 a4 a5), putL (putL g 1 2 (by20 a1 a2 a3 a4 a5)) 70 71 (by20 a1 a2 a3 a4 a5), ?_, ?_, ?_⟩
    · rw [p_feedX h.v h.r (by rw [t1]; exact t2) (by rw [t1]; exact hr), t1]
    · rw [p_feedM h.v (by rw [putL_R]; exact h.r) (by rw [e70]; exact t2) (by rw [e70]; exact hr), e70]
    · exact Inv.by pT qT h (fr_putX.tr fr_putM) (by rw [putL_R, putL_R]) (Or.inr (RT_putL h.t (by20_ok a1 a2 a3 a4 a5) (by rw [len20]; omega))) (Or.inl (by intro a ha; unfold sW at ha; unfold pT; omega)) (Or.inl ⟨(by intro a ha; unfold sP at ha; unfold pT; omega), (by unfold qT; omega), (by unfold qT; omega), (by unfold qT; omega)⟩) (Or.inl ⟨(by unfold pT; omega), (by unfold qT; omega), (by unfold qT; omega)⟩) (Or.inl (by intro a ha; unfold sLw at ha; unfold pT; omega)) (Or.inl ⟨(by unfold pT; omega), (by unfold qT; omega), (by unfold qT; omega)⟩) (by unfold qT; omega) (fun _ _ => Or.inl ⟨(by intro a ha; unfold sH at ha; unfold pT; omega), (by unfold qT; omega)⟩) (fun _ _ _ _ _ => Or.inl (by intro a ha; unfold sY at ha; unfold pT; omega)) (fun _ _ => Or.inl ⟨(by intro a ha; unfold sN at ha; unfold pT; omega), (by unfold qT; omega)⟩)
  · refine ⟨-3, g, g, ?_, ?_, h⟩
    · have hroom : (800 : Int32) < g.1 1 1 + 20 := by rw [t1, i_lt, i_add (by rw [t20]; omega) (by rw [t20]; omega), t20, t800]; omega
      unfold r_X11_feed r_X8_hasRoomFor
      rw [grd_t (v_0 h.v), q_0_0 h.r, bind_some', grd_t (v_1 h.v), grd_t (v_1 h.v), brn_t hroom, bnd_some, brn_t rfl]
    · have hroom : ¬ g.1 70 1 + 20 ≤ 800 := by rw [i_le, i_add (by rw [t20]; omega) (by rw [t20]; omega), t20, t800]; omega
      unfold r_X12_feed
      rw [grd_t (v_70 h.v), brn_f hroom]
theorem fr_sI {p q : Nat → Prop} {g : Hq} {k j : Nat} {v : Int32} (hk : k ≠ 70) (hp : p k) : Fr p q g (sI g k j v) := Fr.sI (Or.inl ⟨hk, hp⟩)
theorem fr_sM {p q : Nat → Prop} {g : Hq} {j : Nat} {v : Int32} (hq : q j) : Fr p q g (sI g 70 j v) := Fr.sI (Or.inr ⟨rfl, hq⟩)
theorem op_end {V : Vk} {g : Hq} (h : Inv V g) (a : Int32) : Op V g (r_X11_end V 0 a) (r_X12_end V 70 a) := by
  obtain ⟨t1, t2, t3, t4, t5⟩ := h.t
  have hv0 := v_0 h.v
  have hv1 := v_1 h.v
  have hv := v_70 h.v
  have hq := q_0_0 h.r
  by_cases h0 : a < 0
  · refine ⟨-1, g, g, ?_, ?_, h⟩
    · unfold r_X11_end; rw [brn_t h0]
    · unfold r_X12_end; rw [brn_t h0]
  · by_cases h1 : a ≤ g.1 70 1
    · refine ⟨a, sI g 1 1 a, sI (sI g 1 1 a) 70 1 a, ?_, ?_, ?_⟩
      · unfold r_X11_end r_X8_length r_X8_cut
        rw [brn_f h0, grd_t hv0, hq, bind_some', grd_t hv1, grd_t hv1, bnd_some, t1, brn_t h1, hq, bind_some', grd_t hv1, grd_t hv1]
        rfl
      · unfold r_X12_end
        rw [brn_f h0, grd_t hv, sI_1, up2_ne _ _ (Or.inl (by decide)), brn_t h1]
        rfl
      · have a0 : 0 ≤ a.toInt := by rw [i_lt] at h0; have : (0 : Int32).toInt = 0 := rfl; omega
        rw [i_le] at h1
        refine Inv.by pT qT h ((fr_sI (by decide) (Or.inl rfl)).tr (fr_sM rfl)) rfl (Or.inr (?_)) (Or.inl (by intro a ha; unfold sW at ha; unfold pT; omega)) (Or.inl ⟨(by intro a ha; unfold sP at ha; unfold pT; omega), (by unfold qT; omega), (by unfold qT; omega), (by unfold qT; omega)⟩) (Or.inl ⟨(by unfold pT; omega), (by unfold qT; omega), (by unfold qT; omega)⟩) (Or.inl (by intro a ha; unfold sLw at ha; unfold pT; omega)) (Or.inl ⟨(by unfold pT; omega), (by unfold qT; omega), (by unfold qT; omega)⟩) (by unfold qT; omega) (fun _ _ => Or.inl ⟨(by intro a ha; unfold sH at ha; unfold pT; omega), (by unfold qT; omega)⟩) (fun _ _ _ _ _ => Or.inl (by intro a ha; unfold sY at ha; unfold pT; omega)) (fun _ _ => Or.inl ⟨(by intro a ha; unfold sN at ha; unfold pT; omega), (by unfold qT; omega)⟩)
        simp only [RT, sI_1, up2_at]
        simp
        exact ⟨a0, by omega, t4, t5⟩
    · refine ⟨-1, g, g, ?_, ?_, h⟩
      · unfold r_X11_end r_X8_length
        rw [brn_f h0, grd_t hv0, hq, bind_some', grd_t hv1, grd_t hv1, bnd_some, t1, brn_f h1]
      · unfold r_X12_end
        rw [brn_f h0, grd_t hv, brn_f h1]
