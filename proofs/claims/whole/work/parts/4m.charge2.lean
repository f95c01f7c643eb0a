theorem fwS_hp {hp : Nat → Prop} {w u : Nat} : ∀ d, fwS hp w d (some u) → hp u ∧ u < 4 := by
  intro d
  induction d with
  | zero => intro h; cases h
  | succ d ih =>
    intro h
    rcases h with ⟨h1, h2⟩ | ⟨-, h2⟩
    · cases h2
      exact ⟨h1, Nat.mod_lt _ (by decide)⟩
    · exact ih h2
theorem gvE_cg {I I2 : Nat → Nat → Int32} (e : I2 86 = I 86) (w : Nat) (a h cr : Int32) (n : Nat) : gvE I2 w a h cr n = gvE I w a h cr n := by
  unfold gvE gvOK
  rw [e]
theorem fol_cg {I I2 : Nat → Nat → Int32} (e : I2 85 = I 85) (cr : Int32) (u : Nat) : fol I2 cr u = fol I cr u := by
  unfold fol
  rw [e]
theorem CHX_fin {g g' : Hq} {c w : Nat} {a b h st pl : Int32} (hi : ∀ k, k ≠ 300 + c → (∀ u, u < 4 → k ≠ 31 + 9 * u) → g'.1 k = g.1 k) (ho : g'.1 (300 + c) 0 = a ∧ g'.1 (300 + c) 1 = b ∧ g'.1 (300 + c) 2 = h ∧ g'.1 (300 + c) 3 = st ∧ g'.1 (300 + c) 4 = pl) (w0 : ∀ u, u < 4 → ∀ j, j ≠ 1 → j ≠ 2 → g'.1 (31 + 9 * u) j = g.1 (31 + 9 * u) j) (w1 : ∀ u, u < 4 → g'.1 (31 + 9 * u) 1 = if st = 1 ∧ u = w then g.1 (31 + 9 * u) 1 - 5 else g.1 (31 + 9 * u) 1) (w2 : ∀ u, u < 4 → g'.1 (31 + 9 * u) 2 = if st = 0 ∧ pl = nI u then g.1 (31 + 9 * u) 2 + 1 else g.1 (31 + 9 * u) 2) (h2 : g'.2 = (cg0 g c a b h).2) : CHX g c w a b h st pl (cFin g' c) := by
  have fi : ∀ k, k ≠ 22 → (cFin g' c).1 k = g'.1 k := fun k hk => by unfold cFin; rw [sI_1, up2_nk _ _ _ hk, sR_1]
  refine ⟨fun k h1 h2 h3 => by rw [fi k h2, hi k h1 h3], by unfold cFin; rw [sI_1, up2_s], by rw [fi _ (by omega)]; exact ho, fun u hu j h1 h2 => by rw [fi _ (by omega)]; exact w0 u hu j h1 h2, fun u hu => by rw [fi _ (by omega)]; exact w1 u hu, fun u hu => by rw [fi _ (by omega)]; exact w2 u hu, fun k hk => ?_, fun k j hk hj => ?_, ?_, fun j => ?_⟩
  · show g'.2.1 k = _
    rw [h2, (cg0_R hk).2]
  · unfold cFin
    rw [sI_3, sR_3, up2_ne _ _ hj, h2, (cg0_R hk).1]
  · unfold cFin
    rw [sI_3, sR_3, up2_s]
  · unfold cFin
    rw [sI_3, sR_3, up2_nk _ _ _ (by omega), h2, cg0_N]
def mg0 (gx : Hq) (c : Nat) (a b h : Int32) : Hq := sI (sI (sI (sI gx 101 c a) 102 c b) 103 c h) 105 c (-1)
theorem mg0_x {gx : Hq} {c : Nat} {a b h : Int32} {k : Nat} (h1 : k ≠ 101) (h2 : k ≠ 102) (h3 : k ≠ 103) (h5 : k ≠ 105) : (mg0 gx c a b h).1 k = gx.1 k := by
  unfold mg0
  simp only [sI_1]
  rw [up2_nk _ _ _ h5, up2_nk _ _ _ h3, up2_nk _ _ _ h2, up2_nk _ _ _ h1]
theorem CHM_t {gx : Hq} {c w : Nat} {a b h : Int32} (hw : w < 4) : CHM gx c w a b h 1 (-1) (sI (sI (sI (mg0 gx c a b h) 104 c 1) 100 w (gx.1 100 w - 5)) 70 46 (nI (c + 1))) := by
  refine ⟨fun k h1 h2 => ?_, fun j hj => ?_, by rw [sI_1, up2_s], ?_, fun k j h1 h2 hj => ?_, fun u hu => ?_, rfl⟩
  · simp only [sI_1]
    rw [up2_nk _ _ _ h2, up2_nk _ _ _ (by omega), up2_nk _ _ _ (by omega), mg0_x (by omega) (by omega) (by omega) (by omega)]
  · simp only [sI_1]
    rw [up2_ne _ _ (Or.inr hj), up2_nk _ _ _ (by omega), up2_nk _ _ _ (by omega), mg0_x (by omega) (by omega) (by omega) (by omega)]
  · unfold mg0
    simp [sI_1, up2_at]
  · unfold mg0
    simp only [sI_1]
    rw [up2_nk _ _ _ (by omega), up2_nk _ _ _ (by omega), up2_ne _ _ (Or.inr hj), up2_ne _ _ (Or.inr hj), up2_ne _ _ (Or.inr hj), up2_ne _ _ (Or.inr hj), up2_ne _ _ (Or.inr hj)]
  · simp only [sI_1]
    rw [up2_nk _ _ _ (by omega), up2_at]
    by_cases e : u = w
    · rw [if_pos (by first | exact ⟨rfl, e⟩ | exact ⟨trivial, e⟩), if_pos (by first | exact ⟨rfl, e⟩ | exact ⟨trivial, e⟩), e]
    · rw [if_neg (fun q => e q.2), if_neg (fun q => e q.2), up2_nk _ _ _ (by omega), mg0_x (by omega) (by omega) (by omega) (by omega)]
theorem CHM_g {gx : Hq} {c w : Nat} {a b h st x : Int32} (hs : st ≠ 1) : CHM gx c w a b h st x (sI (sI (sI (mg0 gx c a b h) 105 c x) 104 c st) 70 46 (nI (c + 1))) := by
  refine ⟨fun k h1 h2 => ?_, fun j hj => ?_, by rw [sI_1, up2_s], ?_, fun k j h1 h2 hj => ?_, fun u hu => ?_, rfl⟩
  · simp only [sI_1]
    rw [up2_nk _ _ _ h2, up2_nk _ _ _ (by omega), up2_nk _ _ _ (by omega), mg0_x (by omega) (by omega) (by omega) (by omega)]
  · simp only [sI_1]
    rw [up2_ne _ _ (Or.inr hj), up2_nk _ _ _ (by omega), up2_nk _ _ _ (by omega), mg0_x (by omega) (by omega) (by omega) (by omega)]
  · unfold mg0
    simp [sI_1, up2_at]
  · unfold mg0
    simp only [sI_1]
    rw [up2_nk _ _ _ (by omega), up2_ne _ _ (Or.inr hj), up2_ne _ _ (Or.inr hj), up2_ne _ _ (Or.inr hj), up2_ne _ _ (Or.inr hj), up2_ne _ _ (Or.inr hj), up2_ne _ _ (Or.inr hj)]
  · simp only [sI_1]
    rw [up2_nk _ _ _ (by omega), up2_nk _ _ _ (by omega), up2_nk _ _ _ (by omega), mg0_x (by omega) (by omega) (by omega) (by omega), if_neg (fun q => hs q.1)]
/-- the class's lock-up, by the ward that takes him -/
def cLock (g0 : Hq) (c : Nat) : Option Nat → Hq
  | none => sI g0 (300 + c) 3 2
  | some u => sI (sI g0 (300 + c) 4 (nI u)) (31 + 9 * u) 2 (g0.1 (31 + 9 * u) 2 + 1)
theorem CHX_lock {g : Hq} {c w : Nat} {a b h : Int32} {o : Option Nat} (ho : ∀ u, o = some u → u < 4) : CHX g c w a b h (o.elim 2 (fun _ => 0)) (enc o) (cFin (cLock (cg0 g c a b h) c o) c) := by
  obtain ⟨o1, o2, o3, o4, o5⟩ := cg0_o (g := g) (c := c) (a := a) (b := b) (h := h)
  cases o with
  | none =>
    refine CHX_fin (fun k h1 h2 => ?_) ?_ (fun u hu j h1 h2 => ?_) (fun u hu => ?_) (fun u hu => ?_) rfl
    · show up2 _ (300 + c) 3 2 k = _
      rw [up2_nk _ _ _ h1, cg0_x h1]
    · show up2 _ (300 + c) 3 2 (300 + c) 0 = _ ∧ up2 _ (300 + c) 3 2 (300 + c) 1 = _ ∧ up2 _ (300 + c) 3 2 (300 + c) 2 = _ ∧ up2 _ (300 + c) 3 2 (300 + c) 3 = 2 ∧ up2 _ (300 + c) 3 2 (300 + c) 4 = -1
      rw [up2_s, up2_ne _ _ (Or.inr (by decide)), up2_ne _ _ (Or.inr (by decide)), up2_ne _ _ (Or.inr (by decide)), up2_ne _ _ (Or.inr (by decide))]
      exact ⟨o1, o2, o3, rfl, o5⟩
    · show up2 _ (300 + c) 3 2 (31 + 9 * u) j = _
      rw [up2_nk _ _ _ (by omega), cg0_x (by omega)]
    · show up2 _ (300 + c) 3 2 (31 + 9 * u) 1 = _
      rw [up2_nk _ _ _ (by omega), cg0_x (by omega), if_neg (fun q => absurd q.1 (by decide))]
    · show up2 _ (300 + c) 3 2 (31 + 9 * u) 2 = _
      rw [up2_nk _ _ _ (by omega), cg0_x (by omega), if_neg (fun q => absurd q.1 (by decide))]
  | some v =>
    have hv := ho v rfl
    have ev : (cg0 g c a b h).1 (31 + 9 * v) 2 = g.1 (31 + 9 * v) 2 := by rw [cg0_x (by omega)]
    refine CHX_fin (fun k h1 h2 => ?_) ?_ (fun u hu j h1 h2 => ?_) (fun u hu => ?_) (fun u hu => ?_) rfl
    · show up2 (up2 _ (300 + c) 4 _) (31 + 9 * v) 2 _ k = _
      rw [up2_nk _ _ _ (h2 v hv), up2_nk _ _ _ h1, cg0_x h1]
    · have q : ∀ j, (cLock (cg0 g c a b h) c (some v)).1 (300 + c) j = up2 (cg0 g c a b h).1 (300 + c) 4 (nI v) (300 + c) j := fun j => by
        show up2 (up2 _ (300 + c) 4 _) (31 + 9 * v) 2 _ (300 + c) j = _
        rw [up2_nk _ _ _ (by omega)]
      rw [q, q, q, q, q, up2_s, up2_ne _ _ (Or.inr (by decide)), up2_ne _ _ (Or.inr (by decide)), up2_ne _ _ (Or.inr (by decide)), up2_ne _ _ (Or.inr (by decide))]
      exact ⟨o1, o2, o3, o4, rfl⟩
    · show up2 (up2 _ (300 + c) 4 _) (31 + 9 * v) 2 _ (31 + 9 * u) j = _
      rw [up2_ne _ _ (Or.inr h2), up2_nk _ _ _ (by omega), cg0_x (by omega)]
    · show up2 (up2 _ (300 + c) 4 _) (31 + 9 * v) 2 _ (31 + 9 * u) 1 = _
      rw [up2_ne _ _ (Or.inr (by decide)), up2_nk _ _ _ (by omega), cg0_x (by omega), if_neg (fun q => absurd (show (0 : Int32) = 1 from q.1) (by decide))]
    · show up2 (up2 _ (300 + c) 4 _) (31 + 9 * v) 2 _ (31 + 9 * u) 2 = _
      by_cases e : u = v
      · rw [e, up2_s, if_pos ⟨rfl, rfl⟩, ev]
      · rw [up2_ne _ _ (Or.inl (by omega)), up2_nk _ _ _ (by omega), cg0_x (by omega), if_neg]
        rintro ⟨-, q⟩
        have : nI v = nI u := q
        rw [nI_eq (by omega) (by omega)] at this
        omega
theorem CHX_t {g : Hq} {c w : Nat} {a b h : Int32} (hw : w < 4) : CHX g c w a b h 1 (-1) (cFin (sI (sI (cg0 g c a b h) (300 + c) 3 1) (31 + 9 * w) 1 (g.1 (31 + 9 * w) 1 - 5)) c) := by
  obtain ⟨o1, o2, o3, o4, o5⟩ := cg0_o (g := g) (c := c) (a := a) (b := b) (h := h)
  refine CHX_fin (fun k h1 h2 => ?_) ?_ (fun u hu j h1 h2 => ?_) (fun u hu => ?_) (fun u hu => ?_) rfl
  · simp only [sI_1]
    rw [up2_nk _ _ _ (h2 w hw), up2_nk _ _ _ h1, cg0_x h1]
  · simp only [sI_1]
    rw [up2_nk _ _ _ (by omega), up2_s, up2_ne _ _ (Or.inr (by decide)), up2_ne _ _ (Or.inr (by decide)), up2_ne _ _ (Or.inr (by decide)), up2_ne _ _ (Or.inr (by decide))]
    exact ⟨o1, o2, o3, rfl, o5⟩
  · simp only [sI_1]
    rw [up2_ne _ _ (Or.inr h1), up2_nk _ _ _ (by omega), cg0_x (by omega)]
  · simp only [sI_1]
    by_cases e : u = w
    · rw [e, up2_s, if_pos (by first | exact ⟨rfl, rfl⟩ | exact ⟨trivial, rfl⟩ | trivial)]
    · rw [up2_ne _ _ (Or.inl (by omega)), up2_nk _ _ _ (by omega), cg0_x (by omega), if_neg (fun q => e q.2)]
  · simp only [sI_1]
    rw [up2_ne _ _ (Or.inr (by decide)), up2_nk _ _ _ (by omega), cg0_x (by omega), if_neg (fun q => absurd q.1 (by decide))]
/-- lock-ups of both -/
theorem ch_lock {V1 : Vk} {g : Hq} {c w : Nat} {a b h cr : Int32} {f : Nat → Nat} {hp : Nat → Prop} (hV : ShV V1) (hR : ShR g.2.2) (vn : V1 (300 + c) = some (0, 0)) (hw : w < 4) (ha : a = nI w) (hf : ∀ u, u < 4 → lawPl (f u) ∧ g.2.2 (31 + 9 * u) 0 = some (f u) ∧ g.1 (f u) 5 = g.1 85 (8 * u + 5) ∧ g.1 (f u) 6 = g.1 85 (8 * u + 6)) (b6 : ∀ u, u < 4 → g.1 85 (8 * u + 6) = 0 ∨ g.1 85 (8 * u + 6) = 1) (hx : ∀ u, u < 4 → r_X10_hasPlace V1 (31 + 9 * u) (cg0 g c a b h) = some (bI (hp u), cg0 g c a b h)) : ∃ o : Option Nat, (∀ u, o = some u → u < 4) ∧ r_X5_lockUp V1 22 (300 + c) 19 cr (cg0 g c a b h) = some ((), cLock (cg0 g c a b h) c o) ∧ ∀ gm : Hq, ShR gm.2.2 → gm.1 85 = g.1 85 → (∀ u, u < 4 → r_X12_hasPlace V1 70 (nI u) gm = some (bI (hp u), gm)) → r_X12_placeFor V1 70 (nI w) cr gm = some (enc o, gm) := by
  obtain ⟨o1, o2, o3, o4, o5⟩ := cg0_o (g := g) (c := c) (a := a) (b := b) (h := h)
  have hR0 : ShR (cg0 g c a b h).2.2 := cg0_ShR hR
  have tk : ∀ (gg : Hq) (u : Nat), u < 4 → gg.2.2 = (cg0 g c a b h).2.2 → okV V1 19 4 (nI u) ∧ gg.2.2 19 (nI u).toNatClampNeg = some (31 + 9 * u) ∧ V1 (31 + 9 * u) = some (10, 0) := fun gg u hu e => ⟨ok_nI (n := 4) (t := 4) (v_19 hV) hu (by decide), by rw [e, cl_nI (by omega)]; exact sh_w hR0 hu, sh_vw hV hu⟩
  have s2 : ∀ u, u < 4 → (sI (cg0 g c a b h) (300 + c) 4 (nI u)).1 (31 + 9 * u) 2 = (cg0 g c a b h).1 (31 + 9 * u) 2 := fun u hu => by rw [sI_1, up2_nk _ _ _ (by omega)]
  have own : ∀ u, u < 4 → u = w → r_X5_firstWithPlace V1 a 19 (cg0 g c a b h) = some (nI u, cg0 g c a b h) → r_X5_lockUp V1 22 (300 + c) 19 cr (cg0 g c a b h) = some ((), cLock (cg0 g c a b h) c (some u)) := by
    intro u hu e hfw
    obtain ⟨k1, k2, k3⟩ := tk (sI (cg0 g c a b h) (300 + c) 4 (nI u)) u hu rfl
    unfold r_X5_lockUp
    rw [grd_t vn, o1, hfw, bnd_some, brn_f (enc_ne hu), o1, brn_t (by rw [ha, e]), nm_eq, grd_t k1, k2, bind_some', grd_t k3, nm_eq, s2 u hu]
    rfl
  by_cases e0 : hp w
  · refine ⟨some w, fun u e => by cases e; exact hw, own w hw rfl ?_, fun gm hRm e85 hm => ?_⟩
    · rw [ha]
      unfold r_X5_firstWithPlace
      have := x_fw (g := cg0 g c a b h) hV hR0 hw hx 4 0 (by omega) (some w) (Or.inl ⟨by simpa [Nat.mod_eq_of_lt hw] using e0, by simp [Nat.mod_eq_of_lt hw]⟩)
      rw [ha] at this
      exact this
    · unfold r_X12_placeFor
      rw [grd_t (v_70 hV), hm w hw, bnd_some, brn_f (by rw [bI_0]; exact fun q => q e0)]
      rfl
  · obtain ⟨o, ho⟩ := fwS_ex hp w 3
    have fw : r_X5_firstWithPlace V1 a 19 (cg0 g c a b h) = some (enc o, cg0 g c a b h) := by
      have := x_fw (g := cg0 g c a b h) hV hR0 hw hx 4 0 (by omega) o (Or.inr ⟨by simpa [Nat.mod_eq_of_lt hw] using e0, ho⟩)
      rw [← ha] at this
      exact this
    have mm : ∀ gm : Hq, ShR gm.2.2 → gm.1 85 = g.1 85 → (∀ u, u < 4 → r_X12_hasPlace V1 70 (nI u) gm = some (bI (hp u), gm)) → ∃ o2 : Option Nat, ((o2 = none ∧ (o = none ∨ ∃ u, o = some u ∧ u < 4 ∧ ¬ fol g.1 cr u)) ∨ ∃ u, o = some u ∧ u < 4 ∧ fol g.1 cr u ∧ o2 = some u) ∧ r_X12_placeFor V1 70 (nI w) cr gm = some (enc o2, gm) := by
      intro gm hRm e85 hm
      obtain ⟨o2', q1, q2⟩ := m_fw (cr := cr) hV hRm hw hm (fun u hu => by rw [e85]; exact b6 u hu) 3 1 (by omega) o ho
      refine ⟨o2', ?_, ?_⟩
      · simpa only [fol_cg e85] using q1
      · unfold r_X12_placeFor
        rw [grd_t (v_70 hV), hm w hw, bnd_some, brn_t (by rw [bI_0]; exact e0)]
        exact q2
    cases o with
    | none =>
      refine ⟨none, (fun u e => by cases e), ?_, fun gm h1 h2 h3 => ?_⟩
      · unfold r_X5_lockUp
        rw [grd_t vn, o1, fw, bnd_some, brn_t (show enc none = -1 from rfl), nm_eq]
        rfl
      · obtain ⟨o2', q1, q2⟩ := mm gm h1 h2 h3
        rcases q1 with ⟨q1, -⟩ | ⟨u, q1, -⟩
        · rw [q2, q1]
        · cases q1
    | some u =>
      obtain ⟨p1, hu⟩ := fwS_hp 3 ho
      have ne : u ≠ w := fun e => e0 (e ▸ p1)
      have nei : ¬ enc (some u) = a := by
        show ¬ nI u = a
        rw [ha, nI_eq (by omega) (by omega)]; exact ne
      obtain ⟨f1, f2, f3, f4⟩ := hf u hu
      have nfu : f u ≠ 300 + c := by unfold lawPl at f1; omega
      obtain ⟨k1, k2, k3⟩ := tk (cg0 g c a b h) u hu rfl
      have pf := p_follow (g := cg0 g c a b h) (cr := cr) hV f1
      rw [cg0_x nfu, f3, f4] at pf
      have R0 : (cg0 g c a b h).2.2 (31 + 9 * u) 0 = some (f u) := by rw [(cg0_R (by omega)).1]; exact f2
      by_cases fo : fol g.1 cr u
      · refine ⟨some u, fun v e => by cases e; exact hu, ?_, fun gm h1 h2 h3 => ?_⟩
        · obtain ⟨j1, j2, j3⟩ := tk (sI (cg0 g c a b h) (300 + c) 4 (nI u)) u hu rfl
          unfold r_X5_lockUp
          rw [grd_t vn, o1, fw, bnd_some, brn_f (show ¬ enc (some u) = -1 from enc_ne hu), o1, brn_f nei]
          show grd (okV V1 19 4 (nI u)) _ = _
          rw [grd_t k1]
          show Option.bind ((cg0 g c a b h).2.2 19 (nI u).toNatClampNeg) _ = _
          rw [k2, bind_some', grd_t k3, R0, bind_some', grd_t (sh_vl hV f1), pf, bnd_some, brn_f (by rw [bI_0]; exact fun q => q fo), nm_eq]
          show grd (okV V1 19 4 (nI u)) _ = _
          rw [grd_t j1]
          show Option.bind ((sI (cg0 g c a b h) (300 + c) 4 (nI u)).2.2 19 (nI u).toNatClampNeg) _ = _
          rw [j2, bind_some', grd_t j3, nm_eq]
          show some ((), sI (sI (cg0 g c a b h) (300 + c) 4 (nI u)) (31 + 9 * u) 2 ((sI (cg0 g c a b h) (300 + c) 4 (nI u)).1 (31 + 9 * u) 2 + 1)) = _
          rw [s2 u hu]
          rfl
        · obtain ⟨o2', q1, q2⟩ := mm gm h1 h2 h3
          rcases q1 with ⟨-, q1 | ⟨v, q1, -, q3⟩⟩ | ⟨v, q1, -, -, q3⟩
          · cases q1
          · cases q1; exact absurd fo q3
          · cases q1; rw [q2, q3]
      · refine ⟨none, (fun u e => by cases e), ?_, fun gm h1 h2 h3 => ?_⟩
        · unfold r_X5_lockUp
          rw [grd_t vn, o1, fw, bnd_some, brn_f (show ¬ enc (some u) = -1 from enc_ne hu), o1, brn_f nei]
          show grd (okV V1 19 4 (nI u)) _ = _
          rw [grd_t k1]
          show Option.bind ((cg0 g c a b h).2.2 19 (nI u).toNatClampNeg) _ = _
          rw [k2, bind_some', grd_t k3, R0, bind_some', grd_t (sh_vl hV f1), pf, bnd_some, brn_t (by rw [bI_0]; exact fo), nm_eq]
          rfl
        · obtain ⟨o2', q1, q2⟩ := mm gm h1 h2 h3
          rcases q1 with ⟨q1, -⟩ | ⟨v, q1, -, q3, -⟩
          · rw [q2, q1]
          · cases q1; exact absurd q3 fo
