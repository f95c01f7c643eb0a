/-! ===== charge ===== -/
def enc (o : Option Nat) : Int32 := o.elim (-1) nI
def fwS (hp : Nat → Prop) (w : Nat) : Nat → Option Nat → Prop
  | 0, o => o = none
  | d + 1, o => (hp ((w + (3 - d)) % 4) ∧ o = some ((w + (3 - d)) % 4)) ∨ (¬ hp ((w + (3 - d)) % 4) ∧ fwS hp w d o)
theorem md4 : ∀ w, w < 4 → ∀ k, k < 4 → (nI w + nI k) - (nI w + nI k) / (4 : Int32) * (4 : Int32) = nI ((w + k) % 4) := by decide +kernel
def fol (I : Nat → Nat → Int32) (cr : Int32) (u : Nat) : Prop := ¬ I 85 (8 * u + 5) = -1 ∧ (cr = 0 → I 85 (8 * u + 6) = 0)
theorem i85 (u j : Nat) : (8 : Int32) * nI u + nI j = nI (8 * u + j) := by rw [show (8 : Int32) = nI 8 from rfl, pk_mul, nI_add]
theorem x_fw1 {V : Vk} {g : Hq} {hp : Nat → Prop} {w k : Nat} (hV : ShV V) (hR : ShR g.2.2) (hw : w < 4) (hk : k < 4) (hx : ∀ u, u < 4 → r_X10_hasPlace V (31 + 9 * u) g = some (bI (hp u), g)) : r_X5_firstWithPlace_2 V (nI w, 19, nI k, g) = brn (hp ((w + k) % 4)) (some (.inr (nI ((w + k) % 4), g))) (some (.inl (nI w, 19, nI (k + 1), g))) := by
  have hu : (w + k) % 4 < 4 := Nat.mod_lt _ (by decide)
  show r_X5_firstWithPlace_2' V (nI w) 19 (nI k) g = _
  unfold r_X5_firstWithPlace_2'
  rw [brn_f (by rw [show (4 : Int32) = nI 4 from rfl]; exact nI_ge hk (by decide)), nm_eq, md4 w hw k hk, grd_t (ok_nI (n := 4) (t := 4) (v_19 hV) hu (by decide)), cl_nI (by omega), sh_w hR hu, bind_some', grd_t (sh_vw hV hu), hx _ hu, bnd_some]
  by_cases e : hp ((w + k) % 4)
  · rw [brn_f (by rw [bI_0]; exact fun q => q e), brn_t e]
  · rw [brn_t (by rw [bI_0]; exact e), brn_f e, nm_eq, nI_1]
theorem x_fw {V : Vk} {g : Hq} {hp : Nat → Prop} {w : Nat} (hV : ShV V) (hR : ShR g.2.2) (hw : w < 4) (hx : ∀ u, u < 4 → r_X10_hasPlace V (31 + 9 * u) g = some (bI (hp u), g)) : ∀ (d k : Nat), k + d = 4 → ∀ o, fwS hp w d o → lop (r_X5_firstWithPlace_2 V) (nI w, 19, nI k, g) = some (enc o, g) := by
  intro d
  induction d with
  | zero =>
    intro k hk o ho
    have e : k = 4 := by omega
    have ho' : o = none := ho
    subst e; subst ho'
    refine lop_r ?_
    show r_X5_firstWithPlace_2' V (nI w) 19 (nI 4) g = _
    unfold r_X5_firstWithPlace_2'
    rw [brn_t (by decide)]
    rfl
  | succ d ih =>
    intro k hk o ho
    have st := x_fw1 (k := k) hV hR hw (by omega) hx
    have ek : k = 3 - d := by omega
    rcases ho with ⟨h1, h2⟩ | ⟨h1, h2⟩
    · rw [← ek] at h1 h2
      rw [brn_t h1] at st
      rw [lop_r st, h2]; rfl
    · rw [← ek] at h1
      rw [brn_f h1] at st
      rw [lop_l st]
      exact ih (k + 1) (by omega) o h2
theorem m_fw1 {V : Vk} {g : Hq} {hp : Nat → Prop} {w k : Nat} {cr : Int32} (hV : ShV V) (hR : ShR g.2.2) (hw : w < 4) (hk : k < 4) (hx : ∀ u, u < 4 → r_X12_hasPlace V 70 (nI u) g = some (bI (hp u), g)) (b6 : ∀ u, u < 4 → g.1 85 (8 * u + 6) = 0 ∨ g.1 85 (8 * u + 6) = 1) : r_X12_placeFor_12 V (70, nI w, cr, nI k, g) = brn (hp ((w + k) % 4)) (brn (fol g.1 cr ((w + k) % 4)) (some (.inr (nI ((w + k) % 4), g))) (some (.inr (-1, g)))) (some (.inl (70, nI w, cr, nI (k + 1), g))) := by
  have hu : (w + k) % 4 < 4 := Nat.mod_lt _ (by decide)
  have i5 : (8 : Int32) * nI ((w + k) % 4) + 5 = nI (8 * ((w + k) % 4) + 5) := i85 _ 5
  have i6 : (8 : Int32) * nI ((w + k) % 4) + 6 = nI (8 * ((w + k) % 4) + 6) := i85 _ 6
  show r_X12_placeFor_12' V 70 (nI w) cr (nI k) g = _
  unfold r_X12_placeFor_12'
  rw [brn_f (by rw [show (4 : Int32) = nI 4 from rfl]; exact nI_ge hk (by decide)), nm_eq, md4 w hw k hk, grd_t (v_70 hV), hx _ hu, bnd_some]
  by_cases e : hp ((w + k) % 4)
  · rw [brn_f (by rw [bI_0]; exact fun q => q e), brn_t e, q_70_29 hR, bind_some', i5, grd_t (ok_nI (n := 40) (t := 0) (v_85 hV) (by omega) (by decide)), cl_nI (by omega)]
    by_cases f5 : g.1 85 (8 * ((w + k) % 4) + 5) = -1
    · rw [brn_t f5, brn_f (fun q => q.1 f5)]
    · rw [brn_f f5, bind_some', i6, grd_t (ok_nI (n := 40) (t := 0) (v_85 hV) (by omega) (by decide)), cl_nI (by omega)]
      by_cases f6 : g.1 85 (8 * ((w + k) % 4) + 6) = 0
      · rw [brn_t f6, brn_t ⟨f5, fun _ => f6⟩]
      · rw [brn_f f6]
        by_cases c : cr = 0
        · rw [brn_t c, brn_f (fun q => f6 (q.2 c))]
        · rw [brn_f c, brn_t ⟨f5, fun q => absurd q c⟩]
  · rw [brn_t (by rw [bI_0]; exact e), brn_f e, nm_eq, nI_1]
theorem m_fw {V : Vk} {g : Hq} {hp : Nat → Prop} {w : Nat} {cr : Int32} (hV : ShV V) (hR : ShR g.2.2) (hw : w < 4) (hx : ∀ u, u < 4 → r_X12_hasPlace V 70 (nI u) g = some (bI (hp u), g)) (b6 : ∀ u, u < 4 → g.1 85 (8 * u + 6) = 0 ∨ g.1 85 (8 * u + 6) = 1) : ∀ (d k : Nat), k + d = 4 → ∀ o, fwS hp w d o → ∃ o2 : Option Nat, ((o2 = none ∧ (o = none ∨ ∃ u, o = some u ∧ u < 4 ∧ ¬ fol g.1 cr u)) ∨ ∃ u, o = some u ∧ u < 4 ∧ fol g.1 cr u ∧ o2 = some u) ∧ lop (r_X12_placeFor_12 V) (70, nI w, cr, nI k, g) = some (enc o2, g) := by
  intro d
  induction d with
  | zero =>
    intro k hk o ho
    have e : k = 4 := by omega
    have ho' : o = none := ho
    subst e; subst ho'
    refine ⟨none, Or.inl ⟨rfl, Or.inl rfl⟩, lop_r ?_⟩
    show r_X12_placeFor_12' V 70 (nI w) cr (nI 4) g = _
    unfold r_X12_placeFor_12'
    rw [brn_t (by decide)]
    rfl
  | succ d ih =>
    intro k hk o ho
    have st := m_fw1 (cr := cr) (k := k) hV hR hw (by omega) hx b6
    have ek : k = 3 - d := by omega
    have hu : (w + k) % 4 < 4 := Nat.mod_lt _ (by decide)
    rcases ho with ⟨h1, h2⟩ | ⟨h1, h2⟩
    · rw [← ek] at h1 h2
      rw [brn_t h1] at st
      by_cases f : fol g.1 cr ((w + k) % 4)
      · rw [brn_t f] at st
        exact ⟨some ((w + k) % 4), Or.inr ⟨_, h2, hu, f, rfl⟩, by rw [lop_r st]; rfl⟩
      · rw [brn_f f] at st
        exact ⟨none, Or.inl ⟨rfl, Or.inr ⟨_, h2, hu, f⟩⟩, by rw [lop_r st]; rfl⟩
    · rw [← ek] at h1
      rw [brn_f h1] at st
      rw [lop_l st]
      exact ih (k + 1) (by omega) o h2
theorem fwS_ex (hp : Nat → Prop) (w : Nat) : ∀ d, ∃ o, fwS hp w d o := by
  intro d
  induction d with
  | zero => exact ⟨none, rfl⟩
  | succ d ih =>
    obtain ⟨o, ho⟩ := ih
    by_cases e : hp ((w + (3 - d)) % 4)
    · exact ⟨_, Or.inl ⟨e, rfl⟩⟩
    · exact ⟨o, Or.inr ⟨e, ho⟩⟩
theorem enc_ne {u : Nat} (hu : u < 4) : ¬ nI u = -1 := by rcases (show u = 0 ∨ u = 1 ∨ u = 2 ∨ u = 3 by omega) with rfl | rfl | rfl | rfl <;> decide
/-- the class's heap after a charge was taken -/
def cg0 (g : Hq) (c : Nat) (a b h : Int32) : Hq := sI (sI (sI (sI (sI (newG g (300 + c)) (300 + c) 3 0) (300 + c) 4 (-1)) (300 + c) 0 a) (300 + c) 1 b) (300 + c) 2 h
theorem cg0_x {g : Hq} {c : Nat} {a b h : Int32} {k : Nat} (hk : k ≠ 300 + c) : (cg0 g c a b h).1 k = g.1 k := by
  unfold cg0
  simp only [sI_1]
  rw [up2_nk _ _ _ hk, up2_nk _ _ _ hk, up2_nk _ _ _ hk, up2_nk _ _ _ hk, up2_nk _ _ _ hk]
  show upr g.1 (300 + c) _ k = _
  rw [upr_at, if_neg hk]
theorem cg0_o {g : Hq} {c : Nat} {a b h : Int32} : (cg0 g c a b h).1 (300 + c) 0 = a ∧ (cg0 g c a b h).1 (300 + c) 1 = b ∧ (cg0 g c a b h).1 (300 + c) 2 = h ∧ (cg0 g c a b h).1 (300 + c) 3 = 0 ∧ (cg0 g c a b h).1 (300 + c) 4 = -1 := by
  unfold cg0
  simp only [sI_1, up2_at, true_and]
  simp
theorem cg0_R {g : Hq} {c : Nat} {a b h : Int32} {k : Nat} (hk : k ≠ 300 + c) : (cg0 g c a b h).2.2 k = g.2.2 k ∧ (cg0 g c a b h).2.1 k = g.2.1 k := by
  unfold cg0
  simp only [sI_3, sI_2]
  refine ⟨?_, ?_⟩
  · show upr g.2.2 (300 + c) _ k = _
    rw [upr_at, if_neg hk]
  · show upr g.2.1 (300 + c) _ k = _
    rw [upr_at, if_neg hk]
theorem cg0_N {g : Hq} {c : Nat} {a b h : Int32} {j : Nat} : (cg0 g c a b h).2.2 (300 + c) j = none := by
  unfold cg0
  simp only [sI_3]
  show upr g.2.2 (300 + c) _ (300 + c) j = _
  rw [upr_at, if_pos rfl]
theorem cg0_ShR {g : Hq} {c : Nat} {a b h : Int32} (hR : ShR g.2.2) : ShR (cg0 g c a b h).2.2 := by
  intro q hq
  have q1 : q.1 < 107 := (by decide +kernel : ∀ q ∈ rfs, q.1 < 107) q hq
  rw [(cg0_R (by omega)).1]
  exact hR q hq
def cFin (g : Hq) (c : Nat) : Hq := sI (sR g 23 c (some (300 + c))) 22 1 (nI (c + 1))
/-- what the class leaves of a charge -/
def CHX (g : Hq) (c w : Nat) (a b h st pl : Int32) (gx : Hq) : Prop := (∀ k, k ≠ 300 + c → k ≠ 22 → (∀ u, u < 4 → k ≠ 31 + 9 * u) → gx.1 k = g.1 k) ∧ (gx.1 22 1 = nI (c + 1)) ∧ (gx.1 (300 + c) 0 = a ∧ gx.1 (300 + c) 1 = b ∧ gx.1 (300 + c) 2 = h ∧ gx.1 (300 + c) 3 = st ∧ gx.1 (300 + c) 4 = pl) ∧ (∀ u, u < 4 → ∀ j, j ≠ 1 → j ≠ 2 → gx.1 (31 + 9 * u) j = g.1 (31 + 9 * u) j) ∧ (∀ u, u < 4 → gx.1 (31 + 9 * u) 1 = if st = 1 ∧ u = w then g.1 (31 + 9 * u) 1 - 5 else g.1 (31 + 9 * u) 1) ∧ (∀ u, u < 4 → gx.1 (31 + 9 * u) 2 = if st = 0 ∧ pl = nI u then g.1 (31 + 9 * u) 2 + 1 else g.1 (31 + 9 * u) 2) ∧ (∀ k, k ≠ 300 + c → gx.2.1 k = g.2.1 k) ∧ (∀ k j, k ≠ 300 + c → (k ≠ 23 ∨ j ≠ c) → gx.2.2 k j = g.2.2 k j) ∧ (gx.2.2 23 c = some (300 + c)) ∧ (∀ j, gx.2.2 (300 + c) j = none)
theorem CHX.i {g : Hq} {c w : Nat} {a b h st pl : Int32} {gx : Hq} (h_ : CHX g c w a b h st pl gx) : ∀ k, k ≠ 300 + c → k ≠ 22 → (∀ u, u < 4 → k ≠ 31 + 9 * u) → gx.1 k = g.1 k := h_.1
theorem CHX.n {g : Hq} {c w : Nat} {a b h st pl : Int32} {gx : Hq} (h_ : CHX g c w a b h st pl gx) : gx.1 22 1 = nI (c + 1) := h_.2.1
theorem CHX.o {g : Hq} {c w : Nat} {a b h st pl : Int32} {gx : Hq} (h_ : CHX g c w a b h st pl gx) : gx.1 (300 + c) 0 = a ∧ gx.1 (300 + c) 1 = b ∧ gx.1 (300 + c) 2 = h ∧ gx.1 (300 + c) 3 = st ∧ gx.1 (300 + c) 4 = pl := h_.2.2.1
theorem CHX.w0 {g : Hq} {c w : Nat} {a b h st pl : Int32} {gx : Hq} (h_ : CHX g c w a b h st pl gx) : ∀ u, u < 4 → ∀ j, j ≠ 1 → j ≠ 2 → gx.1 (31 + 9 * u) j = g.1 (31 + 9 * u) j := h_.2.2.2.1
theorem CHX.w1 {g : Hq} {c w : Nat} {a b h st pl : Int32} {gx : Hq} (h_ : CHX g c w a b h st pl gx) : ∀ u, u < 4 → gx.1 (31 + 9 * u) 1 = if st = 1 ∧ u = w then g.1 (31 + 9 * u) 1 - 5 else g.1 (31 + 9 * u) 1 := h_.2.2.2.2.1
theorem CHX.w2 {g : Hq} {c w : Nat} {a b h st pl : Int32} {gx : Hq} (h_ : CHX g c w a b h st pl gx) : ∀ u, u < 4 → gx.1 (31 + 9 * u) 2 = if st = 0 ∧ pl = nI u then g.1 (31 + 9 * u) 2 + 1 else g.1 (31 + 9 * u) 2 := h_.2.2.2.2.2.1
theorem CHX.l {g : Hq} {c w : Nat} {a b h st pl : Int32} {gx : Hq} (h_ : CHX g c w a b h st pl gx) : ∀ k, k ≠ 300 + c → gx.2.1 k = g.2.1 k := h_.2.2.2.2.2.2.1
theorem CHX.r {g : Hq} {c w : Nat} {a b h st pl : Int32} {gx : Hq} (h_ : CHX g c w a b h st pl gx) : ∀ k j, k ≠ 300 + c → (k ≠ 23 ∨ j ≠ c) → gx.2.2 k j = g.2.2 k j := h_.2.2.2.2.2.2.2.1
theorem CHX.r0 {g : Hq} {c w : Nat} {a b h st pl : Int32} {gx : Hq} (h_ : CHX g c w a b h st pl gx) : gx.2.2 23 c = some (300 + c) := h_.2.2.2.2.2.2.2.2.1
theorem CHX.r1 {g : Hq} {c w : Nat} {a b h st pl : Int32} {gx : Hq} (h_ : CHX g c w a b h st pl gx) : ∀ j, gx.2.2 (300 + c) j = none := h_.2.2.2.2.2.2.2.2.2
/-- what the reference makes of it -/
def CHM (gx : Hq) (c w : Nat) (a b h st pl : Int32) (g2 : Hq) : Prop := (∀ k, ¬ (100 ≤ k ∧ k ≤ 105) → k ≠ 70 → g2.1 k = gx.1 k) ∧ (∀ j, j ≠ 46 → g2.1 70 j = gx.1 70 j) ∧ (g2.1 70 46 = nI (c + 1)) ∧ (g2.1 101 c = a ∧ g2.1 102 c = b ∧ g2.1 103 c = h ∧ g2.1 104 c = st ∧ g2.1 105 c = pl) ∧ (∀ k j, 101 ≤ k → k ≤ 105 → j ≠ c → g2.1 k j = gx.1 k j) ∧ (∀ u, u < 4 → g2.1 100 u = if st = 1 ∧ u = w then gx.1 100 u - 5 else gx.1 100 u) ∧ (g2.2 = gx.2)
theorem CHM.i {gx : Hq} {c w : Nat} {a b h st pl : Int32} {g2 : Hq} (h_ : CHM gx c w a b h st pl g2) : ∀ k, ¬ (100 ≤ k ∧ k ≤ 105) → k ≠ 70 → g2.1 k = gx.1 k := h_.1
theorem CHM.m {gx : Hq} {c w : Nat} {a b h st pl : Int32} {g2 : Hq} (h_ : CHM gx c w a b h st pl g2) : ∀ j, j ≠ 46 → g2.1 70 j = gx.1 70 j := h_.2.1
theorem CHM.n {gx : Hq} {c w : Nat} {a b h st pl : Int32} {g2 : Hq} (h_ : CHM gx c w a b h st pl g2) : g2.1 70 46 = nI (c + 1) := h_.2.2.1
theorem CHM.o {gx : Hq} {c w : Nat} {a b h st pl : Int32} {g2 : Hq} (h_ : CHM gx c w a b h st pl g2) : g2.1 101 c = a ∧ g2.1 102 c = b ∧ g2.1 103 c = h ∧ g2.1 104 c = st ∧ g2.1 105 c = pl := h_.2.2.2.1
theorem CHM.o0 {gx : Hq} {c w : Nat} {a b h st pl : Int32} {g2 : Hq} (h_ : CHM gx c w a b h st pl g2) : ∀ k j, 101 ≤ k → k ≤ 105 → j ≠ c → g2.1 k j = gx.1 k j := h_.2.2.2.2.1
theorem CHM.w1 {gx : Hq} {c w : Nat} {a b h st pl : Int32} {g2 : Hq} (h_ : CHM gx c w a b h st pl g2) : ∀ u, u < 4 → g2.1 100 u = if st = 1 ∧ u = w then gx.1 100 u - 5 else gx.1 100 u := h_.2.2.2.2.2.1
theorem CHM.l {gx : Hq} {c w : Nat} {a b h st pl : Int32} {g2 : Hq} (h_ : CHM gx c w a b h st pl g2) : g2.2 = gx.2 := h_.2.2.2.2.2.2
theorem lyC_i {I I2 : Nat → Nat → Int32} {w : Nat} : ∀ c, (∀ i, i < c → I2 104 i = I 104 i ∧ I2 105 i = I 105 i) → lyC I2 w c = lyC I w c := by
  intro c
  induction c with
  | zero => intro _; rfl
  | succ c ih => intro h; unfold lyC; rw [ih (fun i hi => h i (by omega)), (h c (by omega)).1, (h c (by omega)).2]
theorem ch_Inv {V : Vk} {g gx g2 : Hq} {n c w : Nat} {a b h st pl : Int32} (hI : Inv V g) (hh : RH V g.1 g.2.2 n) (hy : ∀ w, w < 4 → RY1 g.1 n w) (hn : RN V g.1 g.2.2 c) (hr : RR g.2.2 n c) (c1 : c < 100) (X : CHX g c w a b h st pl gx) (M : CHM gx c w a b h st pl g2) : Inv (newV V (300 + c) (0, 0)) g2 := by
  have vx : ∀ k, k ≠ 300 + c → newV V (300 + c) (0, 0) k = V k := fun k hk => by unfold newV; rw [if_neg hk]
  have ex : ∀ k, k ≠ 300 + c → k ≠ 22 → (∀ u, u < 4 → k ≠ 31 + 9 * u) → ¬ (100 ≤ k ∧ k ≤ 105) → k ≠ 70 → g2.1 k = g.1 k := fun k h1 h2 h3 h4 h5 => by rw [M.i k h4 h5, X.i k h1 h2 h3]
  have e70 : ∀ j, j ≠ 46 → g2.1 70 j = g.1 70 j := fun j hj => by rw [M.m j hj, X.i 70 (by omega) (by decide) (fun u hu => by omega)]
  have eR : ∀ k j, k ≠ 300 + c → (k ≠ 23 ∨ j ≠ c) → g2.2.2 k j = g.2.2 k j := fun k j h1 h2 => by rw [M.l, X.r k j h1 h2]
  have eL : ∀ k, k ≠ 300 + c → g2.2.1 k = g.2.1 k := fun k h1 => by rw [M.l, X.l k h1]
  have eW : ∀ u, u < 4 → ∀ j, g2.1 (31 + 9 * u) j = gx.1 (31 + 9 * u) j := fun u hu j => by rw [M.i _ (by omega) (by omega)]
  refine ⟨fun k hk => ?_, fun q hq => ?_, ?_, ?_, ?_, ?_, ?_, ?_, ?_, n, c + 1, ?_, ?_, ?_, ?_⟩
  · rw [vx k (by omega)]; exact hI.v k hk
  · have q1 : q.1 < 107 ∧ q.1 ≠ 23 := (by decide +kernel : ∀ q ∈ rfs, q.1 < 107 ∧ q.1 ≠ 23) q hq
    rw [eR _ _ (by omega) (Or.inl q1.2)]
    exact hI.r q hq
  · exact hI.t.cg (ex 1 (by omega) (by omega) (by omega) (by omega) (by omega)) (ex 2 (by omega) (by omega) (by omega) (by omega) (by omega)) (ex 71 (by omega) (by omega) (by omega) (by omega) (by omega)) (e70 _ (by decide))
  · exact cgW hI.w (fun k hk => by unfold sW at hk; exact ex k (by omega) (by omega) (by omega) (by omega) (by omega))
  · exact cgP hI.p (fun k hk => by unfold sP at hk; exact ex k (by omega) (by omega) (by omega) (by omega) (by omega)) (e70 _ (by decide)) (e70 _ (by decide)) (e70 _ (by decide)) (eL _ (by omega)) (eL _ (by omega))
  · exact cgF hI.f (ex 18 (by omega) (by omega) (by omega) (by omega) (by omega)) (e70 _ (by decide)) (e70 _ (by decide))
  · exact cgLw hI.l (fun k hk => by unfold sLw at hk; exact ex k (by omega) (by omega) (by omega) (by omega) (by omega)) (eR _ _ (by omega) (Or.inl (by decide))) (fun w hw => eR _ _ (by omega) (Or.inl (by omega)))
  · exact cgG hI.g (ex 24 (by omega) (by omega) (by omega) (by omega) (by omega)) (e70 _ (by decide)) (e70 _ (by decide))
  · exact cgX hI.x (e70 _ (by decide)) (eL _ (by omega))
  · have := cgH hh (I2 := g2.1) (R2 := g2.2.2) (fun k hk => by unfold sH at hk; exact ex k (by omega) (by omega) (by omega) (by omega) (by omega)) (e70 _ (by decide)) (by funext j; exact eR _ _ (by omega) (Or.inl (by decide)))
    obtain ⟨m1, m2, m3, m4, m5⟩ := this
    refine ⟨m1, m2, m3, fun i hi => ?_, fun i hi hi2 => by rw [vx _ (by omega)]; exact m5 i hi hi2⟩
    rw [vx _ (by omega)]
    exact m4 i hi
  · intro u hu
    obtain ⟨y1, y2, y3, y4, y5, y6⟩ := hy u hu
    have f : ∀ k, (37 ≤ k ∧ k ≤ 39) ∨ (46 ≤ k ∧ k ≤ 48) ∨ (55 ≤ k ∧ k ≤ 57) ∨ (64 ≤ k ∧ k ≤ 66) ∨ (94 ≤ k ∧ k ≤ 99) → g2.1 k = g.1 k := fun k hk => ex k (by omega) (by omega) (by omega) (by omega) (by omega)
    unfold RY1
    rw [eW u hu, eW u hu, eW u hu, eW u hu, X.w0 u hu 3 (by decide) (by decide), X.w0 u hu 4 (by decide) (by decide), X.w0 u hu 5 (by decide) (by decide), f (31 + 9 * u + 6) (by omega), f (31 + 9 * u + 7) (by omega), f (31 + 9 * u + 8) (by omega), f 94 (by omega), f 95 (by omega), f 96 (by omega), f 97 (by omega), f 98 (by omega), f 99 (by omega)]
    refine ⟨?_, y2, y3, y4, y5, y6⟩
    rw [X.w1 u hu, M.w1 u hu, X.i 100 (by omega) (by decide) (by omega), y1]
  · obtain ⟨n1, n2, n3, n4, n5, n6⟩ := hn
    have rw0 : ∀ k j, 101 ≤ k → k ≤ 105 → j ≠ c → g2.1 k j = g.1 k j := fun k j h1 h2 h3 => by rw [M.o0 k j h1 h2 h3, X.i k (by omega) (by omega) (by omega)]
    refine ⟨by omega, by rw [M.i 22 (by omega) (by omega)]; exact X.n, M.n, fun i hi => ?_, fun i hi hi2 => ?_, fun u hu => ?_⟩
    · by_cases e : i = c
      · subst e
        obtain ⟨o1, o2, o3, o4, o5⟩ := X.o
        obtain ⟨p1, p2, p3, p4, p5⟩ := M.o
        rw [M.i (300 + i) (by omega) (by omega), p1, p2, p3, p4, p5]
        refine ⟨by rw [M.l]; exact X.r0, by unfold newV; rw [if_pos rfl], o1, o2, o3, o4, o5⟩
      · have hi2 : i < c := by omega
        rw [ex (300 + i) (by omega) (by omega) (by omega) (by omega) (by omega), rw0 101 i (by decide) (by decide) e, rw0 102 i (by decide) (by decide) e, rw0 103 i (by decide) (by decide) e, rw0 104 i (by decide) (by decide) e, rw0 105 i (by decide) (by decide) e, vx _ (by omega), eR 23 i (by omega) (Or.inr e)]
        exact n4 i hi2
    · rw [vx _ (by omega)]; exact n5 i (by omega) hi2
    · rw [eW u hu, X.w2 u hu, n6 u hu]
      show _ = nI (lyC g2.1 u c + if g2.1 104 c = 0 ∧ g2.1 105 c = nI u then 1 else 0)
      rw [lyC_i (I := g.1) (I2 := g2.1) c (fun i hi => ⟨rw0 104 i (by decide) (by decide) (by omega), rw0 105 i (by decide) (by decide) (by omega)⟩), M.o.2.2.2.1, M.o.2.2.2.2]
      by_cases e : st = 0 ∧ pl = nI u
      · rw [if_pos e, if_pos e, nI_1]
      · rw [if_neg e, if_neg e]; rfl
  · intro k j r hk
    by_cases e : k = 300 + c
    · subst e
      rw [M.l, X.r1] at hk
      cases hk
    · by_cases e2 : k = 23 ∧ j = c
      · obtain ⟨rfl, rfl⟩ := e2
        rw [M.l, X.r0] at hk
        cases hk
        exact Or.inr (Or.inr ⟨j, by omega, rfl⟩)
      · rw [eR k j e (by omega)] at hk
        rcases hr k j r hk with h1 | h1 | ⟨i, h1, h2⟩
        · exact Or.inl h1
        · exact Or.inr (Or.inl h1)
        · exact Or.inr (Or.inr ⟨i, by omega, h2⟩)
