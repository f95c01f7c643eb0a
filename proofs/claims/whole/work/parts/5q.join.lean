/-! ===== the class's best plans ===== -/
theorem sub_nx : ∀ l o c : Nat, l &&& o = l → c &&& o = c → c < l → c ≤ (l - 1) &&& o := by
  intro l
  induction l using Nat.strongRecOn with
  | _ l ih =>
    intro o c h1 h2 h3
    have d1 : l / 2 &&& o / 2 = l / 2 := by rw [← Nat.and_div_two, h1]
    have d2 : c / 2 &&& o / 2 = c / 2 := by rw [← Nat.and_div_two, h2]
    have m2 : c % 2 = 1 → o % 2 = 1 := fun z => by rw [← h2] at z; exact (Nat.and_mod_two_eq_one.mp z).2
    obtain ⟨X, eX⟩ : ∃ X, X = (l - 1) &&& o := ⟨_, rfl⟩
    have x1 : X / 2 = (l - 1) / 2 &&& o / 2 := by rw [eX, Nat.and_div_two]
    rw [← eX]
    by_cases b : l % 2 = 1
    · rw [show (l - 1) / 2 = l / 2 by omega, d1] at x1
      omega
    · have k := ih (l / 2) (by omega) (o / 2) (c / 2) d1 d2 (by omega)
      rw [show (l - 1) / 2 = l / 2 - 1 by omega] at x1
      rw [← x1] at k
      by_cases z : c % 2 = 1
      · have xm : X % 2 = 1 := by rw [eX]; exact Nat.and_mod_two_eq_one.mpr ⟨by omega, m2 z⟩
        omega
      · omega
theorem drp_lt {p : Nat} (h0 : 0 < p) (h : p < 1024) : drp p < p := (drp_at ⟨p, h⟩ h0).2
theorem sub_iff {l p : Nat} (h0 : 0 < p) (h : p < 1024) : SubL l p ↔ l &&& drp p = l := by
  have tab := (low_at ⟨p, h⟩ h0).2.2
  constructor
  · intro s
    refine Nat.eq_of_testBit_eq (fun i => ?_)
    rw [Nat.testBit_and]
    by_cases b : l.testBit i = true
    · have pb := s.1 i b
      have i10 := bit_lt (n := 10) h pb
      have ne : i ≠ low p := fun z => by rw [z, s.2] at b; cases b
      rw [b, tab ⟨i, i10⟩, pb]
      simp [ne]
    · have b' : l.testBit i = false := by simpa using b
      rw [b', Bool.false_and]
  · intro e
    have bit : ∀ i, l.testBit i = true → p.testBit i = true ∧ i ≠ low p := fun i b => by
      have d : (drp p).testBit i = true := by
        rw [← e, Nat.testBit_and] at b
        simp at b; exact b.2
      have i10 := bit_lt (n := 10) (show drp p < 2 ^ 10 by have := drp_lt h0 h; omega) d
      rw [tab ⟨i, i10⟩] at d
      simp at d
      exact d
    refine ⟨fun i b => (bit i b).1, ?_⟩
    have : ¬ l.testBit (low p) = true := fun z => (bit _ z).2 rfl
    simpa using this
theorem sub_x {l p n : Nat} (s : SubL l p) (h0 : 0 < p) (hp : p < 1024) (hn : p < 2 ^ n) : 0 < p ^^^ l ∧ p ^^^ l < 2 ^ n := by
  refine ⟨bit_pos (i := low p) ?_, Nat.lt_pow_two_of_testBit _ (fun i hi => ?_)⟩
  · rw [Nat.testBit_xor, low_b h0 hp, s.2]; rfl
  · have pb : p.testBit i = false := Nat.testBit_lt_two_pow (Nat.lt_of_lt_of_le hn (p2_le hi))
    have lb : ¬ l.testBit i = true := fun z => by rw [s.1 i z] at pb; cases pb
    have lb' : l.testBit i = false := by simpa using lb
    rw [Nat.testBit_xor, pb, lb']; rfl
theorem sub_drp {p : Nat} (h0 : 0 < p) (h : p < 1024) : SubL (drp p) p := (sub_iff h0 h).mpr (Nat.and_self _)
theorem drp_x {p : Nat} (h0 : 0 < p) (h : p < 1024) : p ^^^ drp p = 2 ^ low p := Nat.eq_of_testBit_eq (fun i => by
  have tab := (low_at ⟨p, h⟩ h0).2.2
  rw [Nat.testBit_xor, Nat.testBit_two_pow]
  by_cases i10 : i < 10
  · have t : (drp p).testBit i = (p.testBit i && !(decide (i = low p))) := tab ⟨i, i10⟩
    rw [t]
    by_cases z : i = low p
    · rw [z, low_b h0 h]; simp
    · simp [z, Ne.symm z]
  · have a : p.testBit i = false := by
      have : ¬ p.testBit i = true := fun z => i10 (bit_lt (n := 10) h z)
      simpa using this
    have b : (drp p).testBit i = false := by
      have : ¬ (drp p).testBit i = true := fun z => i10 (bit_lt (n := 10) (show drp p < 2 ^ 10 by have := drp_lt h0 h; omega) z)
      simpa using this
    have c : low p ≠ i := by have := low_lt ⟨p, h⟩; have : low p < 10 := this; omega
    rw [a, b]; simp [c])
theorem on_tab : ∀ l : Fin 1024, onesF l.1 = lQ (onN l.1) := by decide +kernel
theorem on_lt : ∀ l : Fin 1024, onN l.1 < 2 ^ 40 := by decide +kernel
theorem sh_tab : ∀ t : Fin 1000, (nI t.1).toInt64 <<< ((40 : Int32).toInt64 &&& 63) = lQ (t.1 * 2 ^ 40) := by decide +kernel
def cnd (T PL : Nat → Nat) (p l : Nat) : Nat := PL l + onN l + 2 ^ 54 + T (p ^^^ l) * 2 ^ 40
theorem x_best {V : Vk} {n p : Nat} {T PL : Nat → Nat} {g : Hq} (hV : ShV V) (hR : ShR g.2.2) (hn : n ≤ 10) (h0 : 0 < p) (hp : p < 2 ^ n) (TT : ∀ s, 0 < s → s < 2 ^ n → (T s ≤ 999 ∧ g.1 12 s = nI (T s)) ∨ (T s = 1000000 ∧ g.1 12 s = 100000)) (T1 : ∀ i, i < n → T (2 ^ i) ≤ 999) (L13 : ∀ l, l < p → g.2.1 13 l = lQ (PL l) ∧ PL l < 2 ^ 58) (L14 : ∀ l, l < 1024 → g.2.1 14 l = onesF l) : ∃ b, r_X6_bestPlan V 8 (nI p) g = some (lQ b, g) ∧ (∀ l, SubL l p → T (p ^^^ l) ≤ 999 → b ≤ cnd T PL p l) ∧ ∃ l, SubL l p ∧ T (p ^^^ l) ≤ 999 ∧ b = cnd T PL p l := by
  have n10 := p2_le hn
  have hp' : p < 1024 := by omega
  have dl := drp_lt h0 hp'
  have clt : ∀ l, SubL l p → T (p ^^^ l) ≤ 999 → cnd T PL p l < 2 ^ 59 := fun l s t => by
    have lt := sub_lt s h0 hp'
    have a := (L13 l lt).2
    have b : onN l < 2 ^ 40 := on_lt ⟨l, by omega⟩
    have c : T (p ^^^ l) * 2 ^ 40 ≤ 999 * 2 ^ 40 := Nat.mul_le_mul_right _ t
    unfold cnd
    omega
  have g24 : ∀ t, t < 1024 → ¬ (1024 : Int32) ≤ nI t := fun t h => nI_ge (b := 1024) h (by decide)
  have key : ∀ l, SubL l p → ∀ t, t + l ≤ 1022 → ∀ b, b < 2 ^ 63 → (∀ c, SubL c p → l < c → T (p ^^^ c) ≤ 999 → b ≤ cnd T PL p c) → (b = 2 ^ 63 - 1 ∨ ∃ c, SubL c p ∧ T (p ^^^ c) ≤ 999 ∧ b = cnd T PL p c) → ∃ b', lop (r_X6_bestPlan_16 V) (8, nI p, nI (drp p), lQ b, nI l, nI t, g) = some (lQ b', g) ∧ (∀ c, SubL c p → T (p ^^^ c) ≤ 999 → b' ≤ cnd T PL p c) ∧ (b' = 2 ^ 63 - 1 ∨ ∃ c, SubL c p ∧ T (p ^^^ c) ≤ 999 ∧ b' = cnd T PL p c) := by
    intro l
    induction l using Nat.strongRecOn with
    | _ l ih =>
      intro s t ht b hb h1 h2
      have lt := sub_lt s h0 hp'
      obtain ⟨x0, x1⟩ := sub_x s h0 hp' hp
      -- the step behind this subset
      have nxt : ∀ b2, b2 < 2 ^ 63 → (∀ c, SubL c p → l ≤ c → T (p ^^^ c) ≤ 999 → b2 ≤ cnd T PL p c) → (b2 = 2 ^ 63 - 1 ∨ ∃ c, SubL c p ∧ T (p ^^^ c) ≤ 999 ∧ b2 = cnd T PL p c) → r_X6_bestPlan_16 V (8, nI p, nI (drp p), lQ b, nI l, nI t, g) = brn (nI l = 0) (nm (nI t + (1 : Int32)) fun x14 => some (.inl (8, nI p, nI (drp p), lQ b2, (-1 : Int32), x14, g))) (nm ((nI l - (1 : Int32)) &&& nI (drp p)) fun x15 => nm (nI t + (1 : Int32)) fun x16 => some (.inl (8, nI p, nI (drp p), lQ b2, x15, x16, g))) → ∃ b', lop (r_X6_bestPlan_16 V) (8, nI p, nI (drp p), lQ b, nI l, nI t, g) = some (lQ b', g) ∧ (∀ c, SubL c p → T (p ^^^ c) ≤ 999 → b' ≤ cnd T PL p c) ∧ (b' = 2 ^ 63 - 1 ∨ ∃ c, SubL c p ∧ T (p ^^^ c) ≤ 999 ∧ b' = cnd T PL p c) := by
        intro b2 hb2 k1 k2 e
        by_cases z : l = 0
        · rw [brn_t (by rw [z]; rfl), nI_1, nm_eq] at e
          rw [lop_l e]
          refine ⟨b2, lop_r ?_, fun c sc tc => k1 c sc (by omega) tc, k2⟩
          show r_X6_bestPlan_16' V 8 (nI p) (nI (drp p)) (lQ b2) (-1) (nI (t + 1)) g = _
          unfold r_X6_bestPlan_16'
          rw [brn_f (g24 (t + 1) (by omega)), brn_t (by decide)]
        · rw [brn_f (nI_ne0 (by omega) (by omega)), nI_1, show (1 : Int32) = nI 1 from rfl, pk_sub (by omega), b_and, nm_eq, nm_eq] at e
          rw [lop_l e]
          have le : (l - 1) &&& drp p ≤ l - 1 := Nat.and_le_left
          refine ih _ (by omega) ((sub_iff h0 hp').mpr ?_) (t + 1) (by omega) b2 hb2 (fun c sc lc tc => ?_) k2
          · rw [Nat.and_assoc, Nat.and_self]
          · refine k1 c sc ?_ tc
            refine Nat.le_of_not_lt (fun w => ?_)
            have := sub_nx l (drp p) c ((sub_iff h0 hp').mp s) ((sub_iff h0 hp').mp sc) w
            omega
      have st : r_X6_bestPlan_16 V (8, nI p, nI (drp p), lQ b, nI l, nI t, g) = r_X6_bestPlan_16' V 8 (nI p) (nI (drp p)) (lQ b) (nI l) (nI t) g := rfl
      unfold r_X6_bestPlan_16' at st
      rw [brn_f (g24 t (by omega)), brn_f (nI_pos (by omega)), grd_t (v_8 hV), q_8_3 hR, bind_some', b_xor, grd_t (ok_nI (n := 1024) (t := 0) (v_12 hV) (by omega) (by decide)), cl_nI (by omega), nm_eq] at st
      rcases TT _ x0 x1 with ⟨t1, t2⟩ | ⟨t1, t2⟩
      · have l13 := (L13 l lt).1
        have l14 := L14 l (by omega)
        have cl := clt l s t1
        have sum : lQ (PL l) + onesF l + (18014398509481984 : Int64) + (nI (T (p ^^^ l))).toInt64 <<< ((40 : Int32).toInt64 &&& 63) = lQ (cnd T PL p l) := by
          rw [sh_tab ⟨T (p ^^^ l), by omega⟩, on_tab ⟨l, by omega⟩, show (18014398509481984 : Int64) = lQ (2 ^ 54) from by decide, l_add, l_add, l_add]
          rfl
        rw [t2, brn_f (by rw [show (100000 : Int32) = nI 100000 from rfl, nI_eq (by omega) (by decide)]; omega), q_8_4 hR, bind_some', grd_t (ok_nI (n := 1024) (t := 3) (v_13 hV) (by omega) (by decide)), q_8_5 hR, bind_some', grd_t (ok_nI (n := 1024) (t := 3) (v_14 hV) (by omega) (by decide)), cl_nI (by omega), l13, l14, sum, nm_eq, nm_eq] at st
        by_cases w : cnd T PL p l < b
        · rw [if_pos ((l_lt (by omega) hb).mpr w)] at st
          refine nxt (cnd T PL p l) (by omega) (fun c sc lc tc => ?_) (Or.inr ⟨l, s, t1, rfl⟩) st
          by_cases z : c = l
          · rw [z]; exact Nat.le_refl _
          · have := h1 c sc (by omega) tc; omega
        · rw [if_neg (fun z => w ((l_lt (by omega) hb).mp z))] at st
          refine nxt b hb (fun c sc lc tc => ?_) h2 st
          by_cases z : c = l
          · rw [z]; omega
          · exact h1 c sc (by omega) tc
      · rw [t2, brn_t rfl] at st
        refine nxt b hb (fun c sc lc tc => ?_) h2 st
        by_cases z : c = l
        · rw [z] at tc; omega
        · exact h1 c sc (by omega) tc
  have sd := sub_drp h0 hp'
  obtain ⟨b', k1, k2, k3⟩ := key (drp p) sd 0 (by omega) (2 ^ 63 - 1) (by omega) (fun c sc lc _ => by
    have := (sub_iff h0 hp').mp sc
    have le : c &&& drp p ≤ drp p := Nat.and_le_right
    rw [this] at le
    omega) (Or.inl rfl)
  refine ⟨b', ?_, k2, ?_⟩
  · unfold r_X6_bestPlan
    rw [(drp_at ⟨p, hp'⟩ h0).1, nm_eq]
    exact k1
  · rcases k3 with z | z
    · exfalso
      have t : T (p ^^^ drp p) ≤ 999 := by rw [drp_x h0 hp']; exact T1 _ (bit_lt hp (low_b h0 hp'))
      have a := k2 (drp p) sd t
      have b := clt (drp p) sd t
      omega
    · exact z
theorem row_lt {p m : Nat} {f : Nat → Nat} (r : RGp p f m) (hp : p < 1024) : rowN p f < 2 ^ 40 := by
  have e : rowN p f = rwN (fun i => if p.testBit i = true then f i else 0) 10 := smN_cg 10 (fun i _ => by
    by_cases b : p.testBit i = true
    · simp only [if_pos b]
    · simp only [if_neg b, Nat.zero_mul])
  rw [e]
  refine rw_lt (by decide) (fun j hj => ?_)
  by_cases b : p.testBit j = true
  · simp only [if_pos b]; have := rg_le r j b; omega
  · simp only [if_neg b]; omega
theorem vl_lt {T : Nat → Nat} {p m : Nat} {f : Nat → Nat} (r : RGp p f m) (hp : p < 1024) (v : vdP T p f m) : vlP T p f m < 2 ^ 58 := by
  have h1 := rg_m (n := 10) r hp
  have h2 := vd_su v
  have h3 : 999 * m ≤ 999 * 10 := Nat.mul_le_mul_left _ h1
  have h4 := row_lt r hp
  have h5 : m * 2 ^ 54 ≤ 10 * 2 ^ 54 := Nat.mul_le_mul_right _ h1
  have h6 : suT T p f m * 2 ^ 40 ≤ 9990 * 2 ^ 40 := Nat.mul_le_mul_right _ (by omega)
  unfold vlP
  omega
def plF (g : Hq) (p : Nat) : Nat := (g.2.1 13 p).toInt.toNat
theorem x_join {V : Vk} {n : Nat} {T : Nat → Nat} {g : Hq} (hV : ShV V) (hR : ShR g.2.2) (hn : n ≤ 10) (h6 : g.1 8 6 = nI n) (TT : ∀ s, 0 < s → s < 2 ^ n → (T s ≤ 999 ∧ g.1 12 s = nI (T s)) ∨ (T s = 1000000 ∧ g.1 12 s = 100000)) (T1 : ∀ i, i < n → T (2 ^ i) ≤ 999) (L0 : g.2.1 13 0 = 0) (L14 : ∀ l, l < 1024 → g.2.1 14 l = onesF l) : ∃ g', r_X6_joinParts V 8 g = some ((), g') ∧ g'.1 = g.1 ∧ g'.2.2 = g.2.2 ∧ (∀ a, a ≠ 13 → g'.2.1 a = g.2.1 a) ∧ g'.2.1 13 0 = 0 ∧ PLok T (plF g') (2 ^ n) ∧ ∀ p, p < 2 ^ n → g'.2.1 13 p = lQ (plF g' p) ∧ plF g' p < 2 ^ 58 := by
  have n10 := p2_le hn
  have key : ∀ d p g', p + d = 2 ^ n → 0 < p → g'.1 = g.1 → g'.2.2 = g.2.2 → (∀ a, a ≠ 13 → g'.2.1 a = g.2.1 a) → g'.2.1 13 0 = 0 → PLok T (plF g') p → (∀ q, q < p → g'.2.1 13 q = lQ (plF g' q) ∧ plF g' q < 2 ^ 58) → ∃ g'', lop (r_X6_joinParts_2 V) (8, nI p, g') = some ((), g'') ∧ g''.1 = g.1 ∧ g''.2.2 = g.2.2 ∧ (∀ a, a ≠ 13 → g''.2.1 a = g.2.1 a) ∧ g''.2.1 13 0 = 0 ∧ PLok T (plF g'') (2 ^ n) ∧ ∀ p, p < 2 ^ n → g''.2.1 13 p = lQ (plF g'' p) ∧ plF g'' p < 2 ^ 58 := by
    intro d
    induction d with
    | zero =>
      intro p g' hp h0 f1 f2 f3 f4 f5 f6
      have e : p = 2 ^ n := by omega
      subst e
      refine ⟨g', lop_r ?_, f1, f2, f3, f4, f5, f6⟩
      show r_X6_joinParts_2' V 8 (nI (2 ^ n)) g' = _
      unfold r_X6_joinParts_2'
      rw [grd_t (v_8 hV), f1, h6, b_one (by omega), brn_t (nI_le (Nat.le_refl _) (by omega))]
    | succ d ih =>
      intro p g' hp h0 f1 f2 f3 f4 f5 f6
      obtain ⟨b, k1, k2, k3⟩ := x_best (g := g') (PL := plF g') hV (by rw [f2]; exact hR) hn h0 (by omega) (by rw [f1]; exact TT) T1 f6 (by rw [f3 14 (by decide)]; exact L14)
      have hp' : p < 1024 := by omega
      obtain ⟨g2, eg2⟩ : ∃ g2, g2 = sL g' 13 p (lQ b) := ⟨_, rfl⟩
      have st : r_X6_joinParts_2 V (8, nI p, g') = some (.inl (8, nI (p + 1), g2)) := by
        show r_X6_joinParts_2' V 8 (nI p) g' = _
        unfold r_X6_joinParts_2'
        rw [grd_t (v_8 hV), f1, h6, b_one (by omega), brn_f (nI_ge (by omega) (by omega)), f2, q_8_4 hR, bind_some', k1, bnd_some, grd_t (ok_nI (n := 1024) (t := 3) (v_13 hV) (by omega) (by decide)), cl_nI (by omega), nm_eq, nm_eq, nI_1, eg2]
      have w : ∀ q, g2.2.1 13 q = if q = p then lQ b else g'.2.1 13 q := fun q => by
        rw [eg2, sL_2, up2_at]; simp
      have pe : ∀ q, q ≠ p → plF g2 q = plF g' q := fun q hq => by unfold plF; rw [w, if_neg hq]
      obtain ⟨l0, s0, t0, e0⟩ := k3
      have b59 : b < 2 ^ 63 := by
        have lt := sub_lt s0 h0 hp'
        have a := (f6 l0 lt).2
        have c : onN l0 < 2 ^ 40 := on_lt ⟨l0, by omega⟩
        have e : T (p ^^^ l0) * 2 ^ 40 ≤ 999 * 2 ^ 40 := Nat.mul_le_mul_right _ t0
        rw [e0]; unfold cnd; omega
      have pp : plF g2 p = b := by unfold plF; rw [w, if_pos rfl, l_to b59]; rfl
      have ok : PLok T (plF g2) (p + 1) := by
        refine ⟨by rw [pe 0 (by omega)]; exact f5.1, fun q q0 q1 => ?_⟩
        by_cases z : q = p
        · subst z
          rw [pp]
          refine ⟨fun l s t => ?_, l0, s0, t0, ?_⟩
          · rw [pe l (by have := sub_lt s h0 hp'; omega)]; exact k2 l s t
          · rw [pe l0 (by have := sub_lt s0 h0 hp'; omega)]; exact e0
        · obtain ⟨a1, l, a2, a3, a4⟩ := f5.2 q q0 (by omega)
          have ql : ∀ l, SubL l q → l ≠ p := fun l s => by have := sub_lt s q0 (by omega); omega
          rw [pe q z]
          exact ⟨fun l s t => by rw [pe l (ql l s)]; exact a1 l s t, l, a2, a3, by rw [pe l (ql l a2)]; exact a4⟩
      rw [lop_l st]
      refine ih (p + 1) g2 (by omega) (by omega) (by rw [eg2]; exact f1) (by rw [eg2]; exact f2) (fun a ha => by rw [eg2, sL_2, up2_nk _ _ _ ha]; exact f3 a ha) (by rw [w, if_neg (by omega)]; exact f4) ok (fun q hq => ?_)
      by_cases z : q = p
      · subst z
        obtain ⟨m, f, r, v, e⟩ := plB (show q + 1 ≤ 1024 by omega) ok q (by omega)
        refine ⟨by rw [w, if_pos rfl, pp], ?_⟩
        rw [e]
        exact vl_lt r hp' v
      · rw [w, if_neg z, pe q z]; exact f6 q (by omega)
  have p0 : plF g 0 = 0 := by unfold plF; rw [L0]; rfl
  unfold r_X6_joinParts
  refine key (2 ^ n - 1) 1 g (by have := Nat.pow_pos (n := n) (show 0 < 2 by decide); omega) (by decide) rfl rfl (fun _ _ => rfl) L0 ⟨p0, fun q q0 q1 => absurd q1 (by omega)⟩ (fun q hq => ?_)
  have e : q = 0 := by omega
  subst e
  rw [p0]
  exact ⟨by rw [L0]; rfl, by decide⟩
