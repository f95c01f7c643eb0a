/-! ===== the greatest common part ===== -/
def fb : Nat → Nat
  | 0 => 0
  | 1 => 1
  | n + 2 => fb (n + 1) + fb n
theorem fb_s (n : Nat) : fb (n + 2) = fb (n + 1) + fb n := rfl
theorem fb_le : ∀ n, fb (n + 1) ≤ fb (n + 2) := fun n => by rw [fb_s]; omega
theorem fb_8 (n : Nat) : 8 * fb (n + 1) ≤ fb (n + 6) := by
  have h1 : fb (n + 3) = fb (n + 2) + fb (n + 1) := fb_s (n + 1)
  have h2 : fb (n + 4) = fb (n + 3) + fb (n + 2) := fb_s (n + 2)
  have h3 : fb (n + 5) = fb (n + 4) + fb (n + 3) := fb_s (n + 3)
  have h4 : fb (n + 6) = fb (n + 5) + fb (n + 4) := fb_s (n + 4)
  have h5 := fb_le n
  omega
def alv : Nat → Nat → Nat → Prop
  | 0, _, _ => True
  | n + 1, a, b => 0 < b ∧ alv n b (a % b)
theorem alv_fb : ∀ n a b, alv n a b → fb n ≤ b ∧ (∀ k, n = k + 1 → fb k ≤ a % b ∨ n = 1) := by
  intro n
  induction n with
  | zero => intro a b _; exact ⟨Nat.zero_le _, fun k h => by omega⟩
  | succ n ih =>
    intro a b h
    obtain ⟨h1, h2⟩ := h
    obtain ⟨i1, i2⟩ := ih b (a % b) h2
    have hlt : a % b < b := Nat.mod_lt a h1
    refine ⟨?_, fun k hk => Or.inl (by rw [show k = n by omega]; exact i1)⟩
    cases n with
    | zero => exact h1
    | succ m =>
      have h3 := h2.1
      rcases i2 m rfl with q | q
      · rw [fb_s]
        have e := Nat.div_add_mod b (a % b)
        have e2 : 1 ≤ b / (a % b) := Nat.div_pos (by omega) h3
        have e3 : a % b ≤ (a % b) * (b / (a % b)) := Nat.le_mul_of_pos_right _ e2
        omega
      · have : m = 0 := by omega
        subst this
        show 1 + 0 ≤ b
        omega
theorem fb_100 : 2 ^ 58 ≤ fb 100 := by
  have h0 : fb 5 = 5 := rfl
  have h := fun n => fb_8 n
  have s : ∀ j, 8 ^ j * 5 ≤ fb (5 * j + 5) := by
    intro j
    induction j with
    | zero => rw [h0]; decide
    | succ j ih =>
      have := fb_8 (5 * j + 4)
      rw [show 5 * (j + 1) + 5 = 5 * j + 4 + 6 by omega, Nat.pow_succ]
      rw [show 5 * j + 4 + 1 = 5 * j + 5 by omega] at this
      omega
  have := s 19
  have e : (2 ^ 58 : Nat) ≤ 8 ^ 19 * 5 := by decide
  exact Nat.le_trans e this
theorem gcd_both {V : Vk} {g gm : Hq} : ∀ (m a b i : Nat), i + m = 100 → ¬ alv m a b → a < 2 ^ 63 → b < 2 ^ 63 → (0 < a ∨ 0 < b) → ∃ d, 0 < d ∧ d < 2 ^ 63 ∧ lop (r_X11_greatestCommonPart_9 V) (lQ a, lQ b, nI i, g) = some (lQ d, g) ∧ ∀ (x : Int32) (all few : Int64), lop (r_X12_doubt_167 V) (x, all, few, lQ a, lQ b, gm) = some ((if x = 0 then few / lQ d else all / lQ d), gm) := by
  intro m
  induction m with
  | zero => intro a b i hi h; exact absurd trivial h
  | succ m ih =>
    intro a b i hi h ha hb hp
    by_cases b0 : b = 0
    · subst b0
      have a0 : 0 < a := by omega
      refine ⟨a, a0, ha, lop_r ?_, fun x all few => lop_r ?_⟩
      · show r_X11_greatestCommonPart_9' V (lQ a) (lQ 0) (nI i) g = _
        unfold r_X11_greatestCommonPart_9'
        have e : (if (1 : Int64) < lQ a then lQ a else (1 : Int64)) = lQ a := by
          by_cases c : (1 : Int64) < lQ a
          · rw [if_pos c]
          · rw [if_neg c]
            have c2 : ¬ lQ 1 < lQ a := c
            rw [l_lt (by decide) ha] at c2
            rw [show a = 1 by omega]; rfl
        rw [brn_f (by rw [show (100 : Int32) = nI 100 from rfl]; exact nI_ge (by omega) (by decide)), brn_t ((lg_cmp_le _ _).mpr (by show lQ 0 ≤ lQ 0; rw [l_le (by decide) (by decide)]; omega)), e]
      · show r_X12_doubt_167' V x all few (lQ a) (lQ 0) gm = _
        unfold r_X12_doubt_167'
        have na : ¬ lQ a = 0 := by rw [l_0 ha]; omega
        rw [brn_t ((lg_cmp_eq (lQ 0) 0).mpr rfl), grd_t na, grd_t na]
        by_cases x0 : x = 0
        · rw [brn_t x0, if_pos x0]
        · rw [brn_f x0, if_neg x0]
    · have bp : 0 < b := by omega
      have hlt : a % b < b := Nat.mod_lt a bp
      obtain ⟨d, d1, d2, d3, d4⟩ := ih b (a % b) (i + 1) (by omega) (fun q => h ⟨bp, q⟩) hb (by omega) (Or.inl bp)
      have nb' : ¬ lQ b = 0 := by rw [l_0 hb]; omega
      refine ⟨d, d1, d2, (lop_l ?_).trans d3, fun x all few => (lop_l ?_).trans (d4 x all few)⟩
      · show r_X11_greatestCommonPart_9' V (lQ a) (lQ b) (nI i) g = _
        unfold r_X11_greatestCommonPart_9'
        rw [brn_f (by rw [show (100 : Int32) = nI 100 from rfl]; exact nI_ge (by omega) (by decide)), brn_f (by rw [lg_cmp_le]; show ¬ lQ b ≤ lQ 0; rw [l_le hb (by decide)]; omega), grd_t nb', l_mod ha hb, nm_eq, nm_eq, nI_1]
      · show r_X12_doubt_167' V x all few (lQ a) (lQ b) gm = _
        unfold r_X12_doubt_167'
        rw [brn_f (by rw [lg_cmp_eq]; exact nb'), grd_t nb', l_mod ha hb, nm_eq]
/-- as few or fewer -/
def fewS (w o' r : Nat) : Nat → Nat
  | 0 => 0
  | i + 1 => fewS w o' r i + choF w i * choF o' (r - i)
theorem few_b {w o' r : Nat} (hw : w ≤ 30) (ho : o' ≤ 30) : ∀ i, fewS w o' r i ≤ i * (924 * 2 ^ 18 * (924 * 2 ^ 18)) := by
  intro i
  induction i with
  | zero => exact Nat.zero_le _
  | succ i ih =>
    have h1 := cho_b30 (k := i) hw
    have h2 := cho_b30 (k := r - i) ho
    have h3 := Nat.mul_le_mul h1 h2
    show fewS w o' r i + choF w i * choF o' (r - i) ≤ _
    rw [Nat.add_mul]
    omega
theorem p_isInTable (V : Vk) (a : Int32) (g : Hq) : r_X11_isInTable V a g = some (bI (0 ≤ a ∧ a ≤ 15), g) := by
  unfold r_X11_isInTable
  rw [p_isFrom, bnd_some, grd_t (nb _)]
theorem m_isSome (V : Vk) (a : Int32) (g : Hq) : r_X12_isSome V a g = some (bI (0 ≤ a ∧ a ≤ 15), g) := by
  unfold r_X12_isSome
  rw [p_in, bnd_some, grd_t (nb _)]
theorem Inv_tri {V : Vk} {g : Hq} (h : Inv V g) : Inv V (triG g) := by
  obtain ⟨h1, h2, h3, h4, h5, h6, h7, h8, h9, n, c, h10, h11, h12, h13⟩ := h
  have ex : ∀ a, a ≠ 70 → (triG g).1 a = g.1 a := fun a ha => by show (sI g 70 55 1).1 a = _; rw [sI_1, up2_nk _ _ _ ha]
  have e70 : ∀ j, j ≠ 55 → (triG g).1 70 j = g.1 70 j := fun j hj => by show (sI g 70 55 1).1 70 j = _; rw [sI_1, up2_ne _ _ (Or.inr hj)]
  have eL : ∀ a, a ≠ 106 → (triG g).2.1 a = g.2.1 a := fun a ha => by show upr g.2.1 106 _ a = _; rw [upr_at, if_neg ha]
  refine ⟨h1, h2, ?_, ?_, ?_, ?_, ?_, ?_, Or.inr triG_S, n, c, ?_, ?_, ?_, h13⟩
  · exact h3.cg (ex 1 (by decide)) (ex 2 (by decide)) (ex 71 (by decide)) (e70 1 (by decide))
  · exact cgW h4 (fun a ha => by unfold sW at ha; exact ex a (by omega))
  · exact cgP h5 (fun a ha => by unfold sP at ha; exact ex a (by omega)) (e70 _ (by decide)) (e70 _ (by decide)) (e70 _ (by decide)) (eL 13 (by decide)) (eL 14 (by decide))
  · exact cgF h6 (ex 18 (by decide)) (e70 _ (by decide)) (e70 _ (by decide))
  · exact cgLw h7 (fun a ha => by unfold sLw at ha; exact ex a (by omega)) rfl (fun _ _ => rfl)
  · exact cgG h8 (ex 24 (by decide)) (e70 _ (by decide)) (e70 _ (by decide))
  · exact cgH h10 (fun a ha => by unfold sH at ha; exact ex a (by omega)) (e70 _ (by decide)) rfl
  · exact fun w hw => cgY hw (h11 w hw) (fun a ha => by unfold sY at ha; exact ex a (by omega))
  · exact cgN h12 (fun a ha => by unfold sN at ha; exact ex a (by omega)) (e70 _ (by decide)) rfl
theorem op_doubt {V : Vk} {g : Hq} (h : Inv V g) (a b c d e : Int32) : Op V g (r_X11_doubt V 0 a b c d e) (r_X12_doubt V 70 a b c d e) := by
  have hv := v_70 h.v
  by_cases k1 : 0 ≤ a ∧ a ≤ 15
  · by_cases k2 : 0 ≤ b ∧ b ≤ 15
    · by_cases k3 : 0 ≤ c ∧ c ≤ 15
      · by_cases k4 : 0 ≤ d ∧ d ≤ 15
        · obtain ⟨a', ha, rfl⟩ := nat_of (n := 15) rfl k1
          obtain ⟨b', hb, rfl⟩ := nat_of (n := 15) rfl k2
          obtain ⟨c', hc, rfl⟩ := nat_of (n := 15) rfl k3
          obtain ⟨d', hd, rfl⟩ := nat_of (n := 15) rfl k4
          by_cases k5 : 0 ≤ e ∧ e ≤ 2
          · by_cases z : a' + b' + (c' + d') = 0
            · have z1 : nI a' + nI b' + (nI c' + nI d') = 0 := by rw [nI_add, nI_add, nI_add, z]; rfl
              have z2 : nI a' + nI b' + nI c' + nI d' = 0 := by rw [nI_add, nI_add, nI_add, show a' + b' + c' + d' = 0 by omega]; rfl
              refine ⟨-2, g, g, ?_, ?_, h⟩
              · unfold r_X11_doubt
                rw [p_isInTable, bnd_some, brn_f (by rw [bI_0]; exact fun q => q k1), p_isInTable, bnd_some, brn_f (by rw [bI_0]; exact fun q => q k2), p_isInTable, bnd_some, brn_f (by rw [bI_0]; exact fun q => q k3), p_isInTable, bnd_some, brn_f (by rw [bI_0]; exact fun q => q k4), p_isFrom, bnd_some, brn_f (by rw [bI_0]; exact fun q => q k5), nm_eq, nm_eq, nm_eq, brn_t z1]
              · unfold r_X12_doubt
                rw [m_isSome, bnd_some, brn_f (by rw [bI_0]; exact fun q => q k1), m_isSome, bnd_some, brn_f (by rw [bI_0]; exact fun q => q k2), m_isSome, bnd_some, brn_f (by rw [bI_0]; exact fun q => q k3), m_isSome, bnd_some, brn_f (by rw [bI_0]; exact fun q => q k4), brn_t z2]
            · have z1 : ¬ nI (a' + b' + (c' + d')) = 0 := by rw [show (0 : Int32) = nI 0 from rfl, nI_eq (by omega) (by decide)]; exact z
              -- the reference's heap behind the triangle
              obtain ⟨g2, hg2, tS, ch0, hI2⟩ : ∃ g2 : Hq, g2.2.2 = g.2.2 ∧ TrS g2 ∧ r_X12_chosen V 70 (nI (a' + b' + (c' + d'))) (nI (a' + c')) g = some (lQ (choF (a' + b' + (c' + d')) (a' + c')), g2) ∧ Inv V g2 := by
                rcases h.x with ⟨x0, -⟩ | x1
                · exact ⟨triG g, rfl, triG_S, m_cho0 h.v h.r x0 (by omega) (by omega), Inv_tri h⟩
                · exact ⟨g, rfl, x1, m_cho1 h.v h.r x1 (by omega) (by omega), h⟩
              have hR2 : ShR g2.2.2 := by rw [hg2]; exact h.r
              obtain ⟨al, eal⟩ : ∃ al, al = choF (a' + b' + (c' + d')) (a' + c') := ⟨_, rfl⟩
              obtain ⟨fw, efw⟩ : ∃ fw, fw = fewS (a' + b') (c' + d') (a' + c') (a' + 1) := ⟨_, rfl⟩
              have alb : al < 2 ^ 58 := by
                have := cho_b (n := a' + b' + (c' + d')) (k := a' + c') (by omega)
                have e : (924 * 2 ^ 48 : Nat) < 2 ^ 58 := by decide
                omega
              have alp : 0 < al := by
                rw [eal]
                have : ∀ n k, k ≤ n → 0 < choF n k := by
                  intro n
                  induction n with
                  | zero => intro k hk; rw [show k = 0 by omega]; decide
                  | succ n ih =>
                    intro k hk
                    cases k with
                    | zero => rw [cho_0]; decide
                    | succ k => rw [cho_s]; have := ih k (by omega); omega
                exact this _ _ (by omega)
              have fwb : fw < 2 ^ 63 := by
                have := few_b (w := a' + b') (o' := c' + d') (r := a' + c') (by omega) (by omega) (a' + 1)
                have h1 : (a' + 1) * (924 * 2 ^ 18 * (924 * 2 ^ 18)) ≤ 16 * (924 * 2 ^ 18 * (924 * 2 ^ 18)) := Nat.mul_le_mul_right _ (by omega)
                have h2 : (16 * (924 * 2 ^ 18 * (924 * 2 ^ 18)) : Nat) < 2 ^ 63 := by decide
                omega
              obtain ⟨gd, gd1, gd2, gd3, gd4⟩ := gcd_both (V := V) (g := g) (gm := g2) 100 fw al 0 (by omega) (fun q => by have := (alv_fb 100 fw al q).1; have := fb_100; omega) fwb (by omega) (Or.inr alp)
              have ngd : ¬ lQ gd = 0 := by rw [l_0 gd2]; omega
              have gX : r_X11_greatestCommonPart V (lQ fw) (lQ al) g = some (lQ gd, g) := gd3
              obtain ⟨R, hRX, hRM⟩ : ∃ R : Int64, r_X11_doubt_89 V (nI a', e, nI (a' + b'), nI (c' + d'), nI (a' + c'), lQ al, lQ fw, nI (a' + 1), g) = some (.inr (R, g)) ∧ r_X12_doubt_77 V (70, nI a', nI b', nI c', nI d', e, lQ al, lQ fw, nI (a' + 1), g2) = some (.inr (R, g2)) := by
                have lt : nI a' < nI (a' + 1) := nI_lt (by omega) (by omega)
                by_cases e2 : e = 2
                · by_cases q : 0 < lg_cmp (20 * lQ fw) (lQ al)
                  · refine ⟨0, ?_, ?_⟩
                    · show r_X11_doubt_89' V (nI a') e _ _ _ (lQ al) (lQ fw) (nI (a' + 1)) g = _
                      unfold r_X11_doubt_89'
                      rw [brn_t lt, brn_t e2, brn_t q]
                    · show r_X12_doubt_77' V 70 (nI a') _ _ _ e (lQ al) (lQ fw) (nI (a' + 1)) g2 = _
                      unfold r_X12_doubt_77'
                      rw [brn_t lt, brn_t e2, brn_t q]
                  · refine ⟨1, ?_, ?_⟩
                    · show r_X11_doubt_89' V (nI a') e _ _ _ (lQ al) (lQ fw) (nI (a' + 1)) g = _
                      unfold r_X11_doubt_89'
                      rw [brn_t lt, brn_t e2, brn_f q]
                    · show r_X12_doubt_77' V 70 (nI a') _ _ _ e (lQ al) (lQ fw) (nI (a' + 1)) g2 = _
                      unfold r_X12_doubt_77'
                      rw [brn_t lt, brn_t e2, brn_f q]
                · refine ⟨if e = 0 then lQ fw / lQ gd else lQ al / lQ gd, ?_, ?_⟩
                  · show r_X11_doubt_89' V (nI a') e _ _ _ (lQ al) (lQ fw) (nI (a' + 1)) g = _
                    unfold r_X11_doubt_89'
                    rw [brn_t lt, brn_f e2]
                    by_cases e0 : e = 0
                    · rw [brn_t e0, gX, bnd_some, grd_t ngd, if_pos e0]
                    · rw [brn_f e0, gX, bnd_some, grd_t ngd, if_neg e0]
                  · show r_X12_doubt_77' V 70 (nI a') _ _ _ e (lQ al) (lQ fw) (nI (a' + 1)) g2 = _
                    unfold r_X12_doubt_77'
                    rw [brn_t lt, brn_f e2, gd4]
                    rfl
              refine ⟨R, g, g2, ?_, ?_, hI2⟩
              · unfold r_X11_doubt
                rw [p_isInTable, bnd_some, brn_f (by rw [bI_0]; exact fun q => q k1), p_isInTable, bnd_some, brn_f (by rw [bI_0]; exact fun q => q k2), p_isInTable, bnd_some, brn_f (by rw [bI_0]; exact fun q => q k3), p_isInTable, bnd_some, brn_f (by rw [bI_0]; exact fun q => q k4), p_isFrom, bnd_some, brn_f (by rw [bI_0]; exact fun q => q k5), nm_eq, nm_eq, nm_eq, nI_add, nI_add, nI_add, nI_add, brn_f z1, x_wtc (by omega) (by omega), bnd_some, ← eal]
                rw [efw] at hRX
                refine run_for (f := r_X11_doubt_89 V) (fun i => (nI a', e, nI (a' + b'), nI (c' + d'), nI (a' + c'), lQ al, lQ (fewS (a' + b') (c' + d') (a' + c') i), nI i, g)) (a' + 1) ?_ hRX (a' + 1) 0 (by omega)
                intro i hi
                show r_X11_doubt_89' V (nI a') e (nI (a' + b')) (nI (c' + d')) (nI (a' + c')) (lQ al) (lQ (fewS (a' + b') (c' + d') (a' + c') i)) (nI i) g = some (.inl (nI a', e, nI (a' + b'), nI (c' + d'), nI (a' + c'), lQ al, lQ (fewS (a' + b') (c' + d') (a' + c') (i + 1)), nI (i + 1), g))
                unfold r_X11_doubt_89'
                rw [brn_f (by rw [i_lt, tN (by omega), tN (by omega)]; omega), x_wtc (by omega) (by omega), bnd_some, pk_sub (by omega), x_wtc (by omega) (by omega), bnd_some, l_mul, l_add, nm_eq, nm_eq, nI_1]
                rfl
              · unfold r_X12_doubt
                rw [m_isSome, bnd_some, brn_f (by rw [bI_0]; exact fun q => q k1), m_isSome, bnd_some, brn_f (by rw [bI_0]; exact fun q => q k2), m_isSome, bnd_some, brn_f (by rw [bI_0]; exact fun q => q k3), m_isSome, bnd_some, brn_f (by rw [bI_0]; exact fun q => q k4), nI_add, nI_add, nI_add, show a' + b' + c' + d' = a' + b' + (c' + d') by omega, brn_f z1, p_in, bnd_some, brn_f (by rw [bI_0]; exact fun q => q k5), grd_t hv, nI_add, ch0, bnd_some, ← eal]
                rw [efw] at hRM
                refine run_for (f := r_X12_doubt_77 V) (fun i => (70, nI a', nI b', nI c', nI d', e, lQ al, lQ (fewS (a' + b') (c' + d') (a' + c') i), nI i, g2)) (a' + 1) ?_ hRM (a' + 1) 0 (by omega)
                intro i hi
                show r_X12_doubt_77' V 70 (nI a') (nI b') (nI c') (nI d') e (lQ al) (lQ (fewS (a' + b') (c' + d') (a' + c') i)) (nI i) g2 = some (.inl (70, nI a', nI b', nI c', nI d', e, lQ al, lQ (fewS (a' + b') (c' + d') (a' + c') (i + 1)), nI (i + 1), g2))
                unfold r_X12_doubt_77'
                rw [brn_f (by rw [i_lt, tN (by omega), tN (by omega)]; omega), nI_add, nI_add, nI_add, pk_sub (by omega)]
                by_cases q : a' + c' - i ≤ c' + d'
                · rw [brn_t (nI_le q (by omega)), grd_t hv, m_cho1 h.v hR2 tS (by omega) (by omega), bnd_some, m_cho1 h.v hR2 tS (by omega) q, bnd_some, l_mul, l_add, nm_eq, nm_eq, nI_1]
                  rfl
                · rw [brn_f (nI_ge (by omega) (by omega)), nm_eq, nm_eq, nI_1]
                  have z0 : fewS (a' + b') (c' + d') (a' + c') (i + 1) = fewS (a' + b') (c' + d') (a' + c') i + 0 := by
                    show fewS (a' + b') (c' + d') (a' + c') i + choF (a' + b') i * choF (c' + d') (a' + c' - i) = _
                    rw [cho_gt (c' + d') _ (by omega)]; rfl
                  rw [z0, ← l_add]
                  rfl
          · refine ⟨-2, g, g, ?_, ?_, h⟩
            · unfold r_X11_doubt
              rw [p_isInTable, bnd_some, brn_f (by rw [bI_0]; exact fun q => q k1), p_isInTable, bnd_some, brn_f (by rw [bI_0]; exact fun q => q k2), p_isInTable, bnd_some, brn_f (by rw [bI_0]; exact fun q => q k3), p_isInTable, bnd_some, brn_f (by rw [bI_0]; exact fun q => q k4), p_isFrom, bnd_some, brn_t (by rw [bI_0]; exact k5)]
            · unfold r_X12_doubt
              rw [m_isSome, bnd_some, brn_f (by rw [bI_0]; exact fun q => q k1), m_isSome, bnd_some, brn_f (by rw [bI_0]; exact fun q => q k2), m_isSome, bnd_some, brn_f (by rw [bI_0]; exact fun q => q k3), m_isSome, bnd_some, brn_f (by rw [bI_0]; exact fun q => q k4)]
              by_cases z : nI a' + nI b' + nI c' + nI d' = 0
              · rw [brn_t z]
              · rw [brn_f z, p_in, bnd_some, brn_t (by rw [bI_0]; exact k5)]
        · refine ⟨-2, g, g, ?_, ?_, h⟩
          · unfold r_X11_doubt
            rw [p_isInTable, bnd_some, brn_f (by rw [bI_0]; exact fun q => q k1), p_isInTable, bnd_some, brn_f (by rw [bI_0]; exact fun q => q k2), p_isInTable, bnd_some, brn_f (by rw [bI_0]; exact fun q => q k3), p_isInTable, bnd_some, brn_t (by rw [bI_0]; exact k4)]
          · unfold r_X12_doubt
            rw [m_isSome, bnd_some, brn_f (by rw [bI_0]; exact fun q => q k1), m_isSome, bnd_some, brn_f (by rw [bI_0]; exact fun q => q k2), m_isSome, bnd_some, brn_f (by rw [bI_0]; exact fun q => q k3), m_isSome, bnd_some, brn_t (by rw [bI_0]; exact k4)]
      · refine ⟨-2, g, g, ?_, ?_, h⟩
        · unfold r_X11_doubt
          rw [p_isInTable, bnd_some, brn_f (by rw [bI_0]; exact fun q => q k1), p_isInTable, bnd_some, brn_f (by rw [bI_0]; exact fun q => q k2), p_isInTable, bnd_some, brn_t (by rw [bI_0]; exact k3)]
        · unfold r_X12_doubt
          rw [m_isSome, bnd_some, brn_f (by rw [bI_0]; exact fun q => q k1), m_isSome, bnd_some, brn_f (by rw [bI_0]; exact fun q => q k2), m_isSome, bnd_some, brn_t (by rw [bI_0]; exact k3)]
    · refine ⟨-2, g, g, ?_, ?_, h⟩
      · unfold r_X11_doubt
        rw [p_isInTable, bnd_some, brn_f (by rw [bI_0]; exact fun q => q k1), p_isInTable, bnd_some, brn_t (by rw [bI_0]; exact k2)]
      · unfold r_X12_doubt
        rw [m_isSome, bnd_some, brn_f (by rw [bI_0]; exact fun q => q k1), m_isSome, bnd_some, brn_t (by rw [bI_0]; exact k2)]
  · refine ⟨-2, g, g, ?_, ?_, h⟩
    · unfold r_X11_doubt
      rw [p_isInTable, bnd_some, brn_t (by rw [bI_0]; exact k1)]
    · unfold r_X12_doubt
      rw [m_isSome, bnd_some, brn_t (by rw [bI_0]; exact k1)]
