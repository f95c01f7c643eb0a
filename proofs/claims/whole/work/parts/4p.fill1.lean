/-! ===== fill: the steps ===== -/
theorem nI_mod {a n : Nat} (ha : a < 1000) (n0 : 0 < n) (hn : n < 1000) : nI a - nI a / nI n * nI n = nI (a % n) := by
  obtain ⟨q, eq⟩ : ∃ q, q = a / n := ⟨_, rfl⟩
  have hle : q * n ≤ a := by rw [eq]; exact Nat.div_mul_le_self a n
  have hqa : q ≤ a := by rw [eq]; exact Nat.div_le_self a n
  have hda : q * n + a % n = a := by rw [eq, Nat.mul_comm]; exact Nat.div_add_mod a n
  have hml : a % n < n := Nat.mod_lt a n0
  have hd : nI a / nI n = nI q := by
    rw [i_eq, Int32.toInt_div, tN (by omega), tN (by omega), tN (by omega)]
    have : (a : Int).tdiv n = (q : Int) := by rw [eq]; rfl
    rw [this]
    exact Int.bmod_eq_of_le (by omega) (by omega)
  have hm : nI q * nI n = nI (q * n) := by rw [pk_mul]
  rw [hd, hm, pk_sub hle]
  congr 1
  omega
theorem nb0 : vp_nar .boolean (0 : Int32) = 0 := by decide
theorem nb1 : vp_nar .boolean (1 : Int32) = 1 := by decide
/-- a house is due: its last year, its rest, its age -/
def dueP (last rest born lo hi yr : Int32) : Prop := (lo ≤ yr - born ∧ yr - born ≤ hi) ∧ (last = -1 ∨ rest < yr - last)
theorem p_isDue {V : Vk} {g : Hq} {H p : Nat} {yr : Int32} (hH : V H = some (2, 0)) (hp : V p = some (4, 0)) : r_X2_isDue V H p yr g = some (bI (dueP (g.1 H 4) (g.1 p 2) (g.1 H 1) (g.1 p 0) (g.1 p 1) yr), g) := by
  unfold r_X2_isDue
  rw [grd_t hH, grd_t hp, grd_t hp]
  by_cases l : g.1 H 4 = -1
  · rw [brn_t l, p_isFrom, bnd_some]
    by_cases a : g.1 p 0 ≤ yr - g.1 H 1 ∧ yr - g.1 H 1 ≤ g.1 p 1
    · rw [brn_f (by rw [bI_0]; exact fun k => k a), bI_t ⟨a, Or.inl l⟩]
    · rw [brn_t (by rw [bI_0]; exact a), bI_f (fun k => a k.1)]
  · rw [brn_f l]
    by_cases r : g.1 p 2 < yr - g.1 H 4
    · rw [brn_t r, p_isFrom, bnd_some]
      by_cases a : g.1 p 0 ≤ yr - g.1 H 1 ∧ yr - g.1 H 1 ≤ g.1 p 1
      · rw [brn_f (by rw [bI_0]; exact fun k => k a), bI_t ⟨a, Or.inr r⟩]
      · rw [brn_t (by rw [bI_0]; exact a), bI_f (fun k => a k.1)]
    · rw [brn_f r, p_isFrom, bnd_some, brn_same, bI_f (fun k => k.2.elim l r)]
theorem p_canPay {V : Vk} {g : Hq} {H p : Nat} (hH : V H = some (2, 0)) (hp : V p = some (4, 0)) : r_X2_canPay V H p g = some (bI (g.1 H 3 = 2 ∧ ¬ g.1 H 2 < g.1 p 3), g) := by
  unfold r_X2_canPay
  rw [grd_t hH, grd_t hp]
  by_cases a : g.1 H 3 = 2
  · rw [brn_t a]
    by_cases b : g.1 H 2 < g.1 p 3
    · rw [brn_t b, bI_f (fun k => k.2 b)]
    · rw [brn_f b, bI_t ⟨a, b⟩]
  · rw [brn_f a, bI_f (fun k => a k.1)]
def hireP (would hire purse : Int32) : Prop := would = 1 ∧ ¬ hire = -1 ∧ hire ≤ purse
theorem p_canHire {V : Vk} {g : Hq} {H p : Nat} (hH : V H = some (2, 0)) (hp : V p = some (4, 0)) : r_X2_canHire V H p g = some (bI (hireP (g.1 H 3) (g.1 p 4) (g.1 H 2)), g) := by
  unfold r_X2_canHire
  rw [grd_t hH, grd_t hp]
  by_cases a : g.1 H 3 = 1
  · rw [brn_t a]
    by_cases c : g.1 p 4 = -1
    · rw [brn_t c, bI_f (fun k => k.2.1 c)]
    · rw [brn_f c]
      by_cases b : g.1 H 2 < g.1 p 4
      · rw [brn_t b, bI_f (fun k => i_nle.mpr b k.2.2)]
      · rw [brn_f b, bI_t ⟨a, c, i_nlt.mp b⟩]
  · rw [brn_f a, bI_f (fun k => a k.1)]
def xT3 (g : Hq) (h w : Nat) (yr : Int32) : Hq := sI (sI (sI g (200 + h) 4 yr) (200 + h) 5 (g.1 (200 + h) 5 + 1)) (31 + 9 * w) 3 (nI h)
def xPay (g : Hq) (h w p t : Nat) (yr : Int32) : Hq := sI (sI (sI (xT3 g h w yr) (200 + h) 2 (g.1 (200 + h) 2 - g.1 p 3)) (31 + 9 * w) 1 (g.1 (31 + 9 * w) 1 + g.1 p 3)) (31 + 9 * w + 8) t (g.1 (31 + 9 * w + 8) t + 1)
def xApp (g : Hq) (h w p t : Nat) (yr : Int32) : Hq := sI (sI (xT3 g h w yr) (31 + 9 * w + 6) t (nI h)) (31 + 9 * w + 7) t 0
def xHir (g : Hq) (h w p t : Nat) (yr : Int32) : Hq := sI (sI (sI (xT3 g h w yr) (200 + h) 2 (g.1 (200 + h) 2 - g.1 p 4)) (31 + 9 * w + 6) t (nI h)) (31 + 9 * w + 7) t 1
def mT3 (g : Hq) (h w : Nat) (yr : Int32) : Hq := sI (sI (sI g 92 h yr) 93 h (g.1 93 h + 1)) 95 w (nI h)
def mPay (g : Hq) (h w t : Nat) (yr : Int32) : Hq := sI (sI (sI (mT3 g h w yr) 90 h (g.1 90 h - g.1 85 (8 * w + 3))) 100 w (g.1 100 w + g.1 85 (8 * w + 3))) 99 (200 * w + t) (g.1 99 (200 * w + t) + 1)
def mApp (g : Hq) (h w t : Nat) (yr : Int32) : Hq := sI (mT3 g h w yr) 97 (200 * w + t) (nI h)
def mHir (g : Hq) (h w t : Nat) (yr : Int32) : Hq := sI (sI (mApp g h w t yr) 90 h (g.1 90 h - g.1 85 (8 * w + 4))) 98 (200 * w + t) 1
/-- what the class's step reads -/
def FiX (V : Vk) (g : Hq) (n w p : Nat) : Prop := ShV V ∧ ShR g.2.2 ∧ n ≤ 60 ∧ w < 4 ∧ lawPl p ∧ g.2.2 (31 + 9 * w) 0 = some p ∧ g.1 20 1 = nI n ∧ ∀ i, i < n → g.2.2 21 i = some (200 + i) ∧ V (200 + i) = some (2, 0)
theorem x_fill1 {V : Vk} {g : Hq} {n w p t F k h : Nat} (hf : FiX V g n w p) (ht : t < 200) (hF : F ≤ n) (hk : k < n) (eh : h = (F + k) % n) : r_X7_fillYear_16 V (20, nI w, 31 + 9 * w, nI (1600 + t), nI F, nI k, g) = brn (g.1 (200 + h) 0 = nI w ∧ dueP (g.1 (200 + h) 4) (g.1 p 2) (g.1 (200 + h) 1) (g.1 p 0) (g.1 p 1) (nI (1600 + t))) (brn (g.1 (200 + h) 3 = 2 ∧ ¬ g.1 (200 + h) 2 < g.1 p 3) (some (.inl (20, nI w, 31 + 9 * w, nI (1600 + t), nI F, nI (k + 1), xPay g h w p t (nI (1600 + t))))) (brn (hireP (g.1 (200 + h) 3) (g.1 p 4) (g.1 (200 + h) 2)) (some (.inr (nI h, xHir g h w p t (nI (1600 + t))))) (some (.inr (nI h, xApp g h w p t (nI (1600 + t))))))) (some (.inl (20, nI w, 31 + 9 * w, nI (1600 + t), nI F, nI (k + 1), g))) := by
  obtain ⟨hV, hR, n60, hw, lp, rp, e20, hh⟩ := hf
  have n0 : 0 < n := by omega
  have hn : h < n := by rw [eh]; exact Nat.mod_lt _ n0
  obtain ⟨r21, vH⟩ := hh h hn
  have vp := sh_vl hV lp
  have vW := sh_vw hV hw
  have pne : p ≠ 200 + h ∧ p ≠ 31 + 9 * w ∧ p < 200 := by unfold lawPl at lp; omega
  have ne0 : ¬ nI n = 0 := by rw [show (0 : Int32) = nI 0 from rfl, nI_eq (by omega) (by omega)]; omega
  have ok21 : okV V 21 5 (nI h) := ok_nI (n := 60) (t := 5) (v_21 hV) (by omega) (by decide)
  have clh := cl_nI (j := h) (by omega)
  have T2 : (xT3 g h w (nI (1600 + t))).1 (200 + h) 2 = g.1 (200 + h) 2 := by
    unfold xT3; simp only [sI_1]; rw [up2_nk _ _ _ (by omega), up2_ne _ _ (Or.inr (by decide)), up2_ne _ _ (Or.inr (by decide))]
  have T3 : (xT3 g h w (nI (1600 + t))).1 (200 + h) 3 = g.1 (200 + h) 3 := by
    unfold xT3; simp only [sI_1]; rw [up2_nk _ _ _ (by omega), up2_ne _ _ (Or.inr (by decide)), up2_ne _ _ (Or.inr (by decide))]
  have Tp : (xT3 g h w (nI (1600 + t))).1 p = g.1 p := by
    unfold xT3; simp only [sI_1]; rw [up2_nk _ _ _ pne.2.1, up2_nk _ _ _ pne.1, up2_nk _ _ _ pne.1]
  have TR : (xT3 g h w (nI (1600 + t))).2.2 = g.2.2 := rfl
  have ny : r_X2_noteYear V (200 + h) (nI (1600 + t)) g = some ((), sI (sI g (200 + h) 4 (nI (1600 + t))) (200 + h) 5 (g.1 (200 + h) 5 + 1)) := by
    unfold r_X2_noteYear
    rw [grd_t vH, nm_eq, nm_eq, sI_1, up2_ne _ _ (Or.inr (by decide))]
  have ey : nI (1600 + t) - 1600 = nI t := by
    rw [show (1600 : Int32) = nI 1600 from rfl, pk_sub (by omega), show 1600 + t - 1600 = t by omega]
  have clt := cl_nI (j := t) (by omega)
  obtain ⟨v6, v7, v8⟩ := sh_vy hV hw
  obtain ⟨q6, q7, q8⟩ := sh_qw hR hw
  have o6 : okV V (31 + 9 * w + 6) 0 (nI t) := ok_nI (n := 200) (t := 0) v6 ht (by decide)
  have o7 : okV V (31 + 9 * w + 7) 2 (nI t) := ok_nI (n := 200) (t := 2) v7 ht (by decide)
  have o8 : okV V (31 + 9 * w + 8) 0 (nI t) := ok_nI (n := 200) (t := 0) v8 ht (by decide)
  show r_X7_fillYear_16' V 20 (nI w) (31 + 9 * w) (nI (1600 + t)) (nI F) (nI k) g = _
  unfold r_X7_fillYear_16'
  rw [grd_t (v_20 hV), e20, brn_f (nI_ge hk (by omega)), grd_t ne0, nI_add, nI_mod (by omega) n0 (by omega), ← eh, nm_eq, q_20_0 hR, bind_some', grd_t ok21, clh, r21, bind_some', grd_t vH]
  by_cases c0 : g.1 (200 + h) 0 = nI w
  · rw [brn_t c0, grd_t vW, rp, bind_some', p_isDue vH vp, bnd_some]
    by_cases d : dueP (g.1 (200 + h) 4) (g.1 p 2) (g.1 (200 + h) 1) (g.1 p 0) (g.1 p 1) (nI (1600 + t))
    · rw [brn_f (by rw [bI_0]; exact fun q => q d), brn_t ⟨c0, d⟩, ny, bnd_some, nm_eq]
      show Option.bind ((xT3 g h w (nI (1600 + t))).2.2 (31 + 9 * w) 0) _ = _
      rw [TR, rp, bind_some']
      show bnd (r_X2_canPay V (200 + h) p (xT3 g h w (nI (1600 + t)))) _ = _
      rw [p_canPay vH vp, T2, T3, Tp, bnd_some]
      by_cases py : g.1 (200 + h) 3 = 2 ∧ ¬ g.1 (200 + h) 2 < g.1 p 3
      · have S1 : (sI (xT3 g h w (nI (1600 + t))) (200 + h) 2 (g.1 (200 + h) 2 - g.1 p 3)).1 (31 + 9 * w) 1 = g.1 (31 + 9 * w) 1 := by
          unfold xT3; simp only [sI_1]; rw [up2_nk _ _ _ (by omega), up2_ne _ _ (Or.inr (by decide)), up2_nk _ _ _ (by omega), up2_nk _ _ _ (by omega)]
        have S2 : (sI (xT3 g h w (nI (1600 + t))) (200 + h) 2 (g.1 (200 + h) 2 - g.1 p 3)).1 p 3 = g.1 p 3 := by
          rw [sI_1, up2_nk _ _ _ pne.1, Tp]
        have S3 : (sI (sI (xT3 g h w (nI (1600 + t))) (200 + h) 2 (g.1 (200 + h) 2 - g.1 p 3)) (31 + 9 * w) 1 (g.1 (31 + 9 * w) 1 + g.1 p 3)).1 (31 + 9 * w + 8) t = g.1 (31 + 9 * w + 8) t := by
          unfold xT3; simp only [sI_1]; rw [up2_nk _ _ _ (by omega), up2_nk _ _ _ (by omega), up2_nk _ _ _ (by omega), up2_nk _ _ _ (by omega), up2_nk _ _ _ (by omega)]
        have tf : r_X10_takeFine V (31 + 9 * w) (nI (1600 + t)) (sI (xT3 g h w (nI (1600 + t))) (200 + h) 2 (g.1 (200 + h) 2 - g.1 p 3)) = some ((), xPay g h w p t (nI (1600 + t))) := by
          unfold r_X10_takeFine
          rw [grd_t vW, sI_3, TR, rp, bind_some', grd_t vp, S1, S2, nm_eq, sI_3, sI_3, TR, q8, bind_some', ey, nm_eq, grd_t o8, grd_t o8, clt, S3, nm_eq]
          rfl
        rw [brn_f (by rw [bI_0]; exact fun q => q py), brn_t py, TR, rp, bind_some', grd_t vp, T2, Tp, nm_eq, tf, bnd_some, nm_eq, nI_1]
      · rw [brn_t (by rw [bI_0]; exact py), brn_f py]
        have ap : ∀ (gg : Hq) (x : Int32), gg.2.2 = g.2.2 → r_X10_appoint V (31 + 9 * w) (nI (1600 + t)) (nI h) x gg = some ((), sI (sI gg (31 + 9 * w + 6) t (nI h)) (31 + 9 * w + 7) t (vp_nar .boolean x)) := by
          intro gg x e
          unfold r_X10_appoint
          rw [grd_t vW, e, q6, bind_some', ey, grd_t o6, clt, nm_eq, sI_3, e, q7, bind_some', grd_t o7, nm_eq]
        by_cases hi : hireP (g.1 (200 + h) 3) (g.1 p 4) (g.1 (200 + h) 2)
        · have : r_X7_appoint V 20 (nI h) (31 + 9 * w) (nI (1600 + t)) (xT3 g h w (nI (1600 + t))) = some ((), xHir g h w p t (nI (1600 + t))) := by
            unfold r_X7_appoint
            rw [grd_t (v_20 hV), TR, q_20_0 hR, bind_some', grd_t ok21, clh, r21, bind_some', grd_t vW, rp, bind_some', grd_t vH, p_canHire vH vp, T2, T3, Tp, bnd_some, brn_f (by rw [bI_0]; exact fun q => q hi), TR, q_20_0 hR, bind_some', grd_t ok21, r21, bind_some', grd_t vH, rp, bind_some', grd_t vp, T2, Tp, nm_eq, ap (sI (xT3 g h w (nI (1600 + t))) (200 + h) 2 (g.1 (200 + h) 2 - g.1 p 4)) _ rfl, bnd_some, bI_t hi, nb1]
            rfl
          rw [this, bnd_some, brn_t hi]
        · have : r_X7_appoint V 20 (nI h) (31 + 9 * w) (nI (1600 + t)) (xT3 g h w (nI (1600 + t))) = some ((), xApp g h w p t (nI (1600 + t))) := by
            unfold r_X7_appoint
            rw [grd_t (v_20 hV), TR, q_20_0 hR, bind_some', grd_t ok21, clh, r21, bind_some', grd_t vW, rp, bind_some', grd_t vH, p_canHire vH vp, T2, T3, Tp, bnd_some, brn_t (by rw [bI_0]; exact hi), ap (xT3 g h w (nI (1600 + t))) _ rfl, bnd_some, bI_f hi, nb0]
            rfl
          rw [this, bnd_some, brn_f hi]
    · rw [brn_t (by rw [bI_0]; exact d), brn_f (fun q => d q.2), nm_eq, nI_1]
  · rw [brn_f c0, brn_f (fun q => c0 q.1), nm_eq, nI_1]
def FiM (V : Vk) (g : Hq) (n w : Nat) : Prop := ShV V ∧ ShR g.2.2 ∧ n ≤ 60 ∧ w < 4 ∧ g.1 70 32 = nI n
theorem m_turns {V : Vk} {g : Hq} {n w t h : Nat} {yr : Int32} (hf : FiM V g n w) (ht : t < 200) (hh : h < n) : r_X12_turns V 70 (nI h) (nI w) (nI (200 * w + t)) yr g = some ((), @ite _ (g.1 91 h = 2 ∧ ¬ g.1 90 h < g.1 85 (8 * w + 3)) (Classical.propDecidable _) (mPay g h w t yr) (@ite _ (hireP (g.1 91 h) (g.1 85 (8 * w + 4)) (g.1 90 h)) (Classical.propDecidable _) (mHir g h w t yr) (mApp g h w t yr))) := by
  obtain ⟨hV, hR, n60, hw, e32⟩ := hf
  have hv := v_70 hV
  have i4 : (8 : Int32) * nI w + 4 = nI (8 * w + 4) := i85 w 4
  have i3 : (8 : Int32) * nI w + 3 = nI (8 * w + 3) := i85 w 3
  have o85 : ∀ j, j < 40 → okV V 85 0 (nI j) := fun j hj => ok_nI (n := 40) (t := 0) (v_85 hV) hj (by decide)
  have oh : ∀ k, V k = some (100, 60) → okV V k 0 (nI h) := fun k e => ok_nI (n := 60) (t := 0) e (by omega) (by decide)
  have ow : ∀ k, V k = some (100, 4) → okV V k 0 (nI w) := fun k e => ok_nI (n := 4) (t := 0) e hw (by decide)
  have oy : ∀ k q, V k = some (100 + q, 800) → okV V k q (nI (200 * w + t)) := fun k q e => ok_nI (n := 800) e (by omega) (by decide)
  have clh := cl_nI (j := h) (by omega)
  have clw := cl_nI (j := w) (by omega)
  have cly := cl_nI (j := 200 * w + t) (by omega)
  have TR : (mT3 g h w yr).2.2 = g.2.2 := rfl
  have T90 : (mT3 g h w yr).1 90 h = g.1 90 h := by unfold mT3; simp only [sI_1]; rw [up2_nk _ _ _ (by decide), up2_nk _ _ _ (by decide), up2_nk _ _ _ (by decide)]
  have T91 : (mT3 g h w yr).1 91 h = g.1 91 h := by unfold mT3; simp only [sI_1]; rw [up2_nk _ _ _ (by decide), up2_nk _ _ _ (by decide), up2_nk _ _ _ (by decide)]
  have A90 : (mApp g h w t yr).1 90 h = g.1 90 h := by unfold mApp; rw [sI_1, up2_nk _ _ _ (by decide), T90]
  have A91 : (mApp g h w t yr).1 91 h = g.1 91 h := by unfold mApp; rw [sI_1, up2_nk _ _ _ (by decide), T91]
  have s93 : (sI g 92 h yr).1 93 h = g.1 93 h := by rw [sI_1, up2_nk _ _ _ (by decide)]
  have ar : (¬ (g.1 91 h = 2 ∧ ¬ g.1 90 h < g.1 85 (8 * w + 3))) → r_X12_turns_105 V 70 (nI h) (nI (200 * w + t)) (g.1 85 (8 * w + 4)) (mT3 g h w yr) = some ((), @ite _ (hireP (g.1 91 h) (g.1 85 (8 * w + 4)) (g.1 90 h)) (Classical.propDecidable _) (mHir g h w t yr) (mApp g h w t yr)) := by
    intro _
    unfold r_X12_turns_105
    rw [grd_t hv, TR, q_70_42 hR, bind_some', grd_t (oy 97 0 (v_97 hV)), cly, nm_eq, sI_3, TR, q_70_36 hR, bind_some', grd_t (oh 91 (v_91 hV)), clh]
    show brn ((mApp g h w t yr).1 91 h = 1) _ _ = _
    rw [A91]
    by_cases c1 : g.1 91 h = 1
    · rw [brn_t c1]
      by_cases c2 : g.1 85 (8 * w + 4) = -1
      · rw [brn_t c2, if_neg (fun k => k.2.1 c2)]
        rfl
      · rw [brn_f c2, q_70_35 hR, bind_some', grd_t (oh 90 (v_90 hV))]
        show brn (_ ≤ (mApp g h w t yr).1 90 h) _ _ = _
        rw [A90]
        by_cases c3 : g.1 85 (8 * w + 4) ≤ g.1 90 h
        · rw [brn_t c3, bind_some', grd_t (oh 90 (v_90 hV)), grd_t (oh 90 (v_90 hV))]
          show nm (sI (mApp g h w t yr) 90 h ((mApp g h w t yr).1 90 h - _)) _ = _
          rw [A90, nm_eq, sI_3, show (mApp g h w t yr).2.2 = g.2.2 from rfl, q_70_43 hR, bind_some', grd_t (oy 98 2 (v_98 hV)), nm_eq, if_pos ⟨c1, c2, c3⟩, nb1]
          rfl
        · rw [brn_f c3, if_neg (fun k => c3 k.2.2)]
          rfl
    · rw [brn_f c1, if_neg (fun k => c1 k.1)]
      rfl
  unfold r_X12_turns
  rw [grd_t hv, q_70_29 hR, bind_some', i4, grd_t (o85 _ (by omega)), cl_nI (j := 8 * w + 4) (by omega), nm_eq, bind_some', i3, grd_t (o85 _ (by omega)), cl_nI (j := 8 * w + 3) (by omega), nm_eq, q_70_37 hR, bind_some', grd_t (oh 92 (v_92 hV)), clh, nm_eq, sI_3, q_70_38 hR, bind_some', grd_t (oh 93 (v_93 hV)), grd_t (oh 93 (v_93 hV)), s93, nm_eq, sI_3, sI_3, q_70_40 hR, bind_some', grd_t (ow 95 (v_95 hV)), clw, nm_eq]
  show Option.bind ((mT3 g h w yr).2.2 70 36) (fun k23 => grd (okV V k23 0 (nI h)) <| brn ((mT3 g h w yr).1 k23 h = 2) (Option.bind ((mT3 g h w yr).2.2 70 35) fun k26 => grd (okV V k26 0 (nI h)) <| brn ((mT3 g h w yr).1 k26 h < g.1 85 (8 * w + 3)) (r_X12_turns_105 V 70 (nI h) (nI (200 * w + t)) (g.1 85 (8 * w + 4)) (mT3 g h w yr)) _) (r_X12_turns_105 V 70 (nI h) (nI (200 * w + t)) (g.1 85 (8 * w + 4)) (mT3 g h w yr))) = _
  rw [TR, q_70_36 hR, bind_some', grd_t (oh 91 (v_91 hV)), T91]
  by_cases c1 : g.1 91 h = 2
  · rw [brn_t c1, q_70_35 hR, bind_some', grd_t (oh 90 (v_90 hV)), T90]
    by_cases c2 : g.1 90 h < g.1 85 (8 * w + 3)
    · have np : ¬ (g.1 91 h = 2 ∧ ¬ g.1 90 h < g.1 85 (8 * w + 3)) := fun k => k.2 c2
      rw [brn_t c2, if_neg np, ar np]
    · rw [brn_f c2, if_pos ⟨c1, c2⟩]
      show Option.bind ((mT3 g h w yr).2.2 70 35) _ = _
      rw [TR, q_70_35 hR, bind_some', grd_t (oh 90 (v_90 hV)), grd_t (oh 90 (v_90 hV))]
      show nm (sI (mT3 g h w yr) 90 h ((mT3 g h w yr).1 90 h - g.1 85 (8 * w + 3))) _ = _
      rw [T90, nm_eq, sI_3, TR, q_70_45 hR, bind_some', grd_t (ow 100 (v_100 hV)), grd_t (ow 100 (v_100 hV))]
      have s100 : (sI (mT3 g h w yr) 90 h (g.1 90 h - g.1 85 (8 * w + 3))).1 100 w = g.1 100 w := by unfold mT3; simp only [sI_1]; rw [up2_nk _ _ _ (by decide), up2_nk _ _ _ (by decide), up2_nk _ _ _ (by decide), up2_nk _ _ _ (by decide)]
      rw [s100, nm_eq, sI_3, sI_3, TR, q_70_44 hR, bind_some', grd_t (oy 99 0 (v_99 hV)), grd_t (oy 99 0 (v_99 hV)), cly]
      have s99 : (sI (sI (mT3 g h w yr) 90 h (g.1 90 h - g.1 85 (8 * w + 3))) 100 w (g.1 100 w + g.1 85 (8 * w + 3))).1 99 (200 * w + t) = g.1 99 (200 * w + t) := by unfold mT3; simp only [sI_1]; rw [up2_nk _ _ _ (by decide), up2_nk _ _ _ (by decide), up2_nk _ _ _ (by decide), up2_nk _ _ _ (by decide), up2_nk _ _ _ (by decide)]
      rw [s99, nm_eq]
      rfl
  · have np : ¬ (g.1 91 h = 2 ∧ ¬ g.1 90 h < g.1 85 (8 * w + 3)) := fun k => c1 k.1
    rw [brn_f c1, if_neg np, ar np]
theorem m_fill1 {V : Vk} {g : Hq} {n w t F k h : Nat} (hf : FiM V g n w) (ht : t < 200) (hF : F ≤ n) (hk : k < n) (eh : h = (F + k) % n) (e97 : g.1 97 (200 * w + t) = -1) : r_X12_fill_147 V (70, nI w, nI (1600 + t), nI (200 * w + t), nI F, nI k, g) = brn (g.1 88 h = nI w ∧ dueP (g.1 92 h) (g.1 85 (8 * w + 2)) (g.1 89 h) (g.1 85 (8 * w)) (g.1 85 (8 * w + 1)) (nI (1600 + t))) (bnd (r_X12_turns V 70 (nI h) (nI w) (nI (200 * w + t)) (nI (1600 + t)) g) fun _ g' => some (.inl (70, nI w, nI (1600 + t), nI (200 * w + t), nI F, nI (k + 1), g'))) (some (.inl (70, nI w, nI (1600 + t), nI (200 * w + t), nI F, nI (k + 1), g))) := by
  obtain ⟨hV, hR, n60, hw, e32⟩ := hf
  have n0 : 0 < n := by omega
  have hn : h < n := by rw [eh]; exact Nat.mod_lt _ n0
  have hv := v_70 hV
  have ne0 : ¬ nI n = 0 := by rw [show (0 : Int32) = nI 0 from rfl, nI_eq (by omega) (by omega)]; omega
  have i0 : (8 : Int32) * nI w = nI (8 * w) := by rw [show (8 : Int32) = nI 8 from rfl, pk_mul]
  have i1 : nI (8 * w) + 1 = nI (8 * w + 1) := nI_1 _
  have i2 : nI (8 * w) + 2 = nI (8 * w + 2) := by rw [show (2 : Int32) = nI 2 from rfl, nI_add]
  have o85 : ∀ j, j < 40 → okV V 85 0 (nI j) := fun j hj => ok_nI (n := 40) (t := 0) (v_85 hV) hj (by decide)
  have oh : ∀ k, V k = some (100, 60) → okV V k 0 (nI h) := fun k e => ok_nI (n := 60) (t := 0) e (by omega) (by decide)
  have clh := cl_nI (j := h) (by omega)
  have cly := cl_nI (j := 200 * w + t) (by omega)
  have oy : okV V 97 0 (nI (200 * w + t)) := ok_nI (n := 800) (t := 0) (v_97 hV) (by omega) (by decide)
  show r_X12_fill_147' V 70 (nI w) (nI (1600 + t)) (nI (200 * w + t)) (nI F) (nI k) g = _
  unfold r_X12_fill_147'
  rw [grd_t hv, e32, brn_f (nI_ge hk (by omega)), q_70_42 hR, bind_some', grd_t oy, cly, e97, brn_t rfl, grd_t ne0, nI_add, nI_mod (by omega) n0 (by omega), ← eh, nm_eq, q_70_33 hR, bind_some', grd_t (oh 88 (v_88 hV)), clh]
  by_cases c0 : g.1 88 h = nI w
  · rw [brn_t c0, q_70_34 hR, bind_some', grd_t (oh 89 (v_89 hV)), q_70_29 hR, bind_some', i0, grd_t (o85 _ (by omega)), bind_some', i1, grd_t (o85 _ (by omega)), cl_nI (j := 8 * w) (by omega), cl_nI (j := 8 * w + 1) (by omega), p_in, bnd_some]
    by_cases a : g.1 85 (8 * w) ≤ nI (1600 + t) - g.1 89 h ∧ nI (1600 + t) - g.1 89 h ≤ g.1 85 (8 * w + 1)
    · rw [brn_f (by rw [bI_0]; exact fun q => q a), q_70_37 hR, bind_some', grd_t (oh 92 (v_92 hV))]
      by_cases l : g.1 92 h = -1
      · rw [brn_t l, brn_t ⟨c0, a, Or.inl l⟩, nI_1]
        rfl
      · rw [brn_f l, bind_some', grd_t (oh 92 (v_92 hV)), q_70_29 hR, bind_some', i2, grd_t (o85 _ (by omega)), cl_nI (j := 8 * w + 2) (by omega)]
        by_cases r : g.1 85 (8 * w + 2) < nI (1600 + t) - g.1 92 h
        · rw [brn_t r, brn_t ⟨c0, a, Or.inr r⟩, nI_1]
          rfl
        · rw [brn_f r, brn_f (fun q => q.2.2.elim l r), nm_eq, nI_1]
    · rw [brn_t (by rw [bI_0]; exact a), brn_f (fun q => a q.2.1), nm_eq, nI_1]
  · rw [brn_f c0, brn_f (fun q => c0 q.1), nm_eq, nI_1]
