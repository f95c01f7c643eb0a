/-! ===== a plan is told ===== -/
theorem l_shr {v k : Nat} (h : v < 2 ^ 63) (s : Int64) (hs : (s.toBitVec.smod 64).toNat = k) : lQ v >>> s = lQ (v / 2 ^ k) := by
  rw [l_eq]
  have e : (lQ v >>> s).toInt = (lQ v).toInt >>> k := by
    show ((lQ v).toBitVec.sshiftRight (s.toBitVec.smod 64).toNat).toInt = _
    rw [hs, BitVec.toInt_sshiftRight]
    rfl
  have h2 : v / 2 ^ k ≤ v := Nat.div_le_self _ _
  rw [e, l_to h, l_to (by omega), Int.shiftRight_eq_div_pow]
  rfl
theorem l_i32 (w : Nat) : (lQ w).toInt32 = nI w := Int64.toInt32_ofNat'
theorem and15 (w : Nat) : nI w &&& (15 : Int32) = nI (w % 16) := by
  have h := pk_and (nI w) (m := 15) 4 (by decide)
  have e : (nI w).toBitVec.toNat = w % 2 ^ 32 := by show (BitVec.ofNat 32 w).toNat = _; rw [BitVec.toNat_ofNat]
  rw [h, e]
  congr 1
  omega
theorem sh_10 : ∀ i : Fin 10, (((((4 : Int32) * ((9 : Int32) - nI i.1)).toInt64 &&& 63).toBitVec).smod 64).toNat = 4 * (9 - i.1) := by decide +kernel
theorem smN_mono {v : Nat → Nat} : ∀ d n, smN v n ≤ smN v (n + d) := by
  intro d n
  induction d with
  | zero => exact Nat.le_refl _
  | succ d ih => show smN v n ≤ smN v (n + d) + v (n + d); omega
theorem rw_dv {F : Nat → Nat} : ∀ i, i < 10 → ∃ A, rwN F i = 16 * wt i * A := by
  intro i
  induction i with
  | zero => intro _; exact ⟨0, rfl⟩
  | succ i ih =>
    intro h
    obtain ⟨A, e⟩ := ih (by omega)
    refine ⟨16 * A + F i, ?_⟩
    have s : rwN F (i + 1) = rwN F i + F i * wt i := rfl
    rw [s, e, ← wt_s (by omega), Nat.mul_add]
    congr 1
    · rw [Nat.mul_comm 16 (wt i), Nat.mul_assoc]
    · exact Nat.mul_comm _ _
theorem digN {F : Nat → Nat} {n i X : Nat} (hi : i < n) (hn : n ≤ 10) (hf : ∀ j, j < n → F j ≤ 15) : (X * 2 ^ 40 + rwN F n) / 2 ^ (4 * (9 - i)) % 16 = F i := by
  obtain ⟨A, eA⟩ := rw_dv (F := F) i (by omega)
  have t := rw_tail (f := F) (i := i) n hi hn hf
  have w := wt_pos (i := i)
  have w2 := wt_pos (i := n - 1)
  have mo : rwN F (i + 1) ≤ rwN F n := by
    have := smN_mono (v := fun j => F j * wt j) (n - (i + 1)) (i + 1)
    rw [show i + 1 + (n - (i + 1)) = n by omega] at this
    exact this
  obtain ⟨r, er, hr⟩ : ∃ r, rwN F n = rwN F (i + 1) + r ∧ r < wt i := ⟨rwN F n - rwN F (i + 1), by omega, by omega⟩
  have s : rwN F (i + 1) = rwN F i + F i * wt i := rfl
  have p : 2 ^ (4 * (9 - i)) = wt i := by unfold wt; rw [Nat.pow_mul]
  have q : 2 ^ 40 = wt i * (16 * 16 ^ i) := by
    unfold wt
    rw [Nat.mul_left_comm, ← Nat.pow_add, show 9 - i + i = 9 by omega]
  have tot : X * 2 ^ 40 + rwN F n = wt i * (16 * (16 ^ i * X + A) + F i) + r := by
    rw [er, s, eA, q, Nat.mul_add (wt i), Nat.mul_add 16, Nat.mul_add (wt i)]
    have e1 : X * (wt i * (16 * 16 ^ i)) = wt i * (16 * (16 ^ i * X)) := by
      rw [Nat.mul_left_comm]
      congr 1
      rw [Nat.mul_left_comm, Nat.mul_comm X]
    have e2 : 16 * wt i * A = wt i * (16 * A) := by rw [Nat.mul_comm 16 (wt i), Nat.mul_assoc]
    rw [e1, e2, Nat.mul_comm (F i)]
    omega
  rw [p, tot, Nat.mul_add_div w, Nat.div_eq_of_lt hr]
  have := hf i hi
  omega
def wmF (r : Nat → Int32) (cs F : Nat → Nat) (m : Nat) : Nat → Nat → Int32
  | 0 => r
  | i + 1 => if F i = m then upd (wmF r cs F m i) (cs i) (nI m) else wmF r cs F m i
def coF (v : Int32) (cs F : Nat → Nat) (m : Nat) : Nat → Int32
  | 0 => v
  | i + 1 => if F i = m then coF v cs F m i ||| nI (2 ^ cs i) else coF v cs F m i
def wmN (r : Nat → Int32) (cs F : Nat → Nat) (n : Nat) : Nat → Nat → Int32
  | 0 => r
  | k + 1 => wmF (wmN r cs F n k) cs F k n
theorem wmF_cg {r r' : Nat → Int32} {cs F : Nat → Nat} {m c : Nat} (h : r c = r' c) : ∀ i, wmF r cs F m i c = wmF r' cs F m i c := by
  intro i
  induction i with
  | zero => exact h
  | succ i ih =>
    show (if F i = m then upd (wmF r cs F m i) (cs i) (nI m) else wmF r cs F m i) c = (if F i = m then upd (wmF r' cs F m i) (cs i) (nI m) else wmF r' cs F m i) c
    by_cases e : F i = m
    · rw [if_pos e, if_pos e]
      by_cases q : c = cs i
      · rw [q, upd_s, upd_s]
      · rw [upd_n q, upd_n q]; exact ih
    · rw [if_neg e, if_neg e]; exact ih
theorem wmN_cg {r r' : Nat → Int32} {cs F : Nat → Nat} {n c : Nat} (h : r c = r' c) : ∀ k, wmN r cs F n k c = wmN r' cs F n k c := by
  intro k
  induction k with
  | zero => exact h
  | succ k ih => exact wmF_cg ih n
theorem upd_upd {f : Nat → Int32} {k : Nat} {a b : Int32} : upd (upd f k a) k b = upd f k b := by
  funext j
  by_cases e : j = k
  · rw [e, upd_s, upd_s]
  · rw [upd_n e, upd_n e, upd_n e]
theorem upd_id {f : Nat → Int32} {k : Nat} : upd f k (f k) = f := by
  funext j
  by_cases e : j = k
  · rw [e, upd_s]
  · rw [upd_n e]
theorem mk_pt {F : Nat → Nat} {n m : Nat} (hn : n ≤ 10) : mkM (fun j => decide (F j = m)) n = ptM (2 ^ n - 1) F m := Nat.eq_of_testBit_eq (fun i => by
  rw [mkM_bit, ptM_bit (fl_10 hn), bit_full])
/-- two rows and one number written in turn -/
def hp2 (g : Hq) (a b : Nat) (r : Nat → Int32) (m : Nat) (v : Int32) : Hq := sA (sA g a r) b (upd (g.1 b) m v)
theorem hp2_w {g : Hq} {a b m c : Nat} {r : Nat → Int32} {v x y : Int32} (h : a ≠ b) : sI (sI (hp2 g a b r m v) a c x) b m y = hp2 g a b (upd r c x) m y := by
  unfold hp2
  rw [sA_sI_ne h, sA_sI, sA_sI, upd_upd]
theorem hp2_0 {g : Hq} {a b m : Nat} : hp2 g a b (g.1 a) m (g.1 b m) = g := by
  unfold hp2
  rw [sA_id, upd_id, sA_id]
theorem hp2_n {g : Hq} {a b m k : Nat} {r : Nat → Int32} {v : Int32} (h1 : k ≠ a) (h2 : k ≠ b) : (hp2 g a b r m v).1 k = g.1 k := by
  unfold hp2; rw [sA_n h2, sA_n h1]
theorem hp2_a {g : Hq} {a b m : Nat} {r : Nat → Int32} {v : Int32} (h : a ≠ b) : (hp2 g a b r m v).1 a = r := by
  unfold hp2; rw [sA_n h, sA_s]
theorem hp2_b {g : Hq} {a b m : Nat} {r : Nat → Int32} {v : Int32} : (hp2 g a b r m v).1 b = upd (g.1 b) m v := by
  unfold hp2; rw [sA_s]
theorem x_kp {V : Vk} {n m v : Nat} {cs F : Nat → Nat} {g : Hq} (hV : ShV V) (hR : ShR g.2.2) (hn : n ≤ 10) (h6 : g.1 8 6 = nI n) (hc : ∀ i, i < n → g.1 9 i = nI (cs i) ∧ cs i < 12) (hv : v < 2 ^ 63) (hd : ∀ i, i < n → v / 2 ^ (4 * (9 - i)) % 16 = F i) (hm : m < 10) : r_X6_keepPartOf V 8 (nI m) (lQ v) g = some (nI (ptM (2 ^ n - 1) F m), hp2 g 15 17 (wmF (g.1 15) cs F m n) m (coF (g.1 17 m) cs F m n)) := by
  have H := run_for (f := r_X6_keepPartOf_6 V) (fun i => (8, nI m, lQ v, nI (mkM (fun j => decide (F j = m)) i), nI i, hp2 g 15 17 (wmF (g.1 15) cs F m i) m (coF (g.1 17 m) cs F m i))) n (b := (nI (ptM (2 ^ n - 1) F m), hp2 g 15 17 (wmF (g.1 15) cs F m n) m (coF (g.1 17 m) cs F m n))) (fun i hi => by
    obtain ⟨c1, c2⟩ := hc i hi
    have fi : F i < 16 := by rw [← hd i hi]; omega
    show r_X6_keepPartOf_6' V 8 (nI m) (lQ v) (nI (mkM (fun j => decide (F j = m)) i)) (nI i) (hp2 g 15 17 (wmF (g.1 15) cs F m i) m (coF (g.1 17 m) cs F m i)) = some (.inl (8, nI m, lQ v, nI (mkM (fun j => decide (F j = m)) (i + 1)), nI (i + 1), hp2 g 15 17 (wmF (g.1 15) cs F m (i + 1)) m (coF (g.1 17 m) cs F m (i + 1))))
    unfold r_X6_keepPartOf_6' r_X6_rowShift
    rw [grd_t (v_8 hV), hp2_n (k := 8) (by decide) (by decide), h6, brn_f (nI_ge hi (by omega)), bnd_some, l_shr hv _ (sh_10 ⟨i, by omega⟩), l_i32, and15, hd i hi, nm_eq]
    have mk : mkM (fun j => decide (F j = m)) (i + 1) = if decide (F i = m) = true then mkM (fun j => decide (F j = m)) i ||| 2 ^ i else mkM (fun j => decide (F j = m)) i := rfl
    have wm : wmF (g.1 15) cs F m (i + 1) = if F i = m then upd (wmF (g.1 15) cs F m i) (cs i) (nI m) else wmF (g.1 15) cs F m i := rfl
    have co : coF (g.1 17 m) cs F m (i + 1) = if F i = m then coF (g.1 17 m) cs F m i ||| nI (2 ^ cs i) else coF (g.1 17 m) cs F m i := rfl
    have hR2 : ∀ r m v, (hp2 g 15 17 r m v).2.2 = g.2.2 := fun _ _ _ => rfl
    by_cases e : F i = m
    · rw [mk, wm, co, if_pos e, if_pos e, if_pos (by rw [decide_eq_true_iff]; exact e)]
      rw [brn_t (by rw [e]), b_one (by omega), b_or, nm_eq, hR2, q_8_9 hR, bind_some', q_8_0 hR, bind_some', grd_t (ok_nI (n := 10) (t := 0) (v_9 hV) (by omega) (by decide)), cl_nI (by omega), hp2_n (k := 9) (by decide) (by decide), c1, grd_t (ok_nI (n := 12) (t := 0) (v_15 hV) c2 (by decide)), cl_nI (by omega), nm_eq, sI_3, hR2, q_8_11 hR, bind_some', grd_t (ok_nI (n := 10) (t := 0) (v_17 hV) hm (by decide)), q_8_0 hR, bind_some', grd_t (ok_nI (n := 10) (t := 0) (v_9 hV) (by omega) (by decide)), grd_t (ok_nI (n := 10) (t := 0) (v_17 hV) hm (by decide)), cl_nI (by omega), sI_1, up2_nk (a := 17) _ _ _ (by decide), up2_nk (a := 9) _ _ _ (by decide), hp2_n (k := 9) (by decide) (by decide), c1, hp2_b, upd_s, b_one (by omega), hp2_w (by decide), nm_eq, nm_eq, nI_1]
    · rw [mk, wm, co, if_neg e, if_neg e, if_neg (by rw [decide_eq_true_iff]; exact e)]
      rw [brn_f (by rw [nI_eq (by omega) (by omega)]; exact e), nm_eq, nI_1]) (by
    show r_X6_keepPartOf_6' V 8 (nI m) (lQ v) (nI (mkM (fun j => decide (F j = m)) n)) (nI n) _ = _
    unfold r_X6_keepPartOf_6'
    rw [grd_t (v_8 hV), hp2_n (k := 8) (by decide) (by decide), h6, brn_t (nI_le (Nat.le_refl _) (by omega)), mk_pt hn]) n 0 (by omega)
  unfold r_X6_keepPartOf
  have e0 : hp2 g 15 17 (wmF (g.1 15) cs F m 0) m (coF (g.1 17 m) cs F m 0) = g := hp2_0
  simp only [e0] at H
  exact H
theorem x_keep {V : Vk} {n M S : Nat} {cs F : Nat → Nat} {g : Hq} (hV : ShV V) (hR : ShR g.2.2) (hn : n ≤ 10) (h6 : g.1 8 6 = nI n) (hc : ∀ i, i < n → g.1 9 i = nI (cs i) ∧ cs i < 12) (hM : M ≤ 10) (hS : S < 16384) (hF : ∀ j, j < n → F j ≤ 15) : ∃ g', r_X6_keepPlan V 8 (lQ (M * 2 ^ 54 + S * 2 ^ 40 + rwN F n)) g = some ((), g') ∧ (∀ a, a ≠ 8 → a ≠ 15 → a ≠ 16 → a ≠ 17 → g'.1 a = g.1 a) ∧ (∀ j, j ≠ 7 → j ≠ 8 → g'.1 8 j = g.1 8 j) ∧ g'.2 = g.2 ∧ g'.1 8 7 = nI M ∧ g'.1 8 8 = nI S ∧ g'.1 15 = wmN (flR 12 (-1) (g.1 15)) cs F n M ∧ ∀ j, j < M → g'.1 17 j = coF 0 cs F j n ∧ g'.1 16 j = g.1 12 (ptM (2 ^ n - 1) F j) := by
  have rl := rw_lt hn hF
  obtain ⟨v, ev⟩ : ∃ v, v = M * 2 ^ 54 + S * 2 ^ 40 + rwN F n := ⟨_, rfl⟩
  have M54 : M * 2 ^ 54 ≤ 10 * 2 ^ 54 := Nat.mul_le_mul_right _ hM
  have S40 : S * 2 ^ 40 ≤ 16383 * 2 ^ 40 := Nat.mul_le_mul_right _ (by omega)
  have hv : v < 2 ^ 63 := by omega
  have v54 : v / 2 ^ 54 = M := by omega
  have v40 : v / 2 ^ 40 = M * 2 ^ 14 + S := by omega
  have hd : ∀ i, i < n → v / 2 ^ (4 * (9 - i)) % 16 = F i := fun i hi => by
    have := digN (X := M * 2 ^ 14 + S) hi hn hF
    rw [show (M * 2 ^ 14 + S) * 2 ^ 40 = M * 2 ^ 54 + S * 2 ^ 40 by omega, ← ev] at this
    exact this
  rw [← ev]
  obtain ⟨ga, ega⟩ : ∃ ga, ga = sI (sI g 8 7 (nI M)) 8 8 (nI S) := ⟨_, rfl⟩
  obtain ⟨gb, egb⟩ : ∃ gb, gb = sA (sA ga 15 (flR 12 (-1) (ga.1 15))) 17 (flR 10 0 ((sA ga 15 (flR 12 (-1) (ga.1 15))).1 17)) := ⟨_, rfl⟩
  have an : ∀ a, a ≠ 8 → ga.1 a = g.1 a := fun a ha => by rw [ega]; simp only [sI_1]; rw [up2_nk _ _ _ ha, up2_nk _ _ _ ha]
  have aj : ∀ j, j ≠ 7 → j ≠ 8 → ga.1 8 j = g.1 8 j := fun j h1 h2 => by rw [ega]; simp only [sI_1]; rw [up2_ne _ _ (Or.inr h2), up2_ne _ _ (Or.inr h1)]
  have a7 : ga.1 8 7 = nI M := by rw [ega]; simp only [sI_1]; rw [up2_ne _ _ (Or.inr (by decide)), up2_s]
  have a8 : ga.1 8 8 = nI S := by rw [ega, sI_1, up2_s]
  have bn : ∀ a, a ≠ 15 → a ≠ 17 → gb.1 a = ga.1 a := fun a h1 h2 => by rw [egb, sA_n h2, sA_n h1]
  have b15 : gb.1 15 = flR 12 (-1) (g.1 15) := by rw [egb, sA_n (by decide), sA_s, an 15 (by decide)]
  have b17 : ∀ j, j < 10 → gb.1 17 j = 0 := fun j hj => by rw [egb, sA_s]; unfold flR; rw [if_pos hj]
  have bR : gb.2 = g.2 := by rw [egb, ega]; rfl
  have loop : ∀ d k g', k + d = M → (∀ a, a ≠ 15 → a ≠ 16 → a ≠ 17 → g'.1 a = gb.1 a) → g'.2 = g.2 → g'.1 15 = wmN (flR 12 (-1) (g.1 15)) cs F n k → (∀ j, j < k → g'.1 17 j = coF 0 cs F j n ∧ g'.1 16 j = g.1 12 (ptM (2 ^ n - 1) F j)) → (∀ j, k ≤ j → j < 10 → g'.1 17 j = 0) → ∃ g'', lop (r_X6_keepPlan_40 V) (8, lQ v, nI k, g') = some ((), g'') ∧ (∀ a, a ≠ 15 → a ≠ 16 → a ≠ 17 → g''.1 a = gb.1 a) ∧ g''.2 = g.2 ∧ g''.1 15 = wmN (flR 12 (-1) (g.1 15)) cs F n M ∧ (∀ j, j < M → g''.1 17 j = coF 0 cs F j n ∧ g''.1 16 j = g.1 12 (ptM (2 ^ n - 1) F j)) := by
    intro d
    induction d with
    | zero =>
      intro k g' hk f1 f2 f3 f4 f5
      have e : k = M := by omega
      subst e
      refine ⟨g', lop_r ?_, f1, f2, f3, f4⟩
      show r_X6_keepPlan_40' V 8 (lQ v) (nI k) g' = _
      unfold r_X6_keepPlan_40'
      rw [grd_t (v_8 hV), f1 8 (by decide) (by decide) (by decide), bn 8 (by decide) (by decide), a7, brn_t (nI_le (Nat.le_refl _) (by omega))]
    | succ d ih =>
      intro k g' hk f1 f2 f3 f4 f5
      have hR' : ShR g'.2.2 := by rw [f2]; exact hR
      have e8 : ∀ j, g'.1 8 j = ga.1 8 j := fun j => by rw [f1 8 (by decide) (by decide) (by decide), bn 8 (by decide) (by decide)]
      have e9 : g'.1 9 = g.1 9 := by rw [f1 9 (by decide) (by decide) (by decide), bn 9 (by decide) (by decide), an 9 (by decide)]
      have e12 : g'.1 12 = g.1 12 := by rw [f1 12 (by decide) (by decide) (by decide), bn 12 (by decide) (by decide), an 12 (by decide)]
      have kp := x_kp (g := g') (m := k) (F := F) (v := v) (cs := cs) hV hR' hn (by rw [e8, aj 6 (by decide) (by decide)]; exact h6) (by rw [e9]; exact hc) hv hd (by omega)
      obtain ⟨g2, eg2⟩ : ∃ g2, g2 = hp2 g' 15 17 (wmF (g'.1 15) cs F k n) k (coF (g'.1 17 k) cs F k n) := ⟨_, rfl⟩
      rw [← eg2] at kp
      have pl := ptM_lt (p := 2 ^ n - 1) (f := F) (k := k)
      have g2n : ∀ a, a ≠ 15 → a ≠ 17 → g2.1 a = g'.1 a := fun a h1 h2 => by rw [eg2, hp2_n h1 h2]
      have st : r_X6_keepPlan_40 V (8, lQ v, nI k, g') = some (.inl (8, lQ v, nI (k + 1), sI g2 16 k (g.1 12 (ptM (2 ^ n - 1) F k)))) := by
        show r_X6_keepPlan_40' V 8 (lQ v) (nI k) g' = _
        unfold r_X6_keepPlan_40'
        rw [grd_t (v_8 hV), e8, a7, brn_f (nI_ge (by omega) (by omega)), brn_f (show ¬ (10 : Int32) ≤ nI k from nI_ge (b := 10) (by omega) (by decide)), q_8_10 hR', bind_some', q_8_3 hR', bind_some', kp, bnd_some, grd_t (ok_nI (n := 1024) (t := 0) (v_12 hV) pl (by decide)), grd_t (ok_nI (n := 10) (t := 0) (v_16 hV) (by omega) (by decide)), cl_nI (by omega), cl_nI (by omega), g2n 12 (by decide) (by decide), e12, nm_eq, nm_eq, nI_1]
      rw [lop_l st]
      have w17 : ∀ j, (sI g2 16 k (g.1 12 (ptM (2 ^ n - 1) F k))).1 17 j = upd (g'.1 17) k (coF (g'.1 17 k) cs F k n) j := fun j => by rw [sI_1, up2_nk _ _ _ (by decide), eg2, hp2_b]
      refine ih (k + 1) _ (by omega) (fun a h1 h2 h3 => by rw [sI_1, up2_nk _ _ _ h2, g2n a h1 h3]; exact f1 a h1 h2 h3) (by show g2.2 = _; rw [eg2]; exact f2) ?_ (fun j hj => ?_) (fun j hj hj2 => ?_)
      · rw [sI_1, up2_nk _ _ _ (by decide), eg2, hp2_a (by decide), f3]; rfl
      · rw [w17]
        by_cases z : j = k
        · subst z
          rw [upd_s, f5 j (Nat.le_refl _) (by omega), sI_1, up2_s]
          exact ⟨rfl, rfl⟩
        · rw [upd_n z, sI_1, up2_ne _ _ (Or.inr z), g2n 16 (by decide) (by decide)]
          exact f4 j (by omega)
      · rw [w17, upd_n (by omega)]; exact f5 j (by omega) hj2
  obtain ⟨g', k1, k2, k3, k4, k5⟩ := loop M 0 gb (by omega) (fun _ _ _ _ => rfl) bR b15 (fun j hj => absurd hj (by omega)) (fun j _ hj => b17 j hj)
  refine ⟨g', ?_, fun a h1 h2 h3 h4 => by rw [k2 a h2 h3 h4, bn a h2 h4, an a h1], fun j h1 h2 => by rw [k2 8 (by decide) (by decide) (by decide), bn 8 (by decide) (by decide), aj j h1 h2], k3, by rw [k2 8 (by decide) (by decide) (by decide), bn 8 (by decide) (by decide), a7], by rw [k2 8 (by decide) (by decide) (by decide), bn 8 (by decide) (by decide), a8], k4, k5⟩
  unfold r_X6_keepPlan
  have s1 : (lQ v >>> ((54 : Int32).toInt64 &&& 63)).toInt32 = nI M := by rw [l_shr hv _ (k := 54) (by decide), l_i32, v54]
  have s2 : (lQ v >>> ((40 : Int32).toInt64 &&& 63)).toInt32 &&& (16383 : Int32) = nI S := by
    rw [l_shr hv _ (k := 40) (by decide), l_i32, v40, pk_andN (n := M * 2 ^ 14 + S) (by omega) 14 (by decide)]
    congr 1; omega
  have aR : ga.2.2 = g.2.2 := by rw [ega]; rfl
  rw [grd_t (v_8 hV), s1, s2, nm_eq, nm_eq, ← ega, aR, q_8_9 hR, bind_some', p_fill (v_15 hV) (by decide), bnd_some, sA_3, aR, q_8_11 hR, bind_some', p_fill (v_17 hV) (by decide), bnd_some, ← egb]
  exact k1
theorem m_164 {V : Vk} {n m : Nat} {cs F : Nat → Nat} {g : Hq} (hV : ShV V) (hR : ShR g.2.2) (hn : n ≤ 10) (h15 : g.1 70 15 = nI n) (hc : ∀ i, i < n → g.1 76 i = nI (cs i) ∧ cs i < 12) (h80 : ∀ i, i < n → g.1 80 i = nI (F i) ∧ F i ≤ 15) (hm : m < 10) : lop (r_X12_rounds_164 V) (70, nI m, 0, 0, g) = some (.inl (70, nI (m + 1), sI (hp2 g 82 84 (wmF (g.1 82) cs F m n) m (coF (g.1 84 m) cs F m n)) 83 m (g.1 78 (ptM (2 ^ n - 1) F m)))) := by
  have pl := ptM_lt (p := 2 ^ n - 1) (f := F) (k := m)
  have hR2 : ∀ r m v, (hp2 g 82 84 r m v).2.2 = g.2.2 := fun _ _ _ => rfl
  have H := run_for (f := r_X12_rounds_164 V) (fun i => (70, nI m, nI (mkM (fun j => decide (F j = m)) i), nI i, hp2 g 82 84 (wmF (g.1 82) cs F m i) m (coF (g.1 84 m) cs F m i))) n (b := .inl (70, nI (m + 1), sI (hp2 g 82 84 (wmF (g.1 82) cs F m n) m (coF (g.1 84 m) cs F m n)) 83 m (g.1 78 (ptM (2 ^ n - 1) F m)))) (fun i hi => by
    obtain ⟨c1, c2⟩ := hc i hi
    obtain ⟨d1, d2⟩ := h80 i hi
    show r_X12_rounds_164' V 70 (nI m) (nI (mkM (fun j => decide (F j = m)) i)) (nI i) (hp2 g 82 84 (wmF (g.1 82) cs F m i) m (coF (g.1 84 m) cs F m i)) = some (.inl (70, nI m, nI (mkM (fun j => decide (F j = m)) (i + 1)), nI (i + 1), hp2 g 82 84 (wmF (g.1 82) cs F m (i + 1)) m (coF (g.1 84 m) cs F m (i + 1))))
    unfold r_X12_rounds_164'
    rw [grd_t (v_70 hV), hp2_n (k := 70) (by decide) (by decide), h15, brn_f (nI_ge hi (by omega)), hR2, q_70_19 hR, bind_some', grd_t (ok_nI (n := 10) (t := 0) (v_80 hV) (by omega) (by decide)), cl_nI (by omega), hp2_n (k := 80) (by decide) (by decide), d1]
    have mk : mkM (fun j => decide (F j = m)) (i + 1) = if decide (F i = m) = true then mkM (fun j => decide (F j = m)) i ||| 2 ^ i else mkM (fun j => decide (F j = m)) i := rfl
    have wm : wmF (g.1 82) cs F m (i + 1) = if F i = m then upd (wmF (g.1 82) cs F m i) (cs i) (nI m) else wmF (g.1 82) cs F m i := rfl
    have co : coF (g.1 84 m) cs F m (i + 1) = if F i = m then coF (g.1 84 m) cs F m i ||| nI (2 ^ cs i) else coF (g.1 84 m) cs F m i := rfl
    by_cases e : F i = m
    · rw [mk, wm, co, if_pos e, if_pos e, if_pos (by rw [decide_eq_true_iff]; exact e)]
      rw [brn_t (by rw [e]), q_70_26 hR, bind_some', q_70_14 hR, bind_some', grd_t (ok_nI (n := 10) (t := 0) (v_76 hV) (by omega) (by decide)), hp2_n (k := 76) (by decide) (by decide), c1, grd_t (ok_nI (n := 12) (t := 0) (v_82 hV) c2 (by decide)), cl_nI (by omega), nm_eq, b_one (by omega), b_or, nm_eq, sI_3, hR2, q_70_28 hR, bind_some', grd_t (ok_nI (n := 10) (t := 0) (v_84 hV) hm (by decide)), q_70_14 hR, bind_some', grd_t (ok_nI (n := 10) (t := 0) (v_76 hV) (by omega) (by decide)), grd_t (ok_nI (n := 10) (t := 0) (v_84 hV) hm (by decide)), cl_nI (by omega), sI_1, up2_nk (a := 84) _ _ _ (by decide), up2_nk (a := 76) _ _ _ (by decide), hp2_n (k := 76) (by decide) (by decide), c1, hp2_b, upd_s, b_one (by omega), hp2_w (by decide), nm_eq, nm_eq, nI_1]
    · rw [mk, wm, co, if_neg e, if_neg e, if_neg (by rw [decide_eq_true_iff]; exact e)]
      rw [brn_f (by rw [nI_eq (by omega) (by omega)]; exact e), nm_eq, nI_1]) (by
    show r_X12_rounds_164' V 70 (nI m) (nI (mkM (fun j => decide (F j = m)) n)) (nI n) _ = _
    unfold r_X12_rounds_164'
    rw [grd_t (v_70 hV), hp2_n (k := 70) (by decide) (by decide), h15, brn_t (nI_le (Nat.le_refl _) (by omega)), mk_pt hn, hR2, q_70_27 hR, bind_some', q_70_17 hR, bind_some', grd_t (ok_nI (n := 1024) (t := 0) (v_78 hV) pl (by decide)), grd_t (ok_nI (n := 10) (t := 0) (v_83 hV) hm (by decide)), cl_nI (by omega), cl_nI (by omega), hp2_n (k := 78) (by decide) (by decide), nm_eq, nm_eq, nI_1]) n 0 (by omega)
  have e0 : hp2 g 82 84 (wmF (g.1 82) cs F m 0) m (coF (g.1 84 m) cs F m 0) = g := hp2_0
  simp only [e0] at H
  exact H
theorem m_fin {V : Vk} {n M : Nat} {cs F : Nat → Nat} {g : Hq} (hV : ShV V) (hR : ShR g.2.2) (hn : n ≤ 10) (h15 : g.1 70 15 = nI n) (hc : ∀ i, i < n → g.1 76 i = nI (cs i) ∧ cs i < 12) (h80 : ∀ i, i < n → g.1 80 i = nI (F i) ∧ F i ≤ 15) (hM : M ≤ 10) (h24 : g.1 70 24 = nI M) : ∃ g', lop (r_X12_rounds_143 V) (70, 0, g) = some (nI M, g') ∧ (∀ a, a ≠ 70 → a ≠ 82 → a ≠ 83 → a ≠ 84 → g'.1 a = g.1 a) ∧ (∀ j, j ≠ 23 → g'.1 70 j = g.1 70 j) ∧ g'.2 = g.2 ∧ g'.1 70 23 = 1 ∧ g'.1 82 = wmN (g.1 82) cs F n M ∧ ∀ j, j < M → g'.1 84 j = coF 0 cs F j n ∧ g'.1 83 j = g.1 78 (ptM (2 ^ n - 1) F j) := by
  have loop : ∀ d k g', k + d = M → (∀ a, a ≠ 82 → a ≠ 83 → a ≠ 84 → g'.1 a = g.1 a) → g'.2 = g.2 → g'.1 82 = wmN (g.1 82) cs F n k → (∀ j, j < k → g'.1 84 j = coF 0 cs F j n ∧ g'.1 83 j = g.1 78 (ptM (2 ^ n - 1) F j)) → ∃ g'', lop (r_X12_rounds_143 V) (70, nI k, g') = some (nI M, g'') ∧ (∀ a, a ≠ 70 → a ≠ 82 → a ≠ 83 → a ≠ 84 → g''.1 a = g.1 a) ∧ (∀ j, j ≠ 23 → g''.1 70 j = g.1 70 j) ∧ g''.2 = g.2 ∧ g''.1 70 23 = 1 ∧ g''.1 82 = wmN (g.1 82) cs F n M ∧ ∀ j, j < M → g''.1 84 j = coF 0 cs F j n ∧ g''.1 83 j = g.1 78 (ptM (2 ^ n - 1) F j) := by
    intro d
    induction d with
    | zero =>
      intro k g' hk f1 f2 f3 f4
      have e : k = M := by omega
      subst e
      have e70 : g'.1 70 = g.1 70 := f1 70 (by decide) (by decide) (by decide)
      refine ⟨sI g' 70 23 1, lop_r ?_, fun a h1 h2 h3 h4 => by rw [sI_1, up2_nk _ _ _ h1]; exact f1 a h2 h3 h4, fun j hj => by rw [sI_1, up2_ne _ _ (Or.inr hj), e70], f2, by rw [sI_1, up2_s], by rw [sI_1, up2_nk _ _ _ (by decide)]; exact f3, fun j hj => by rw [sI_1, up2_nk _ _ _ (by decide), up2_nk _ _ _ (by decide)]; exact f4 j hj⟩
      show r_X12_rounds_143' V 70 (nI k) g' = _
      unfold r_X12_rounds_143'
      rw [grd_t (v_70 hV), e70, h24, brn_t (nI_le (Nat.le_refl _) (by omega)), nm_eq, sI_1, up2_ne _ _ (Or.inr (by decide)), e70, h24]
    | succ d ih =>
      intro k g' hk f1 f2 f3 f4
      have e70 : g'.1 70 = g.1 70 := f1 70 (by decide) (by decide) (by decide)
      have hR' : ShR g'.2.2 := by rw [f2]; exact hR
      obtain ⟨ga, ega⟩ : ∃ ga, ga = sI g' 84 k 0 := ⟨_, rfl⟩
      have an : ∀ a, a ≠ 84 → ga.1 a = g'.1 a := fun a ha => by rw [ega, sI_1, up2_nk _ _ _ ha]
      have a84 : ga.1 84 k = 0 := by rw [ega, sI_1, up2_s]
      have k1 := m_164 (g := ga) (m := k) (F := F) (cs := cs) hV (by rw [ega]; exact hR') hn (by rw [an 70 (by decide), e70]; exact h15) (by rw [an 76 (by decide), f1 76 (by decide) (by decide) (by decide)]; exact hc) (by rw [an 80 (by decide), f1 80 (by decide) (by decide) (by decide)]; exact h80) (by omega)
      rw [a84] at k1
      obtain ⟨g2, eg2⟩ : ∃ g2, g2 = sI (hp2 ga 82 84 (wmF (ga.1 82) cs F k n) k (coF 0 cs F k n)) 83 k (ga.1 78 (ptM (2 ^ n - 1) F k)) := ⟨_, rfl⟩
      rw [← eg2] at k1
      have st : r_X12_rounds_143 V (70, nI k, g') = some (.inl (70, nI (k + 1), g2)) := by
        show r_X12_rounds_143' V 70 (nI k) g' = _
        unfold r_X12_rounds_143'
        rw [grd_t (v_70 hV), e70, h24, brn_f (nI_ge (by omega) (by omega)), q_70_28 hR', bind_some', grd_t (ok_nI (n := 10) (t := 0) (v_84 hV) (by omega) (by decide)), cl_nI (by omega), nm_eq, ← ega]
        exact k1
      rw [lop_l st]
      have w84 : ∀ j, g2.1 84 j = upd (ga.1 84) k (coF 0 cs F k n) j := fun j => by rw [eg2, sI_1, up2_nk _ _ _ (by decide), hp2_b]
      refine ih (k + 1) g2 (by omega) (fun a h1 h2 h3 => by rw [eg2, sI_1, up2_nk _ _ _ h2, hp2_n h1 h3, an a h3]; exact f1 a h1 h2 h3) (by rw [eg2, ega]; exact f2) ?_ (fun j hj => ?_)
      · rw [eg2, sI_1, up2_nk _ _ _ (by decide), hp2_a (by decide), an 82 (by decide), f3]; rfl
      · rw [w84]
        by_cases z : j = k
        · subst z
          rw [upd_s, eg2, sI_1, up2_s, an 78 (by decide), f1 78 (by decide) (by decide) (by decide)]
          exact ⟨rfl, rfl⟩
        · rw [upd_n z, ega, sI_1, up2_ne _ _ (Or.inr z)]
          refine ⟨(f4 j (by omega)).1, ?_⟩
          rw [eg2, sI_1, up2_ne _ _ (Or.inr z), hp2_n (by decide) (by decide), an 83 (by decide)]
          exact (f4 j (by omega)).2
  exact loop M 0 g (by omega) (fun _ _ _ _ => rfl) rfl rfl (fun j hj => absurd hj (by omega))
