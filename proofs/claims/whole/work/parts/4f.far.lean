theorem k12 : (12 : Int32) = nI 12 := rfl
theorem mx {c d : Nat} : (12 : Int32) * nI c + nI d = nI (12 * c + d) := by rw [k12, pk_mul, nI_add]
theorem xx {c d : Nat} : nI c * (12 : Int32) + nI d = nI (12 * c + d) := by rw [k12, pk_mul, nI_add, Nat.mul_comm]
theorem sA_sI {g : Hq} {k j : Nat} {r : Nat → Int32} {v : Int32} : sI (sA g k r) k j v = sA g k (upd r j v) := by
  unfold sI sA
  refine Prod.ext ?_ rfl
  funext a b
  show up2 (upr g.1 k r) k j v a b = upr g.1 k (upd r j v) a b
  simp only [up2_at, upr_at]
  by_cases e : a = k
  · subst e; simp [upd]
  · simp [e]
theorem sA_s {g : Hq} {k : Nat} {r : Nat → Int32} : (sA g k r).1 k = r := by rw [sA_1, upr_at, if_pos rfl]
theorem sA_n {g : Hq} {k a : Nat} {r : Nat → Int32} (h : a ≠ k) : (sA g k r).1 a = g.1 a := by rw [sA_1, upr_at, if_neg h]
theorem sA_id {g : Hq} {k : Nat} : sA g k (g.1 k) = g := by
  unfold sA
  refine Prod.ext ?_ rfl
  funext a
  show upr g.1 k (g.1 k) a = g.1 a
  rw [upr_at]
  by_cases e : a = k
  · rw [if_pos e, e]
  · rw [if_neg e]
theorem m_far71 {V : Vk} {g : Hq} {F : Nat → Int32} {m a : Nat} (hV : ShV V) (hR : ShR g.2.2) (hm : m < 12) (ha : a < 12) : lop (r_X12_makeFar_71 V) (70, nI m, nI a, 0, sA g 75 F) = some (.inl (70, nI m, nI (a + 1), sA g 75 (flB F m a 12))) := by
  refine run_for (f := r_X12_makeFar_71 V) (fun b => (70, nI m, nI a, nI b, sA g 75 (flB F m a b))) 12 ?_ ?_ 12 0 (by omega)
  · intro b hb
    have ok : ∀ j, j < 144 → okV V 75 0 (nI j) := fun j hj => ok_nI (n := 144) (v_75 hV) hj (by decide)
    show r_X12_makeFar_71' V 70 (nI m) (nI a) (nI b) (sA g 75 (flB F m a b)) = some (.inl (70, nI m, nI a, nI (b + 1), sA g 75 (flT (flB F m a b) m a b)))
    unfold r_X12_makeFar_71'
    rw [brn_f (by rw [k12]; exact nI_ge hb (by decide)), grd_t (v_70 hV), sA_3, q_70_13 hR, bind_some', mx, grd_t (ok _ (by omega)), bind_some', mx, grd_t (ok _ (by omega)), nm_eq, bind_some', mx, grd_t (ok _ (by omega)), cl_nI (by omega), cl_nI (by omega), cl_nI (by omega), sA_s]
    unfold flT
    by_cases c : flB F m a b (12 * a + m) + flB F m a b (12 * m + b) < flB F m a b (12 * a + b)
    · rw [brn_f (i_nle.mpr c), bind_some', grd_t (ok _ (by omega)), nm_eq, nm_eq, nI_1, sA_sI, if_pos c]
    · rw [brn_t (i_nlt.mp c), nm_eq, nI_1, if_neg c]
  · show r_X12_makeFar_71' V 70 (nI m) (nI a) (nI 12) _ = _
    unfold r_X12_makeFar_71'
    rw [brn_t (by decide), nm_eq, nI_1]
theorem m_far63 {V : Vk} {g : Hq} {F : Nat → Int32} {m : Nat} (hV : ShV V) (hR : ShR g.2.2) (hm : m < 12) : lop (r_X12_makeFar_63 V) (70, nI m, 0, sA g 75 F) = some (.inl (70, nI (m + 1), sA g 75 (flA F m 12))) := by
  refine run_for (f := r_X12_makeFar_63 V) (fun a => (70, nI m, nI a, sA g 75 (flA F m a))) 12 ?_ ?_ 12 0 (by omega)
  · intro a ha
    show r_X12_makeFar_63' V 70 (nI m) (nI a) (sA g 75 (flA F m a)) = some (.inl (70, nI m, nI (a + 1), sA g 75 (flB (flA F m a) m a 12)))
    unfold r_X12_makeFar_63'
    rw [brn_f (by rw [k12]; exact nI_ge ha (by decide)), m_far71 hV hR hm ha]
  · show r_X12_makeFar_63' V 70 (nI m) (nI 12) _ = _
    unfold r_X12_makeFar_63'
    rw [brn_t (by decide), nm_eq, nI_1]
theorem m_far55 {V : Vk} {g : Hq} {F : Nat → Int32} (hV : ShV V) (hR : ShR g.2.2) : lop (r_X12_makeFar_55 V) (70, 0, sA g 75 F) = some ((), sA g 75 (flM F 12)) := by
  refine run_for (f := r_X12_makeFar_55 V) (fun m => (70, nI m, sA g 75 (flM F m))) 12 ?_ ?_ 12 0 (by omega)
  · intro m hm
    show r_X12_makeFar_55' V 70 (nI m) (sA g 75 (flM F m)) = some (.inl (70, nI (m + 1), sA g 75 (flA (flM F m) m 12)))
    unfold r_X12_makeFar_55'
    rw [brn_f (by rw [k12]; exact nI_ge hm (by decide)), m_far63 hV hR hm]
  · show r_X12_makeFar_55' V 70 (nI 12) _ = _
    unfold r_X12_makeFar_55'
    rw [brn_t (by decide)]
def r0 (ways old : Nat → Int32) (k : Nat) : Nat → Int32 := fun j => if j < k then mf0 ways j else old j
theorem r0_s {ways old : Nat → Int32} {k : Nat} : upd (r0 ways old k) k (mf0 ways k) = r0 ways old (k + 1) := by
  funext j
  unfold r0 upd
  by_cases e : j = k
  · rw [if_pos e, if_pos (by omega), e]
  · rw [if_neg e]
    show (if j < k then mf0 ways j else old j) = if j < k + 1 then mf0 ways j else old j
    by_cases l : j < k
    · rw [if_pos l, if_pos (by omega)]
    · rw [if_neg l, if_neg (by omega)]
theorem r0_0 {ways old : Nat → Int32} : r0 ways old 0 = old := by funext j; unfold r0; rw [if_neg (by omega)]
theorem m_makeFar {V : Vk} {g : Hq} (hV : ShV V) (hR : ShR g.2.2) : r_X12_makeFar V 70 g = some ((), sA g 75 (flM (r0 (g.1 74) (g.1 75) 144) 12)) := by
  unfold r_X12_makeFar
  have e0 : ((70, (0 : Int32), g) : Nat × Int32 × Hq) = (70, nI 0, sA g 75 (r0 (g.1 74) (g.1 75) 0)) := by rw [r0_0, sA_id]; rfl
  rw [e0]
  refine run_for (f := r_X12_makeFar_2 V) (fun k => (70, nI k, sA g 75 (r0 (g.1 74) (g.1 75) k))) 144 ?_ ?_ 144 0 (by omega)
  · intro k hk
    have ok : okV V 75 0 (nI k) := ok_nI (n := 144) (v_75 hV) hk (by decide)
    have ok4 : okV V 74 0 (nI k) := ok_nI (n := 144) (v_74 hV) hk (by decide)
    have rem : nI k - nI k / (13 : Int32) * (13 : Int32) = nI (k % 13) := by rw [show (13 : Int32) = nI 13 from rfl]; exact pk_rem (by omega) (by decide) (by decide)
    show r_X12_makeFar_2' V 70 (nI k) (sA g 75 (r0 (g.1 74) (g.1 75) k)) = some (.inl (70, nI (k + 1), sA g 75 (r0 (g.1 74) (g.1 75) (k + 1))))
    unfold r_X12_makeFar_2'
    rw [brn_f (by rw [show (144 : Int32) = nI 144 from rfl]; exact nI_ge hk (by decide)), grd_t (v_70 hV), sA_3, q_70_13 hR, bind_some', rem, cl_nI (by omega), ← r0_s]
    by_cases z : k % 13 = 0
    · have em : mf0 (g.1 74) k = 0 := by unfold mf0; rw [if_pos z]
      rw [brn_t (by rw [z]; rfl), grd_t ok, nm_eq, nm_eq, nI_1, sA_sI, em]
    · rw [brn_f (by rw [show (0 : Int32) = nI 0 from rfl, nI_eq (by omega) (by decide)]; exact z), q_70_12 hR, bind_some', grd_t ok4, sA_n (by decide)]
      by_cases w : g.1 74 k = -1
      · have em : mf0 (g.1 74) k = 1000000 := by unfold mf0; rw [if_neg z, if_pos w]
        rw [brn_t w, grd_t ok, nm_eq, nm_eq, nI_1, sA_sI, em]
      · have em : mf0 (g.1 74) k = g.1 74 k := by unfold mf0; rw [if_neg z, if_neg w]
        rw [brn_f w, bind_some', grd_t ok4, grd_t ok, nm_eq, nm_eq, nI_1, sA_sI, em, sA_n (by decide)]
  · show r_X12_makeFar_2' V 70 (nI 144) (sA g 75 (r0 (g.1 74) (g.1 75) 144)) = _
    unfold r_X12_makeFar_2'
    rw [brn_t (by decide), m_far55 hV hR]
    rfl
/-! the class's own -/
theorem x_short21 {V : Vk} {g : Hq} {f : Nat → Int32} {c y : Nat} {first : Int32} (hV : ShV V) (hR : ShR g.2.2) (hc : c < 12) (hy : y < 12) : lop (r_X9_shortenFrom_21 V) (3, nI c, nI y, first, 0, sA g 7 f) = some ((), sA g 7 (xD f first c y 12)) := by
  refine run_for (f := r_X9_shortenFrom_21 V) (fun d => (3, nI c, nI y, first, nI d, sA g 7 (xD f first c y d))) 12 ?_ ?_ 12 0 (by omega)
  · intro d hd
    have ok : ∀ j, j < 144 → okV V 7 0 (nI j) := fun j hj => ok_nI (n := 144) (v_7 hV) hj (by decide)
    show r_X9_shortenFrom_21' V 3 (nI c) (nI y) first (nI d) (sA g 7 (xD f first c y d)) = some (.inl (3, nI c, nI y, first, nI (d + 1), sA g 7 (xT (xD f first c y d) first c y d)))
    unfold r_X9_shortenFrom_21'
    rw [brn_f (by rw [k12]; exact nI_ge hd (by decide)), grd_t (v_3 hV), sA_3, q_3_3 hR, bind_some', xx, grd_t (ok _ (by omega)), nm_eq, bind_some', xx, grd_t (ok _ (by omega)), nm_eq, cl_nI (by omega), cl_nI (by omega), sA_s]
    unfold xT
    by_cases c1 : xD f first c y d (12 * y + d) = -1
    · rw [brn_t c1, nm_eq, nI_1, if_pos c1]
    · rw [brn_f c1, if_neg c1]
      by_cases c2 : xD f first c y d (12 * c + d) = -1
      · rw [brn_t c2, bind_some', grd_t (ok _ (by omega)), nm_eq, nm_eq, nI_1, sA_sI, if_pos c2]
      · rw [brn_f c2, if_neg c2]
        by_cases c3 : xD f first c y d (12 * c + d) ≤ first + xD f first c y d (12 * y + d)
        · rw [brn_t c3, nm_eq, nI_1, if_pos c3]
        · rw [brn_f c3, bind_some', grd_t (ok _ (by omega)), nm_eq, nm_eq, nI_1, sA_sI, if_neg c3]
  · show r_X9_shortenFrom_21' V 3 (nI c) (nI y) first (nI 12) _ = _
    unfold r_X9_shortenFrom_21'
    rw [brn_t (by decide)]
theorem x_short {V : Vk} {g : Hq} {f : Nat → Int32} {c y : Nat} (hV : ShV V) (hR : ShR g.2.2) (hc : c < 12) (hy : y < 12) : r_X9_shortenFrom V 3 (nI c) (nI y) (sA g 7 f) = some ((), sA g 7 (if f (12 * c + y) = -1 then f else xD f (f (12 * c + y)) c y 12)) := by
  unfold r_X9_shortenFrom
  rw [grd_t (v_3 hV), sA_3, q_3_3 hR, bind_some', xx, grd_t (ok_nI (n := 144) (v_7 hV) (by omega) (by decide)), nm_eq, cl_nI (by omega), sA_s]
  by_cases c1 : f (12 * c + y) = -1
  · rw [brn_t c1, if_pos c1]
  · rw [brn_f c1, if_neg c1, x_short21 hV hR hc hy]
theorem x_meas52 {V : Vk} {g : Hq} {f : Nat → Int32} {y : Nat} (hV : ShV V) (hR : ShR g.2.2) (hy : y < 12) : lop (r_X9_measure_52 V) (3, nI y, 0, sA g 7 f) = some (.inl (3, nI (y + 1), sA g 7 (xC f y 12))) := by
  refine run_for (f := r_X9_measure_52 V) (fun c => (3, nI y, nI c, sA g 7 (xC f y c))) 12 ?_ ?_ 12 0 (by omega)
  · intro c hc
    show r_X9_measure_52' V 3 (nI y) (nI c) (sA g 7 (xC f y c)) = some (.inl (3, nI y, nI (c + 1), sA g 7 (if xC f y c (12 * c + y) = -1 then xC f y c else xD (xC f y c) (xC f y c (12 * c + y)) c y 12)))
    unfold r_X9_measure_52'
    rw [brn_f (by rw [k12]; exact nI_ge hc (by decide)), grd_t (v_3 hV), x_short hV hR hc hy, bnd_some, nm_eq, nI_1]
  · show r_X9_measure_52' V 3 (nI y) (nI 12) _ = _
    unfold r_X9_measure_52'
    rw [brn_t (by decide), nm_eq, nI_1]
theorem x_meas44 {V : Vk} {g : Hq} {f : Nat → Int32} (hV : ShV V) (hR : ShR g.2.2) : lop (r_X9_measure_44 V) (3, 0, sA g 7 f) = some ((), sA g 7 (xM f 12)) := by
  refine run_for (f := r_X9_measure_44 V) (fun y => (3, nI y, sA g 7 (xM f y))) 12 ?_ ?_ 12 0 (by omega)
  · intro y hy
    show r_X9_measure_44' V 3 (nI y) (sA g 7 (xM f y)) = some (.inl (3, nI (y + 1), sA g 7 (xC (xM f y) y 12)))
    unfold r_X9_measure_44'
    rw [brn_f (by rw [k12]; exact nI_ge hy (by decide)), x_meas52 hV hR hy]
  · show r_X9_measure_44' V 3 (nI 12) _ = _
    unfold r_X9_measure_44'
    rw [brn_t (by decide)]
def dg (f : Nat → Int32) : Nat → Nat → Int32
  | 0 => f
  | c + 1 => upd (dg f c) (12 * c + c) 0
theorem x_measure {V : Vk} {g : Hq} (hV : ShV V) (hR : ShR g.2.2) : r_X9_measure V 3 g = some ((), sA g 7 (xM (dg (va_cpy (g.1 6) (g.1 7) 0 0 144) 12) 12)) := by
  have okc : okC V 6 7 0 0 144 := ⟨144, 144, v_6 hV, v_7 hV, by decide, by decide, by decide, by decide, by decide, by decide⟩
  unfold r_X9_measure
  rw [grd_t (v_3 hV), q_3_2 hR, bind_some', q_3_3 hR, bind_some', grd_t okc, nm_eq]
  show lop (r_X9_measure_18 V) (3, 0, sA g 7 (va_cpy (g.1 6) (g.1 7) 0 0 144)) = _
  refine run_for (f := r_X9_measure_18 V) (fun c => (3, nI c, sA g 7 (dg (va_cpy (g.1 6) (g.1 7) 0 0 144) c))) 12 ?_ ?_ 12 0 (by omega)
  · intro c hc
    show r_X9_measure_18' V 3 (nI c) (sA g 7 (dg (va_cpy (g.1 6) (g.1 7) 0 0 144) c)) = some (.inl (3, nI (c + 1), sA g 7 (upd (dg (va_cpy (g.1 6) (g.1 7) 0 0 144) c) (12 * c + c) 0)))
    unfold r_X9_measure_18'
    rw [brn_f (by rw [k12]; exact nI_ge hc (by decide)), grd_t (v_3 hV), sA_3, q_3_3 hR, bind_some', xx, grd_t (ok_nI (n := 144) (v_7 hV) (by omega) (by decide)), nm_eq, nm_eq, nI_1, cl_nI (by omega), sA_sI]
  · show r_X9_measure_18' V 3 (nI 12) (sA g 7 (dg (va_cpy (g.1 6) (g.1 7) 0 0 144) 12)) = _
    unfold r_X9_measure_18'
    rw [brn_t (by decide), x_meas44 hV hR]
    rfl
