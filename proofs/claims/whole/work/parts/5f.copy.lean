/-! ===== the draft is enacted ===== -/
def cpF (f : Nat → Int32) (d src i : Nat) : Nat → Int32 := fun j => if d ≤ j ∧ j < d + i then f (src + (j - d)) else f j
theorem cpF_0 (f : Nat → Int32) (d src : Nat) : cpF f d src 0 = f := by funext j; unfold cpF; rw [if_neg (by omega)]
theorem cpF_s {f : Nat → Int32} {d src i : Nat} (h : d + i ≤ src) : upd (cpF f d src i) (d + i) (cpF f d src i (src + i)) = cpF f d src (i + 1) := by
  funext j
  show (if j = d + i then _ else cpF f d src i j) = _
  unfold cpF
  by_cases e : j = d + i
  · rw [if_pos e, if_neg (by omega), if_pos (by omega), e, show src + (d + i - d) = src + i by omega]
  · rw [if_neg e]
    by_cases q : d ≤ j ∧ j < d + i
    · rw [if_pos q, if_pos (by omega)]
    · rw [if_neg q, if_neg (by omega)]
def enM (g : Hq) (w : Nat) : Hq := sI (sA g 85 (cpF (g.1 85) (8 * w) 32 8)) 87 w (g.1 87 4)
def enG (g : Hq) (w : Nat) : Hq := sA (enM g w) 86 (cpF (g.1 86) (48 * w) 192 48)
theorem m_copy {V : Vk} {g : Hq} {w : Nat} {x : Int32} (hV : ShV V) (hR : ShR g.2.2) (hw : w < 4) : lop (r_X12_laws_175 V) (70, nI w, x, 0, g) = some (x, enG g w) := by
  have pre : lop (r_X12_laws_175 V) (70, nI w, x, 0, g) = lop (r_X12_laws_175 V) (70, nI w, x, nI 8, sA g 85 (cpF (g.1 85) (8 * w) 32 8)) := by
    have := run_to (f := r_X12_laws_175 V) (fun i => (70, nI w, x, nI i, sA g 85 (cpF (g.1 85) (8 * w) 32 i))) 8 (fun i hi => by
      show r_X12_laws_175' V 70 (nI w) x (nI i) (sA g 85 (cpF (g.1 85) (8 * w) 32 i)) = some (.inl (70, nI w, x, nI (i + 1), sA g 85 (cpF (g.1 85) (8 * w) 32 (i + 1))))
      unfold r_X12_laws_175'
      rw [brn_f (show ¬ (8 : Int32) ≤ nI i from nI_ge (b := 8) hi (by decide)), grd_t (v_70 hV), sA_3, q_70_29 hR, bind_some', bind_some', show (32 : Int32) + nI i = nI (32 + i) from nI_add 32 i, i85, grd_t (ok_nI (n := 40) (t := 0) (v_85 hV) (by omega) (by decide)), grd_t (ok_nI (n := 40) (t := 0) (v_85 hV) (by omega) (by decide)), cl_nI (by omega), cl_nI (by omega), sA_s, sA_sI, cpF_s (by omega), nm_eq, nI_1, nm_eq])
    simp only [cpF_0, sA_id] at this
    exact this
  rw [pre]
  refine lop_map ?_
  show r_X12_laws_175' V 70 (nI w) x (nI 8) (sA g 85 (cpF (g.1 85) (8 * w) 32 8)) = _
  unfold r_X12_laws_175'
  rw [brn_t (by decide), grd_t (v_70 hV), sA_3, q_70_31 hR, bind_some', bind_some', grd_t (show okV V 87 0 (4 : Int32) from ok_nI (n := 5) (j := 4) (t := 0) (v_87 hV) (by omega) (by decide)), grd_t (ok_nI (n := 5) (t := 0) (v_87 hV) (by omega) (by decide)), show (4 : Int32).toNatClampNeg = 4 from rfl, cl_nI (by omega), sA_n (by decide), nm_eq]
  refine congrArg _ ?_
  show lop (r_X12_laws_225 V) (70, nI w, x, 0, enM g w) = some (x, enG g w)
  have m86 : (enM g w).1 86 = g.1 86 := by unfold enM; rw [sI_1, up2_nk _ _ _ (by decide), sA_n (by decide)]
  have pre2 : lop (r_X12_laws_225 V) (70, nI w, x, 0, enM g w) = lop (r_X12_laws_225 V) (70, nI w, x, nI 48, sA (enM g w) 86 (cpF (g.1 86) (48 * w) 192 48)) := by
    have := run_to (f := r_X12_laws_225 V) (fun i => (70, nI w, x, nI i, sA (enM g w) 86 (cpF (g.1 86) (48 * w) 192 i))) 48 (fun i hi => by
      show r_X12_laws_225' V 70 (nI w) x (nI i) (sA (enM g w) 86 (cpF (g.1 86) (48 * w) 192 i)) = some (.inl (70, nI w, x, nI (i + 1), sA (enM g w) 86 (cpF (g.1 86) (48 * w) 192 (i + 1))))
      unfold r_X12_laws_225'
      rw [brn_f (show ¬ (48 : Int32) ≤ nI i from nI_ge (b := 48) hi (by decide)), grd_t (v_70 hV), sA_3, show (enM g w).2.2 = g.2.2 from rfl, q_70_30 hR, bind_some', bind_some', show (192 : Int32) + nI i = nI (192 + i) from nI_add 192 i, show (48 : Int32) * nI w + nI i = nI (48 * w + i) by rw [show (48 : Int32) = nI 48 from rfl, pk_mul, nI_add], grd_t (ok_nI (n := 240) (t := 0) (v_86 hV) (by omega) (by decide)), grd_t (ok_nI (n := 240) (t := 0) (v_86 hV) (by omega) (by decide)), cl_nI (by omega), cl_nI (by omega), sA_s, sA_sI, cpF_s (by omega), nm_eq, nI_1, nm_eq])
    simp only [cpF_0] at this
    rw [← m86, sA_id] at this
    rw [← m86]
    exact this
  rw [pre2]
  refine lop_r ?_
  show r_X12_laws_225' V 70 (nI w) x (nI 48) _ = _
  unfold r_X12_laws_225'
  rw [brn_t (by decide)]
  rfl
theorem RL1_mv {I I2 : Nat → Nat → Int32} {p w w2 : Nat} (h : RL1 I p w) (e : ∀ i, i ≤ 4 → I2 (p + i) = I (p + i)) (e85 : ∀ j, j < 8 → I2 85 (8 * w2 + j) = I 85 (8 * w + j)) (e86 : ∀ j, j < 48 → I2 86 (48 * w2 + j) = I 86 (48 * w + j)) (e87 : I2 87 w2 = I 87 w) : RL1 I2 p w2 := by
  obtain ⟨h1, ⟨n, n1, n2, n3, n4⟩, k0, k1, k2, k3, k4, k5, k6, k7, k8, k9, k10, k11, k12⟩ := h
  have e0 : I2 p = I p := e 0 (by omega)
  have m : ∀ i t, i < 12 → t < 4 → I2 86 (4 * (12 * w2 + i) + t) = I 86 (4 * (12 * w + i) + t) := fun i t hi ht => by
    have := e86 (4 * i + t) (by omega)
    rw [show 4 * (12 * w2 + i) + t = 48 * w2 + (4 * i + t) by omega, this, show 48 * w + (4 * i + t) = 4 * (12 * w + i) + t by omega]
  have b0 : I2 85 (8 * w2) = I 85 (8 * w) := e85 0 (by omega)
  refine ⟨fun j hj => by rw [e0, e85 j hj]; exact h1 j hj, ⟨n, n1, by rw [e0]; exact n2, by rw [e87]; exact n3, fun i hi => ?_⟩, ?_⟩
  · have m0 : I2 86 (4 * (12 * w2 + i)) = I 86 (4 * (12 * w + i)) := m i 0 (by omega) (by omega)
    rw [e 1 (by omega), e 2 (by omega), e 3 (by omega), e 4 (by omega), m0, m i 1 (by omega) (by omega), m i 2 (by omega) (by omega), m i 3 (by omega) (by omega)]
    exact n4 i hi
  · rw [b0, e85 1 (by omega), e85 2 (by omega), e85 3 (by omega), e85 4 (by omega), e85 5 (by omega), e85 6 (by omega), e85 7 (by omega)]
    exact ⟨k0, k1, k2, k3, k4, k5, k6, k7, k8, k9, k10, k11, k12⟩
