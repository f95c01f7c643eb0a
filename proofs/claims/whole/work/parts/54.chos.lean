/-! ===== doubt ===== -/
theorem cho_0 (n : Nat) : choF n 0 = 1 := by cases n <;> rfl
theorem cho_s (n k : Nat) : choF (n + 1) (k + 1) = choF n k + choF n (k + 1) := rfl
theorem cho_gt : ∀ n k, n < k → choF n k = 0 := by
  intro n
  induction n with
  | zero => intro k h; cases k with | zero => omega | succ k => rfl
  | succ n ih => intro k h; cases k with | zero => omega | succ k => rw [cho_s, ih k (by omega), ih (k + 1) (by omega)]
theorem cho_mul : ∀ n k, (k + 1) * choF (n + 1) (k + 1) = (n + 1) * choF n k := by
  intro n
  induction n with
  | zero =>
    intro k
    rw [cho_s, cho_gt 0 (k + 1) (by omega)]
    cases k with
    | zero => rfl
    | succ k => rw [cho_gt 0 (k + 1) (by omega)]; simp
  | succ n ih =>
    intro k
    cases k with
    | zero =>
      have := ih 0
      rw [cho_s, cho_0]
      rw [cho_0] at this
      omega
    | succ j =>
      have h1 := ih j
      have h2 := ih (j + 1)
      rw [cho_s (n + 1) (j + 1), Nat.mul_add]
      have e : (j + 1 + 1) * choF (n + 1) (j + 1) = (j + 1) * choF (n + 1) (j + 1) + choF (n + 1) (j + 1) := by rw [Nat.add_mul (j + 1) 1, Nat.one_mul]
      have e2 : (n + 1 + 1) * choF (n + 1) (j + 1) = (n + 1) * choF (n + 1) (j + 1) + choF (n + 1) (j + 1) := by rw [Nat.add_mul (n + 1) 1, Nat.one_mul]
      have e3 : (n + 1) * choF (n + 1) (j + 1) = (n + 1) * choF n j + (n + 1) * choF n (j + 1) := by rw [cho_s, Nat.mul_add]
      rw [e, h1, h2, e2, e3]
      omega
theorem cho_sym : ∀ s a b, a + b = s → choF s a = choF s b := by
  intro s
  induction s with
  | zero => intro a b h; have : a = b := by omega
            rw [this]
  | succ s ih =>
    intro a b h
    cases a with
    | zero =>
      have : b = s + 1 := by omega
      subst this
      rw [cho_0]
      have : ∀ m, choF m m = 1 := by
        intro m
        induction m with
        | zero => rfl
        | succ m im => rw [cho_s, im, cho_gt m (m + 1) (by omega)]
      rw [this]
    | succ a =>
      cases b with
      | zero =>
        have : a = s := by omega
        subst this
        rw [cho_0]
        have : ∀ m, choF m m = 1 := by
          intro m
          induction m with
          | zero => rfl
          | succ m im => rw [cho_s, im, cho_gt m (m + 1) (by omega)]
        rw [this]
      | succ b =>
        rw [cho_s, cho_s, ih a (b + 1) (by omega), ih (a + 1) b (by omega)]
        omega
theorem cho_12 : ∀ k, choF 12 k ≤ 924 := by
  intro k
  by_cases h : k < 13
  · have : ∀ k : Fin 13, choF 12 k.1 ≤ 924 := by decide +kernel
    exact this ⟨k, h⟩
  · rw [cho_gt 12 k (by omega)]; omega
theorem cho_up : ∀ j k, choF (12 + j) k ≤ 924 * 2 ^ j := by
  intro j
  induction j with
  | zero => intro k; simpa using cho_12 k
  | succ j ih =>
    intro k
    cases k with
    | zero => rw [cho_0]; have := Nat.one_le_two_pow (n := j + 1); omega
    | succ k =>
      rw [show 12 + (j + 1) = (12 + j) + 1 by omega, cho_s, Nat.pow_succ]
      have h1 := ih k
      have h2 := ih (k + 1)
      omega
theorem cho_lo : ∀ n k, choF n k ≤ 2 ^ n := by
  intro n
  induction n with
  | zero => intro k; cases k with | zero => decide | succ k => exact Nat.zero_le _
  | succ n ih =>
    intro k
    cases k with
    | zero => rw [cho_0]; exact Nat.one_le_two_pow
    | succ k => rw [cho_s, Nat.pow_succ]; have h1 := ih k; have h2 := ih (k + 1); omega
theorem cho_b {n k : Nat} (hn : n ≤ 60) : choF n k ≤ 924 * 2 ^ 48 := by
  by_cases h : 12 ≤ n
  · have := cho_up (n - 12) k
    rw [show 12 + (n - 12) = n by omega] at this
    have h2 : 2 ^ (n - 12) ≤ 2 ^ 48 := Nat.pow_le_pow_right (by decide) (by omega)
    have h3 := Nat.mul_le_mul_left 924 h2
    omega
  · have := cho_lo n k
    have h2 : 2 ^ n ≤ 2 ^ 48 := Nat.pow_le_pow_right (by decide) (by omega)
    omega
theorem cho_b30 {n k : Nat} (hn : n ≤ 30) : choF n k ≤ 924 * 2 ^ 18 := by
  by_cases h : 12 ≤ n
  · have := cho_up (n - 12) k
    rw [show 12 + (n - 12) = n by omega] at this
    have h2 : 2 ^ (n - 12) ≤ 2 ^ 18 := Nat.pow_le_pow_right (by decide) (by omega)
    have h3 := Nat.mul_le_mul_left 924 h2
    omega
  · have := cho_lo n k
    have h2 : 2 ^ n ≤ 2 ^ 18 := Nat.pow_le_pow_right (by decide) (by omega)
    omega
/-- Int64 by its number -/
def lQ (n : Nat) : Int64 := Int64.ofNat n
theorem l_to {n : Nat} (h : n < 2 ^ 63) : (lQ n).toInt = n := by
  unfold lQ
  rw [Int64.toInt_ofNat', show Int64.size = 2 ^ 64 from rfl]
  exact Int.bmod_eq_of_le (by omega) (by omega)
theorem l_eq {a b : Int64} : a = b ↔ a.toInt = b.toInt := ⟨fun h => by rw [h], fun h => Int64.toInt_inj.mp h⟩
theorem l_add (a b : Nat) : lQ a + lQ b = lQ (a + b) := by unfold lQ; rw [Int64.ofNat_add]
theorem l_mul (a b : Nat) : lQ a * lQ b = lQ (a * b) := by unfold lQ; rw [Int64.ofNat_mul]
theorem l_div {a b : Nat} (ha : a < 2 ^ 63) (hb : b < 2 ^ 63) : lQ a / lQ b = lQ (a / b) := by
  have hd : a / b ≤ a := Nat.div_le_self a b
  obtain ⟨q, eq⟩ : ∃ q, q = a / b := ⟨_, rfl⟩
  rw [← eq] at hd ⊢
  rw [l_eq, Int64.toInt_div, l_to ha, l_to hb, l_to (by omega)]
  have : (a : Int).tdiv b = (q : Int) := by rw [eq]; rfl
  rw [this]
  exact Int.bmod_eq_of_le (by omega) (by omega)
theorem l_sub {a b : Nat} (h : b ≤ a) : lQ a - lQ b = lQ (a - b) := by
  have : lQ a = lQ (a - b) + lQ b := by rw [l_add, Nat.sub_add_cancel h]
  rw [this, Int64.add_sub_cancel]
theorem l_mod {a b : Nat} (ha : a < 2 ^ 63) (hb : b < 2 ^ 63) : lQ a - lQ a / lQ b * lQ b = lQ (a % b) := by
  have h1 := Nat.div_add_mod a b
  have h2 : a / b * b ≤ a := Nat.div_mul_le_self a b
  rw [l_div ha hb, l_mul, l_sub h2]
  congr 1
  rw [Nat.mul_comm] at h1
  omega
theorem l_0 {n : Nat} (h : n < 2 ^ 63) : lQ n = 0 ↔ n = 0 := by
  rw [l_eq, l_to h, show (0 : Int64).toInt = 0 from rfl]
  omega
theorem l_le {a b : Nat} (ha : a < 2 ^ 63) (hb : b < 2 ^ 63) : lQ a ≤ lQ b ↔ a ≤ b := by rw [Int64.le_iff_toInt_le, l_to ha, l_to hb]; omega
theorem l_lt {a b : Nat} (ha : a < 2 ^ 63) (hb : b < 2 ^ 63) : lQ a < lQ b ↔ a < b := by rw [Int64.lt_iff_toInt_lt, l_to ha, l_to hb]; omega
theorem l_of {n : Nat} (h : n < 2 ^ 31) : (nI n).toInt64 = lQ n := by
  rw [l_eq, Int32.toInt_toInt64, tN h, l_to (by omega)]
theorem lg_same {y : Int64} : lg_cmp y y = 0 := (lg_cmp_eq y y).mpr rfl
/-- the class's numbers of choices -/
theorem x_wtc {V : Vk} {n k : Nat} {g : Hq} (hn : n ≤ 60) (hk : k ≤ 60) : r_X11_waysToChoose V (nI n) (nI k) g = some (lQ (choF n k), g) := by
  unfold r_X11_waysToChoose
  rw [brn_f (by rw [i_lt, tN (by omega), t0]; omega)]
  by_cases h : k ≤ n
  · obtain ⟨q, hq1, hq2, hq3⟩ : ∃ q, q ≤ n ∧ q ≤ 30 ∧ (if (nI n - nI k) < nI k then (nI n - nI k) else nI k) = nI q ∧ choF n q = choF n k := by
      rw [pk_sub h]
      by_cases c : nI (n - k) < nI k
      · rw [if_pos c]
        rw [i_lt, tN (by omega), tN (by omega)] at c
        exact ⟨n - k, by omega, by omega, rfl, cho_sym n (n - k) k (by omega)⟩
      · rw [if_neg c]
        rw [i_lt, tN (by omega), tN (by omega)] at c
        exact ⟨k, by omega, by omega, rfl, rfl⟩
    rw [brn_t (nI_le h (by omega)), hq3.1, nm_eq, ← hq3.2]
    have e0 : ((nI n, nI q, (1 : Int64), (1 : Int32), g) : Int32 × Int32 × Int64 × Int32 × Hq) = (nI n, nI q, lQ (choF (n - q + 0) 0), nI (0 + 1), g) := by rw [cho_0]; rfl
    have hle : choF n q = choF (n - q + q) q := by rw [Nat.sub_add_cancel hq1]
    rw [e0, hle]
    refine run_for (f := r_X11_waysToChoose_24 V) (fun i => (nI n, nI q, lQ (choF (n - q + i) i), nI (i + 1), g)) q ?_ ?_ q 0 (by omega)
    · intro i hi
      show r_X11_waysToChoose_24' V (nI n) (nI q) (lQ (choF (n - q + i) i)) (nI (i + 1)) g = some (.inl (nI n, nI q, lQ (choF (n - q + (i + 1)) (i + 1)), nI (i + 1 + 1), g))
      unfold r_X11_waysToChoose_24'
      have b1 := cho_b (n := n - q + i + 1) (k := i + 1) (by omega)
      have cm := cho_mul (n - q + i) i
      have lt : choF (n - q + i) i * (n - q + (i + 1)) < 2 ^ 63 := by
        have e : choF (n - q + i) i * (n - q + (i + 1)) = (i + 1) * choF (n - q + i + 1) (i + 1) := by rw [cm, Nat.mul_comm, Nat.add_assoc]
        rw [e]
        have h1 : (i + 1) * choF (n - q + i + 1) (i + 1) ≤ 30 * (924 * 2 ^ 48) := Nat.mul_le_mul (by omega) b1
        have h2 : (30 * (924 * 2 ^ 48) : Nat) < 2 ^ 63 := by decide
        omega
      have dv : choF (n - q + i) i * (n - q + (i + 1)) / (i + 1) = choF (n - q + (i + 1)) (i + 1) := by
        have e : choF (n - q + i) i * (n - q + (i + 1)) = (i + 1) * choF (n - q + (i + 1)) (i + 1) := by rw [show n - q + (i + 1) = n - q + i + 1 by omega, cm, Nat.mul_comm]
        rw [e]
        exact Nat.mul_div_cancel_left _ (by omega)
      rw [brn_f (by rw [i_lt, tN (by omega), tN (by omega)]; omega), l_of (by omega), grd_t (by rw [l_0 (by omega)]; omega), pk_sub hq1, nI_add, l_of (by omega), l_mul, l_div lt (by omega), dv, nm_eq, nm_eq, nI_1]
    · show r_X11_waysToChoose_24' V (nI n) (nI q) (lQ (choF (n - q + q) q)) (nI (q + 1)) g = _
      unfold r_X11_waysToChoose_24'
      rw [brn_t (by rw [i_lt, tN (by omega), tN (by omega)]; omega)]
  · rw [brn_f (nI_ge (by omega) (by omega)), cho_gt n k (by omega)]
    rfl
/-- the triangle up to (n, k) -/
def tR (n k : Nat) (old : Nat → Int64) : Nat → Int64 := fun j => if (j / 61 < n ∨ (j / 61 = n ∧ j % 61 < k)) ∧ j % 61 ≤ j / 61 then lQ (choF (j / 61) (j % 61)) else old j
theorem tR_s {n k : Nat} {old : Nat → Int64} {v : Int64} (hk : k ≤ n) (hn : n < 61) (hv : v = lQ (choF n k)) : (fun i => if i = 61 * n + k then v else tR n k old i) = tR n (k + 1) old := by
  funext j
  unfold tR
  by_cases e : j = 61 * n + k
  · have d1 : j / 61 = n := by omega
    have d2 : j % 61 = k := by omega
    rw [if_pos e, d1, d2, if_pos (by omega), hv]
  · rw [if_neg e]
    by_cases c : (j / 61 < n ∨ (j / 61 = n ∧ j % 61 < k)) ∧ j % 61 ≤ j / 61
    · rw [if_pos c, if_pos (by omega)]
    · rw [if_neg c, if_neg (by omega)]
theorem tR_n {n : Nat} {old : Nat → Int64} : tR n (n + 1) old = tR (n + 1) 0 old := by
  funext j
  unfold tR
  by_cases c : (j / 61 < n ∨ (j / 61 = n ∧ j % 61 < n + 1)) ∧ j % 61 ≤ j / 61
  · rw [if_pos c, if_pos (by omega)]
  · rw [if_neg c, if_neg (by omega)]
theorem tR_at {n k a b : Nat} {old : Nat → Int64} (ha : a < n ∨ (a = n ∧ b < k)) (hb : b ≤ a) (ha61 : a < 61) : tR n k old (61 * a + b) = lQ (choF a b) := by
  unfold tR
  rw [show (61 * a + b) / 61 = a by omega, show (61 * a + b) % 61 = b by omega, if_pos (by omega)]
theorem sLA_1 {g : Hq} {k : Nat} {r : Nat → Int64} : (sLA g k r).1 = g.1 := rfl
theorem sLA_s {g : Hq} {k : Nat} {r : Nat → Int64} : (sLA g k r).2.1 k = r := by show upr g.2.1 k r k = r; rw [upr_at, if_pos rfl]
theorem i61 (n k : Nat) : (61 : Int32) * nI n + nI k = nI (61 * n + k) := by rw [show (61 : Int32) = nI 61 from rfl, pk_mul, nI_add]
theorem m_tri1 {V : Vk} {g : Hq} {a b : Int32} {n : Nat} {old : Nat → Int64} (hV : ShV V) (hR : ShR g.2.2) (hn : n < 61) : lop (r_X12_chosen_33 V) (70, a, b, nI n, 1, sLA g 106 (tR n 1 old)) = some (.inl (70, a, b, nI (n + 1), sLA g 106 (tR (n + 1) 0 old))) := by
  refine run_for (f := r_X12_chosen_33 V) (fun i => (70, a, b, nI n, nI (i + 1), sLA g 106 (tR n (i + 1) old))) n ?_ ?_ n 0 (by omega)
  · intro i hi
    have ok : ∀ j, j < 3721 → okV V 106 3 (nI j) := fun j hj => ok_nI (n := 3721) (t := 3) (v_106 hV) hj (by decide)
    have q := q_70_54 (R := (sLA g 106 (tR n (i + 1) old)).2.2) hR
    have i1 : (61 : Int32) * (nI n - 1) + nI (i + 1) - 1 = nI (61 * (n - 1) + i) := by
      rw [show nI n - 1 = nI (n - 1) from pk_sub (b := 1) (by omega), i61]
      exact pk_sub (a := 61 * (n - 1) + (i + 1)) (b := 1) (by omega)
    have i2 : (61 : Int32) * (nI n - 1) + nI (i + 1) = nI (61 * (n - 1) + (i + 1)) := by
      rw [show nI n - 1 = nI (n - 1) from pk_sub (b := 1) (by omega), i61]
    have v1 : (sLA g 106 (tR n (i + 1) old)).2.1 106 (61 * (n - 1) + i) = lQ (choF (n - 1) i) := by rw [sLA_s, tR_at (by omega) (by omega) (by omega)]
    show r_X12_chosen_33' V 70 a b (nI n) (nI (i + 1)) (sLA g 106 (tR n (i + 1) old)) = some (.inl (70, a, b, nI n, nI (i + 1 + 1), sLA g 106 (tR n (i + 1 + 1) old)))
    unfold r_X12_chosen_33'
    rw [brn_f (by rw [i_lt, tN (by omega), tN (by omega)]; omega), grd_t (v_70 hV), bind_ref (k := 106) q, bind_ref (k := 106) q, i1, grd_t (ok _ (by omega)), cl_nI (j := 61 * (n - 1) + i) (by omega), v1]
    by_cases e : n = i + 1
    · rw [brn_t (nI_le (by omega) (by omega)), i61, grd_t (ok _ (by omega)), cl_nI (by omega), nm_eq, nm_eq, nI_1, sLA_sL, tR_s (by omega) hn]
      rw [e, cho_s, show i + 1 - 1 = i by omega, cho_gt i (i + 1) (by omega)]
      exact l_add _ 0
    · have v2 : (sLA g 106 (tR n (i + 1) old)).2.1 106 (61 * (n - 1) + (i + 1)) = lQ (choF (n - 1) (i + 1)) := by rw [sLA_s, tR_at (by omega) (by omega) (by omega)]
      rw [brn_f (nI_ge (by omega) (by omega)), bind_ref (k := 106) q, i2, grd_t (ok _ (by omega)), i61, grd_t (ok _ (by omega)), cl_nI (j := 61 * (n - 1) + (i + 1)) (by omega), v2, cl_nI (j := 61 * n + (i + 1)) (by omega), nm_eq, nm_eq, nI_1, sLA_sL, tR_s (by omega) hn]
      rw [show n = n - 1 + 1 by omega, cho_s, show n - 1 + 1 - 1 = n - 1 by omega]
      exact l_add _ _
  · show r_X12_chosen_33' V 70 a b (nI n) (nI (n + 1)) (sLA g 106 (tR n (n + 1) old)) = _
    unfold r_X12_chosen_33'
    rw [brn_t (by rw [i_lt, tN (by omega), tN (by omega)]; omega), nm_eq, nI_1, tR_n]
theorem m_tri {V : Vk} {g : Hq} {n k : Nat} {old : Nat → Int64} (hV : ShV V) (hR : ShR g.2.2) (hn : n ≤ 60) (hk : k ≤ n) : lop (r_X12_chosen_14 V) (70, nI n, nI k, 0, sLA g 106 (tR 0 0 old)) = some (lQ (choF n k), sLA g 106 (tR 61 0 old)) := by
  have ok : ∀ j, j < 3721 → okV V 106 3 (nI j) := fun j hj => ok_nI (n := 3721) (t := 3) (v_106 hV) hj (by decide)
  refine run_for (f := r_X12_chosen_14 V) (fun i => (70, nI n, nI k, nI i, sLA g 106 (tR i 0 old))) 61 ?_ ?_ 61 0 (by omega)
  · intro i hi
    have q := q_70_54 (R := (sLA g 106 (tR i 0 old)).2.2) hR
    show r_X12_chosen_14' V 70 (nI n) (nI k) (nI i) (sLA g 106 (tR i 0 old)) = some (.inl (70, nI n, nI k, nI (i + 1), sLA g 106 (tR (i + 1) 0 old)))
    unfold r_X12_chosen_14'
    have e : (61 : Int32) * nI i = nI (61 * i + 0) := by rw [show (61 : Int32) = nI 61 from rfl, pk_mul]; rfl
    rw [brn_f (by rw [show (61 : Int32) = nI 61 from rfl]; exact nI_ge hi (by decide)), grd_t (v_70 hV), bind_ref (k := 106) q, e, grd_t (ok _ (by omega)), cl_nI (by omega), nm_eq, sLA_sL, tR_s (by omega) hi (by rw [cho_0]; rfl)]
    exact m_tri1 hV hR hi
  · have q := q_70_54 (R := (sLA g 106 (tR 61 0 old)).2.2) hR
    show r_X12_chosen_14' V 70 (nI n) (nI k) (nI 61) (sLA g 106 (tR 61 0 old)) = _
    unfold r_X12_chosen_14'
    rw [brn_t (by decide), brn_f (by rw [i_lt, tN (by omega), t0]; omega), brn_t (nI_le hk (by omega)), grd_t (v_70 hV), bind_ref (k := 106) q, i61, grd_t (ok _ (by omega)), cl_nI (by omega), sLA_s, tR_at (by omega) hk (by omega)]
/-- the triangle stands -/
def TrS (g : Hq) : Prop := g.1 70 55 = 1 ∧ ∀ n k, n < 61 → k ≤ n → g.2.1 106 (61 * n + k) = lQ (choF n k)
theorem tR_00 {old : Nat → Int64} : tR 0 0 old = old := by
  funext j
  unfold tR
  rw [if_neg (by omega)]
theorem m_cho1 {V : Vk} {g : Hq} {n k : Nat} (hV : ShV V) (hR : ShR g.2.2) (ht : TrS g) (hn : n ≤ 60) (hk : k ≤ n) : r_X12_chosen V 70 (nI n) (nI k) g = some (lQ (choF n k), g) := by
  have ok : ∀ j, j < 3721 → okV V 106 3 (nI j) := fun j hj => ok_nI (n := 3721) (t := 3) (v_106 hV) hj (by decide)
  unfold r_X12_chosen
  rw [grd_t (v_70 hV), brn_f (by rw [ht.1]; decide), brn_f (by rw [i_lt, tN (by omega), t0]; omega), brn_t (nI_le hk (by omega)), bind_ref (k := 106) (q_70_54 hR), i61, grd_t (ok _ (by omega)), cl_nI (by omega), ht.2 n k (by omega) hk]
def triG (g : Hq) : Hq := sLA (sI g 70 55 1) 106 (tR 61 0 (g.2.1 106))
theorem m_cho0 {V : Vk} {g : Hq} {n k : Nat} (hV : ShV V) (hR : ShR g.2.2) (h0 : g.1 70 55 = 0) (hn : n ≤ 60) (hk : k ≤ n) : r_X12_chosen V 70 (nI n) (nI k) g = some (lQ (choF n k), triG g) := by
  unfold r_X12_chosen
  rw [grd_t (v_70 hV), brn_t h0, nm_eq]
  have e : sI g 70 55 1 = sLA (sI g 70 55 1) 106 (tR 0 0 (g.2.1 106)) := by
    rw [tR_00]
    refine Prod.ext rfl (Prod.ext ?_ rfl)
    funext a
    show g.2.1 a = upr g.2.1 106 (g.2.1 106) a
    rw [upr_at]
    by_cases c : a = 106
    · rw [if_pos c, c]
    · rw [if_neg c]
  rw [e]
  exact m_tri (g := sI g 70 55 1) hV hR hn hk
theorem triG_S {g : Hq} : TrS (triG g) := ⟨by show (sI g 70 55 1).1 70 55 = 1; rw [sI_1, up2_s], fun n k hn hk => by unfold triG; rw [sLA_s, tR_at (Or.inl hn) hk hn]⟩
