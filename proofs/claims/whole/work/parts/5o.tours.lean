/-! ===== the class's tours ===== -/
def prt (h q : Nat) : Nat := (2 * q + 1) * 2 ^ h
theorem prt_b {h q j : Nat} : (prt h q).testBit j = (decide (h ≤ j) && (2 * q + 1).testBit (j - h)) := by
  unfold prt
  rw [Nat.mul_comm, Nat.testBit_two_pow_mul]
theorem prt_h {h q : Nat} : (prt h q).testBit h = true := by
  rw [prt_b, Nat.sub_self, Nat.testBit_zero]
  simp
theorem prt_s {h q b : Nat} : (prt h q).testBit (h + 1 + b) = q.testBit b := by
  rw [prt_b, show h + 1 + b - h = Nat.succ b by omega, Nat.testBit_succ, show (2 * q + 1) / 2 = q by omega, show decide (h ≤ h + 1 + b) = true by rw [decide_eq_true_iff]; omega, Bool.true_and]
theorem prt_lo {h q j : Nat} (hj : j < h) : (prt h q).testBit j = false := by
  rw [prt_b, show decide (h ≤ j) = false by rw [decide_eq_false_iff_not]; omega, Bool.false_and]
theorem prt_cs {h q j : Nat} (b : (prt h q).testBit j = true) : j = h ∨ ∃ k, j = h + 1 + k ∧ q.testBit k = true := by
  rcases Nat.lt_trichotomy j h with c | c | c
  · rw [prt_lo c] at b; cases b
  · exact Or.inl c
  · obtain ⟨k, rfl⟩ : ∃ k, j = h + 1 + k := ⟨j - h - 1, by omega⟩
    rw [prt_s] at b
    exact Or.inr ⟨k, rfl, b⟩
theorem prt_pos {h q : Nat} : 0 < prt h q := bit_pos prt_h
theorem prt_lt {h q o n : Nat} (hq : q < 2 ^ o) (hn : h + 1 + o = n) : prt h q < 2 ^ n := Nat.lt_pow_two_of_testBit _ (fun j hj => by
  obtain ⟨k, rfl⟩ : ∃ k, j = h + 1 + k := ⟨j - h - 1, by omega⟩
  rw [prt_s]
  exact Nat.testBit_lt_two_pow (Nat.lt_of_lt_of_le hq (p2_le (by omega))))
theorem prt_low {h q : Nat} (hp : prt h q < 1024) : low (prt h q) = h := by
  have a := low_m prt_pos hp (prt_h (h := h) (q := q))
  rcases Nat.lt_or_ge (low (prt h q)) h with c | c
  · have := low_b prt_pos hp
    rw [prt_lo c] at this; cases this
  · omega
theorem prt_x {h q b : Nat} : prt h q ^^^ 2 ^ (h + 1 + b) = prt h (q ^^^ 2 ^ b) := Nat.eq_of_testBit_eq (fun j => by
  rw [Nat.testBit_xor, Nat.testBit_two_pow]
  rcases Nat.lt_trichotomy j h with c | c | c
  · rw [prt_lo c, prt_lo c, show decide (h + 1 + b = j) = false by rw [decide_eq_false_iff_not]; omega]; rfl
  · subst c
    rw [prt_h, prt_h, show decide (j + 1 + b = j) = false by rw [decide_eq_false_iff_not]; omega]; rfl
  · obtain ⟨k, rfl⟩ : ∃ k, j = h + 1 + k := ⟨j - h - 1, by omega⟩
    rw [prt_s, prt_s, Nat.testBit_xor, Nat.testBit_two_pow]
    congr 1
    rw [decide_eq_decide]; omega)
theorem prt_0 {h : Nat} : prt h 0 = 2 ^ h := by unfold prt; omega
theorem prt_ne {h q : Nat} (hq : q ≠ 0) : prt h q ≠ 2 ^ h := by
  have : 1 * 2 ^ h < (2 * q + 1) * 2 ^ h := Nat.mul_lt_mul_of_pos_right (by omega) (Nat.pow_pos (by decide))
  unfold prt; omega
theorem prt_inj {h q q' : Nat} (e : prt h q = prt h q') : q = q' := by
  unfold prt at e
  have := Nat.eq_of_mul_eq_mul_right (Nat.pow_pos (by decide)) e
  omega
theorem prt_of {s n : Nat} (h0 : 0 < s) (hs : s < 2 ^ n) (hn : n ≤ 10) : ∃ q, s = prt (low s) q ∧ low s < n ∧ q < 2 ^ (n - 1 - low s) := by
  have n10 := p2_le hn
  have lb := low_b h0 (by omega)
  have ln := bit_lt hs lb
  refine ⟨s / 2 ^ (low s + 1), Nat.eq_of_testBit_eq (fun j => ?_), ln, ?_⟩
  · rcases Nat.lt_trichotomy j (low s) with c | c | c
    · rw [prt_lo c]
      have : ¬ s.testBit j = true := fun z => by have := low_m h0 (by omega) z; omega
      simpa using this
    · rw [c, prt_h]; exact lb
    · obtain ⟨k, rfl⟩ : ∃ k, j = low s + 1 + k := ⟨j - low s - 1, by omega⟩
      rw [prt_s, Nat.testBit_div_two_pow, Nat.add_comm k]
  · rw [Nat.div_lt_iff_lt_mul (Nat.pow_pos (by decide)), ← Nat.pow_add]
    rw [show n - 1 - low s + (low s + 1) = n by omega]
    exact hs
theorem b_shl {a i : Nat} (hi : i < 32) (h : a * 2 ^ i < 2 ^ 32) : nI a <<< (nI i &&& 31) = nI (a * 2 ^ i) := pk_shlN (nI i &&& 31) i (b_sm ⟨i, hi⟩) h
theorem or_1 : ∀ q : Fin 512, (q.1 * 2 ||| 1) = 2 * q.1 + 1 := by decide +kernel
theorem prt_I {h q : Nat} (hq : q < 512) (hh : h < 10) : (((nI q) <<< ((1 : Int32) &&& 31)) ||| (1 : Int32)) <<< (nI h &&& 31) = nI (prt h q) := by
  have e1 : (nI q) <<< ((1 : Int32) &&& 31) = nI (q * 2 ^ 1) := b_shl (i := 1) (by decide) (by omega)
  have p := p2_lt hh
  have : (2 * q + 1) * 2 ^ h ≤ (2 * q + 1) * 2 ^ 10 := Nat.mul_le_mul_left _ (by omega)
  rw [e1, show (1 : Int32) = nI 1 from rfl, b_or, show q * 2 ^ 1 = q * 2 from rfl, show (q * 2 ||| 1) = 2 * q + 1 from or_1 ⟨q, hq⟩, b_shl (by omega) (by omega)]
  rfl
def CB (V : Vk) (n : Nat) (cs : Nat → Nat) (F10 F5 : Nat → Int32) (g : Hq) : Prop := ShV V ∧ ShR g.2.2 ∧ n ≤ 10 ∧ g.1 8 6 = nI n ∧ (∀ i, i < n → g.1 9 i = nI (cs i) ∧ cs i < 12) ∧ g.1 10 = F10 ∧ g.1 5 = F5 ∧ (∀ i j, i < n → j < n → 0 ≤ (F10 (10 * i + j)).toInt ∧ (F10 (10 * i + j)).toInt ≤ 1000000) ∧ ∀ c, c < 12 → 1 ≤ (F5 c).toInt ∧ (F5 c).toInt ≤ 999
def sD (F10 : Nat → Int32) (i j : Nat) : Int := (F10 (10 * i + j)).toInt
def Fp (g g2 : Hq) : Prop := (∀ a, a ≠ 11 → a ≠ 12 → g2.1 a = g.1 a) ∧ g2.2 = g.2
theorem Fp.rf {g : Hq} : Fp g g := ⟨fun _ _ _ => rfl, rfl⟩
theorem Fp.tr {g g1 g2 : Hq} (h : Fp g g1) (k : Fp g1 g2) : Fp g g2 := ⟨fun a h1 h2 => (k.1 a h1 h2).trans (h.1 a h1 h2), k.2.trans h.2⟩
theorem Fp.w {g : Hq} {k j : Nat} {v : Int32} (h : k = 11 ∨ k = 12) : Fp g (sI g k j v) := ⟨fun a h1 h2 => by rw [sI_1, up2_nk _ _ _ (by omega)], rfl⟩
theorem CB.f {V : Vk} {n : Nat} {cs : Nat → Nat} {F10 F5 : Nat → Int32} {g g2 : Hq} (h : CB V n cs F10 F5 g) (k : Fp g g2) : CB V n cs F10 F5 g2 := by
  unfold CB
  rw [k.2, k.1 8 (by decide) (by decide), k.1 9 (by decide) (by decide), k.1 10 (by decide) (by decide), k.1 5 (by decide) (by decide)]
  exact h
theorem x_path {V : Vk} {n h o q l : Nat} {cs : Nat → Nat} {F10 F5 : Nat → Int32} {g : Hq} (B : CB V n cs F10 F5 g) (ho : h + 1 + o = n) (hq : q < 2 ^ o) (hl : l < o) (HP : ∀ b, q.testBit b = true → 0 ≤ (g.1 11 (9 * q + b)).toInt ∧ (g.1 11 (9 * q + b)).toInt ≤ 1000000) : ∃ x : Int32, r_X6_shortestPath V 8 (nI h) (nI o) (nI q) (nI l) g = some (x, g) ∧ (q = 0 → x = F10 (10 * h + (h + 1 + l))) ∧ (q ≠ 0 → IsMin x.toInt 100000 (fun b => q.testBit b = true) (fun b => (g.1 11 (9 * q + b)).toInt + sD F10 (h + 1 + b) (h + 1 + l)) o) := by
  obtain ⟨hV, hR, hn, h6, hc, e10, e5, b10, -⟩ := id B
  have o9 : 2 ^ o ≤ 2 ^ 9 := p2_le (by omega)
  have to : nI h + 1 + nI l = nI (h + 1 + l) := by rw [nI_1, nI_add]
  unfold r_X6_shortestPath
  rw [to, nm_eq]
  by_cases z : q = 0
  · subst z
    rw [brn_t (show nI 0 = 0 from rfl), grd_t (v_8 hV), q_8_1 hR, bind_some', show nI h * (10 : Int32) + nI (h + 1 + l) = nI (10 * h + (h + 1 + l)) by rw [show (10 : Int32) = nI 10 from rfl, pk_mul, nI_add, Nat.mul_comm], grd_t (ok_nI (n := 100) (t := 0) (v_10 hV) (by omega) (by decide)), cl_nI (by omega), e10]
    exact ⟨_, rfl, fun _ => rfl, fun w => absurd rfl w⟩
  · rw [brn_f (nI_ne0 (by omega) (by omega))]
    have key : ∀ d b x, b + d = o → IsMin x.toInt 100000 (fun b => q.testBit b = true) (fun b => (g.1 11 (9 * q + b)).toInt + sD F10 (h + 1 + b) (h + 1 + l)) b → ∃ x' : Int32, IsMin x'.toInt 100000 (fun b => q.testBit b = true) (fun b => (g.1 11 (9 * q + b)).toInt + sD F10 (h + 1 + b) (h + 1 + l)) o ∧ lop (r_X6_shortestPath_32 V) (8, nI h, nI o, nI q, nI (h + 1 + l), x, nI b, g) = some (x', g) := by
      intro d
      induction d with
      | zero =>
        intro b x hb hx
        have e : b = o := by omega
        subst e
        refine ⟨x, hx, lop_r ?_⟩
        show r_X6_shortestPath_32' V 8 (nI h) (nI b) (nI q) (nI (h + 1 + l)) x (nI b) g = _
        unfold r_X6_shortestPath_32'
        rw [brn_t (nI_le (Nat.le_refl _) (by omega))]
      | succ d ih =>
        intro b x hb hx
        have st : r_X6_shortestPath_32 V (8, nI h, nI o, nI q, nI (h + 1 + l), x, nI b, g) = r_X6_shortestPath_32' V 8 (nI h) (nI o) (nI q) (nI (h + 1 + l)) x (nI b) g := rfl
        unfold r_X6_shortestPath_32' at st
        rw [brn_f (nI_ge (by omega) (by omega))] at st
        by_cases c : q.testBit b = true
        · obtain ⟨p1, p2⟩ := HP b c
          obtain ⟨s1, s2⟩ := b10 (h + 1 + b) (h + 1 + l) (by omega) (by omega)
          have sum : (g.1 11 (9 * q + b) + F10 (10 * (h + 1 + b) + (h + 1 + l))).toInt = (g.1 11 (9 * q + b)).toInt + sD F10 (h + 1 + b) (h + 1 + l) := i_sum (m := 0) p1 p2 s1 s2
          rw [brn_t ((b_bit1 (by omega) (by omega)).mpr c), grd_t (v_8 hV), q_8_2 hR, bind_some', show nI q * (9 : Int32) + nI b = nI (9 * q + b) by rw [show (9 : Int32) = nI 9 from rfl, pk_mul, nI_add, Nat.mul_comm], grd_t (ok_nI (n := 4608) (t := 0) (v_11 hV) (by omega) (by decide)), q_8_1 hR, bind_some', show (nI h + 1 + nI b) * (10 : Int32) + nI (h + 1 + l) = nI (10 * (h + 1 + b) + (h + 1 + l)) by rw [nI_1, nI_add, show (10 : Int32) = nI 10 from rfl, pk_mul, nI_add, Nat.mul_comm], grd_t (ok_nI (n := 100) (t := 0) (v_10 hV) (by omega) (by decide)), cl_nI (by omega), cl_nI (by omega), e10, nm_eq, nm_eq, nm_eq, nI_1] at st
          rw [lop_l st]
          refine ih (b + 1) _ (by omega) ?_
          by_cases w : g.1 11 (9 * q + b) + F10 (10 * (h + 1 + b) + (h + 1 + l)) < x
          · rw [if_pos w]
            rw [i_lt, sum] at w
            exact mi_lt hx c sum (by omega)
          · rw [if_neg w]
            rw [i_lt, sum] at w
            exact mi_ge hx (by omega)
        · rw [brn_f (fun z => c ((b_bit1 (by omega) (by omega)).mp z)), nm_eq, nI_1] at st
          rw [lop_l st]
          exact ih (b + 1) x (by omega) (mi_n hx c)
    obtain ⟨x, k1, k2⟩ := key o 0 100000 (by omega) mi_0
    exact ⟨x, k2, fun w => absurd w z, fun _ => k1⟩
/-- one path, as the reference has it -/
def CPr (R11 R77 : Nat → Int32) (h q b : Nat) : Prop := e1k (R11 (9 * q + b)).toInt (R77 (10 * prt h q + (h + 1 + b))).toInt ∧ 0 ≤ (R11 (9 * q + b)).toInt ∧ (R11 (9 * q + b)).toInt ≤ 1000000
theorem path_rel {D : Nat → Nat → Int} {wi : Nat → Int} {n h o q l : Nat} {R11 R77 R78 F10 : Nat → Int32} {x : Int32} (hn : n ≤ 10) (ho : h + 1 + o = n) (hq : q < 2 ^ o) (bl : q.testBit l = true) (ml : MLok D wi n R77 R78 (2 ^ n)) (hd : ∀ i j, i < n → j < n → 0 ≤ D i j ∧ 0 ≤ sD F10 i j ∧ e1k (sD F10 i j) (D i j)) (HP : ∀ b, (q ^^^ 2 ^ l).testBit b = true → CPr R11 R77 h (q ^^^ 2 ^ l) b) (x0 : q ^^^ 2 ^ l = 0 → x = F10 (10 * h + (h + 1 + l))) (x1 : q ^^^ 2 ^ l ≠ 0 → IsMin x.toInt 100000 (fun b => (q ^^^ 2 ^ l).testBit b = true) (fun b => (R11 (9 * (q ^^^ 2 ^ l) + b)).toInt + sD F10 (h + 1 + b) (h + 1 + l)) o) : e1k x.toInt (R77 (10 * prt h q + (h + 1 + l))).toInt := by
  have n10 := p2_le hn
  have lo := bit_lt hq bl
  have xl := xor_lt bl
  have pl := prt_lt hq ho
  have p2 := prt_lt (h := h) (q := q ^^^ 2 ^ l) (o := o) (by omega) ho
  have ps := (ml (prt h q) prt_pos pl).1 (h + 1 + l) (by rw [prt_s]; exact bl)
  have lw := prt_low (h := h) (q := q) (by omega)
  obtain ⟨-, -, -, ps4⟩ := ps
  have mn := ps4 (by rw [lw]; omega)
  rw [prt_x] at mn
  by_cases z : q ^^^ 2 ^ l = 0
  · have ex := x0 z
    rw [z] at mn
    have p0 : (R77 (10 * prt h 0 + h)).toInt = 0 := by
      have pl0 : prt h 0 < 2 ^ n := prt_lt (o := o) (Nat.pow_pos (by decide)) ho
      have := ((ml (prt h 0) prt_pos pl0).1 h prt_h).2.2.1 (prt_low (by omega)).symm
      rw [if_pos prt_0] at this
      exact this
    have pp : ∀ j, pP (prt h q) (h + 1 + l) j → j = h := fun j hj => by
      have := hj.1
      rw [prt_x, z] at this
      rcases prt_cs this with c | ⟨k, -, c⟩
      · exact c
      · rw [Nat.zero_testBit] at c; cases c
    have ph : pP (prt h q) (h + 1 + l) h := ⟨by rw [prt_x]; exact prt_h, Or.inr (by rw [prt_x, z, prt_0, lw])⟩
    have up := mn.2.1 h (by omega) ph
    obtain ⟨d1, d2, d3⟩ := hd h (h + 1 + l) (by omega) (by omega)
    have sx : x.toInt = sD F10 h (h + 1 + l) := by rw [ex]; rfl
    dsimp only at up
    rw [p0] at up
    rw [sx]
    unfold e1k at d3 ⊢
    rcases mn.2.2 with c | ⟨k, k1, k2, k3⟩
    · omega
    · dsimp only at k3
      rw [pp k k2, p0] at k3
      omega
  · refine mi_rel (x1 z) mn (by decide) (by decide) (fun b hb pb => ?_) (fun j hj pj => ?_)
    · refine ⟨h + 1 + b, by omega, ⟨by rw [prt_x, prt_s]; exact pb, Or.inl (by rw [lw]; omega)⟩, ?_⟩
      obtain ⟨c1, c2, c3⟩ := HP b pb
      obtain ⟨d1, d2, d3⟩ := hd (h + 1 + b) (h + 1 + l) (by omega) (by omega)
      have c4 := ((ml _ prt_pos p2).1 (h + 1 + b) (by rw [prt_s]; exact pb)).1
      exact e1k_add c1 d3 c2 c4 d2 d1
    · right
      have := pj.1
      rw [prt_x] at this
      rcases prt_cs this with c | ⟨b, c, pb⟩
      · exfalso
        rcases pj.2 with w | w
        · rw [lw] at w; exact w c
        · rw [prt_x, lw] at w; exact prt_ne z w
      · subst c
        obtain ⟨c1, c2, c3⟩ := HP b pb
        obtain ⟨d1, d2, d3⟩ := hd (h + 1 + b) (h + 1 + l) (by omega) (by omega)
        have c4 := ((ml _ prt_pos p2).1 (h + 1 + b) (by rw [prt_s]; exact pb)).1
        exact ⟨b, by omega, pb, e1k_add c1 d3 c2 c4 d2 d1⟩
