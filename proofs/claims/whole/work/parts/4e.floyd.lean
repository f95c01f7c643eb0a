def FB (F : Nat → Int32) (B : Int) : Prop := ∀ j, j < 144 → F j = 1000000 ∨ (0 ≤ (F j).toInt ∧ (F j).toInt ≤ B)
def FDg (F : Nat → Int32) : Prop := ∀ k, k < 12 → F (12 * k + k) = 0
def Frel (f F : Nat → Int32) : Prop := ∀ j, j < 144 → f j = if F j = 1000000 then -1 else F j
def xT (f : Nat → Int32) (first : Int32) (c y d : Nat) : Nat → Int32 := if f (12 * y + d) = -1 then f else if f (12 * c + d) = -1 then upd f (12 * c + d) (first + f (12 * y + d)) else if f (12 * c + d) ≤ first + f (12 * y + d) then f else upd f (12 * c + d) (first + f (12 * y + d))
def xD (f : Nat → Int32) (first : Int32) (c y : Nat) : Nat → Nat → Int32
  | 0 => f
  | d + 1 => xT (xD f first c y d) first c y d
def xC (f : Nat → Int32) (y : Nat) : Nat → Nat → Int32
  | 0 => f
  | c + 1 => if xC f y c (12 * c + y) = -1 then xC f y c else xD (xC f y c) (xC f y c (12 * c + y)) c y 12
def xM (f : Nat → Int32) : Nat → Nat → Int32
  | 0 => f
  | y + 1 => xC (xM f y) y 12
theorem tm1 : (-1 : Int32).toInt = -1 := rfl
theorem fin_ne {x : Int32} {B : Int} (hB : B < 1000000) (h : 0 ≤ x.toInt ∧ x.toInt ≤ B) : ¬ x = 1000000 ∧ ¬ x = -1 := by
  constructor
  · intro e; rw [e, tM] at h; omega
  · intro e; rw [e, tm1] at h; omega
theorem upd_s (f : Nat → Int32) (k : Nat) (v : Int32) : upd f k v k = v := by simp [upd]
theorem upd_n {f : Nat → Int32} {k j : Nat} {v : Int32} (h : j ≠ k) : upd f k v j = f j := by simp [upd, h]
/-- one step of both -/
theorem fl_step {f F : Nat → Int32} {B : Int} {m a b : Nat} (hB : 0 ≤ B) (hB2 : B ≤ 400000) (hm : m < 12) (ha : a < 12) (hb : b < 12) (hF : FB F (2 * B)) (hd : FDg F) (hr : Frel f F) (h1 : 0 ≤ (F (12 * a + m)).toInt ∧ (F (12 * a + m)).toInt ≤ B) (h2 : F (12 * m + b) = 1000000 ∨ (0 ≤ (F (12 * m + b)).toInt ∧ (F (12 * m + b)).toInt ≤ B)) : Frel (xT f (F (12 * a + m)) a m b) (flT F m a b) ∧ FB (flT F m a b) (2 * B) ∧ FDg (flT F m a b) ∧ flT F m a b (12 * a + m) = F (12 * a + m) ∧ (a = m → flT F m a b = F) ∧ ∀ j, (∀ d, d < 12 → j ≠ 12 * a + d) → flT F m a b j = F j := by
  have i1 : 12 * a + b < 144 := by omega
  have i2 : 12 * m + b < 144 := by omega
  have hab := hF (12 * a + b) i1
  have rab := hr (12 * a + b) i1
  have rmb := hr (12 * m + b) i2
  have hsum : (F (12 * a + m) + F (12 * m + b)).toInt = (F (12 * a + m)).toInt + (F (12 * m + b)).toInt := by
    rcases h2 with e | e
    · rw [e]; exact i_add (by rw [tM]; omega) (by rw [tM]; omega)
    · exact i_add (by omega) (by omega)
  by_cases hc : F (12 * a + m) + F (12 * m + b) < F (12 * a + b)
  · have eT : flT F m a b = upd F (12 * a + b) (F (12 * a + m) + F (12 * m + b)) := by unfold flT; rw [if_pos hc]
    have hc' := hc
    rw [i_lt, hsum] at hc'
    have le : (F (12 * a + b)).toInt ≤ 1000000 := by
      rcases hab with e | e
      · rw [e, tM]; omega
      · omega
    have h2' : 0 ≤ (F (12 * m + b)).toInt ∧ (F (12 * m + b)).toInt ≤ B := by
      rcases h2 with e | e
      · rw [e, tM] at hc'; omega
      · exact e
    have hs : 0 ≤ (F (12 * a + m) + F (12 * m + b)).toInt ∧ (F (12 * a + m) + F (12 * m + b)).toInt ≤ 2 * B := by rw [hsum]; omega
    have fs := fin_ne (by omega) hs
    have f2 := fin_ne (by omega) h2'
    have bm : b ≠ m := by
      rintro rfl
      have z := hd b hm
      rw [z] at hc'
      rw [t0] at hc'
      omega
    have am : a ≠ m := by
      rintro rfl
      have z := hd a ha
      rw [z, t0] at hc'
      omega
    have ab : a ≠ b := by
      rintro rfl
      have z := hd a ha
      rw [z, t0] at hc'
      omega
    have rmb' : f (12 * m + b) = F (12 * m + b) := by rw [rmb, if_neg f2.1]
    have eX : xT f (F (12 * a + m)) a m b = upd f (12 * a + b) (F (12 * a + m) + F (12 * m + b)) := by
      unfold xT
      rw [rmb', if_neg f2.2]
      rcases hab with e | e
      · rw [rab, if_pos e, if_pos rfl]
      · have fe := fin_ne (by omega) e
        rw [rab, if_neg fe.1, if_neg fe.2, if_neg (i_nle.mpr hc)]
    rw [eT, eX]
    refine ⟨fun j hj => ?_, fun j hj => ?_, fun k hk => ?_, ?_, fun e => absurd e am, fun j hj => ?_⟩
    · by_cases e : j = 12 * a + b
      · rw [e, upd_s, upd_s, if_neg fs.1]
      · rw [upd_n e, upd_n e]; exact hr j hj
    · by_cases e : j = 12 * a + b
      · rw [e, upd_s]; exact Or.inr hs
      · rw [upd_n e]; exact hF j hj
    · rw [upd_n (by omega)]; exact hd k hk
    · rw [upd_n (by omega)]
    · rw [upd_n (hj b hb)]
  · have eT : flT F m a b = F := by unfold flT; rw [if_neg hc]
    have hc' := hc
    rw [i_lt, hsum] at hc'
    have eX : xT f (F (12 * a + m)) a m b = f := by
      unfold xT
      rcases h2 with e | e
      · rw [rmb, if_pos e, if_pos rfl]
      · have fe := fin_ne (by omega) e
        have hs : 0 ≤ (F (12 * a + m) + F (12 * m + b)).toInt ∧ (F (12 * a + m) + F (12 * m + b)).toInt ≤ 2 * B := by rw [hsum]; omega
        rw [rmb, if_neg fe.1, if_neg fe.2]
        rcases hab with e2 | e2
        · rw [e2, tM] at hc'; omega
        · have fe2 := fin_ne (by omega) e2
          rw [rab, if_neg fe2.1, if_neg fe2.2, if_pos (by rw [i_le, hsum]; omega)]
    rw [eT, eX]
    exact ⟨hr, hF, hd, rfl, fun _ => rfl, fun _ _ => rfl⟩
theorem fl_row {f F : Nat → Int32} {B : Int} {m a : Nat} (hB : 0 ≤ B) (hB2 : B ≤ 400000) (hm : m < 12) (ha : a < 12) (hF : FB F (2 * B)) (hd : FDg F) (hr : Frel f F) (h1 : 0 ≤ (F (12 * a + m)).toInt ∧ (F (12 * a + m)).toInt ≤ B) (h2 : ∀ b, b < 12 → F (12 * m + b) = 1000000 ∨ (0 ≤ (F (12 * m + b)).toInt ∧ (F (12 * m + b)).toInt ≤ B)) : ∀ b, b ≤ 12 → Frel (xD f (F (12 * a + m)) a m b) (flB F m a b) ∧ FB (flB F m a b) (2 * B) ∧ FDg (flB F m a b) ∧ flB F m a b (12 * a + m) = F (12 * a + m) ∧ (a = m → flB F m a b = F) ∧ ∀ j, (∀ d, d < 12 → j ≠ 12 * a + d) → flB F m a b j = F j := by
  intro b
  induction b with
  | zero => intro _; exact ⟨hr, hF, hd, rfl, fun _ => rfl, fun _ _ => rfl⟩
  | succ b ih =>
    intro hb
    obtain ⟨k1, k2, k3, k4, k5, k6⟩ := ih (by omega)
    have rowm : flB F m a b (12 * m + b) = F (12 * m + b) := by
      by_cases e : a = m
      · rw [k5 e]
      · exact k6 _ (fun d hd => by omega)
    have st := fl_step (f := xD f (F (12 * a + m)) a m b) (F := flB F m a b) hB hB2 hm ha (by omega : b < 12) k2 k3 k1 (by rw [k4]; exact h1) (by rw [rowm]; exact h2 b (by omega))
    rw [k4] at st
    obtain ⟨s1, s2, s3, s4, s5, s6⟩ := st
    exact ⟨s1, s2, s3, s4, fun e => (s5 e).trans (k5 e), fun j hj => (s6 j hj).trans (k6 j hj)⟩
theorem fl_inf {F : Nat → Int32} {B : Int} {m a : Nat} (hB2 : B ≤ 800000) (hm : m < 12) (ha : a < 12) (hF : FB F B) (h1 : F (12 * a + m) = 1000000) : ∀ b, b ≤ 12 → flB F m a b = F := by
  intro b
  induction b with
  | zero => intro _; rfl
  | succ b ih =>
    intro hb
    show flT (flB F m a b) m a b = F
    rw [ih (by omega)]
    unfold flT
    rw [if_neg]
    rw [h1, i_lt]
    have q1 := hF (12 * a + b) (by omega)
    have q2 := hF (12 * m + b) (by omega)
    have l1 : (F (12 * a + b)).toInt ≤ 1000000 := by
      rcases q1 with e | e
      · rw [e, tM]; omega
      · omega
    have l2 : 0 ≤ (F (12 * m + b)).toInt ∧ (F (12 * m + b)).toInt ≤ 1000000 := by
      rcases q2 with e | e
      · rw [e, tM]; omega
      · omega
    rw [i_add (by rw [tM]; omega) (by rw [tM]; omega), tM]
    omega
theorem fl_rows {f F : Nat → Int32} {B : Int} {m : Nat} (hB : 0 ≤ B) (hB2 : B ≤ 400000) (hm : m < 12) (hF : FB F B) (hd : FDg F) (hr : Frel f F) : ∀ a, a ≤ 12 → Frel (xC f m a) (flA F m a) ∧ FB (flA F m a) (2 * B) ∧ FDg (flA F m a) ∧ (∀ b, b < 12 → flA F m a (12 * m + b) = F (12 * m + b)) ∧ ∀ r b, a ≤ r → r < 12 → b < 12 → flA F m a (12 * r + b) = F (12 * r + b) := by
  intro a
  induction a with
  | zero => intro _; exact ⟨hr, fun j hj => (hF j hj).elim Or.inl (fun k => Or.inr ⟨k.1, by show (F j).toInt ≤ 2 * B; omega⟩), hd, fun _ _ => rfl, fun _ _ _ _ _ => rfl⟩
  | succ a ih =>
    intro ha
    obtain ⟨k1, k2, k3, k4, k5⟩ := ih (by omega)
    have eam := k5 a m (Nat.le_refl a) (by omega) hm
    have ram := k1 (12 * a + m) (by omega)
    rcases hF (12 * a + m) (by omega) with e | e
    · have eF : flA F m a (12 * a + m) = 1000000 := eam.trans e
      have e1 : flA F m (a + 1) = flA F m a := fl_inf (B := 2 * B) (by omega) hm (by omega) k2 eF 12 (Nat.le_refl 12)
      have e2 : xC f m (a + 1) = xC f m a := by
        show (if xC f m a (12 * a + m) = -1 then xC f m a else _) = _
        rw [if_pos (by rw [ram, if_pos eF])]
      rw [e1, e2]
      exact ⟨k1, k2, k3, k4, fun r b h1 h2 h3 => k5 r b (by omega) h2 h3⟩
    · have hfin : 0 ≤ (flA F m a (12 * a + m)).toInt ∧ (flA F m a (12 * a + m)).toInt ≤ B := by rw [eam]; exact e
      have fe := fin_ne (by omega) hfin
      have row := fl_row (f := xC f m a) (F := flA F m a) hB hB2 hm (by omega : a < 12) k2 k3 k1 hfin (fun b hb => by rw [k4 b hb]; exact hF _ (by omega)) 12 (Nat.le_refl 12)
      have xv : xC f m a (12 * a + m) = flA F m a (12 * a + m) := by rw [ram, if_neg fe.1]
      have e2 : xC f m (a + 1) = xD (xC f m a) (flA F m a (12 * a + m)) a m 12 := by
        show (if xC f m a (12 * a + m) = -1 then xC f m a else xD (xC f m a) (xC f m a (12 * a + m)) a m 12) = _
        rw [xv, if_neg fe.2]
      obtain ⟨s1, s2, s3, s4, s5, s6⟩ := row
      rw [e2]
      show Frel _ (flB (flA F m a) m a 12) ∧ FB (flB (flA F m a) m a 12) _ ∧ FDg (flB (flA F m a) m a 12) ∧ (∀ b, b < 12 → flB (flA F m a) m a 12 (12 * m + b) = F (12 * m + b)) ∧ ∀ r b, a + 1 ≤ r → r < 12 → b < 12 → flB (flA F m a) m a 12 (12 * r + b) = F (12 * r + b)
      refine ⟨s1, s2, s3, fun b hb => ?_, fun r b h1 h2 h3 => ?_⟩
      · by_cases em : a = m
        · rw [s5 em]; exact k4 b hb
        · rw [s6 _ (fun d hd => by omega)]; exact k4 b hb
      · rw [s6 _ (fun d hd => by omega)]; exact k5 r b (by omega) h2 h3
theorem fl_all {f F : Nat → Int32} (hF : FB F 99) (hd : FDg F) (hr : Frel f F) : ∀ m, m ≤ 12 → Frel (xM f m) (flM F m) ∧ FB (flM F m) (99 * 2 ^ m) ∧ FDg (flM F m) := by
  intro m
  induction m with
  | zero => intro _; exact ⟨hr, by simpa [flM] using hF, hd⟩
  | succ m ih =>
    intro hm
    obtain ⟨k1, k2, k3⟩ := ih (by omega)
    have p : (99 : Int) * 2 ^ m ≤ 400000 := by
      have : m < 12 := by omega
      rcases (show m = 0 ∨ m = 1 ∨ m = 2 ∨ m = 3 ∨ m = 4 ∨ m = 5 ∨ m = 6 ∨ m = 7 ∨ m = 8 ∨ m = 9 ∨ m = 10 ∨ m = 11 by omega) with rfl | rfl | rfl | rfl | rfl | rfl | rfl | rfl | rfl | rfl | rfl | rfl <;> decide
    have p0 : (0 : Int) ≤ 99 * 2 ^ m := by
      have : (0 : Int) ≤ 2 ^ m := Int.pow_nonneg (by decide)
      omega
    obtain ⟨s1, s2, s3, -, -⟩ := fl_rows p0 p (by omega : m < 12) k2 k3 k1 12 (Nat.le_refl 12)
    refine ⟨s1, ?_, s3⟩
    have e : (99 : Int) * 2 ^ (m + 1) = 2 * (99 * 2 ^ m) := by rw [Int.pow_succ]; omega
    rw [e]
    exact s2
/-- rows that agree below 144 go on agreeing -/
def ag1 (f g : Nat → Int32) : Prop := ∀ j, j < 144 → f j = g j
theorem ag1_T {f g : Nat → Int32} {m a b : Nat} (hm : m < 12) (ha : a < 12) (hb : b < 12) (h : ag1 f g) : ag1 (flT f m a b) (flT g m a b) := by
  intro j hj
  unfold flT
  rw [h (12 * a + m) (by omega), h (12 * m + b) (by omega), h (12 * a + b) (by omega)]
  by_cases c : g (12 * a + m) + g (12 * m + b) < g (12 * a + b)
  · rw [if_pos c, if_pos c]
    by_cases e : j = 12 * a + b
    · rw [e, upd_s, upd_s]
    · rw [upd_n e, upd_n e]; exact h j hj
  · rw [if_neg c, if_neg c]; exact h j hj
theorem ag1_B {f g : Nat → Int32} {m a : Nat} (hm : m < 12) (ha : a < 12) (h : ag1 f g) : ∀ b, b ≤ 12 → ag1 (flB f m a b) (flB g m a b) := by
  intro b
  induction b with
  | zero => intro _; exact h
  | succ b ih => intro hb; exact ag1_T hm ha (by omega) (ih (by omega))
theorem ag1_A {f g : Nat → Int32} {m : Nat} (hm : m < 12) (h : ag1 f g) : ∀ a, a ≤ 12 → ag1 (flA f m a) (flA g m a) := by
  intro a
  induction a with
  | zero => intro _; exact h
  | succ a ih => intro ha; exact ag1_B hm (by omega) (ih (by omega)) 12 (Nat.le_refl 12)
theorem ag1_M {f g : Nat → Int32} (h : ag1 f g) : ∀ m, m ≤ 12 → ag1 (flM f m) (flM g m) := by
  intro m
  induction m with
  | zero => intro _; exact h
  | succ m ih => intro hm; exact ag1_A (by omega) (ih (by omega)) 12 (Nat.le_refl 12)
