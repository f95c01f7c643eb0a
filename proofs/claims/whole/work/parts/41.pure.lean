/-! ===== running the pure functions ===== -/
theorem nm_eq {α β : Type} (a : α) (f : α → β) : nm a f = f a := rfl
theorem bnd_some {α γ : Type} (a : α) (g : Hq) (f : α → Hq → Option γ) : bnd (some (a, g)) f = f a g := rfl
theorem bind_some' {α β : Type} (a : α) (f : α → Option β) : Option.bind (some a) f = f a := rfl
theorem onn_none {γ : Type} (x : Option γ) (f : Nat → Option γ) : onn none x f = x := rfl
theorem onn_some {γ : Type} (k : Nat) (x : Option γ) (f : Nat → Option γ) : onn (some k) x f = f k := rfl
theorem sI_1 (g : Hq) (k j : Nat) (v : Int32) : (sI g k j v).1 = up2 g.1 k j v := rfl
theorem sI_2 (g : Hq) (k j : Nat) (v : Int32) : (sI g k j v).2.1 = g.2.1 := rfl
theorem sI_3 (g : Hq) (k j : Nat) (v : Int32) : (sI g k j v).2.2 = g.2.2 := rfl
theorem sL_1 (g : Hq) (k j : Nat) (v : Int64) : (sL g k j v).1 = g.1 := rfl
theorem sL_2 (g : Hq) (k j : Nat) (v : Int64) : (sL g k j v).2.1 = up2 g.2.1 k j v := rfl
theorem sL_3 (g : Hq) (k j : Nat) (v : Int64) : (sL g k j v).2.2 = g.2.2 := rfl
theorem sR_1 (g : Hq) (k j : Nat) (v : Option Nat) : (sR g k j v).1 = g.1 := rfl
theorem sR_2 (g : Hq) (k j : Nat) (v : Option Nat) : (sR g k j v).2.1 = g.2.1 := rfl
theorem sR_3 (g : Hq) (k j : Nat) (v : Option Nat) : (sR g k j v).2.2 = up2 g.2.2 k j v := rfl
theorem sA_1 (g : Hq) (k : Nat) (r : Nat → Int32) : (sA g k r).1 = upr g.1 k r := rfl
theorem sA_2 (g : Hq) (k : Nat) (r : Nat → Int32) : (sA g k r).2.1 = g.2.1 := rfl
theorem sA_3 (g : Hq) (k : Nat) (r : Nat → Int32) : (sA g k r).2.2 = g.2.2 := rfl
theorem up2_at {α : Type} (f : Nat → Nat → α) (k j : Nat) (v : α) (a b : Nat) : up2 f k j v a b = if a = k ∧ b = j then v else f a b := rfl
theorem upr_at {α : Type} (f : Nat → Nat → α) (k : Nat) (r : Nat → α) (a : Nat) : upr f k r a = if a = k then r else f a := rfl
theorem up2_ne {α : Type} (f : Nat → Nat → α) {k j : Nat} (v : α) {a b : Nat} (h : a ≠ k ∨ b ≠ j) : up2 f k j v a b = f a b := by
  rw [up2_at, if_neg]; rintro ⟨rfl, rfl⟩; exact h.elim (fun h => h rfl) (fun h => h rfl)
theorem up2_nk {α : Type} (f : Nat → Nat → α) {k : Nat} (j : Nat) (v : α) {a : Nat} (h : a ≠ k) : up2 f k j v a = f a := up2_k h
theorem brn_same {α : Type} (c : Prop) (x : Option α) : brn c x x = x := by by_cases h : c; rw [brn_t h]; rw [brn_f h]
theorem okV_of {V : Vk} {k t n : Nat} {i : Int32} (hv : V k = some (100 + t, n)) (h : vp_in i n) : okV V k t i := ⟨n, hv, h⟩
/-- Int32 by its number -/
theorem i_lt {a b : Int32} : a < b ↔ a.toInt < b.toInt := Int32.lt_iff_toInt_lt
theorem i_le {a b : Int32} : a ≤ b ↔ a.toInt ≤ b.toInt := Int32.le_iff_toInt_le
theorem i_eq {a b : Int32} : a = b ↔ a.toInt = b.toInt := ⟨fun h => by rw [h], fun h => Int32.toInt_inj.mp h⟩
theorem i_lo (a : Int32) : -2147483648 ≤ a.toInt := by have := Int32.le_toInt a; omega
theorem i_hi (a : Int32) : a.toInt < 2147483648 := by have := Int32.toInt_lt a; omega
theorem i_add {a b : Int32} (h1 : -2147483648 ≤ a.toInt + b.toInt) (h2 : a.toInt + b.toInt < 2147483648) : (a + b).toInt = a.toInt + b.toInt := by
  rw [Int32.toInt_add]; exact Int.bmod_eq_of_le (by omega) (by omega)
theorem i_sub {a b : Int32} (h1 : -2147483648 ≤ a.toInt - b.toInt) (h2 : a.toInt - b.toInt < 2147483648) : (a - b).toInt = a.toInt - b.toInt := by
  rw [Int32.toInt_sub]; exact Int.bmod_eq_of_le (by omega) (by omega)
theorem i_mul {a b : Int32} (h1 : -2147483648 ≤ a.toInt * b.toInt) (h2 : a.toInt * b.toInt < 2147483648) : (a * b).toInt = a.toInt * b.toInt := by
  rw [Int32.toInt_mul]; exact Int.bmod_eq_of_le (by omega) (by omega)
theorem i_cl (a : Int32) : a.toNatClampNeg = a.toInt.toNat := rfl
theorem i_in {a : Int32} {n : Nat} : vp_in a n ↔ 0 ≤ a.toInt ∧ a.toInt < n := vp_in_iff
/-- truth as the machine has it -/
noncomputable def bI (c : Prop) : Int32 := @ite _ c (Classical.propDecidable c) 1 0
theorem bI_t {c : Prop} (h : c) : bI c = 1 := by unfold bI; rw [if_pos h]
theorem bI_f {c : Prop} (h : ¬ c) : bI c = 0 := by unfold bI; rw [if_neg h]
theorem bI_0 {c : Prop} : bI c = 0 ↔ ¬ c := by
  by_cases h : c
  · rw [bI_t h]; constructor
    · intro h; exact absurd h (by decide)
    · intro h2; exact absurd h h2
  · rw [bI_f h]; simp [h]
theorem p_isFrom (V : Vk) (a l m : Int32) (g : Hq) : r_X11_isFrom V a l m g = some (bI (l ≤ a ∧ a ≤ m), g) := by
  unfold r_X11_isFrom
  by_cases h1 : a < l
  · have h2 : ¬ l ≤ a := by rw [i_le]; rw [i_lt] at h1; omega
    simp [brn, h1, h2, bI]
  · have h2 : l ≤ a := by rw [i_le]; rw [i_lt] at h1; omega
    by_cases h3 : a ≤ m
    · have h4 : ¬ m < a := by rw [i_lt]; rw [i_le] at h3; omega
      simp [brn, h1, h2, h3, h4, bI]
    · have h4 : m < a := by rw [i_lt]; rw [i_le] at h3; omega
      simp [brn, h1, h2, h3, h4, bI]
theorem p_in (V : Vk) (a l m : Int32) (g : Hq) : r_X12_in V a l m g = some (bI (l ≤ a ∧ a ≤ m), g) := by
  unfold r_X12_in
  by_cases h1 : a < l
  · have h2 : ¬ l ≤ a := by rw [i_le]; rw [i_lt] at h1; omega
    simp [brn, h1, h2, bI]
  · have h2 : l ≤ a := by rw [i_le]; rw [i_lt] at h1; omega
    by_cases h3 : a ≤ m
    · have h4 : ¬ m < a := by rw [i_lt]; rw [i_le] at h3; omega
      simp [brn, h1, h2, h3, h4, bI]
    · have h4 : m < a := by rw [i_lt]; rw [i_le] at h3; omega
      simp [brn, h1, h2, h3, h4, bI]
