/-! ===== the reference's FAR, as a function of the ways ===== -/
def mf0 (ways : Nat → Int32) (k : Nat) : Int32 := if k % 13 = 0 then 0 else if ways k = -1 then 1000000 else ways k
def flT (f : Nat → Int32) (m a b : Nat) : Nat → Int32 := if f (12 * a + m) + f (12 * m + b) < f (12 * a + b) then upd f (12 * a + b) (f (12 * a + m) + f (12 * m + b)) else f
def flB (f : Nat → Int32) (m a : Nat) : Nat → Nat → Int32
  | 0 => f
  | b + 1 => flT (flB f m a b) m a b
def flA (f : Nat → Int32) (m : Nat) : Nat → Nat → Int32
  | 0 => f
  | a + 1 => flB (flA f m a) m a 12
def flM (f : Nat → Int32) : Nat → Nat → Int32
  | 0 => f
  | m + 1 => flA (flM f m) m 12
def mf (ways : Nat → Int32) : Nat → Int32 := flM (mf0 ways) 12
/-- the town -/
def RW (I : Nat → Nat → Int32) : Prop := I 4 = I 72 ∧ I 5 = I 73 ∧ I 6 = I 74 ∧ (∀ c, c < 12 → 0 ≤ (I 72 c).toInt ∧ (I 72 c).toInt ≤ 3) ∧ (∀ c, c < 12 → 1 ≤ (I 73 c).toInt ∧ (I 73 c).toInt ≤ 999) ∧ (∀ j, j < 144 → I 74 j = -1 ∨ (1 ≤ (I 74 j).toInt ∧ (I 74 j).toInt ≤ 99)) ∧ (∀ j, j < 144 → I 75 j = mf (I 74) j) ∧ (I 3 4 = 1 ∨ (I 3 4 = 0 ∧ ∀ j, j < 144 → I 7 j = if mf (I 74) j = 1000000 then -1 else mf (I 74) j))
/-- the plan that was told last; 'ones' and the empty part's plan -/
def onesF : Nat → Int64 := fun p => (List.range 10).foldl (fun s i => if p.testBit i then s + ((1 : Int64) <<< (Int64.ofNat (4 * (9 - i)))) else s) 0
def RP (I : Nat → Nat → Int32) (L : Nat → Nat → Int64) : Prop := (∀ p, p < 1024 → L 14 p = onesF p) ∧ L 13 0 = 0 ∧ ((I 70 23 = 0 ∧ I 8 7 = 0) ∨ (I 70 23 = 1 ∧ 1 ≤ (I 70 24).toInt ∧ (I 70 24).toInt ≤ 10 ∧ I 8 7 = I 70 24 ∧ I 8 8 = I 70 25 ∧ (∀ c, c < 12 → I 15 c = I 82 c) ∧ ∀ i : Nat, (i : Int) < (I 70 24).toInt → I 16 i = I 83 i ∧ I 17 i = I 84 i))
/-- the fault -/
def RF (I : Nat → Nat → Int32) : Prop := I 18 6 = I 70 8 ∧ I 18 7 = I 70 9
def lawPl (p : Nat) : Prop := p = 26 ∨ p = 32 ∨ p = 41 ∨ p = 50 ∨ p = 59
/-- one ward's laws: the object at p, the reference's rows at w -/
def RL1 (I : Nat → Nat → Int32) (p w : Nat) : Prop := (∀ j, j < 8 → I p j = I 85 (8 * w + j)) ∧ (∃ n : Nat, n ≤ 12 ∧ I p 8 = nI n ∧ I 87 w = nI n ∧ ∀ i, i < n → I (p + 1) i = I 86 (4 * (12 * w + i)) ∧ I (p + 2) i = I 86 (4 * (12 * w + i) + 1) ∧ I (p + 3) i = I 86 (4 * (12 * w + i) + 2) ∧ I (p + 4) i = I 86 (4 * (12 * w + i) + 3) ∧ 0 ≤ (I 86 (4 * (12 * w + i))).toInt ∧ (I 86 (4 * (12 * w + i) + 3) = 0 ∨ I 86 (4 * (12 * w + i) + 3) = 1)) ∧ 0 ≤ (I 85 (8 * w)).toInt ∧ (I 85 (8 * w + 1)).toInt ≤ 99 ∧ 0 ≤ (I 85 (8 * w + 2)).toInt ∧ (I 85 (8 * w + 2)).toInt ≤ 30 ∧ 0 ≤ (I 85 (8 * w + 3)).toInt ∧ (I 85 (8 * w + 3)).toInt ≤ 9999 ∧ -1 ≤ (I 85 (8 * w + 4)).toInt ∧ (I 85 (8 * w + 4)).toInt ≤ 9999 ∧ -1 ≤ (I 85 (8 * w + 5)).toInt ∧ (I 85 (8 * w + 5)).toInt ≤ 999 ∧ (I 85 (8 * w + 6) = 0 ∨ I 85 (8 * w + 6) = 1) ∧ 0 ≤ (I 85 (8 * w + 7)).toInt ∧ (I 85 (8 * w + 7)).toInt ≤ 20
def RLw (I : Nat → Nat → Int32) (R : Nat → Nat → Option Nat) : Prop := ∃ f : Nat → Nat, (∀ i, i < 5 → lawPl (f i)) ∧ (∀ i j, i < 5 → j < 5 → f i = f j → i = j) ∧ (∀ w, w < 4 → R (31 + 9 * w) 0 = some (f w)) ∧ R 0 8 = some (f 4) ∧ ∀ w, w < 4 → RL1 I (f w) w
/-- the houses -/
def RH (V : Vk) (I : Nat → Nat → Int32) (R : Nat → Nat → Option Nat) (n : Nat) : Prop := n ≤ 60 ∧ I 20 1 = nI n ∧ I 70 32 = nI n ∧ (∀ i, i < n → R 21 i = some (200 + i) ∧ V (200 + i) = some (2, 0) ∧ I (200 + i) 0 = I 88 i ∧ I (200 + i) 1 = I 89 i ∧ I (200 + i) 2 = I 90 i ∧ I (200 + i) 3 = I 91 i ∧ I (200 + i) 4 = I 92 i ∧ I (200 + i) 5 = I 93 i ∧ 0 ≤ (I 88 i).toInt ∧ (I 88 i).toInt ≤ 3 ∧ 1500 ≤ (I 89 i).toInt ∧ (I 89 i).toInt ≤ 1799 ∧ 0 ≤ (I 90 i).toInt ∧ (I 90 i).toInt ≤ 1000000 ∧ 0 ≤ (I 91 i).toInt ∧ (I 91 i).toInt ≤ 2 ∧ (I 92 i = -1 ∨ (1600 ≤ (I 92 i).toInt ∧ (I 92 i).toInt ≤ 1799))) ∧ ∀ i, n ≤ i → i < 60 → V (200 + i) = none ∧ I 90 i = 0 ∧ I 91 i = 0 ∧ I 93 i = 0
/-- a ward's years and chest -/
def RY1 (I : Nat → Nat → Int32) (n w : Nat) : Prop := I (31 + 9 * w) 1 = I 100 w ∧ I (31 + 9 * w) 3 = I 95 w ∧ I (31 + 9 * w) 5 = I 94 w ∧ (I 95 w).toInt < n ∧ -1 ≤ (I 95 w).toInt ∧ ((I 94 w = -1 ∧ ∀ t, t < 200 → I (31 + 9 * w + 7) t = 0 ∧ I (31 + 9 * w + 8) t = 0) ∨ (I (31 + 9 * w) 4 = I 96 w ∧ 1600 ≤ (I 96 w).toInt ∧ (I 96 w).toInt ≤ (I 94 w).toInt ∧ (I 94 w).toInt ≤ 1799 ∧ ∀ t : Nat, t < 200 → ((I 94 w).toInt < 1600 + t → I (31 + 9 * w + 7) t = 0 ∧ I (31 + 9 * w + 8) t = 0) ∧ ((I 96 w).toInt ≤ 1600 + t → (1600 + t : Int) ≤ (I 94 w).toInt → I (31 + 9 * w + 6) t = I 97 (200 * w + t) ∧ I (31 + 9 * w + 7) t = I 98 (200 * w + t) ∧ I (31 + 9 * w + 8) t = I 99 (200 * w + t) ∧ (I 98 (200 * w + t) = 0 ∨ I 98 (200 * w + t) = 1))))
/-- the charges -/
def lyC (I : Nat → Nat → Int32) (w : Nat) : Nat → Nat
  | 0 => 0
  | c + 1 => lyC I w c + if I 104 c = 0 ∧ I 105 c = nI w then 1 else 0
def RN (V : Vk) (I : Nat → Nat → Int32) (R : Nat → Nat → Option Nat) (c : Nat) : Prop := c ≤ 100 ∧ I 22 1 = nI c ∧ I 70 46 = nI c ∧ (∀ i, i < c → R 23 i = some (300 + i) ∧ V (300 + i) = some (0, 0) ∧ I (300 + i) 0 = I 101 i ∧ I (300 + i) 1 = I 102 i ∧ I (300 + i) 2 = I 103 i ∧ I (300 + i) 3 = I 104 i ∧ I (300 + i) 4 = I 105 i) ∧ (∀ i, c ≤ i → i < 100 → V (300 + i) = none) ∧ ∀ w, w < 4 → I (31 + 9 * w) 2 = nI (lyC I w c)
/-- the flight -/
def RG (I : Nat → Nat → Int32) : Prop := (I 24 3 = -1 ∧ I 70 52 = -9 ∧ I 70 53 = -9) ∨ (0 ≤ (I 24 3).toInt ∧ I 24 2 = I 70 52 ∧ I 24 3 = I 70 53)
/-- the triangle -/
def choF : Nat → Nat → Nat
  | _, 0 => 1
  | 0, _ + 1 => 0
  | n + 1, k + 1 => choF n k + choF n (k + 1)
def RX (I : Nat → Nat → Int32) (L : Nat → Nat → Int64) : Prop := (I 70 55 = 0 ∧ ∀ j, L 106 j = 0) ∨ (I 70 55 = 1 ∧ ∀ n k, n < 61 → k ≤ n → L 106 (61 * n + k) = Int64.ofNat (choF n k))
/-- all references are to places that stand -/
def RR (R : Nat → Nat → Option Nat) (n c : Nat) : Prop := ∀ a j r, R a j = some r → r < 107 ∨ (∃ i, i < n ∧ r = 200 + i) ∨ ∃ i, i < c ∧ r = 300 + i
def Inv (V : Vk) (g : Hq) : Prop := ShV V ∧ ShR g.2.2 ∧ RT g ∧ RW g.1 ∧ RP g.1 g.2.1 ∧ RF g.1 ∧ RLw g.1 g.2.2 ∧ RG g.1 ∧ RX g.1 g.2.1 ∧ ∃ n c, RH V g.1 g.2.2 n ∧ (∀ w, w < 4 → RY1 g.1 n w) ∧ RN V g.1 g.2.2 c ∧ RR g.2.2 n c
/-- a call's two answers: alike, and the invariant again -/
def Op {α : Type} (V : Vk) (g : Hq) (x m : Hq → Option (α × Hq)) : Prop := ∃ r g1 g2, x g = some (r, g1) ∧ m g1 = some (r, g2) ∧ Inv V g2
