abbrev Hq : Type := (Nat → Nat → Int32) × (Nat → Nat → Int64) × (Nat → Nat → Option Nat)
abbrev Vk : Type := Nat → Option (Nat × Nat)
def sI (g : Hq) (k j : Nat) (v : Int32) : Hq := (up2 g.1 k j v, g.2.1, g.2.2)
def sL (g : Hq) (k j : Nat) (v : Int64) : Hq := (g.1, up2 g.2.1 k j v, g.2.2)
def sR (g : Hq) (k j : Nat) (v : Option Nat) : Hq := (g.1, g.2.1, up2 g.2.2 k j v)
def sA (g : Hq) (k : Nat) (r : Nat → Int32) : Hq := (upr g.1 k r, g.2.1, g.2.2)
def okV (V : Vk) (k t : Nat) (i : Int32) : Prop := ∃ n, V k = some (100 + t, n) ∧ vp_in i n
def bnd {α γ : Type} (o : Option (α × Hq)) (f : α → Hq → Option γ) : Option γ := o.bind (fun q => f q.1 q.2)
def onn {γ : Type} (o : Option Nat) (x : Option γ) (f : Nat → Option γ) : Option γ := match o with
  | none => x
  | some k => f k
theorem of_bnd2 {α γ : Type} {o : Option (α × Hq)} {f : α → Hq → Option γ} {z : γ} (h : bnd o f = some z) : ∃ a g, o = some (a, g) ∧ f a g = some z := by
  obtain ⟨q, h1, h2⟩ := of_bnd h
  exact ⟨q.1, q.2, h1, h2⟩
theorem of_onn {γ : Type} {o : Option Nat} {x : Option γ} {f : Nat → Option γ} {z : γ} (h : onn o x f = some z) : (o = none ∧ x = some z) ∨ ∃ k, o = some k ∧ f k = some z := by
  cases o with
  | none => exact Or.inl ⟨rfl, h⟩
  | some k => exact Or.inr ⟨k, rfl, h⟩
theorem of_map {α β : Type} {o : Option α} {f : α → β} {z : β} (h : o.map f = some z) : ∃ y, o = some y ∧ z = f y := by
  cases o with
  | none => cases h
  | some y => exact ⟨y, rfl, (Option.some.inj h).symm⟩
theorem itr_succ {σ β : Type} {f : σ → Option (σ ⊕ β)} {n : Nat} {s : σ} {y : β} (h : itr f (n + 1) s = some y) : ∃ z, f s = some z ∧ (∀ t, z = .inl t → itr f n t = some y) ∧ ∀ b, z = .inr b → b = y := by
  unfold itr at h
  cases hf : f s with
  | none => rw [hf] at h; cases h
  | some x =>
    rw [hf] at h
    refine ⟨x, rfl, ?_, ?_⟩
    · rintro t rfl; exact h
    · rintro b rfl; exact Option.some.inj h
theorem tsw_out {x : Int32} {lo hi : Int} (h : ∀ n : Int, lo ≤ n → n ≤ hi → ¬ x = Int32.ofInt n) : x.toInt < lo ∨ hi < x.toInt := by
  rcases Int.lt_or_le x.toInt lo with h1 | h1
  · exact Or.inl h1
  · rcases Int.lt_or_le hi x.toInt with h2 | h2
    · exact Or.inr h2
    · exact absurd (Int32.ofInt_toInt x).symm (h x.toInt h1 h2)
theorem neI {x : Int32} {n : Int} (h : ¬ x = Int32.ofInt n) : ¬ n = x.toInt := fun e => h (by rw [e, Int32.ofInt_toInt])
section HM
variable {p : Program} {l : Launch} {e : Env} {R : Room} {s : State} {m : MethodId} {args : Array Value} {below : List Frame} {meth : Method} {c : Code} {H : Heap} {locs : List Loc} {cells slots : Nat} {Q : State → Prop} {pc : Nat} {ls : Array Slot} {rest : List Value} {ad : Nat → Nat}
theorem lv_nmi {x y : Int32} (e0 : y = x) (k : W p l e R s m args below meth c H locs cells slots Q (F0 m pc ls (.int y :: rest))) : W p l e R s m args below meth c H locs cells slots Q (F0 m pc ls (.int x :: rest)) := by
  subst e0; exact k
theorem lv_nml {x y : Int64} (e0 : y = x) (k : W p l e R s m args below meth c H locs cells slots Q (F0 m pc ls (.long y :: rest))) : W p l e R s m args below meth c H locs cells slots Q (F0 m pc ls (.long x :: rest)) := by
  subst e0; exact k
theorem lv_rf0 (k : W p l e R s m args below meth c H locs cells slots Q (F0 m pc ls (.null :: rest))) : W p l e R s m args below meth c H locs cells slots Q (F0 m pc ls (va_rf ((none : Option Nat).map ad) :: rest)) := k
theorem lv_rf1 {r : Nat} (k : W p l e R s m args below meth c H locs cells slots Q (F0 m pc ls (.ref (ad r) :: rest))) : W p l e R s m args below meth c H locs cells slots Q (F0 m pc ls (va_rf ((some r).map ad) :: rest)) := k
end HM
