abbrev Hq : Type := (Nat → Nat → Int32) × (Nat → Nat → Int64) × (Nat → Nat → Option Nat)
abbrev Vk : Type := Nat → Option (Nat × Nat)
def sI (g : Hq) (k j : Nat) (v : Int32) : Hq := (up2 g.1 k j v, g.2.1, g.2.2)
def sL (g : Hq) (k j : Nat) (v : Int64) : Hq := (g.1, up2 g.2.1 k j v, g.2.2)
def sR (g : Hq) (k j : Nat) (v : Option Nat) : Hq := (g.1, g.2.1, up2 g.2.2 k j v)
def sA (g : Hq) (k : Nat) (r : Nat → Int32) : Hq := (upr g.1 k r, g.2.1, g.2.2)
def okV (V : Vk) (k t : Nat) (i : Int32) : Prop := ∃ n, V k = some (100 + t, n) ∧ vp_in i n
def bnd {α γ : Type} (o : Option (α × Hq)) (f : α → Hq → Option γ) : Option γ := o.bind (fun q => f q.1 q.2)
def onn {γ : Type} (o : Option Nat) (x : Option γ) (f : Nat → Option γ) : Option γ := match o with
  | none => x
  | some k => f k
theorem of_bnd2 {α γ : Type} {o : Option (α × Hq)} {f : α → Hq → Option γ} {z : γ} (h : bnd o f = some z) : ∃ a g, o = some (a, g) ∧ f a g = some z := by
  obtain ⟨q, h1, h2⟩ := of_bnd h
  exact ⟨q.1, q.2, h1, h2⟩
theorem of_onn {γ : Type} {o : Option Nat} {x : Option γ} {f : Nat → Option γ} {z : γ} (h : onn o x f = some z) : (o = none ∧ x = some z) ∨ ∃ k, o = some k ∧ f k = some z := by
  cases o with
  | none => exact Or.inl ⟨rfl, h⟩
  | some k => exact Or.inr ⟨k, rfl, h⟩
theorem of_map {α β : Type} {o : Option α} {f : α → β} {z : β} (h : o.map f = some z) : ∃ y, o = some y ∧ z = f y := by
  cases o with
  | none => cases h
  | some y => exact ⟨y, rfl, (Option.some.inj h).symm⟩
theorem itr_succ {σ β : Type} {f : σ → Option (σ ⊕ β)} {n : Nat} {s : σ} {y : β} (h : itr f (n + 1) s = some y) : ∃ z, f s = some z ∧ (∀ t, z = .inl t → itr f n t = some y) ∧ ∀ b, z = .inr b → b = y := by
  unfold itr at h
  cases hf : f s with
  | none => rw [hf] at h; cases h
  | some x =>
    rw [hf] at h
    refine ⟨x, rfl, ?_, ?_⟩
    · rintro t rfl; exact h
    · rintro b rfl; exact Option.some.inj h
theorem tsw_out {x : Int32} {lo hi : Int} (h : ∀ n : Int, lo ≤ n → n ≤ hi → ¬ x = Int32.ofInt n) : x.toInt < lo ∨ hi < x.toInt := by
  rcases Int.lt_or_le x.toInt lo with h1 | h1
  · exact Or.inl h1
  · rcases Int.lt_or_le hi x.toInt with h2 | h2
    · exact Or.inr h2
    · exact absurd (Int32.ofInt_toInt x).symm (h x.toInt h1 h2)
theorem neI {x : Int32} {n : Int} (h : ¬ x = Int32.ofInt n) : ¬ n = x.toInt := fun e => h (by rw [e, Int32.ofInt_toInt])
def aln {γ : Type} (V : Vk) (k t : Nat) (f : Nat → Option γ) : Option γ := match V k with
  | none => none
  | some q => if q.1 = 100 + t then f q.2 else none
theorem of_aln {γ : Type} {V : Vk} {k t : Nat} {f : Nat → Option γ} {z : γ} (h : aln V k t f = some z) : ∃ n, V k = some (100 + t, n) ∧ f n = some z := by
  unfold aln at h
  cases hv : V k with
  | none => rw [hv] at h; cases h
  | some q =>
    obtain ⟨kd, n⟩ := q
    rw [hv] at h
    by_cases e : kd = 100 + t
    · subst e
      exact ⟨n, rfl, by simpa using h⟩
    · simp [e] at h
section HM
variable {p : Program} {l : Launch} {e : Env} {R : Room} {s : State} {m : MethodId} {args : Array Value} {below : List Frame} {meth : Method} {c : Code} {H : Heap} {locs : List Loc} {cells slots : Nat} {Q : State → Prop} {pc : Nat} {ls : Array Slot} {rest : List Value} {ad : Nat → Nat}
theorem lv_nmi {x y : Int32} (e0 : y = x) (k : W p l e R s m args below meth c H locs cells slots Q (F0 m pc ls (.int y :: rest))) : W p l e R s m args below meth c H locs cells slots Q (F0 m pc ls (.int x :: rest)) := by
  subst e0; exact k
theorem lv_nml {x y : Int64} (e0 : y = x) (k : W p l e R s m args below meth c H locs cells slots Q (F0 m pc ls (.long y :: rest))) : W p l e R s m args below meth c H locs cells slots Q (F0 m pc ls (.long x :: rest)) := by
  subst e0; exact k
theorem lv_rf0 (k : W p l e R s m args below meth c H locs cells slots Q (F0 m pc ls (.null :: rest))) : W p l e R s m args below meth c H locs cells slots Q (F0 m pc ls (va_rf ((none : Option Nat).map ad) :: rest)) := k
theorem lv_rf1 {r : Nat} (k : W p l e R s m args below meth c H locs cells slots Q (F0 m pc ls (.ref (ad r) :: rest))) : W p l e R s m args below meth c H locs cells slots Q (F0 m pc ls (va_rf ((some r).map ad) :: rest)) := k
end HM
section HN
variable {p : Program} {l : Launch} {e : Env} {R : Room} {s : State} {m : MethodId} {args : Array Value} {below : List Frame} {meth : Method} {c : Code} {H : Heap} {locs : List Loc} {cells slots : Nat} {Q : State → Prop} {cc : ByteArray} {pc : Nat} {ls : Array Slot} {rest : List Value} {nL : Nat} {own : String} {D : va_G} {cA : Nat → ClassId} {sk : (Nat → Nat) × (Nat → Nat)} {ad : Nat → Nat} {h : Hp} {A : Nat → Prop}
def okC (V : Vk) (k0 k1 : Nat) (sp dp n : Int32) : Prop := ∃ n0 n1, V k0 = some (100, n0) ∧ V k1 = some (100, n1) ∧ k0 ≠ k1 ∧ ¬ sp < 0 ∧ ¬ dp < 0 ∧ ¬ n < 0 ∧ sp.toNatClampNeg + n.toNatClampNeg ≤ n0 ∧ dp.toNatClampNeg + n.toNatClampNeg ≤ n1
theorem h_copy {V : Vk} {g : Hq} (cx : CallFix p m c cc nL s args gw_tbl own) (fx : Fx D cA sk A s) (dy : Dy D cA ad (V, g) A s.heap H locs) {k0 k1 idx : Nat} {sp dp n : Int32} (ok : okC V k0 k1 sp dp n) (hl : Cond.methodLink own idx arraycopyName ∈ gw_tbl) (hnat : Cond.native arraycopyName ∈ gw_tbl) (hstat : Cond.static arraycopyName ∈ gw_tbl) (hini : Cond.initialized "java/lang/System" ∈ gw_tbl) (hsz : ls.size = nL) (hR : 1 ≤ R.frames ∧ (rest.map fun v => v.category).sum + (nativeFrameWords "java/lang/System" "arraycopy" 5 + 11) ≤ R.locals) (hdg : decode cc pc = .ok (.invokestatic idx, 3))
    (kk : ∀ (H1 : Heap) (locs1 : List Loc), Dy D cA ad (V, sA g k1 (va_cpy (g.1 k0) (g.1 k1) sp.toNatClampNeg dp.toNatClampNeg n.toNatClampNeg)) A s.heap H1 locs1 → W p l e R s m args below meth c H1 locs1 cells slots Q (F0 m (pc + 3) ls rest)) : W p l e R s m args below meth c H locs cells slots Q (F0 m pc ls (.int n :: .int dp :: .ref (ad k1) :: .int sp :: .ref (ad k0) :: rest)) := by
  obtain ⟨hx, hb, hml, hown, hts⟩ := cx
  obtain ⟨n0, n1, v0, v1, hne, o1, o2, o3, o4, o5⟩ := ok
  obtain ⟨P, i1, hi1, hP, hD, hm⟩ := Wp.at (h := (V, g)) dy.1 v1
  obtain ⟨i0, hi0⟩ := List.getElem?_of_mem ((hm k0).mpr (by show V k0 ≠ none; rw [v0]; simp))
  have he1 := wl_at (cA := cA) (ad := ad) (h := (V, g)) hi1
  have he0 := wl_at (cA := cA) (ad := ad) (h := (V, g)) hi0
  rw [celE_i (t := 0) (h := (V, g)) v1 (by omega)] at he1
  rw [celE_i (t := 0) (h := (V, g)) v0 (by omega)] at he0
  refine va_copyi hx hb (hml.trans hsz.symm) hown (hts _ hl) (hts _ hnat) (hts _ hstat) (hts _ hini) fx.1 hP hD dy.2 i0 i1 0 0 he0 he1 rfl rfl rfl o1 o2 o3 o4 o5 (fun _ _ => rfl) hR.1 hR.2 hdg (fun H1 locs1 hP1 hD1 hS1 => kk H1 locs1 (Dy.upd (h := (V, g)) (h' := (V, sA g k1 (va_cpy (g.1 k0) (g.1 k1) sp.toNatClampNeg dp.toNatClampNeg n.toNatClampNeg))) hm hi1 hD rfl ?_ ?_ hP1 hD1 hS1))
  · intro a ha
    refine celE_same rfl ?_ rfl rfl
    show upr g.1 k1 _ a = g.1 a
    simp [upr, ha]
  · rw [celE_i (n := n1) (t := 0) (h := (V, sA g k1 (va_cpy (g.1 k0) (g.1 k1) sp.toNatClampNeg dp.toNatClampNeg n.toNatClampNeg))) v1 (by omega)]
    show Sum.inl (cA 0, n1, Sum.inl (upr g.1 k1 (va_cpy (g.1 k0) (g.1 k1) sp.toNatClampNeg dp.toNatClampNeg n.toNatClampNeg) k1)) = _
    simp [upr]
end HN
