/-! ===== the pure side: partial functions, loops ===== -/
noncomputable def brn {α : Type} (c : Prop) (x y : Option α) : Option α := @ite _ c (Classical.propDecidable c) x y
noncomputable def grd {α : Type} (c : Prop) (x : Option α) : Option α := brn c x none
def nm {α β : Type} (a : α) (f : α → β) : β := f a
theorem brn_t {α : Type} {c : Prop} {x y : Option α} (h : c) : brn c x y = x := by unfold brn; rw [if_pos h]
theorem brn_f {α : Type} {c : Prop} {x y : Option α} (h : ¬ c) : brn c x y = y := by unfold brn; rw [if_neg h]
theorem grd_t {α : Type} {c : Prop} {x : Option α} (h : c) : grd c x = x := brn_t h
theorem of_brn {α : Type} {c : Prop} {x y : Option α} {z : α} (h : brn c x y = some z) : (c ∧ x = some z) ∨ (¬ c ∧ y = some z) := by
  by_cases hc : c
  · rw [brn_t hc] at h; exact Or.inl ⟨hc, h⟩
  · rw [brn_f hc] at h; exact Or.inr ⟨hc, h⟩
theorem of_grd {α : Type} {c : Prop} {x : Option α} {z : α} (h : grd c x = some z) : c ∧ x = some z := by
  rcases of_brn h with h | h
  · exact h
  · exact absurd h.2 (by simp)
theorem of_nm {α β : Type} {a : α} {f : α → β} {z : β} (h : nm a f = z) : ∃ x, x = a ∧ f x = z := ⟨a, rfl, h⟩
theorem of_bnd {α β : Type} {o : Option α} {f : α → Option β} {z : β} (h : o.bind f = some z) : ∃ y, o = some y ∧ f y = some z := by
  cases o with
  | none => cases h
  | some y => exact ⟨y, rfl, h⟩
def itr {σ β : Type} (f : σ → Option (σ ⊕ β)) : Nat → σ → Option β
  | 0, _ => none
  | n + 1, s => match f s with
    | none => none
    | some (.inl t) => itr f n t
    | some (.inr b) => some b
theorem itr_mono {σ β : Type} {f : σ → Option (σ ⊕ β)} {b : β} : ∀ (n : Nat) (s : σ), itr f n s = some b → ∀ m, itr f (n + m) s = some b := by
  intro n
  induction n with
  | zero => intro s h; cases h
  | succ n ih =>
    intro s h m
    rw [show n + 1 + m = (n + m) + 1 by omega]
    unfold itr at h ⊢
    cases hf : f s with
    | none => rw [hf] at h; cases h
    | some x =>
      rw [hf] at h
      cases x with
      | inl t => exact ih t h m
      | inr c => exact h
theorem itr_one {σ β : Type} {f : σ → Option (σ ⊕ β)} {b c : β} {n m : Nat} {s : σ} (h : itr f n s = some b) (g : itr f m s = some c) : b = c := by
  have h1 := itr_mono n s h m
  have h2 := itr_mono m s g n
  rw [Nat.add_comm] at h2
  exact Option.some.inj (h1.symm.trans h2)
noncomputable def lop {σ β : Type} (f : σ → Option (σ ⊕ β)) (s : σ) : Option β := @dite _ (∃ b n, itr f n s = some b) (Classical.propDecidable _) (fun h => some (Classical.choose h)) (fun _ => none)
theorem lop_some {σ β : Type} {f : σ → Option (σ ⊕ β)} {s : σ} {b : β} (h : lop f s = some b) : ∃ n, itr f n s = some b := by
  unfold lop at h
  by_cases hc : ∃ b n, itr f n s = some b
  · rw [dif_pos hc] at h
    cases h
    exact Classical.choose_spec hc
  · rw [dif_neg hc] at h; cases h
theorem lop_of {σ β : Type} {f : σ → Option (σ ⊕ β)} {s : σ} {b : β} {n : Nat} (h : itr f n s = some b) : lop f s = some b := by
  have hc : ∃ b n, itr f n s = some b := ⟨b, n, h⟩
  unfold lop
  rw [dif_pos hc]
  obtain ⟨m, hm⟩ := Classical.choose_spec hc
  rw [itr_one hm h]
theorem lop_none {σ β : Type} {f : σ → Option (σ ⊕ β)} {s : σ} (h : ¬ ∃ b n, itr f n s = some b) : lop f s = none := by
  unfold lop
  rw [dif_neg h]
theorem lop_eq {σ β : Type} (f : σ → Option (σ ⊕ β)) (s : σ) : lop f s = match f s with
    | none => none
    | some (.inl t) => lop f t
    | some (.inr b) => some b := by
  cases hf : f s with
  | none =>
    refine lop_none ?_
    rintro ⟨b, n, h⟩
    cases n with
    | zero => cases h
    | succ n => unfold itr at h; rw [hf] at h; cases h
  | some x =>
    cases x with
    | inl t =>
      show lop f s = lop f t
      by_cases hc : ∃ b n, itr f n t = some b
      · obtain ⟨b, n, h⟩ := hc
        rw [lop_of h]
        refine lop_of (n := n + 1) ?_
        unfold itr; rw [hf]; exact h
      · rw [lop_none hc]
        refine lop_none ?_
        rintro ⟨b, n, h⟩
        cases n with
        | zero => cases h
        | succ n => unfold itr at h; rw [hf] at h; exact hc ⟨b, n, h⟩
    | inr b =>
      refine lop_of (n := 1) ?_
      unfold itr; rw [hf]
/-! ===== the heap of the pure side: places, kinds, ints, longs, references ===== -/
abbrev Hp : Type := (Nat → Option (Nat × Nat)) × (Nat → Nat → Int32) × (Nat → Nat → Int64) × (Nat → Nat → Option Nat)
def up2 {α : Type} (f : Nat → Nat → α) (k j : Nat) (v : α) : Nat → Nat → α := fun a b => if a = k ∧ b = j then v else f a b
def upr {α : Type} (f : Nat → Nat → α) (k : Nat) (r : Nat → α) : Nat → Nat → α := fun a => if a = k then r else f a
def setI (h : Hp) (k j : Nat) (v : Int32) : Hp := (h.1, up2 h.2.1 k j v, h.2.2.1, h.2.2.2)
def setL (h : Hp) (k j : Nat) (v : Int64) : Hp := (h.1, h.2.1, up2 h.2.2.1 k j v, h.2.2.2)
def setR (h : Hp) (k j : Nat) (v : Option Nat) : Hp := (h.1, h.2.1, h.2.2.1, up2 h.2.2.2 k j v)
def setA (h : Hp) (k : Nat) (r : Nat → Int32) : Hp := (h.1, upr h.2.1 k r, h.2.2.1, h.2.2.2)
def newC (h : Hp) (k : Nat) (q : Nat × Nat) : Hp := (fun a => if a = k then some q else h.1 a, upr h.2.1 k (fun _ => 0), upr h.2.2.1 k (fun _ => 0), upr h.2.2.2 k (fun _ => none))
def okA (h : Hp) (k t : Nat) (i : Int32) : Prop := ∃ n, h.1 k = some (100 + t, n) ∧ vp_in i n
theorem up2_s {α : Type} (f : Nat → Nat → α) (k j : Nat) (v : α) : up2 f k j v k j = v := by simp [up2]
theorem up2_k {α : Type} {f : Nat → Nat → α} {k j a : Nat} {v : α} (h : a ≠ k) : up2 f k j v a = f a := by funext b; simp [up2, h]
theorem up2_row {α : Type} (f : Nat → Nat → α) (k j : Nat) (v : α) : up2 f k j v k = va_up (f k) j v := by funext b; simp [up2, va_up]
/-- field codes: 0 an int (or boolean), 1 a reference -/
def fcs : Nat → List Nat
  | 0 => [0, 0, 0, 0, 0]
  | 1 => [1, 0, 0, 0]
  | 2 => [0, 0, 0, 0, 0, 0]
  | 3 => [1, 0, 0, 0, 0, 0, 0, 0]
  | 4 => [0, 0, 0, 0, 0, 0, 0, 0, 0, 1, 1, 1, 1]
  | 5 => [1, 0]
  | 6 => [1, 1, 1, 1, 1, 1, 0, 0, 0, 1, 1, 1]
  | 7 => [1, 0]
  | 8 => [1, 0]
  | 9 => [1, 1, 1, 1, 0]
  | 10 => [1, 0, 0, 0, 0, 0, 1, 1, 1]
  | 11 => [1, 1, 1, 1, 1, 1, 1, 1, 1]
  | 12 => [1, 0, 0, 0, 0, 0, 0, 0, 0, 0, 1, 1, 1, 1, 1, 0, 1, 1, 1, 1, 1, 0, 0, 0, 0, 0, 1, 1, 1, 1, 1, 1, 0, 1, 1, 1, 1, 1, 1, 1, 1, 1, 1, 1, 1, 1, 0, 1, 1, 1, 1, 1, 0, 0, 1, 0]
  | _ => []
def fvl (ad : Nat → Nat) (h : Hp) (k c j : Nat) : Value := if c = 0 then .int (h.2.1 k j) else va_rf ((h.2.2.2 k j).map ad)
def fls (ad : Nat → Nat) (h : Hp) (k ci : Nat) : List Value := (fcs ci).mapIdx (fun j c => fvl ad h k c j)
def celE (cA : Nat → ClassId) (ad : Nat → Nat) (h : Hp) (k : Nat) : va_E := match h.1 k with
  | none => .inr (0, [])
  | some (kd, n) => if kd < 100 then .inr (kd, fls ad h k kd) else if kd < 103 then .inl (cA (kd - 100), n, .inl (h.2.1 k)) else if kd = 103 then .inl (cA 3, n, .inr (.inl (h.2.2.1 k))) else .inl (cA (kd - 100), n, .inr (.inr (.inr (.inr (fun j => (h.2.2.2 k j).map ad)))))
def wl (cA : Nat → ClassId) (ad : Nat → Nat) (h : Hp) (P : List Nat) : va_W := P.map (fun k => (ad k, celE cA ad h k))
def tysA (cA : Nat → ClassId) : List (ClassId × FieldType) := [(cA 0, .int), (cA 1, .byte), (cA 2, .boolean), (cA 3, .long), (cA 4, .object RX10), (cA 5, .object RX2), (cA 6, .object RX0)]
theorem wl_at {cA : Nat → ClassId} {ad : Nat → Nat} {h : Hp} {P : List Nat} {i k : Nat} (hi : P[i]? = some k) : (wl cA ad h P)[i]? = some (ad k, celE cA ad h k) := by
  unfold wl; rw [List.getElem?_map, hi]; rfl
theorem wl_inj {cA : Nat → ClassId} {ad : Nat → Nat} {h : Hp} {P : List Nat} {A : Nat → Prop} (hD : va_D A (wl cA ad h P)) {i j a b : Nat} (hi : P[i]? = some a) (hj : P[j]? = some b) (e : ad a = ad b) : i = j := hD.1 i j _ _ (wl_at hi) (wl_at hj) e
theorem wl_set {cA : Nat → ClassId} {ad : Nat → Nat} {h h' : Hp} {P : List Nat} {A : Nat → Prop} (hD : va_D A (wl cA ad h P)) {i k : Nat} (hi : P[i]? = some k) (ho : ∀ a, a ≠ k → celE cA ad h' a = celE cA ad h a) : (wl cA ad h P).set i (ad k, celE cA ad h' k) = wl cA ad h' P := by
  apply List.ext_getElem?
  intro j
  rw [List.getElem?_set]
  by_cases hij : i = j
  · subst hij
    have hlt : i < (wl cA ad h P).length := (List.getElem?_eq_some_iff.mp (wl_at (cA := cA) (ad := ad) (h := h) hi)).1
    rw [if_pos rfl, if_pos hlt, wl_at hi]
  · rw [if_neg hij]
    unfold wl
    rw [List.getElem?_map, List.getElem?_map]
    cases hj : P[j]? with
    | none => rfl
    | some a =>
      show some (ad a, celE cA ad h a) = some (ad a, celE cA ad h' a)
      rw [ho a (fun e => hij (wl_inj hD hi hj (by rw [e])))]
theorem celE_o {cA : Nat → ClassId} {ad : Nat → Nat} {h : Hp} {k ci n : Nat} (hk : h.1 k = some (ci, n)) (hc : ci < 100) : celE cA ad h k = .inr (ci, fls ad h k ci) := by
  unfold celE; rw [hk]; show (if ci < 100 then _ else _) = _; rw [if_pos hc]
theorem celE_i {cA : Nat → ClassId} {ad : Nat → Nat} {h : Hp} {k t n : Nat} (hk : h.1 k = some (100 + t, n)) (ht : t < 3) : celE cA ad h k = .inl (cA t, n, .inl (h.2.1 k)) := by
  unfold celE; rw [hk]; show (if 100 + t < 100 then _ else _) = _
  rw [if_neg (by omega), if_pos (by omega), show 100 + t - 100 = t by omega]
theorem celE_l {cA : Nat → ClassId} {ad : Nat → Nat} {h : Hp} {k n : Nat} (hk : h.1 k = some (100 + 3, n)) : celE cA ad h k = .inl (cA 3, n, .inr (.inl (h.2.2.1 k))) := by
  unfold celE; rw [hk]; rfl
theorem celE_r {cA : Nat → ClassId} {ad : Nat → Nat} {h : Hp} {k t n : Nat} (hk : h.1 k = some (100 + t, n)) (ht : 3 < t) : celE cA ad h k = .inl (cA t, n, .inr (.inr (.inr (.inr (fun j => (h.2.2.2 k j).map ad))))) := by
  unfold celE; rw [hk]; show (if 100 + t < 100 then _ else _) = _
  rw [if_neg (by omega), if_neg (by omega), if_neg (by omega), show 100 + t - 100 = t by omega]
theorem celE_same {cA : Nat → ClassId} {ad : Nat → Nat} {h h' : Hp} {k : Nat} (e1 : h'.1 k = h.1 k) (e2 : h'.2.1 k = h.2.1 k) (e3 : h'.2.2.1 k = h.2.2.1 k) (e4 : h'.2.2.2 k = h.2.2.2 k) : celE cA ad h' k = celE cA ad h k := by
  have hf : ∀ ci, fls ad h' k ci = fls ad h k ci := by
    intro ci
    unfold fls
    congr 1
    funext j c
    unfold fvl
    rw [e2, e4]
  unfold celE
  rw [e1]
  cases h.1 k with
  | none => rfl
  | some q =>
    obtain ⟨kd, n⟩ := q
    simp only [hf, e2, e3, e4]
theorem fls_len (ad : Nat → Nat) (h : Hp) (k ci : Nat) : (fls ad h k ci).length = (fcs ci).length := by unfold fls; rw [List.length_mapIdx]
theorem fls_at {ad : Nat → Nat} {h : Hp} {k ci j c : Nat} (hj : (fcs ci)[j]? = some c) : (fls ad h k ci)[j]? = some (fvl ad h k c j) := by
  unfold fls; rw [List.getElem?_mapIdx, hj]; rfl
theorem fls_set {ad : Nat → Nat} {h h' : Hp} {k ci j c : Nat} {v : Value} (hj : (fcs ci)[j]? = some c) (hv : fvl ad h' k c j = v) (ho : ∀ i d, i ≠ j → fvl ad h' k d i = fvl ad h k d i) : (fls ad h k ci).set j v = fls ad h' k ci := by
  apply List.ext_getElem?
  intro i
  rw [List.getElem?_set]
  by_cases hij : j = i
  · subst hij
    have hlt : j < (fls ad h k ci).length := (List.getElem?_eq_some_iff.mp (fls_at (ad := ad) (h := h) (k := k) hj)).1
    rw [if_pos rfl, if_pos hlt, fls_at hj, hv]
  · rw [if_neg hij]
    unfold fls
    rw [List.getElem?_mapIdx, List.getElem?_mapIdx]
    cases (fcs ci)[i]? with
    | none => rfl
    | some d => exact congrArg some (ho i d (fun e => hij e.symm)).symm
