def newV (V : Vk) (k : Nat) (q : Nat × Nat) : Vk := fun a => if a = k then some q else V a
def newG (g : Hq) (k : Nat) : Hq := (upr g.1 k (fun _ => 0), upr g.2.1 k (fun _ => 0), upr g.2.2 k (fun _ => none))
def frK (V : Vk) (g : Hq) (k : Nat) : Prop := V k = none ∧ ∀ a j, g.2.2 a j ≠ some k
def Ag (V0 : Vk) (ad0 : Nat → Nat) (V : Vk) (ad : Nat → Nat) : Prop := ∀ a, V0 a ≠ none → V a ≠ none ∧ ad a = ad0 a
def dfv (c : Nat) : Value := if c = 0 then .int 0 else .null
def bna {α γ : Type} (o : Option (α × Vk × Hq)) (f : α → Vk → Hq → Option γ) : Option γ := o.bind (fun q => f q.1 q.2.1 q.2.2)
theorem of_bna {α γ : Type} {o : Option (α × Vk × Hq)} {f : α → Vk → Hq → Option γ} {z : γ} (h : bna o f = some z) : ∃ a V g, o = some (a, V, g) ∧ f a V g = some z := by
  obtain ⟨q, h1, h2⟩ := of_bnd h
  exact ⟨q.1, q.2.1, q.2.2, h1, h2⟩
theorem Ag.rf {V : Vk} {ad : Nat → Nat} : Ag V ad V ad := fun _ h => ⟨h, rfl⟩
theorem Ag.new {V0 V : Vk} {ad0 ad ad' : Nat → Nat} {k : Nat} {q : Nat × Nat} (h : Ag V0 ad0 V ad) (hk : V k = none) (he : ∀ a, a ≠ k → ad' a = ad a) : Ag V0 ad0 (newV V k q) ad' := by
  intro a ha
  obtain ⟨h1, h2⟩ := h a ha
  have hne : a ≠ k := fun e => h1 (e ▸ hk)
  exact ⟨by unfold newV; rw [if_neg hne]; exact h1, (he a hne).trans h2⟩
theorem Ag.tr {V0 V V1 : Vk} {ad0 ad ad1 : Nat → Nat} (h : Ag V0 ad0 V ad) (h1 : Ag V ad V1 ad1) : Ag V0 ad0 V1 ad1 := fun a ha => ⟨(h1 a (h a ha).1).1, (h1 a (h a ha).1).2.trans (h a ha).2⟩
theorem celE_ad {cA : Nat → ClassId} {ad ad' : Nat → Nat} {h : Hp} {k : Nat} (e : ∀ j r, h.2.2.2 k j = some r → ad' r = ad r) : celE cA ad' h k = celE cA ad h k := by
  have hm : ∀ j, (h.2.2.2 k j).map ad' = (h.2.2.2 k j).map ad := by
    intro j
    cases hj : h.2.2.2 k j with
    | none => rfl
    | some r => show some (ad' r) = some (ad r); rw [e j r hj]
  have hf : ∀ ci, fls ad' h k ci = fls ad h k ci := by
    intro ci
    unfold fls
    congr 1
    funext j c
    unfold fvl
    rw [hm]
  unfold celE
  cases h.1 k with
  | none => rfl
  | some q =>
    obtain ⟨kd, n⟩ := q
    simp only [hf, hm]
theorem fls_new (ad : Nat → Nat) (V : Vk) (g : Hq) (k ci : Nat) : fls ad (V, newG g k) k ci = (fcs ci).map dfv := by
  apply List.ext_getElem?
  intro j
  unfold fls
  rw [List.getElem?_mapIdx, List.getElem?_map]
  cases (fcs ci)[j]? with
  | none => rfl
  | some c =>
    show some (fvl ad (V, newG g k) k c j) = some (dfv c)
    unfold fvl dfv newG upr
    by_cases hc : c = 0
    · simp [hc]
    · simp [hc, va_rf]
section HW
variable {p : Program} {l : Launch} {e : Env} {R : Room} {s : State} {m : MethodId} {args : Array Value} {below : List Frame} {meth : Method} {c : Code} {H : Heap} {locs : List Loc} {cells slots : Nat} {Q : State → Prop} {cc : ByteArray} {pc : Nat} {ls : Array Slot} {rest : List Value} {nL : Nat} {own : String} {D : va_G} {cA : Nat → ClassId} {sk : (Nat → Nat) × (Nat → Nat)} {ad : Nat → Nat} {V : Vk} {g : Hq} {A : Nat → Prop}
theorem Dy.new {H1 : Heap} {P : List Nat} {k q : Nat} {κ : Nat × Nat} {E : va_E} (hm : ∀ k, k ∈ P ↔ V k ≠ none) (fr : frK V g k) (hE : celE cA (va_up ad k q) (newV V k κ, newG g k) k = E) (hP : va_P D vwCl (wl cA ad (V, g) P ++ [(q, E)]) H1) (hD : va_D A (wl cA ad (V, g) P ++ [(q, E)])) (hS : va_S A s.heap H1 locs) : Dy D cA (va_up ad k q) (newV V k κ, newG g k) A s.heap H1 locs := by
  have hw : wl cA (va_up ad k q) (newV V k κ, newG g k) (P ++ [k]) = wl cA ad (V, g) P ++ [(q, E)] := by
    unfold wl
    rw [List.map_append]
    congr 1
    · apply List.map_congr_left
      intro a ha
      have hne : a ≠ k := fun e => (hm a).mp ha (e ▸ fr.1)
      have h1 : va_up ad k q a = ad a := by simp [va_up, hne]
      have h2 : celE cA (va_up ad k q) (newV V k κ, newG g k) a = celE cA (va_up ad k q) (V, g) a := celE_same (by show newV V k κ a = V a; unfold newV; rw [if_neg hne]) (by show upr g.1 k _ a = g.1 a; simp [upr, hne]) (by show upr g.2.1 k _ a = g.2.1 a; simp [upr, hne]) (by show upr g.2.2 k _ a = g.2.2 a; simp [upr, hne])
      have h3 : celE cA (va_up ad k q) (V, g) a = celE cA ad (V, g) a := celE_ad (fun j r hr => by have hrk : r ≠ k := fun e => fr.2 a j (e ▸ hr); simp [va_up, hrk])
      show (va_up ad k q a, _) = (ad a, _)
      rw [h1, h2, h3]
    · show [(va_up ad k q k, _)] = _
      rw [hE]
      simp [va_up]
  refine ⟨⟨P ++ [k], ?_, by rw [hw]; exact hP, by rw [hw]; exact hD⟩, hS⟩
  intro a
  show a ∈ P ++ [k] ↔ newV V k κ a ≠ none
  unfold newV
  by_cases e : a = k
  · simp [e]
  · rw [if_neg e]; simp [e, hm a]
def ND (ci N : Nat) (C : String) (T : u_T) : Prop := (∀ w ∈ u_ws C T N, w ∈ gw_tbl) ∧ (∃ ty : Nat → FieldType, (∀ k, k < N → parseFieldDescriptor (T k).2.2.1 = some (ty k)) ∧ ∀ j, j < N → defaultValue (ty j) = vp_V ((fcs ci).map dfv) j) ∧ Cond.instantiable C N ∈ gw_tbl ∧ Cond.initialized C ∈ gw_tbl ∧ vwCl[ci]? = some (C, T, N) ∧ ci < 100
theorem h_new (cx : CallFix p m c cc nL s args gw_tbl own) (fx : Fx D cA sk A s) (dy : Dy D cA ad (V, g) A s.heap H locs) {k ci N idx : Nat} {C : String} {T : u_T} (fr : frK V g k) (nd : ND ci N C T) (hcl : Cond.classLink own idx C ∈ gw_tbl) (hcells : cells + 1 ≤ R.cells) (hslots : slots + N ≤ R.slots) (hdg : decode cc pc = .ok (.new idx, 3))
    (kk : ∀ (ad' : Nat → Nat) (H1 : Heap), (∀ a, a ≠ k → ad' a = ad a) → Dy D cA ad' (newV V k (ci, 0), newG g k) A s.heap H1 locs → W p l e R s m args below meth c H1 locs (cells + 1) (slots + N) Q (F0 m (pc + 3) ls (.ref (ad' k) :: rest))) : W p l e R s m args below meth c H locs cells slots Q (F0 m pc ls rest) := by
  obtain ⟨hx, hb, hml, hown, hts⟩ := cx
  obtain ⟨n1, ⟨ty, n2, n3⟩, n4, n5, n6, n7⟩ := nd
  obtain ⟨⟨P, hm, hP, hD⟩, hS⟩ := dy
  refine va_new hx hb hts n1 ty n2 hown (hts _ hcl) (hts _ n4) (hts _ n5) fx.1 hP hD hS fx.2.2.2 n6 n3 hcells hslots hdg (fun q H1 hP1 hD1 hS1 => ?_)
  have h1 := kk (va_up ad k q) H1 (fun a ha => by simp [va_up, ha]) (Dy.new (κ := (ci, 0)) hm fr (by rw [celE_o (n := 0) (h := (newV V k (ci, 0), newG g k)) (by show newV V k (ci, 0) k = _; simp [newV]) n7, fls_new]) hP1 hD1 hS1)
  have e1 : va_up ad k q k = q := by simp [va_up]
  rw [e1] at h1
  exact h1
theorem h_newa (cx : CallFix p m c cc nL s args gw_tbl own) (fx : Fx D cA sk A s) (dy : Dy D cA ad (V, g) A s.heap H locs) {k t N : Nat} {n : Int32} {at0 : ArrayType} {ty : FieldType} (fr : frK V g k) (ht : t < 3) (hty : newarray.typeOf at0 = ty) (htt : (tysA cA)[t]? = some (cA t, ty)) (hobj : ∀ U cA, va_RA U cA ty → U.vm.findClass ("[" ++ ty.toString) = some cA) (hdf : defaultValue ty = .int 0) (harr : Cond.arrayClass ty ∈ gw_tbl) (hn : ¬ n < 0) (hN : n.toNatClampNeg = N) (hbytes : N * componentBytes ty ≤ 536870912) (hcells : cells + 1 ≤ R.cells) (hslots : slots + N ≤ R.slots) (hdg : decode cc pc = .ok (.newarray at0, 2))
    (kk : ∀ (ad' : Nat → Nat) (H1 : Heap), (∀ a, a ≠ k → ad' a = ad a) → Dy D cA ad' (newV V k (100 + t, N), newG g k) A s.heap H1 locs → W p l e R s m args below meth c H1 locs (cells + 1) (slots + N) Q (F0 m (pc + 2) ls (.ref (ad' k) :: rest))) : W p l e R s m args below meth c H locs cells slots Q (F0 m pc ls (.int n :: rest)) := by
  obtain ⟨hx, hb, hml, hown, hts⟩ := cx
  obtain ⟨⟨P, hm, hP, hD⟩, hS⟩ := dy
  subst hty
  refine va_newa hx hb (hts _ harr) rfl fx.1 hP hD hS fx.2.2.2 (a0 := (N, .inl (fun _ => 0))) (fun c1 => by rw [vp_cell_i, hdf]) hn hN hbytes hcells hslots hdg (fun q c1 H1 hK1 hP1 hD1 hS1 => ?_)
  have e0 : c1 = cA t := by
    have r1 := hobj _ _ (hK1.2 7 (c1, newarray.typeOf at0) rfl).2
    have r2 := hobj _ _ (fx.1.2 t _ htt).2
    exact Option.some.inj (r1.symm.trans r2)
  subst e0
  have h1 := kk (va_up ad k q) H1 (fun a ha => by simp [va_up, ha]) (Dy.new (κ := (100 + t, N)) hm fr (by rw [celE_i (t := t) (n := N) (h := (newV V k (100 + t, N), newG g k)) (by show newV V k _ k = _; simp [newV]) ht]; show Sum.inl (cA t, N, Sum.inl (upr g.1 k (fun _ => 0) k)) = _; simp [upr]) hP1 hD1 hS1)
  have e1 : va_up ad k q k = q := by simp [va_up]
  rw [e1] at h1
  exact h1
theorem h_newl (cx : CallFix p m c cc nL s args gw_tbl own) (fx : Fx D cA sk A s) (dy : Dy D cA ad (V, g) A s.heap H locs) {k N : Nat} {n : Int32} {at0 : ArrayType} (fr : frK V g k) (hty : newarray.typeOf at0 = .long) (harr : Cond.arrayClass .long ∈ gw_tbl) (hn : ¬ n < 0) (hN : n.toNatClampNeg = N) (hbytes : N * componentBytes .long ≤ 536870912) (hcells : cells + 1 ≤ R.cells) (hslots : slots + N ≤ R.slots) (hdg : decode cc pc = .ok (.newarray at0, 2))
    (kk : ∀ (ad' : Nat → Nat) (H1 : Heap), (∀ a, a ≠ k → ad' a = ad a) → Dy D cA ad' (newV V k (100 + 3, N), newG g k) A s.heap H1 locs → W p l e R s m args below meth c H1 locs (cells + 1) (slots + N) Q (F0 m (pc + 2) ls (.ref (ad' k) :: rest))) : W p l e R s m args below meth c H locs cells slots Q (F0 m pc ls (.int n :: rest)) := by
  obtain ⟨hx, hb, hml, hown, hts⟩ := cx
  obtain ⟨⟨P, hm, hP, hD⟩, hS⟩ := dy
  refine va_newa hx hb (by rw [hty]; exact hts _ harr) hty fx.1 hP hD hS fx.2.2.2 (a0 := (N, .inr (.inl (fun _ => 0)))) (fun c1 => by rw [vp_cell_l]; rfl) hn hN hbytes hcells hslots hdg (fun q c1 H1 hK1 hP1 hD1 hS1 => ?_)
  have e0 : c1 = cA 3 := by
    have r1 : s.vm.findClass ("[" ++ FieldType.long.toString) = some c1 := (hK1.2 7 (c1, .long) rfl).2
    have r2 : s.vm.findClass ("[" ++ FieldType.long.toString) = some (cA 3) := (fx.1.2 3 _ rfl).2
    exact Option.some.inj (r1.symm.trans r2)
  subst e0
  have h1 := kk (va_up ad k q) H1 (fun a ha => by simp [va_up, ha]) (Dy.new (κ := (100 + 3, N)) hm fr (by rw [celE_l (n := N) (h := (newV V k (100 + 3, N), newG g k)) (by show newV V k _ k = _; simp [newV])]; show Sum.inl (cA 3, N, Sum.inr (Sum.inl (upr g.2.1 k (fun _ => 0) k))) = _; simp [upr]) hP1 hD1 hS1)
  have e1 : va_up ad k q k = q := by simp [va_up]
  rw [e1] at h1
  exact h1
theorem h_newq (cx : CallFix p m c cc nL s args gw_tbl own) (fx : Fx D cA sk A s) (dy : Dy D cA ad (V, g) A s.heap H locs) {k t N idx : Nat} {n : Int32} {C : String} (fr : frK V g k) (ht : 3 < t) (htt : (tysA cA)[t]? = some (cA t, .object C)) (hcl : Cond.classLink own idx C ∈ gw_tbl) (hov : Cond.arrayOver (.object C) ∈ lw_tbl) (hn : ¬ n < 0) (hN : n.toNatClampNeg = N) (hbytes : N * 4 ≤ 536870912) (hcells : cells + 1 ≤ R.cells) (hslots : slots + N ≤ R.slots) (hdg : decode cc pc = .ok (.anewarray idx, 3))
    (kk : ∀ (ad' : Nat → Nat) (H1 : Heap), (∀ a, a ≠ k → ad' a = ad a) → Dy D cA ad' (newV V k (100 + t, N), newG g k) A s.heap H1 locs → W p l e R s m args below meth c H1 locs (cells + 1) (slots + N) Q (F0 m (pc + 3) ls (.ref (ad' k) :: rest))) : W p l e R s m args below meth c H locs cells slots Q (F0 m pc ls (.int n :: rest)) := by
  obtain ⟨hx, hb, hml, hown, hts⟩ := cx
  obtain ⟨⟨P, hm, hP, hD⟩, hS⟩ := dy
  refine va_newq hx hb hown (hts _ hcl) (fx.2.1 _ hov rfl) fx.1 hP hD hS fx.2.2.2 hn hN hbytes hcells hslots hdg (fun q c1 H1 hK1 hP1 hD1 hS1 => ?_)
  have e0 : c1 = cA t := by
    obtain ⟨-, -, -, -, -, r1⟩ := (hK1.2 7 (c1, .object C) rfl).2
    obtain ⟨-, -, -, -, -, r2⟩ := (fx.1.2 t _ htt).2
    exact Option.some.inj (r1.symm.trans r2)
  subst e0
  have h1 := kk (va_up ad k q) H1 (fun a ha => by simp [va_up, ha]) (Dy.new (κ := (100 + t, N)) hm fr (by rw [celE_r (t := t) (n := N) (h := (newV V k (100 + t, N), newG g k)) (by show newV V k _ k = _; simp [newV]) ht]; show Sum.inl (cA t, N, Sum.inr (Sum.inr (Sum.inr (Sum.inr (fun j => (upr g.2.2 k (fun _ => none) k j).map _))))) = _; simp [upr]) hP1 hD1 hS1)
  have e1 : va_up ad k q k = q := by simp [va_up]
  rw [e1] at h1
  exact h1
def QVa (D : va_G) (cA : Nat → ClassId) (A : Nat → Prop) (V0 : Vk) (ad0 : Nat → Nat) (V : Vk) (g : Hq) : Array Value → State → Outcome → State → Prop := va_Qv (fun ad' : Nat → Nat => Ag V0 ad0 V ad') (fun ad' t => Wp D cA ad' (V, g) A t.heap) A
def QIa (D : va_G) (cA : Nat → ClassId) (A : Nat → Prop) (V0 : Vk) (ad0 : Nat → Nat) (r : Int32) (V : Vk) (g : Hq) : Array Value → State → Outcome → State → Prop := va_Qi (fun r' (ad' : Nat → Nat) => r' = r ∧ Ag V0 ad0 V ad') (fun ad' t => Wp D cA ad' (V, g) A t.heap) A
theorem h_vretA (cx : CallFix p m c cc nL s args gw_tbl own) (dy : Dy D cA ad (V, g) A s.heap H locs) {V0 V1 : Vk} {ad0 : Nat → Nat} {g0 : Hq} (hag : Ag V0 ad0 V ad) (hlocks : meth.locks = false) (hr : meth.sig.returnType = none) (e0 : V = V1) (e1 : g = g0) (hdg : decode cc pc = .ok (.return_, 1)) : W p l e R s m args below meth c H locs cells slots (MQ below (QVa D cA A V0 ad0 V1 g0) args s cells slots A) (F0 m pc ls []) := by
  subst e0; subst e1
  obtain ⟨hx, hb, hml, hown, hts⟩ := cx
  exact W.vret hx hb hr (fun t ht hW => ⟨⟨ad, rfl, hag, by show Wp D cA ad (V, g) A t.heap; rw [ht]; exact dy.1⟩, dy.2.F ht⟩) dy.2.2.2 hdg
theorem h_iretA (cx : CallFix p m c cc nL s args gw_tbl own) (dy : Dy D cA ad (V, g) A s.heap H locs) {r r0 : Int32} {V0 V1 : Vk} {ad0 : Nat → Nat} {g0 : Hq} {ty : FieldType} (hag : Ag V0 ad0 V ad) (hlocks : meth.locks = false) (hr : meth.sig.returnType = some ty) (hn : narrow ty (.int r) = .int r) (e2 : r = r0) (e0 : V = V1) (e1 : g = g0) (hdg : decode cc pc = .ok (.ireturn, 1)) : W p l e R s m args below meth c H locs cells slots (MQ below (QIa D cA A V0 ad0 r0 V1 g0) args s cells slots A) (F0 m pc ls [.int r]) := by
  subst e0; subst e1; subst e2
  obtain ⟨hx, hb, hml, hown, hts⟩ := cx
  exact W.zret hx hb hr hn (fun t ht hW => ⟨⟨r, ad, rfl, ⟨rfl, hag⟩, by show Wp D cA ad (V, g) A t.heap; rw [ht]; exact dy.1⟩, dy.2.F ht⟩) dy.2.2.2 hdg
theorem r_va {V1 : Vk} {g1 : Hq} {mc ms : Nat} {a : Array Value} {st : List Value} (dy : Dy D cA ad (V, g) A s.heap H locs) (hr : va_Run p l e R s m args below meth c H locs cells slots mc ms (F0 m pc ls st) rest (QVa D cA A V ad V1 g1 a) A)
    (kk : ∀ (ad' : Nat → Nat) (H1 : Heap) (locs1 : List Loc), Ag V ad V1 ad' → Dy D cA ad' (V1, g1) A s.heap H1 locs1 → W p l e R s m args below meth c H1 locs1 (cells + mc) (slots + ms) Q (F0 m (pc + 3) ls rest)) : W p l e R s m args below meth c H locs cells slots Q (F0 m pc ls st) := by
  refine va_callv hr dy.2 (fun q _ h => h) (fun q h => h) (fun ad' t H1 locs1 ht hvm hw hB hz hk hS => ?_)
  have hB : Wp D cA ad' (V1, g1) A t.heap := hB
  rw [ht] at hB
  exact kk ad' H1 locs1 hw ⟨hB, hS⟩
theorem r_ia {V1 : Vk} {g1 : Hq} {r : Int32} {mc ms : Nat} {a : Array Value} {st : List Value} (dy : Dy D cA ad (V, g) A s.heap H locs) (hr : va_Run p l e R s m args below meth c H locs cells slots mc ms (F0 m pc ls st) rest (QIa D cA A V ad r V1 g1 a) A)
    (kk : ∀ (ad' : Nat → Nat) (H1 : Heap) (locs1 : List Loc), Ag V ad V1 ad' → Dy D cA ad' (V1, g1) A s.heap H1 locs1 → W p l e R s m args below meth c H1 locs1 (cells + mc) (slots + ms) Q (F0 m (pc + 3) ls (.int r :: rest))) : W p l e R s m args below meth c H locs cells slots Q (F0 m pc ls st) := by
  refine va_calli hr dy.2 (fun q _ h => h) (fun q h => h) (fun r' ad' t H1 locs1 ht hvm hw hB hz hk hS => ?_)
  obtain ⟨rfl, hw⟩ := hw
  have hB : Wp D cA ad' (V1, g1) A t.heap := hB
  rw [ht] at hB
  exact kk ad' H1 locs1 hw ⟨hB, hS⟩
end HW
