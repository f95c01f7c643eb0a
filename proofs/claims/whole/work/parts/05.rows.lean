/-! ===== words, strings, what stays as it is within a method ===== -/
def isN : Cond → Bool
  | .fieldLinkNest _ _ _ _ _ _ => true
  | .methodLinkNest _ _ _ _ => true
  | .arrayOver (.object _) => true
  | _ => false
def gw_tbl : List Cond := lw_tbl.filter goodWord
theorem mg {w : Cond} (h : w ∈ lw_tbl) (hg : goodWord w = true) : w ∈ gw_tbl := List.mem_filter.mpr ⟨h, hg⟩
theorem gw_good {w : Cond} (h : w ∈ gw_tbl) : w ∈ gw_tbl ∧ ((w.onTables && w.keeps) = true ∨ ∃ ty, w = .arrayClass ty) := ⟨h, good_of_word (List.mem_filter.mp h).2⟩
def sT : List (String × Nat × String) := [("WardWatch$LawReader", 52, "age"), ("WardWatch$LawReader", 72, "leave"), ("WardWatch$LawReader", 76, "fine"), ("WardWatch$LawReader", 80, "hire"), ("WardWatch$LawReader", 84, "power"), ("WardWatch$LawReader", 126, "stop"), ("WardWatch$LawReader", 127, "hold"), ("WardWatch$LawReader", 129, "enter"), ("WardWatch$LawReader", 114, "from"), ("WardWatch$LawReader", 120, "to"), ("WardWatch$LawReader", 131, "cry"), ("WardWatch$LawReader", 89, "follow"), ("WardWatch$LawReader", 101, "lockup"), ("WardWatchModel", 144, "age leave fine hire power follow lockup from to cry stop hold enter ")]
def lenS : List Nat := [3, 5, 4, 4, 5, 4, 4, 5, 4, 2, 3, 6, 6, 68]
def bytS : List (List Int32) := [[97, 103, 101], [108, 101, 97, 118, 101], [102, 105, 110, 101], [104, 105, 114, 101], [112, 111, 119, 101, 114], [115, 116, 111, 112], [104, 111, 108, 100], [101, 110, 116, 101, 114], [102, 114, 111, 109], [116, 111], [99, 114, 121], [102, 111, 108, 108, 111, 119], [108, 111, 99, 107, 117, 112], [97, 103, 101, 32, 108, 101, 97, 118, 101, 32, 102, 105, 110, 101, 32, 104, 105, 114, 101, 32, 112, 111, 119, 101, 114, 32, 102, 111, 108, 108, 111, 119, 32, 108, 111, 99, 107, 117, 112, 32, 102, 114, 111, 109, 32, 116, 111, 32, 99, 114, 121, 32, 115, 116, 111, 112, 32, 104, 111, 108, 100, 32, 101, 110, 116, 101, 114, 32]]
def NW (s : State) : Prop := ∀ w, w ∈ lw_tbl → isN w = true → va_Nw w s
def Zs (sk : (Nat → Nat) × (Nat → Nat)) (A : Nat → Prop) (s : State) : Prop := vk_S 14 lenS bytS sk.1 sk.2 A s s.heap ∧ (∀ i q, sT[i]? = some q → vk_R q.1 q.2.1 q.2.2 (sk.1 i) s) ∧ va_Z "java/lang/String" "COMPACT_STRINGS" "Z" (.int 1) A s s.heap ∧ ∃ fz : Option Nat, va_Z "jdk/internal/util/Preconditions" "SIOOBE_FORMATTER" "Ljava/util/function/BiFunction;" (va_rf fz) A s s.heap
def Fx (D : va_G) (cA : Nat → ClassId) (sk : (Nat → Nat) × (Nat → Nat)) (A : Nat → Prop) (s : State) : Prop := va_K D vwCl (tysA cA) s ∧ NW s ∧ Zs sk A s ∧ ∀ q, s.heap.size ≤ q → A q
def Wp (D : va_G) (cA : Nat → ClassId) (ad : Nat → Nat) (h : Hp) (A : Nat → Prop) (H : Heap) : Prop := ∃ P : List Nat, (∀ k, k ∈ P ↔ h.1 k ≠ none) ∧ va_P D vwCl (wl cA ad h P) H ∧ va_D A (wl cA ad h P)
def Dy (D : va_G) (cA : Nat → ClassId) (ad : Nat → Nat) (h : Hp) (A : Nat → Prop) (H0 H : Heap) (locs : List Loc) : Prop := Wp D cA ad h A H ∧ va_S A H0 H locs
abbrev Pre (D : va_G) (cA : Nat → ClassId) (sk : (Nat → Nat) × (Nat → Nat)) (ad : Nat → Nat) (h : Hp) (A : Nat → Prop) (av : List Value) : Array Value → State → Prop := va_Pc av (fun U => Fx D cA sk A U ∧ Wp D cA ad h A U.heap)
theorem NW.warm {s U : State} (hW : s.WarmedH U.vm) (h : NW s) : NW U := by
  intro w h1 h2
  have h3 := h w h1 h2
  cases w with
  | fieldLinkNest a b c d e f => exact va_Nw.warmF hW h3
  | methodLinkNest a b c d => exact va_Nw.warmM hW h3
  | arrayOver ty =>
    cases ty with
    | object C => exact va_AO.moved hW.alike h3
    | _ => cases h2
  | _ => cases h2
theorem NW.same {s U : State} (hv : s.vm = U.vm) (h : NW s) : NW U := by
  intro w h1 h2
  have h3 := h w h1 h2
  cases w with
  | fieldLinkNest a b c d e f => exact va_Nw.same rfl hv h3
  | methodLinkNest a b c d => exact va_Nw.same rfl hv h3
  | arrayOver ty =>
    cases ty with
    | object C => exact va_AO.moved (by rw [hv]; exact Vm.Alike.refl _) h3
    | _ => cases h2
  | _ => cases h2
theorem Fx.calling {D : va_G} {cA : Nat → ClassId} {sk : (Nat → Nat) × (Nat → Nat)} {A : Nat → Prop} {U : State} {g : JFrame} {mk : MethodId} {a : Array Value} (h : Fx D cA sk A U) : Fx D cA sk A (U.calling g mk a) := by
  obtain ⟨h1, h2, ⟨h3, h4, h5, fz, h7⟩, h6⟩ := h
  exact ⟨va_K.moved (u := U) (U := U.calling g mk a) (Vm.Alike.refl U.vm) h1, NW.same (s := U) rfl h2, ⟨vk_S.moved (u := U) (U := U.calling g mk a) (Vm.Alike.refl U.vm) h3, fun i q hq => vk_R.same (u := U) rfl (h4 i q hq), va_Z.moved (u := U) (U := U.calling g mk a) (Vm.Alike.refl U.vm) h5, fz, va_Z.moved (u := U) (U := U.calling g mk a) (Vm.Alike.refl U.vm) h7⟩, h6⟩
theorem Fx.call {D : va_G} {cA : Nat → ClassId} {sk : (Nat → Nat) × (Nat → Nat)} {A : Nat → Prop} {s U : State} {H : Heap} {locs : List Loc} (h : Fx D cA sk A s) (hS : va_S A s.heap H locs) (hU : U.heap = H) (hW : s.WarmedH U.vm) : Fx D cA sk A U := by
  obtain ⟨h1, h2, ⟨h3, h4, h5, fz, h7⟩, h6⟩ := h
  refine ⟨va_K.moved hW.alike h1, h2.warm hW, ⟨?_, fun i q hq => vk_R.warm hW (h4 i q hq), ?_, fz, ?_⟩, fun q hq => h6 q (Nat.le_trans hS.1 (by rw [← hU]; exact hq))⟩
  · rw [hU]; exact (vk_S.moved hW.alike h3).kept hS.2.1
  · rw [hU]; exact (va_Z.moved hW.alike h5).kept hS.2.1
  · rw [hU]; exact (va_Z.moved hW.alike h7).kept hS.2.1
theorem pre_blind {D : va_G} {cA : Nat → ClassId} {sk : (Nat → Nat) × (Nat → Nat)} {ad : Nat → Nat} {h : Hp} {A : Nat → Prop} {av : List Value} : FrameBlind (Pre D cA sk ad h A av) := by
  rintro a U g mk ⟨q0, q1, q2⟩
  exact ⟨q0, q1.calling, q2⟩
theorem pre_at {D : va_G} {cA : Nat → ClassId} {sk : (Nat → Nat) × (Nat → Nat)} {ad : Nat → Nat} {h : Hp} {A : Nat → Prop} {av : List Value} {s : State} {H : Heap} {locs : List Loc} (fx : Fx D cA sk A s) (dy : Dy D cA ad h A s.heap H locs) : ∀ U : State, U.heap = H → s.WarmedH U.vm → Pre D cA sk ad h A av av.toArray U := fun U hU hW => ⟨rfl, fx.call dy.2 hU hW, by rw [hU]; exact dy.1⟩
theorem Wp.at {D : va_G} {cA : Nat → ClassId} {ad : Nat → Nat} {h : Hp} {A : Nat → Prop} {H : Heap} (w : Wp D cA ad h A H) {k : Nat} {q : Nat × Nat} (hk : h.1 k = some q) : ∃ (P : List Nat) (i : Nat), P[i]? = some k ∧ va_P D vwCl (wl cA ad h P) H ∧ va_D A (wl cA ad h P) ∧ ∀ k, k ∈ P ↔ h.1 k ≠ none := by
  obtain ⟨P, h1, h2, h3⟩ := w
  obtain ⟨i, hi⟩ := List.getElem?_of_mem ((h1 k).mpr (by rw [hk]; simp))
  exact ⟨P, i, hi, h2, h3, h1⟩
/-- a class's field: class ci, slot j, its code -/
def FD (ci j : Nat) (C : String) (T : u_T) (N c : Nat) (ref nme desc : String) : Prop := (∀ w ∈ u_ws C T N, w ∈ gw_tbl) ∧ vwCl[ci]? = some (C, T, N) ∧ (fcs ci)[j]? = some c ∧ j < N ∧ ci < 100 ∧ (T j).1 = ref ∧ (T j).2.1 = nme ∧ (T j).2.2.1 = desc
def PD (ci j : Nat) (C : String) (T : u_T) (N : Nat) (ty : FieldType) : Prop := ∃ ty0 : Nat → FieldType, (∀ k, k < N → parseFieldDescriptor (T k).2.2.1 = some (ty0 k)) ∧ (∀ a, a < N → ∀ b, b < N → a ≠ b → (T a).2.1 ≠ (T b).2.1) ∧ parseFieldDescriptor (T j).2.2.1 = some ty ∧ j < (fcs ci).length
