section HR
variable {p : Program} {l : Launch} {e : Env} {R : Room} {s : State} {m : MethodId} {args : Array Value} {below : List Frame} {meth : Method} {c : Code} {H : Heap} {locs : List Loc} {cells slots : Nat} {Q : State → Prop} {cc : ByteArray} {pc : Nat} {ls : Array Slot} {rest : List Value} {nL : Nat} {own : String} {D : va_G} {cA : Nat → ClassId} {sk : (Nat → Nat) × (Nat → Nat)} {ad : Nat → Nat} {h : Hp} {A : Nat → Prop}
theorem h_getI (cx : CallFix p m c cc nL s args gw_tbl own) (fx : Fx D cA sk A s) (dy : Dy D cA ad h A s.heap H locs) {ci j N k idx n : Nat} {C ref nme desc : String} {T : u_T} (fd : FD ci j C T N 0 ref nme desc) (hk : h.1 k = some (ci, n)) (hl : Cond.fieldLink own idx ref nme desc ∈ gw_tbl) (hdg : decode cc pc = .ok (.getfield idx, 3))
    (kk : W p l e R s m args below meth c H locs cells slots Q (F0 m (pc + 3) ls (.int (h.2.1 k j) :: rest))) : W p l e R s m args below meth c H locs cells slots Q (F0 m pc ls (.ref (ad k) :: rest)) := by
  obtain ⟨hx, hb, hml, hown, hts⟩ := cx
  obtain ⟨f1, f2, f3, f4, f5, rfl, rfl, rfl⟩ := fd
  obtain ⟨P, i, hi, hP, hD, -⟩ := dy.1.at hk
  have he := wl_at (cA := cA) (ad := ad) (h := h) hi
  rw [celE_o hk f5] at he
  exact va_get hx hb hts f1 hown fx.1 hP i he f2 j f4 (hts _ hl) (fun _ h9 => h9) (v := .int (h.2.1 k j)) (fls_at f3) hdg kk
theorem h_getIN (cx : CallFix p m c cc nL s args gw_tbl own) (fx : Fx D cA sk A s) (dy : Dy D cA ad h A s.heap H locs) {ci j N k idx n : Nat} {C ref nme desc host : String} {T : u_T} (fd : FD ci j C T N 0 ref nme desc) (hk : h.1 k = some (ci, n)) (hl : Cond.fieldLinkNest own idx ref nme desc host ∈ lw_tbl) (hdg : decode cc pc = .ok (.getfield idx, 3))
    (kk : W p l e R s m args below meth c H locs cells slots Q (F0 m (pc + 3) ls (.int (h.2.1 k j) :: rest))) : W p l e R s m args below meth c H locs cells slots Q (F0 m pc ls (.ref (ad k) :: rest)) := by
  obtain ⟨hx, hb, hml, hown, hts⟩ := cx
  obtain ⟨f1, f2, f3, f4, f5, rfl, rfl, rfl⟩ := fd
  obtain ⟨P, i, hi, hP, hD, -⟩ := dy.1.at hk
  have he := wl_at (cA := cA) (ad := ad) (h := h) hi
  rw [celE_o hk f5] at he
  exact va_getN hx hb hts f1 hown fx.1 hP i he f2 j f4 (va_Nw.use rfl (fx.2.1 _ hl rfl)) (fun _ h9 => h9) (v := .int (h.2.1 k j)) (fls_at f3) hdg kk
theorem h_getR (cx : CallFix p m c cc nL s args gw_tbl own) (fx : Fx D cA sk A s) (dy : Dy D cA ad h A s.heap H locs) {ci j N k idx n r : Nat} {C ref nme desc : String} {T : u_T} (fd : FD ci j C T N 1 ref nme desc) (hk : h.1 k = some (ci, n)) (hl : Cond.fieldLink own idx ref nme desc ∈ gw_tbl) (hr : h.2.2.2 k j = some r) (hdg : decode cc pc = .ok (.getfield idx, 3))
    (kk : W p l e R s m args below meth c H locs cells slots Q (F0 m (pc + 3) ls (.ref (ad r) :: rest))) : W p l e R s m args below meth c H locs cells slots Q (F0 m pc ls (.ref (ad k) :: rest)) := by
  obtain ⟨hx, hb, hml, hown, hts⟩ := cx
  obtain ⟨f1, f2, f3, f4, f5, rfl, rfl, rfl⟩ := fd
  obtain ⟨P, i, hi, hP, hD, -⟩ := dy.1.at hk
  have he := wl_at (cA := cA) (ad := ad) (h := h) hi
  rw [celE_o hk f5] at he
  refine va_get hx hb hts f1 hown fx.1 hP i he f2 j f4 (hts _ hl) (fun _ h9 => h9) (v := .ref (ad r)) ?_ hdg kk
  rw [fls_at f3]
  unfold fvl
  rw [hr]
  rfl
theorem h_getRN (cx : CallFix p m c cc nL s args gw_tbl own) (fx : Fx D cA sk A s) (dy : Dy D cA ad h A s.heap H locs) {ci j N k idx n r : Nat} {C ref nme desc host : String} {T : u_T} (fd : FD ci j C T N 1 ref nme desc) (hk : h.1 k = some (ci, n)) (hl : Cond.fieldLinkNest own idx ref nme desc host ∈ lw_tbl) (hr : h.2.2.2 k j = some r) (hdg : decode cc pc = .ok (.getfield idx, 3))
    (kk : W p l e R s m args below meth c H locs cells slots Q (F0 m (pc + 3) ls (.ref (ad r) :: rest))) : W p l e R s m args below meth c H locs cells slots Q (F0 m pc ls (.ref (ad k) :: rest)) := by
  obtain ⟨hx, hb, hml, hown, hts⟩ := cx
  obtain ⟨f1, f2, f3, f4, f5, rfl, rfl, rfl⟩ := fd
  obtain ⟨P, i, hi, hP, hD, -⟩ := dy.1.at hk
  have he := wl_at (cA := cA) (ad := ad) (h := h) hi
  rw [celE_o hk f5] at he
  refine va_getN hx hb hts f1 hown fx.1 hP i he f2 j f4 (va_Nw.use rfl (fx.2.1 _ hl rfl)) (fun _ h9 => h9) (v := .ref (ad r)) ?_ hdg kk
  rw [fls_at f3]
  unfold fvl
  rw [hr]
  rfl
/-- one cell of the world gets new contents -/
theorem Dy.upd {h' : Hp} {H1 : Heap} {locs1 : List Loc} {P : List Nat} {i k : Nat} (hm : ∀ k, k ∈ P ↔ h.1 k ≠ none) (hi : P[i]? = some k) (hD0 : va_D A (wl cA ad h P)) (hv : h'.1 = h.1) (ho : ∀ a, a ≠ k → celE cA ad h' a = celE cA ad h a) {E : va_E} (hE : celE cA ad h' k = E) (hP : va_P D vwCl ((wl cA ad h P).set i (ad k, E)) H1) (hD : va_D A ((wl cA ad h P).set i (ad k, E))) (hS : va_S A s.heap H1 locs1) : Dy D cA ad h' A s.heap H1 locs1 := by
  subst hE
  rw [wl_set hD0 hi ho] at hP hD
  exact ⟨⟨P, fun k => by rw [hv]; exact hm k, hP, hD⟩, hS⟩
theorem cel_setI (cA : Nat → ClassId) (ad : Nat → Nat) (h : Hp) (k j : Nat) (v : Int32) : ∀ a, a ≠ k → celE cA ad (setI h k j v) a = celE cA ad h a := fun a ha => celE_same rfl (up2_k ha) rfl rfl
theorem cel_setL (cA : Nat → ClassId) (ad : Nat → Nat) (h : Hp) (k j : Nat) (v : Int64) : ∀ a, a ≠ k → celE cA ad (setL h k j v) a = celE cA ad h a := fun a ha => celE_same rfl rfl (up2_k ha) rfl
theorem cel_setR (cA : Nat → ClassId) (ad : Nat → Nat) (h : Hp) (k j : Nat) (v : Option Nat) : ∀ a, a ≠ k → celE cA ad (setR h k j v) a = celE cA ad h a := fun a ha => celE_same rfl rfl rfl (up2_k ha)
theorem fls_setI {ci j k : Nat} {v : Int32} (hj : (fcs ci)[j]? = some 0) : (fls ad h k ci).set j (.int v) = fls ad (setI h k j v) k ci := by
  refine fls_set hj ?_ ?_
  · show Value.int (up2 h.2.1 k j v k j) = _
    rw [up2_s]
  · intro i d hne
    show (if d = 0 then Value.int (up2 h.2.1 k j v k i) else _) = (if d = 0 then _ else _)
    have e : up2 h.2.1 k j v k i = h.2.1 k i := by simp [up2, hne]
    rw [e]
    rfl
theorem fls_setR {ci j k : Nat} {v : Option Nat} (hj : (fcs ci)[j]? = some 1) : (fls ad h k ci).set j (va_rf (v.map ad)) = fls ad (setR h k j v) k ci := by
  refine fls_set hj ?_ ?_
  · show va_rf ((up2 h.2.2.2 k j v k j).map ad) = _
    rw [up2_s]
  · intro i d hne
    show (if d = 0 then _ else va_rf ((up2 h.2.2.2 k j v k i).map ad)) = (if d = 0 then _ else _)
    have e : up2 h.2.2.2 k j v k i = h.2.2.2 k i := by simp [up2, hne]
    rw [e]
    rfl
theorem h_putI (cx : CallFix p m c cc nL s args gw_tbl own) (fx : Fx D cA sk A s) (dy : Dy D cA ad h A s.heap H locs) {ci j N k idx n : Nat} {C ref nme desc : String} {T : u_T} {ty : FieldType} {x : Int32} (fd : FD ci j C T N 0 ref nme desc) (pd : PD ci j C T N ty) (hfin : (T j).2.2.2 = false) (hn : narrow ty (.int x) = .int x) (hfit : fits ty (.int x) = true) (hk : h.1 k = some (ci, n)) (hl : Cond.fieldLink own idx ref nme desc ∈ gw_tbl) (hdg : decode cc pc = .ok (.putfield idx, 3))
    (kk : ∀ (H1 : Heap) (locs1 : List Loc), Dy D cA ad (setI h k j x) A s.heap H1 locs1 → W p l e R s m args below meth c H1 locs1 cells slots Q (F0 m (pc + 3) ls rest)) : W p l e R s m args below meth c H locs cells slots Q (F0 m pc ls (.int x :: .ref (ad k) :: rest)) := by
  obtain ⟨hx, hb, hml, hown, hts⟩ := cx
  obtain ⟨f1, f2, f3, f4, f5, rfl, rfl, rfl⟩ := fd
  obtain ⟨ty0, p1, p2, p3, p4⟩ := pd
  obtain ⟨P, i, hi, hP, hD, hm⟩ := dy.1.at hk
  have he := wl_at (cA := cA) (ad := ad) (h := h) hi
  rw [celE_o hk f5] at he
  exact va_put hx hb hts f1 ty0 p1 p2 hown fx.1 hP hD dy.2 i he f2 j f4 (hts _ hl) (fun _ h9 => h9) hfin p3 hn hfit (by rw [fls_len]; exact p4) hdg (fun H1 locs1 hP1 hD1 hS1 => kk H1 locs1 (Dy.upd (h' := setI h k j x) hm hi hD rfl (cel_setI cA ad h k j x) (E := .inr (ci, (fls ad h k ci).set j (.int x))) (by rw [celE_o (n := n) (h := setI h k j x) hk f5, fls_setI f3]) hP1 hD1 hS1))
theorem h_putIF (cx : CallFix p m c cc nL s args gw_tbl own) (fx : Fx D cA sk A s) (dy : Dy D cA ad h A s.heap H locs) {ci j N k idx n : Nat} {C ref nme desc : String} {T : u_T} {ty : FieldType} {x : Int32} (hini : meth.name = "<init>") (hdecl : ref = own) (fd : FD ci j C T N 0 ref nme desc) (pd : PD ci j C T N ty) (hfin : (T j).2.2.2 = true) (hn : narrow ty (.int x) = .int x) (hfit : fits ty (.int x) = true) (hk : h.1 k = some (ci, n)) (hl : Cond.fieldLink own idx ref nme desc ∈ gw_tbl) (hdg : decode cc pc = .ok (.putfield idx, 3))
    (kk : ∀ (H1 : Heap) (locs1 : List Loc), Dy D cA ad (setI h k j x) A s.heap H1 locs1 → W p l e R s m args below meth c H1 locs1 cells slots Q (F0 m (pc + 3) ls rest)) : W p l e R s m args below meth c H locs cells slots Q (F0 m pc ls (.int x :: .ref (ad k) :: rest)) := by
  obtain ⟨hx, hb, hml, hown, hts⟩ := cx
  obtain ⟨f1, f2, f3, f4, f5, rfl, rfl, rfl⟩ := fd
  obtain ⟨ty0, p1, p2, p3, p4⟩ := pd
  obtain ⟨P, i, hi, hP, hD, hm⟩ := dy.1.at hk
  have he := wl_at (cA := cA) (ad := ad) (h := h) hi
  rw [celE_o hk f5] at he
  exact va_putF hx hb hts f1 ty0 p1 p2 hown fx.1 hP hD dy.2 i he f2 j f4 (hts _ hl) (fun _ h9 => h9) hfin hini hdecl p3 hn hfit (by rw [fls_len]; exact p4) hdg (fun H1 locs1 hP1 hD1 hS1 => kk H1 locs1 (Dy.upd (h' := setI h k j x) hm hi hD rfl (cel_setI cA ad h k j x) (E := .inr (ci, (fls ad h k ci).set j (.int x))) (by rw [celE_o (n := n) (h := setI h k j x) hk f5, fls_setI f3]) hP1 hD1 hS1))
theorem h_putIN (cx : CallFix p m c cc nL s args gw_tbl own) (fx : Fx D cA sk A s) (dy : Dy D cA ad h A s.heap H locs) {ci j N k idx n : Nat} {C ref nme desc host : String} {T : u_T} {ty : FieldType} {x : Int32} (fd : FD ci j C T N 0 ref nme desc) (pd : PD ci j C T N ty) (hfin : (T j).2.2.2 = false) (hn : narrow ty (.int x) = .int x) (hfit : fits ty (.int x) = true) (hk : h.1 k = some (ci, n)) (hl : Cond.fieldLinkNest own idx ref nme desc host ∈ lw_tbl) (hdg : decode cc pc = .ok (.putfield idx, 3))
    (kk : ∀ (H1 : Heap) (locs1 : List Loc), Dy D cA ad (setI h k j x) A s.heap H1 locs1 → W p l e R s m args below meth c H1 locs1 cells slots Q (F0 m (pc + 3) ls rest)) : W p l e R s m args below meth c H locs cells slots Q (F0 m pc ls (.int x :: .ref (ad k) :: rest)) := by
  obtain ⟨hx, hb, hml, hown, hts⟩ := cx
  obtain ⟨f1, f2, f3, f4, f5, rfl, rfl, rfl⟩ := fd
  obtain ⟨ty0, p1, p2, p3, p4⟩ := pd
  obtain ⟨P, i, hi, hP, hD, hm⟩ := dy.1.at hk
  have he := wl_at (cA := cA) (ad := ad) (h := h) hi
  rw [celE_o hk f5] at he
  exact va_putN hx hb hts f1 ty0 p1 p2 hown fx.1 hP hD dy.2 i he f2 j f4 (va_Nw.use rfl (fx.2.1 _ hl rfl)) (fun _ h9 => h9) hfin p3 hn hfit (by rw [fls_len]; exact p4) hdg (fun H1 locs1 hP1 hD1 hS1 => kk H1 locs1 (Dy.upd (h' := setI h k j x) hm hi hD rfl (cel_setI cA ad h k j x) (E := .inr (ci, (fls ad h k ci).set j (.int x))) (by rw [celE_o (n := n) (h := setI h k j x) hk f5, fls_setI f3]) hP1 hD1 hS1))
theorem h_putR (cx : CallFix p m c cc nL s args gw_tbl own) (fx : Fx D cA sk A s) (dy : Dy D cA ad h A s.heap H locs) {ci j N k idx n r : Nat} {C ref nme desc : String} {T : u_T} {ty : FieldType} (fd : FD ci j C T N 1 ref nme desc) (pd : PD ci j C T N ty) (hfin : (T j).2.2.2 = false) (hn : narrow ty (.ref (ad r)) = .ref (ad r)) (hfit : fits ty (.ref (ad r)) = true) (hk : h.1 k = some (ci, n)) (hl : Cond.fieldLink own idx ref nme desc ∈ gw_tbl) (hdg : decode cc pc = .ok (.putfield idx, 3))
    (kk : ∀ (H1 : Heap) (locs1 : List Loc), Dy D cA ad (setR h k j (some r)) A s.heap H1 locs1 → W p l e R s m args below meth c H1 locs1 cells slots Q (F0 m (pc + 3) ls rest)) : W p l e R s m args below meth c H locs cells slots Q (F0 m pc ls (.ref (ad r) :: .ref (ad k) :: rest)) := by
  obtain ⟨hx, hb, hml, hown, hts⟩ := cx
  obtain ⟨f1, f2, f3, f4, f5, rfl, rfl, rfl⟩ := fd
  obtain ⟨ty0, p1, p2, p3, p4⟩ := pd
  obtain ⟨P, i, hi, hP, hD, hm⟩ := dy.1.at hk
  have he := wl_at (cA := cA) (ad := ad) (h := h) hi
  rw [celE_o hk f5] at he
  exact va_put hx hb hts f1 ty0 p1 p2 hown fx.1 hP hD dy.2 i he f2 j f4 (hts _ hl) (fun _ h9 => h9) hfin p3 hn hfit (by rw [fls_len]; exact p4) hdg (fun H1 locs1 hP1 hD1 hS1 => kk H1 locs1 (Dy.upd (h' := setR h k j (some r)) hm hi hD rfl (cel_setR cA ad h k j (some r)) (E := .inr (ci, (fls ad h k ci).set j (.ref (ad r)))) (by rw [celE_o (n := n) (h := setR h k j (some r)) hk f5, ← fls_setR f3]; rfl) hP1 hD1 hS1))
theorem h_putRF (cx : CallFix p m c cc nL s args gw_tbl own) (fx : Fx D cA sk A s) (dy : Dy D cA ad h A s.heap H locs) {ci j N k idx n r : Nat} {C ref nme desc : String} {T : u_T} {ty : FieldType} (hini : meth.name = "<init>") (hdecl : ref = own) (fd : FD ci j C T N 1 ref nme desc) (pd : PD ci j C T N ty) (hfin : (T j).2.2.2 = true) (hn : narrow ty (.ref (ad r)) = .ref (ad r)) (hfit : fits ty (.ref (ad r)) = true) (hk : h.1 k = some (ci, n)) (hl : Cond.fieldLink own idx ref nme desc ∈ gw_tbl) (hdg : decode cc pc = .ok (.putfield idx, 3))
    (kk : ∀ (H1 : Heap) (locs1 : List Loc), Dy D cA ad (setR h k j (some r)) A s.heap H1 locs1 → W p l e R s m args below meth c H1 locs1 cells slots Q (F0 m (pc + 3) ls rest)) : W p l e R s m args below meth c H locs cells slots Q (F0 m pc ls (.ref (ad r) :: .ref (ad k) :: rest)) := by
  obtain ⟨hx, hb, hml, hown, hts⟩ := cx
  obtain ⟨f1, f2, f3, f4, f5, rfl, rfl, rfl⟩ := fd
  obtain ⟨ty0, p1, p2, p3, p4⟩ := pd
  obtain ⟨P, i, hi, hP, hD, hm⟩ := dy.1.at hk
  have he := wl_at (cA := cA) (ad := ad) (h := h) hi
  rw [celE_o hk f5] at he
  exact va_putF hx hb hts f1 ty0 p1 p2 hown fx.1 hP hD dy.2 i he f2 j f4 (hts _ hl) (fun _ h9 => h9) hfin hini hdecl p3 hn hfit (by rw [fls_len]; exact p4) hdg (fun H1 locs1 hP1 hD1 hS1 => kk H1 locs1 (Dy.upd (h' := setR h k j (some r)) hm hi hD rfl (cel_setR cA ad h k j (some r)) (E := .inr (ci, (fls ad h k ci).set j (.ref (ad r)))) (by rw [celE_o (n := n) (h := setR h k j (some r)) hk f5, ← fls_setR f3]; rfl) hP1 hD1 hS1))
theorem h_putRN (cx : CallFix p m c cc nL s args gw_tbl own) (fx : Fx D cA sk A s) (dy : Dy D cA ad h A s.heap H locs) {ci j N k idx n r : Nat} {C ref nme desc host : String} {T : u_T} {ty : FieldType} (fd : FD ci j C T N 1 ref nme desc) (pd : PD ci j C T N ty) (hfin : (T j).2.2.2 = false) (hn : narrow ty (.ref (ad r)) = .ref (ad r)) (hfit : fits ty (.ref (ad r)) = true) (hk : h.1 k = some (ci, n)) (hl : Cond.fieldLinkNest own idx ref nme desc host ∈ lw_tbl) (hdg : decode cc pc = .ok (.putfield idx, 3))
    (kk : ∀ (H1 : Heap) (locs1 : List Loc), Dy D cA ad (setR h k j (some r)) A s.heap H1 locs1 → W p l e R s m args below meth c H1 locs1 cells slots Q (F0 m (pc + 3) ls rest)) : W p l e R s m args below meth c H locs cells slots Q (F0 m pc ls (.ref (ad r) :: .ref (ad k) :: rest)) := by
  obtain ⟨hx, hb, hml, hown, hts⟩ := cx
  obtain ⟨f1, f2, f3, f4, f5, rfl, rfl, rfl⟩ := fd
  obtain ⟨ty0, p1, p2, p3, p4⟩ := pd
  obtain ⟨P, i, hi, hP, hD, hm⟩ := dy.1.at hk
  have he := wl_at (cA := cA) (ad := ad) (h := h) hi
  rw [celE_o hk f5] at he
  exact va_putN hx hb hts f1 ty0 p1 p2 hown fx.1 hP hD dy.2 i he f2 j f4 (va_Nw.use rfl (fx.2.1 _ hl rfl)) (fun _ h9 => h9) hfin p3 hn hfit (by rw [fls_len]; exact p4) hdg (fun H1 locs1 hP1 hD1 hS1 => kk H1 locs1 (Dy.upd (h' := setR h k j (some r)) hm hi hD rfl (cel_setR cA ad h k j (some r)) (E := .inr (ci, (fls ad h k ci).set j (.ref (ad r)))) (by rw [celE_o (n := n) (h := setR h k j (some r)) hk f5, ← fls_setR f3]; rfl) hP1 hD1 hS1))
end HR
