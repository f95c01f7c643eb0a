section HA
variable {p : Program} {l : Launch} {e : Env} {R : Room} {s : State} {m : MethodId} {args : Array Value} {below : List Frame} {meth : Method} {c : Code} {H : Heap} {locs : List Loc} {cells slots : Nat} {Q : State → Prop} {cc : ByteArray} {pc : Nat} {ls : Array Slot} {rest : List Value} {nL : Nat} {own : String} {D : va_G} {cA : Nat → ClassId} {sk : (Nat → Nat) × (Nat → Nat)} {ad : Nat → Nat} {h : Hp} {A : Nat → Prop}
theorem h_iald (cx : CallFix p m c cc nL s args gw_tbl own) (fx : Fx D cA sk A s) (dy : Dy D cA ad h A s.heap H locs) {k : Nat} {i : Int32} (ok : okA h k 0 i) (hdg : decode cc pc = .ok (.iaload, 1))
    (kk : W p l e R s m args below meth c H locs cells slots Q (F0 m (pc + 1) ls (.int (h.2.1 k i.toNatClampNeg) :: rest))) : W p l e R s m args below meth c H locs cells slots Q (F0 m pc ls (.int i :: .ref (ad k) :: rest)) := by
  obtain ⟨hx, hb, hml, hown, hts⟩ := cx
  obtain ⟨n, hk, hin⟩ := ok
  obtain ⟨P, i0, hi, hP, hD, hm⟩ := dy.1.at hk
  have he := wl_at (cA := cA) (ad := ad) (h := h) hi
  rw [celE_i hk (by omega)] at he
  exact va_iald hx hb fx.1 hP i0 0 he rfl hin hdg kk
theorem h_bald (cx : CallFix p m c cc nL s args gw_tbl own) (fx : Fx D cA sk A s) (dy : Dy D cA ad h A s.heap H locs) {k : Nat} {i : Int32} (ok : okA h k 1 i) (hdg : decode cc pc = .ok (.baload, 1))
    (kk : W p l e R s m args below meth c H locs cells slots Q (F0 m (pc + 1) ls (.int (h.2.1 k i.toNatClampNeg) :: rest))) : W p l e R s m args below meth c H locs cells slots Q (F0 m pc ls (.int i :: .ref (ad k) :: rest)) := by
  obtain ⟨hx, hb, hml, hown, hts⟩ := cx
  obtain ⟨n, hk, hin⟩ := ok
  obtain ⟨P, i0, hi, hP, hD, hm⟩ := dy.1.at hk
  have he := wl_at (cA := cA) (ad := ad) (h := h) hi
  rw [celE_i hk (by omega)] at he
  exact va_bald hx hb fx.1 hP i0 1 he rfl hin hdg kk
theorem h_zald (cx : CallFix p m c cc nL s args gw_tbl own) (fx : Fx D cA sk A s) (dy : Dy D cA ad h A s.heap H locs) {k : Nat} {i : Int32} (ok : okA h k 2 i) (hdg : decode cc pc = .ok (.baload, 1))
    (kk : W p l e R s m args below meth c H locs cells slots Q (F0 m (pc + 1) ls (.int (h.2.1 k i.toNatClampNeg) :: rest))) : W p l e R s m args below meth c H locs cells slots Q (F0 m pc ls (.int i :: .ref (ad k) :: rest)) := by
  obtain ⟨hx, hb, hml, hown, hts⟩ := cx
  obtain ⟨n, hk, hin⟩ := ok
  obtain ⟨P, i0, hi, hP, hD, hm⟩ := dy.1.at hk
  have he := wl_at (cA := cA) (ad := ad) (h := h) hi
  rw [celE_i hk (by omega)] at he
  exact va_zald hx hb fx.1 hP i0 2 he rfl hin hdg kk
theorem h_lald (cx : CallFix p m c cc nL s args gw_tbl own) (fx : Fx D cA sk A s) (dy : Dy D cA ad h A s.heap H locs) {k : Nat} {i : Int32} (ok : okA h k 3 i) (hdg : decode cc pc = .ok (.laload, 1))
    (kk : W p l e R s m args below meth c H locs cells slots Q (F0 m (pc + 1) ls (.long (h.2.2.1 k i.toNatClampNeg) :: rest))) : W p l e R s m args below meth c H locs cells slots Q (F0 m pc ls (.int i :: .ref (ad k) :: rest)) := by
  obtain ⟨hx, hb, hml, hown, hts⟩ := cx
  obtain ⟨n, hk, hin⟩ := ok
  obtain ⟨P, i0, hi, hP, hD, hm⟩ := dy.1.at hk
  have he := wl_at (cA := cA) (ad := ad) (h := h) hi
  rw [celE_l hk] at he
  exact va_lald hx hb fx.1 hP i0 3 he rfl hin hdg kk
theorem h_aald (cx : CallFix p m c cc nL s args gw_tbl own) (fx : Fx D cA sk A s) (dy : Dy D cA ad h A s.heap H locs) {k : Nat} {t r : Nat} {C : String} {i : Int32} (ht : 3 < t) (hty : (tysA cA)[t]? = some (cA t, .object C)) (ok : okA h k t i) (hr : h.2.2.2 k i.toNatClampNeg = some r) (hdg : decode cc pc = .ok (.aaload, 1))
    (kk : W p l e R s m args below meth c H locs cells slots Q (F0 m (pc + 1) ls (.ref (ad r) :: rest))) : W p l e R s m args below meth c H locs cells slots Q (F0 m pc ls (.int i :: .ref (ad k) :: rest)) := by
  obtain ⟨hx, hb, hml, hown, hts⟩ := cx
  obtain ⟨n, hk, hin⟩ := ok
  obtain ⟨P, i0, hi, hP, hD, hm⟩ := dy.1.at hk
  have he := wl_at (cA := cA) (ad := ad) (h := h) hi
  rw [celE_r hk ht] at he
  refine va_aldq hx hb fx.1 hP i0 t he hty hin hdg ?_
  rw [hr]
  exact kk
theorem h_iast (cx : CallFix p m c cc nL s args gw_tbl own) (fx : Fx D cA sk A s) (dy : Dy D cA ad h A s.heap H locs) {k : Nat} {i x : Int32} (ok : okA h k 0 i) (hdg : decode cc pc = .ok (.iastore, 1))
    (kk : ∀ (H1 : Heap) (locs1 : List Loc), Dy D cA ad (setI h k i.toNatClampNeg x) A s.heap H1 locs1 → W p l e R s m args below meth c H1 locs1 cells slots Q (F0 m (pc + 1) ls rest)) : W p l e R s m args below meth c H locs cells slots Q (F0 m pc ls (.int x :: .int i :: .ref (ad k) :: rest)) := by
  obtain ⟨hx, hb, hml, hown, hts⟩ := cx
  obtain ⟨n, hk, hin⟩ := ok
  obtain ⟨P, i0, hi, hP, hD, hm⟩ := dy.1.at hk
  have he := wl_at (cA := cA) (ad := ad) (h := h) hi
  rw [celE_i hk (by omega)] at he
  refine va_iast hx hb fx.1 hP hD dy.2 i0 0 he rfl hin hdg (fun H1 locs1 hP1 hD1 hS1 => kk H1 locs1 (Dy.upd (h' := setI h k i.toNatClampNeg x) hm hi hD rfl (cel_setI cA ad h k _ _) ?_ hP1 hD1 hS1))
  rw [celE_i (n := n) (t := 0) (h := setI h k i.toNatClampNeg x) hk (by omega)]
  have e1 : up2 h.2.1 k i.toNatClampNeg x k = upd (h.2.1 k) i.toNatClampNeg x := by funext b; simp [up2, upd]
  show Sum.inl (cA 0, n, Sum.inl (up2 h.2.1 k i.toNatClampNeg x k)) = _
  rw [e1]
theorem h_bast (cx : CallFix p m c cc nL s args gw_tbl own) (fx : Fx D cA sk A s) (dy : Dy D cA ad h A s.heap H locs) {k : Nat} {i x : Int32} (ok : okA h k 1 i) (hdg : decode cc pc = .ok (.bastore, 1))
    (kk : ∀ (H1 : Heap) (locs1 : List Loc), Dy D cA ad (setI h k i.toNatClampNeg (vp_nar .byte x)) A s.heap H1 locs1 → W p l e R s m args below meth c H1 locs1 cells slots Q (F0 m (pc + 1) ls rest)) : W p l e R s m args below meth c H locs cells slots Q (F0 m pc ls (.int x :: .int i :: .ref (ad k) :: rest)) := by
  obtain ⟨hx, hb, hml, hown, hts⟩ := cx
  obtain ⟨n, hk, hin⟩ := ok
  obtain ⟨P, i0, hi, hP, hD, hm⟩ := dy.1.at hk
  have he := wl_at (cA := cA) (ad := ad) (h := h) hi
  rw [celE_i hk (by omega)] at he
  refine va_bast hx hb fx.1 hP hD dy.2 i0 1 he rfl hin hdg (fun H1 locs1 hP1 hD1 hS1 => kk H1 locs1 (Dy.upd (h' := setI h k i.toNatClampNeg (vp_nar .byte x)) hm hi hD rfl (cel_setI cA ad h k _ _) ?_ hP1 hD1 hS1))
  rw [celE_i (n := n) (t := 1) (h := setI h k i.toNatClampNeg (vp_nar .byte x)) hk (by omega)]
  have e1 : up2 h.2.1 k i.toNatClampNeg (vp_nar .byte x) k = upd (h.2.1 k) i.toNatClampNeg (vp_nar .byte x) := by funext b; simp [up2, upd]
  show Sum.inl (cA 1, n, Sum.inl (up2 h.2.1 k i.toNatClampNeg (vp_nar .byte x) k)) = _
  rw [e1]
theorem h_zast (cx : CallFix p m c cc nL s args gw_tbl own) (fx : Fx D cA sk A s) (dy : Dy D cA ad h A s.heap H locs) {k : Nat} {i x : Int32} (ok : okA h k 2 i) (hdg : decode cc pc = .ok (.bastore, 1))
    (kk : ∀ (H1 : Heap) (locs1 : List Loc), Dy D cA ad (setI h k i.toNatClampNeg (vp_nar .boolean x)) A s.heap H1 locs1 → W p l e R s m args below meth c H1 locs1 cells slots Q (F0 m (pc + 1) ls rest)) : W p l e R s m args below meth c H locs cells slots Q (F0 m pc ls (.int x :: .int i :: .ref (ad k) :: rest)) := by
  obtain ⟨hx, hb, hml, hown, hts⟩ := cx
  obtain ⟨n, hk, hin⟩ := ok
  obtain ⟨P, i0, hi, hP, hD, hm⟩ := dy.1.at hk
  have he := wl_at (cA := cA) (ad := ad) (h := h) hi
  rw [celE_i hk (by omega)] at he
  refine va_zast hx hb fx.1 hP hD dy.2 i0 2 he rfl hin hdg (fun H1 locs1 hP1 hD1 hS1 => kk H1 locs1 (Dy.upd (h' := setI h k i.toNatClampNeg (vp_nar .boolean x)) hm hi hD rfl (cel_setI cA ad h k _ _) ?_ hP1 hD1 hS1))
  rw [celE_i (n := n) (t := 2) (h := setI h k i.toNatClampNeg (vp_nar .boolean x)) hk (by omega)]
  have e1 : up2 h.2.1 k i.toNatClampNeg (vp_nar .boolean x) k = upd (h.2.1 k) i.toNatClampNeg (vp_nar .boolean x) := by funext b; simp [up2, upd]
  show Sum.inl (cA 2, n, Sum.inl (up2 h.2.1 k i.toNatClampNeg (vp_nar .boolean x) k)) = _
  rw [e1]
theorem h_last (cx : CallFix p m c cc nL s args gw_tbl own) (fx : Fx D cA sk A s) (dy : Dy D cA ad h A s.heap H locs) {k : Nat} {i : Int32} {x : Int64} (ok : okA h k 3 i) (hdg : decode cc pc = .ok (.lastore, 1))
    (kk : ∀ (H1 : Heap) (locs1 : List Loc), Dy D cA ad (setL h k i.toNatClampNeg x) A s.heap H1 locs1 → W p l e R s m args below meth c H1 locs1 cells slots Q (F0 m (pc + 1) ls rest)) : W p l e R s m args below meth c H locs cells slots Q (F0 m pc ls (.long x :: .int i :: .ref (ad k) :: rest)) := by
  obtain ⟨hx, hb, hml, hown, hts⟩ := cx
  obtain ⟨n, hk, hin⟩ := ok
  obtain ⟨P, i0, hi, hP, hD, hm⟩ := dy.1.at hk
  have he := wl_at (cA := cA) (ad := ad) (h := h) hi
  rw [celE_l hk] at he
  refine va_last hx hb fx.1 hP hD dy.2 i0 3 he rfl hin hdg (fun H1 locs1 hP1 hD1 hS1 => kk H1 locs1 (Dy.upd (h' := setL h k i.toNatClampNeg x) hm hi hD rfl (cel_setL cA ad h k _ _) ?_ hP1 hD1 hS1))
  rw [celE_l (n := n) (h := setL h k i.toNatClampNeg x) hk]
  have e1 : up2 h.2.2.1 k i.toNatClampNeg x k = vp_updL (h.2.2.1 k) i.toNatClampNeg x := by funext b; simp [up2, vp_updL]
  show Sum.inl (cA 3, n, Sum.inr (Sum.inl (up2 h.2.2.1 k i.toNatClampNeg x k))) = _
  rw [e1]
theorem h_aast (cx : CallFix p m c cc nL s args gw_tbl own) (fx : Fx D cA sk A s) (dy : Dy D cA ad h A s.heap H locs) {k : Nat} {t r ci nr : Nat} {q : vw_C} {i : Int32} (ht : 3 < t) (hty : (tysA cA)[t]? = some (cA t, .object q.1)) (hc : vwCl[ci]? = some q) (hci : ci < 100) (ok : okA h k t i) (hr : h.1 r = some (ci, nr)) (hdg : decode cc pc = .ok (.aastore, 1))
    (kk : ∀ (H1 : Heap) (locs1 : List Loc), Dy D cA ad (setR h k i.toNatClampNeg (some r)) A s.heap H1 locs1 → W p l e R s m args below meth c H1 locs1 cells slots Q (F0 m (pc + 1) ls rest)) : W p l e R s m args below meth c H locs cells slots Q (F0 m pc ls (.ref (ad r) :: .int i :: .ref (ad k) :: rest)) := by
  obtain ⟨hx, hb, hml, hown, hts⟩ := cx
  obtain ⟨n, hk, hin⟩ := ok
  obtain ⟨P, i0, hi, hP, hD, hm⟩ := dy.1.at hk
  have he := wl_at (cA := cA) (ad := ad) (h := h) hi
  rw [celE_r hk ht] at he
  obtain ⟨i1, hi1⟩ := List.getElem?_of_mem ((hm r).mpr (by rw [hr]; simp))
  have he1 := wl_at (cA := cA) (ad := ad) (h := h) hi1
  rw [celE_o hr hci] at he1
  refine va_astq hx hb fx.1 hP hD dy.2 i0 t i1 ci he hty he1 hc hin hdg (fun H1 locs1 hP1 hD1 hS1 => kk H1 locs1 (Dy.upd (h' := setR h k i.toNatClampNeg (some r)) hm hi hD rfl (cel_setR cA ad h k _ _) ?_ hP1 hD1 hS1))
  rw [celE_r (n := n) (t := t) (h := setR h k i.toNatClampNeg (some r)) hk ht]
  have e1 : (fun j => (up2 h.2.2.2 k i.toNatClampNeg (some r) k j).map ad) = va_up (fun j => (h.2.2.2 k j).map ad) i.toNatClampNeg (some (ad r)) := by
    funext b
    by_cases hb : b = i.toNatClampNeg
    · subst hb; simp [up2, va_up]
    · simp [up2, va_up, hb]
  show Sum.inl (cA t, n, Sum.inr (Sum.inr (Sum.inr (Sum.inr (fun j => (up2 h.2.2.2 k i.toNatClampNeg (some r) k j).map ad))))) = _
  rw [e1]
theorem h_alen (cx : CallFix p m c cc nL s args gw_tbl own) (fx : Fx D cA sk A s) (dy : Dy D cA ad h A s.heap H locs) {k : Nat} {t n : Nat} {ty : FieldType} (ht : t < 3) (hty : (tysA cA)[t]? = some (cA t, ty)) (hk : h.1 k = some (100 + t, n)) (hdg : decode cc pc = .ok (.arraylength, 1))
    (kk : W p l e R s m args below meth c H locs cells slots Q (F0 m (pc + 1) ls (.int (nI n) :: rest))) : W p l e R s m args below meth c H locs cells slots Q (F0 m pc ls (.ref (ad k) :: rest)) := by
  obtain ⟨hx, hb, hml, hown, hts⟩ := cx
  obtain ⟨P, i0, hi, hP, hD, hm⟩ := dy.1.at hk
  have he := wl_at (cA := cA) (ad := ad) (h := h) hi
  rw [celE_i hk ht] at he
  exact va_alen hx hb fx.1 hP i0 t he hty rfl hdg kk
def QI (D : va_G) (cA : Nat → ClassId) (ad : Nat → Nat) (A : Nat → Prop) (r : Int32) (h : Hp) : Array Value → State → Outcome → State → Prop := va_Qi (fun r' (_ : Unit) => r' = r) (fun _ t => Wp D cA ad h A t.heap) A
def QL (D : va_G) (cA : Nat → ClassId) (ad : Nat → Nat) (A : Nat → Prop) (r : Int64) (h : Hp) : Array Value → State → Outcome → State → Prop := va_Ql (fun r' (_ : Unit) => r' = r) (fun _ t => Wp D cA ad h A t.heap) A
def QV (D : va_G) (cA : Nat → ClassId) (ad : Nat → Nat) (A : Nat → Prop) (h : Hp) : Array Value → State → Outcome → State → Prop := va_Qv (fun (_ : Unit) => True) (fun _ t => Wp D cA ad h A t.heap) A
def QQ (D : va_G) (cA : Nat → ClassId) (ad : Nat → Nat) (A : Nat → Prop) (r : Option Nat) (h : Hp) : Array Value → State → Outcome → State → Prop := va_Qq (fun r' (_ : Unit) => r' = r.map ad) (fun _ t => Wp D cA ad h A t.heap) A
theorem h_iret (cx : CallFix p m c cc nL s args gw_tbl own) (dy : Dy D cA ad h A s.heap H locs) {r r0 : Int32} {h0 : Hp} {ty : FieldType} (hlocks : meth.locks = false) (hr : meth.sig.returnType = some ty) (hn : narrow ty (.int r) = .int r) (e0 : r = r0) (e1 : h = h0) (hdg : decode cc pc = .ok (.ireturn, 1)) : W p l e R s m args below meth c H locs cells slots (MQ below (QI D cA ad A r0 h0) args s cells slots A) (F0 m pc ls [.int r]) := by
  subst e0; subst e1
  obtain ⟨hx, hb, hml, hown, hts⟩ := cx
  exact W.zret hx hb hr hn (fun t ht hW => ⟨⟨r, (), rfl, rfl, by show Wp D cA ad h A t.heap; rw [ht]; exact dy.1⟩, dy.2.F ht⟩) dy.2.2.2 hdg
theorem h_lret (cx : CallFix p m c cc nL s args gw_tbl own) (dy : Dy D cA ad h A s.heap H locs) {r r0 : Int64} {h0 : Hp} (hlocks : meth.locks = false) (hr : meth.sig.returnType = some .long) (e0 : r = r0) (e1 : h = h0) (hdg : decode cc pc = .ok (.lreturn, 1)) : W p l e R s m args below meth c H locs cells slots (MQ below (QL D cA ad A r0 h0) args s cells slots A) (F0 m pc ls [.long r]) := by
  subst e0; subst e1
  obtain ⟨hx, hb, hml, hown, hts⟩ := cx
  exact W.lret hx hb hr (fun t ht hW => ⟨⟨r, (), rfl, rfl, by show Wp D cA ad h A t.heap; rw [ht]; exact dy.1⟩, dy.2.F ht⟩) dy.2.2.2 hdg
theorem h_vret (cx : CallFix p m c cc nL s args gw_tbl own) (dy : Dy D cA ad h A s.heap H locs) {h0 : Hp} (hlocks : meth.locks = false) (hr : meth.sig.returnType = none) (e1 : h = h0) (hdg : decode cc pc = .ok (.return_, 1)) : W p l e R s m args below meth c H locs cells slots (MQ below (QV D cA ad A h0) args s cells slots A) (F0 m pc ls []) := by
  subst e1
  obtain ⟨hx, hb, hml, hown, hts⟩ := cx
  exact W.vret hx hb hr (fun t ht hW => ⟨⟨(), rfl, trivial, by show Wp D cA ad h A t.heap; rw [ht]; exact dy.1⟩, dy.2.F ht⟩) dy.2.2.2 hdg
theorem h_aret (cx : CallFix p m c cc nL s args gw_tbl own) (dy : Dy D cA ad h A s.heap H locs) {r r0 : Option Nat} {h0 : Hp} {ty : FieldType} {v : Value} (hlocks : meth.locks = false) (hr : meth.sig.returnType = some ty) (hrt : ∃ n, ty = .object n) (hv : va_rf (r.map ad) = v) (e0 : r = r0) (e1 : h = h0) (hdg : decode cc pc = .ok (.areturn, 1)) : W p l e R s m args below meth c H locs cells slots (MQ below (QQ D cA ad A r0 h0) args s cells slots A) (F0 m pc ls [v]) := by
  subst e0; subst e1
  obtain ⟨hx, hb, hml, hown, hts⟩ := cx
  exact W.aret hx hb hr (Or.inl hrt) (by rw [← hv]; cases r with | none => exact Or.inl rfl | some a => exact Or.inr ⟨ad a, rfl⟩) (fun t ht hW => ⟨⟨r.map ad, (), by rw [hv], rfl, by show Wp D cA ad h A t.heap; rw [ht]; exact dy.1⟩, dy.2.F ht⟩) dy.2.2.2 hdg
end HA
