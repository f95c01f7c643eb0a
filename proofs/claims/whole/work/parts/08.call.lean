section HC
variable {p : Program} {l : Launch} {e : Env} {R : Room} {s : State} {m : MethodId} {args : Array Value} {below : List Frame} {meth : Method} {c : Code} {H : Heap} {locs : List Loc} {cells slots : Nat} {Q : State → Prop} {cc : ByteArray} {pc : Nat} {ls : Array Slot} {rest : List Value} {nL : Nat} {own : String} {D : va_G} {cA : Nat → ClassId} {sk : (Nat → Nat) × (Nat → Nat)} {ad : Nat → Nat} {h : Hp} {A : Nat → Prop}
/-- what a call of an instance method needs of the tables -/
def MV (y : MethodName) (bytes : ByteArray) (maxL : Nat) (ret : Option FieldType) (C : String) (n : Nat) : Prop := Cond.code y bytes maxL ret ∈ gw_tbl ∧ Cond.instanceMethod y ∈ gw_tbl ∧ Cond.selects C y y ∈ gw_tbl ∧ Cond.initialized y.cls ∈ gw_tbl ∧ (y.cls ≠ "java/lang/invoke/MethodHandle" ∧ y.cls ≠ "java/lang/invoke/VarHandle" ∧ (parseMethodDescriptor y.desc).map (fun d => d.parameters.length) = some n)
def MS (y : MethodName) (bytes : ByteArray) (maxL : Nat) (ret : Option FieldType) (n : Nat) : Prop := Cond.code y bytes maxL ret ∈ gw_tbl ∧ Cond.static y ∈ gw_tbl ∧ Cond.initialized y.cls ∈ gw_tbl ∧ (y.cls ≠ "java/lang/invoke/MethodHandle" ∧ y.cls ≠ "java/lang/invoke/VarHandle" ∧ (parseMethodDescriptor y.desc).map (fun d => d.parameters.length) = some n)
def MC (y : MethodName) (bytes : ByteArray) (maxL n : Nat) : Prop := Cond.code y bytes maxL none ∈ gw_tbl ∧ Cond.instanceMethod y ∈ gw_tbl ∧ Cond.initialized y.cls ∈ gw_tbl ∧ y.name = "<init>" ∧ (y.cls ≠ "java/lang/invoke/MethodHandle" ∧ y.cls ≠ "java/lang/invoke/VarHandle" ∧ (parseMethodDescriptor y.desc).map (fun d => d.parameters.length) = some n)
abbrev wM (y : MethodName) (bytes : ByteArray) (maxL : Nat) (ret : Option FieldType) : List Cond := Cond.code y bytes maxL ret :: gw_tbl
theorem wM_good {y : MethodName} {bytes : ByteArray} {maxL : Nat} {ret : Option FieldType} (h : Cond.code y bytes maxL ret ∈ gw_tbl) : GoodIn gw_tbl (wM y bytes maxL ret) := fun w hw => (List.mem_cons.mp hw).elim (fun e => gw_good (e ▸ h)) gw_good
theorem k_V (cx : CallFix p m c cc nL s args gw_tbl own) (fx : Fx D cA sk A s) (dy : Dy D cA ad h A s.heap H locs) {y : MethodName} {bytes : ByteArray} {maxL n idx b ci nb mc ms : Nat} {ret : Option FieldType} {rm : Room} {Qc : Array Value → State → Outcome → State → Prop} {As : List Value} {q : vw_C}
    (hM : Met l y (wM y bytes maxL ret) rm (Pre D cA sk ad h A (.ref (ad b) :: As)) Qc mc ms A) (mv : MV y bytes maxL ret q.1 n) (hrc : rm.cells = mc) (hrs : rm.slots = ms) (hR : rm.frames + 1 ≤ R.frames ∧ 8 + (maxL + 11) + rm.locals ≤ R.locals) (hl : Cond.methodLink own idx y ∈ gw_tbl) (hb0 : h.1 b = some (ci, nb)) (hc : vwCl[ci]? = some q) (hci : ci < 100) (hn : As.length = n) (hsz : ls.size = nL) {st : List Value} (hst : st = As.reverse ++ .ref (ad b) :: rest) (hroom : (rest.map fun v => v.category).sum ≤ 8) (hf : cells + mc ≤ R.cells ∧ slots + ms ≤ R.slots) (hdg : decode cc pc = .ok (.invokevirtual idx, 3)) :
    va_Run p l e R s m args below meth c H locs cells slots mc ms (F0 m pc ls st) rest (Qc (Value.ref (ad b) :: As).toArray) A := by
  have cx0 := cx
  obtain ⟨hx, hb, hml, hown, hts⟩ := cx
  obtain ⟨m1, m2, m3, m4, m5⟩ := mv
  obtain ⟨P, i0, hi, hP, hD, hm⟩ := dy.1.at hb0
  have he := wl_at (cA := cA) (ad := ad) (h := h) hi
  rw [celE_o hb0 hci] at he
  exact va_runV cx0 hM ⟨callB_of n hts (wM_good m1) rfl hrc hrs (hts _ m4) (hts _ hl) m5 hR, hts _ m2, hts _ m3⟩ ⟨pre_blind, va_recv fx.1 hP hc he, pre_at fx dy⟩ rfl hn hsz hst (lv_room hroom) hdg hf
theorem k_VS (cx : CallFix p m c cc nL s args gw_tbl own) (fx : Fx D cA sk A s) (dy : Dy D cA ad h A s.heap H locs) {y : MethodName} {bytes : ByteArray} {maxL n idx b mc ms : Nat} {ret : Option FieldType} {rm : Room} {Qc : Array Value → State → Outcome → State → Prop} {As : List Value}
    (hM : Met l y (wM y bytes maxL ret) rm (Pre D cA sk ad h A (.ref (sk.1 b) :: As)) Qc mc ms A) (mv : MV y bytes maxL ret "java/lang/String" n) (hrc : rm.cells = mc) (hrs : rm.slots = ms) (hR : rm.frames + 1 ≤ R.frames ∧ 8 + (maxL + 11) + rm.locals ≤ R.locals) (hl : Cond.methodLink own idx y ∈ gw_tbl) (hb0 : b < 14) (hn : As.length = n) (hsz : ls.size = nL) {st : List Value} (hst : st = As.reverse ++ .ref (sk.1 b) :: rest) (hroom : (rest.map fun v => v.category).sum ≤ 8) (hf : cells + mc ≤ R.cells ∧ slots + ms ≤ R.slots) (hdg : decode cc pc = .ok (.invokevirtual idx, 3)) :
    va_Run p l e R s m args below meth c H locs cells slots mc ms (F0 m pc ls st) rest (Qc (Value.ref (sk.1 b) :: As).toArray) A := by
  have cx0 := cx
  obtain ⟨hx, hb, hml, hown, hts⟩ := cx
  obtain ⟨m1, m2, m3, m4, m5⟩ := mv
  exact va_runV cx0 hM ⟨callB_of n hts (wM_good m1) rfl hrc hrs (hts _ m4) (hts _ hl) m5 hR, hts _ m2, hts _ m3⟩ ⟨pre_blind, vk_recv fx.2.2.1.1 hb0 dy.2, pre_at fx dy⟩ rfl hn hsz hst (lv_room hroom) hdg hf
theorem k_S (cx : CallFix p m c cc nL s args gw_tbl own) (fx : Fx D cA sk A s) (dy : Dy D cA ad h A s.heap H locs) {y : MethodName} {bytes : ByteArray} {maxL n idx mc ms : Nat} {ret : Option FieldType} {rm : Room} {Qc : Array Value → State → Outcome → State → Prop} {As : List Value}
    (hM : Met l y (wM y bytes maxL ret) rm (Pre D cA sk ad h A As) Qc mc ms A) (mv : MS y bytes maxL ret n) (hrc : rm.cells = mc) (hrs : rm.slots = ms) (hR : rm.frames + 1 ≤ R.frames ∧ 8 + (maxL + 11) + rm.locals ≤ R.locals) (hl : Cond.methodLink own idx y ∈ gw_tbl) (hn : As.length = n) (hsz : ls.size = nL) {st : List Value} (hst : st = As.reverse ++ rest) (hroom : (rest.map fun v => v.category).sum ≤ 8) (hf : cells + mc ≤ R.cells ∧ slots + ms ≤ R.slots) (hdg : decode cc pc = .ok (.invokestatic idx, 3)) :
    va_Run p l e R s m args below meth c H locs cells slots mc ms (F0 m pc ls st) rest (Qc As.toArray) A := by
  have cx0 := cx
  obtain ⟨hx, hb, hml, hown, hts⟩ := cx
  obtain ⟨m1, m2, m4, m5⟩ := mv
  exact va_runS cx0 hM ⟨callB_of n hts (wM_good m1) rfl hrc hrs (hts _ m4) (hts _ hl) m5 hR, hts _ m2⟩ ⟨pre_blind, pre_at fx dy⟩ rfl hn hsz hst (lv_room hroom) hdg hf
theorem k_SN (cx : CallFix p m c cc nL s args gw_tbl own) (fx : Fx D cA sk A s) (dy : Dy D cA ad h A s.heap H locs) {y : MethodName} {bytes : ByteArray} {maxL n idx mc ms : Nat} {ret : Option FieldType} {rm : Room} {Qc : Array Value → State → Outcome → State → Prop} {As : List Value} {host : String}
    (hM : Met l y (wM y bytes maxL ret) rm (Pre D cA sk ad h A As) Qc mc ms A) (mv : MS y bytes maxL ret n) (hrc : rm.cells = mc) (hrs : rm.slots = ms) (hR : rm.frames + 1 ≤ R.frames ∧ 8 + (maxL + 11) + rm.locals ≤ R.locals) (hl : Cond.methodLinkNest own idx y host ∈ lw_tbl) (hn : As.length = n) (hsz : ls.size = nL) {st : List Value} (hst : st = As.reverse ++ rest) (hroom : (rest.map fun v => v.category).sum ≤ 8) (hf : cells + mc ≤ R.cells ∧ slots + ms ≤ R.slots) (hdg : decode cc pc = .ok (.invokestatic idx, 3)) :
    va_Run p l e R s m args below meth c H locs cells slots mc ms (F0 m pc ls st) rest (Qc As.toArray) A := by
  have cx0 := cx
  obtain ⟨hx, hb, hml, hown, hts⟩ := cx
  obtain ⟨m1, m2, m4, m5⟩ := mv
  exact va_runSN cx0 hM ⟨va_cnB n hts (wM_good m1) rfl hrc hrs (fx.2.1 _ hl rfl) (hts _ m4) m5 hR, hts _ m2, trivial⟩ ⟨pre_blind, pre_at fx dy⟩ rfl hn hsz hst (lv_room hroom) hdg hf
theorem k_I (cx : CallFix p m c cc nL s args gw_tbl own) (fx : Fx D cA sk A s) (dy : Dy D cA ad h A s.heap H locs) {y : MethodName} {bytes : ByteArray} {maxL n idx b mc ms : Nat} {rm : Room} {Qc : Array Value → State → Outcome → State → Prop} {As : List Value}
    (hM : Met l y (wM y bytes maxL none) rm (Pre D cA sk ad h A (.ref (ad b) :: As)) Qc mc ms A) (mv : MC y bytes maxL n) (hrc : rm.cells = mc) (hrs : rm.slots = ms) (hR : rm.frames + 1 ≤ R.frames ∧ 8 + (maxL + 11) + rm.locals ≤ R.locals) (hl : Cond.methodLink own idx y ∈ gw_tbl) (hn : As.length = n) (hsz : ls.size = nL) {st : List Value} (hst : st = As.reverse ++ .ref (ad b) :: rest) (hroom : (rest.map fun v => v.category).sum ≤ 8) (hf : cells + mc ≤ R.cells ∧ slots + ms ≤ R.slots) (hdg : decode cc pc = .ok (.invokespecial idx, 3)) :
    va_Run p l e R s m args below meth c H locs cells slots mc ms (F0 m pc ls st) rest (Qc (Value.ref (ad b) :: As).toArray) A := by
  have cx0 := cx
  obtain ⟨hx, hb, hml, hown, hts⟩ := cx
  obtain ⟨m1, m2, m4, m6, m5⟩ := mv
  exact va_runI cx0 hM ⟨callB_of n hts (wM_good m1) rfl hrc hrs (hts _ m4) (hts _ hl) m5 hR, m6, hts _ m2⟩ ⟨pre_blind, pre_at fx dy⟩ rfl hn hsz hst (lv_room hroom) hdg hf
theorem k_IN (cx : CallFix p m c cc nL s args gw_tbl own) (fx : Fx D cA sk A s) (dy : Dy D cA ad h A s.heap H locs) {y : MethodName} {bytes : ByteArray} {maxL n idx b mc ms : Nat} {rm : Room} {Qc : Array Value → State → Outcome → State → Prop} {As : List Value} {host : String}
    (hM : Met l y (wM y bytes maxL none) rm (Pre D cA sk ad h A (.ref (ad b) :: As)) Qc mc ms A) (mv : MC y bytes maxL n) (hrc : rm.cells = mc) (hrs : rm.slots = ms) (hR : rm.frames + 1 ≤ R.frames ∧ 8 + (maxL + 11) + rm.locals ≤ R.locals) (hl : Cond.methodLinkNest own idx y host ∈ lw_tbl) (hn : As.length = n) (hsz : ls.size = nL) {st : List Value} (hst : st = As.reverse ++ .ref (ad b) :: rest) (hroom : (rest.map fun v => v.category).sum ≤ 8) (hf : cells + mc ≤ R.cells ∧ slots + ms ≤ R.slots) (hdg : decode cc pc = .ok (.invokespecial idx, 3)) :
    va_Run p l e R s m args below meth c H locs cells slots mc ms (F0 m pc ls st) rest (Qc (Value.ref (ad b) :: As).toArray) A := by
  have cx0 := cx
  obtain ⟨hx, hb, hml, hown, hts⟩ := cx
  obtain ⟨m1, m2, m4, m6, m5⟩ := mv
  exact va_runIN cx0 hM ⟨va_cnB n hts (wM_good m1) rfl hrc hrs (fx.2.1 _ hl rfl) (hts _ m4) m5 hR, m6, hts _ m2⟩ ⟨pre_blind, pre_at fx dy⟩ rfl hn hsz hst (lv_room hroom) hdg hf
theorem r_i {h1 : Hp} {r : Int32} {a : Array Value} {st : List Value} (dy : Dy D cA ad h A s.heap H locs) (hr : va_Run p l e R s m args below meth c H locs cells slots 0 0 (F0 m pc ls st) rest (QI D cA ad A r h1 a) A)
    (kk : ∀ (H1 : Heap) (locs1 : List Loc), Dy D cA ad h1 A s.heap H1 locs1 → W p l e R s m args below meth c H1 locs1 cells slots Q (F0 m (pc + 3) ls (.int r :: rest))) : W p l e R s m args below meth c H locs cells slots Q (F0 m pc ls st) := by
  refine va_calli hr dy.2 (fun q _ h => h) (fun q h => h) (fun r' u t H1 locs1 ht hvm hw hB hz hk hS => ?_)
  subst hw
  have hB : Wp D cA ad h1 A t.heap := hB
  rw [ht] at hB
  exact kk H1 locs1 ⟨hB, hS⟩
theorem r_l {h1 : Hp} {r : Int64} {a : Array Value} {st : List Value} (dy : Dy D cA ad h A s.heap H locs) (hr : va_Run p l e R s m args below meth c H locs cells slots 0 0 (F0 m pc ls st) rest (QL D cA ad A r h1 a) A)
    (kk : ∀ (H1 : Heap) (locs1 : List Loc), Dy D cA ad h1 A s.heap H1 locs1 → W p l e R s m args below meth c H1 locs1 cells slots Q (F0 m (pc + 3) ls (.long r :: rest))) : W p l e R s m args below meth c H locs cells slots Q (F0 m pc ls st) := by
  refine va_calll hr dy.2 (fun q _ h => h) (fun q h => h) (fun r' u t H1 locs1 ht hvm hw hB hz hk hS => ?_)
  subst hw
  have hB : Wp D cA ad h1 A t.heap := hB
  rw [ht] at hB
  exact kk H1 locs1 ⟨hB, hS⟩
theorem r_v {h1 : Hp} {a : Array Value} {st : List Value} (dy : Dy D cA ad h A s.heap H locs) (hr : va_Run p l e R s m args below meth c H locs cells slots 0 0 (F0 m pc ls st) rest (QV D cA ad A h1 a) A)
    (kk : ∀ (H1 : Heap) (locs1 : List Loc), Dy D cA ad h1 A s.heap H1 locs1 → W p l e R s m args below meth c H1 locs1 cells slots Q (F0 m (pc + 3) ls rest)) : W p l e R s m args below meth c H locs cells slots Q (F0 m pc ls st) := by
  refine va_callv hr dy.2 (fun q _ h => h) (fun q h => h) (fun u t H1 locs1 ht hvm hw hB hz hk hS => ?_)
  have hB : Wp D cA ad h1 A t.heap := hB
  rw [ht] at hB
  exact kk H1 locs1 ⟨hB, hS⟩
theorem r_q {h1 : Hp} {r : Option Nat} {a : Array Value} {st : List Value} (dy : Dy D cA ad h A s.heap H locs) (hr : va_Run p l e R s m args below meth c H locs cells slots 0 0 (F0 m pc ls st) rest (QQ D cA ad A r h1 a) A)
    (kk : ∀ (H1 : Heap) (locs1 : List Loc), Dy D cA ad h1 A s.heap H1 locs1 → W p l e R s m args below meth c H1 locs1 cells slots Q (F0 m (pc + 3) ls (va_rf (r.map ad) :: rest))) : W p l e R s m args below meth c H locs cells slots Q (F0 m pc ls st) := by
  refine va_callq hr dy.2 (fun q _ h => h) (fun q h => h) (fun r' u t H1 locs1 ht hvm hw hB hz hk hS => ?_)
  subst hw
  have hB : Wp D cA ad h1 A t.heap := hB
  rw [ht] at hB
  exact kk H1 locs1 ⟨hB, hS⟩
end HC

