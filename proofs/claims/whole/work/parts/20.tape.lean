noncomputable def r_X8_length (V : Vk) (k0 : Nat) (g : Hq) : Option (Int32 × Hq) :=
  grd (V k0 = some (8, 0)) <| some ((g.1 k0 1), g)
set_option maxHeartbeats 4000000 in
set_option maxRecDepth 100000 in
theorem c_X8_length {l : Launch} {D : va_G} {cA : Nat → ClassId} {sk : (Nat → Nat) × (Nat → Nat)} {ad : Nat → Nat} {A : Nat → Prop} {V : Vk} {k0 : Nat} {g g0 : Hq} {r0 : Int32} (hr : r_X8_length V k0 g = some (r0, g0)) : Met l yX8_length (wM yX8_length cX8_length 1 (some .int)) { frames := 0, cells := 0, slots := 0, locals := 0 } (Pre D cA sk ad (V, g) A [.ref (ad k0)]) (QI D cA ad A r0 (V, g0)) 0 0 A := by
  refine Met.ofW (cc := cX8_length) (maxL := 1) (ret := (some .int)) (by decide) rfl ?_
  intro p e s m args below meth c s₁ B hml hv
  obtain ⟨rfl, fx, w0⟩ := hv
  have hts := atoms_spec (ws := wM yX8_length cX8_length 1 (some .int)) B.pre
  have cx : CallFix p m c cX8_length 1 s ([.ref (ad k0)] : List Value).toArray gw_tbl RX8 := ⟨B.exec, B.bytes, hml, findClass_of_methodNamed B.named, fun w hw => hts w (List.mem_cons_of_mem _ hw)⟩
  have hlocks := B.notSynchronized
  have hret := B.returns
  have hR : 0 ≤ (headSpec (wM yX8_length cX8_length 1 (some .int)) { frames := 0, cells := 0, slots := 0, locals := 0 }).room.frames ∧ 0 ≤ (headSpec (wM yX8_length cX8_length 1 (some .int)) { frames := 0, cells := 0, slots := 0, locals := 0 }).room.locals := ⟨Nat.le_refl _, Nat.le_refl _⟩
  have dy : Dy D cA ad (V, g) A s.heap s.heap [] := ⟨w0, va_S.rf⟩
  have hl := lv_entry [.ref (ad k0)] (n := 1) (Nat.le_of_ble_eq_true rfl)
  rw [lg_entry_eq]
  generalize (lg_sl [.ref (ad k0)] ++ List.replicate (1 - (lg_sl [.ref (ad k0)]).length) Slot.unset).toArray = ls at hl ⊢
  have hl : lv_has ls 1 [(0, .ref (ad k0))] := hl
  have dy0 : ∃ H0, H0 = s.heap ∧ Dy D cA ad (V, g) A s.heap H0 [] := ⟨_, rfl, dy⟩
  obtain ⟨z, ez⟩ : ∃ z, z = (r0, g0) := ⟨_, rfl⟩
  rw [← ez] at hr
  have hq0 : ∀ (rb : Int32) (gb : Hq), z = (rb, gb) → rb = r0 ∧ gb = g0 := fun rb gb eb => by rw [ez] at eb; exact ⟨(congrArg Prod.fst eb).symm, (congrArg Prod.snd eb).symm⟩
  clear ez w0 dy0
  unfold r_X8_length at hr
  obtain ⟨H, hH⟩ : ∃ H, H = s.heap := ⟨_, rfl⟩
  obtain ⟨locs, hlo⟩ : ∃ q : List Loc, q = [] := ⟨_, rfl⟩
  have dy : Dy D cA ad (V, g) A s.heap H locs := by rw [hH, hlo]; exact dy
  suffices K : W p l e (headSpec (wM yX8_length cX8_length 1 (some .int)) { frames := 0, cells := 0, slots := 0, locals := 0 }).room s m ([.ref (ad k0)] : List Value).toArray below meth c H locs 0 0 (MQ below (QI D cA ad A r0 (V, g0)) ([.ref (ad k0)] : List Value).toArray s 0 0 A) (F0 m 0 ls []) by rw [hH, hlo] at K; exact K
  clear hH hlo
  refine lv_aload_n cx.1 cx.2.1 dX8_length_0 rfl (lv_at hl 0 rfl) ?_
  obtain ⟨hv1, hr⟩ := of_grd hr
  refine h_getI cx fx dy fd_8_1 hv1 tb_85 dX8_length_1 ?_
  obtain ⟨e0, e1⟩ := hq0 _ _ (Option.some.inj hr).symm
  exact h_iret cx dy hlocks hret rfl e0 (by rw [e1]) dX8_length_4
noncomputable def r_X8_hasRoomFor (V : Vk) (k0 : Nat) (a1 : Int32) (g : Hq) : Option (Int32 × Hq) :=
  grd (V k0 = some (8, 0)) <| brn ((800 : Int32) < ((g.1 k0 1) + a1)) (some ((0 : Int32), g)) (some ((1 : Int32), g))
set_option maxHeartbeats 4000000 in
set_option maxRecDepth 100000 in
theorem c_X8_hasRoomFor {l : Launch} {D : va_G} {cA : Nat → ClassId} {sk : (Nat → Nat) × (Nat → Nat)} {ad : Nat → Nat} {A : Nat → Prop} {V : Vk} {k0 : Nat} {a1 : Int32} {g g0 : Hq} {r0 : Int32} (hr : r_X8_hasRoomFor V k0 a1 g = some (r0, g0)) : Met l yX8_hasRoomFor (wM yX8_hasRoomFor cX8_hasRoomFor 2 (some .boolean)) { frames := 0, cells := 0, slots := 0, locals := 0 } (Pre D cA sk ad (V, g) A [.ref (ad k0), .int a1]) (QI D cA ad A r0 (V, g0)) 0 0 A := by
  refine Met.ofW (cc := cX8_hasRoomFor) (maxL := 2) (ret := (some .boolean)) (by decide) rfl ?_
  intro p e s m args below meth c s₁ B hml hv
  obtain ⟨rfl, fx, w0⟩ := hv
  have hts := atoms_spec (ws := wM yX8_hasRoomFor cX8_hasRoomFor 2 (some .boolean)) B.pre
  have cx : CallFix p m c cX8_hasRoomFor 2 s ([.ref (ad k0), .int a1] : List Value).toArray gw_tbl RX8 := ⟨B.exec, B.bytes, hml, findClass_of_methodNamed B.named, fun w hw => hts w (List.mem_cons_of_mem _ hw)⟩
  have hlocks := B.notSynchronized
  have hret := B.returns
  have hR : 0 ≤ (headSpec (wM yX8_hasRoomFor cX8_hasRoomFor 2 (some .boolean)) { frames := 0, cells := 0, slots := 0, locals := 0 }).room.frames ∧ 0 ≤ (headSpec (wM yX8_hasRoomFor cX8_hasRoomFor 2 (some .boolean)) { frames := 0, cells := 0, slots := 0, locals := 0 }).room.locals := ⟨Nat.le_refl _, Nat.le_refl _⟩
  have dy : Dy D cA ad (V, g) A s.heap s.heap [] := ⟨w0, va_S.rf⟩
  have hl := lv_entry [.ref (ad k0), .int a1] (n := 2) (Nat.le_of_ble_eq_true rfl)
  rw [lg_entry_eq]
  generalize (lg_sl [.ref (ad k0), .int a1] ++ List.replicate (2 - (lg_sl [.ref (ad k0), .int a1]).length) Slot.unset).toArray = ls at hl ⊢
  have hl : lv_has ls 2 [(0, .ref (ad k0)), (1, .int a1)] := hl
  have dy0 : ∃ H0, H0 = s.heap ∧ Dy D cA ad (V, g) A s.heap H0 [] := ⟨_, rfl, dy⟩
  obtain ⟨z, ez⟩ : ∃ z, z = (r0, g0) := ⟨_, rfl⟩
  rw [← ez] at hr
  have hq0 : ∀ (rb : Int32) (gb : Hq), z = (rb, gb) → rb = r0 ∧ gb = g0 := fun rb gb eb => by rw [ez] at eb; exact ⟨(congrArg Prod.fst eb).symm, (congrArg Prod.snd eb).symm⟩
  clear ez w0 dy0
  unfold r_X8_hasRoomFor at hr
  obtain ⟨H, hH⟩ : ∃ H, H = s.heap := ⟨_, rfl⟩
  obtain ⟨locs, hlo⟩ : ∃ q : List Loc, q = [] := ⟨_, rfl⟩
  have dy : Dy D cA ad (V, g) A s.heap H locs := by rw [hH, hlo]; exact dy
  suffices K : W p l e (headSpec (wM yX8_hasRoomFor cX8_hasRoomFor 2 (some .boolean)) { frames := 0, cells := 0, slots := 0, locals := 0 }).room s m ([.ref (ad k0), .int a1] : List Value).toArray below meth c H locs 0 0 (MQ below (QI D cA ad A r0 (V, g0)) ([.ref (ad k0), .int a1] : List Value).toArray s 0 0 A) (F0 m 0 ls []) by rw [hH, hlo] at K; exact K
  clear hH hlo
  refine lv_aload_n cx.1 cx.2.1 dX8_hasRoomFor_0 rfl (lv_at hl 0 rfl) ?_
  obtain ⟨hv1, hr⟩ := of_grd hr
  refine h_getI cx fx dy fd_8_1 hv1 tb_85 dX8_hasRoomFor_1 ?_
  refine lv_iload_n cx.1 cx.2.1 dX8_hasRoomFor_4 rfl (lv_at hl 1 rfl) ?_
  refine lv_iadd cx.1 cx.2.1 dX8_hasRoomFor_5 ?_
  refine lv_sipush (v := 800) cx.1 cx.2.1 dX8_hasRoomFor_6 (by decide) ?_
  rcases of_brn hr with ⟨hc, hr⟩ | ⟨hc, hr⟩
  · refine lv_icmp_gt (tgt := 16) cx.1 cx.2.1 dX8_hasRoomFor_9 (by decide) (fun _ => ?_) (fun hn => absurd hc hn)
    refine lv_iconst (v := 0) cx.1 cx.2.1 dX8_hasRoomFor_16 (by decide) ?_
    obtain ⟨e0, e1⟩ := hq0 _ _ (Option.some.inj hr).symm
    exact h_iret cx dy hlocks hret rfl e0 (by rw [e1]) dX8_hasRoomFor_17
  · refine lv_icmp_gt (tgt := 16) cx.1 cx.2.1 dX8_hasRoomFor_9 (by decide) (fun hn => absurd hn hc) (fun _ => ?_)
    refine lv_iconst (v := 1) cx.1 cx.2.1 dX8_hasRoomFor_12 (by decide) ?_
    refine lv_goto (tgt := 17) cx.1 cx.2.1 dX8_hasRoomFor_13 (by decide) ?_
    obtain ⟨e0, e1⟩ := hq0 _ _ (Option.some.inj hr).symm
    exact h_iret cx dy hlocks hret rfl e0 (by rw [e1]) dX8_hasRoomFor_17
noncomputable def r_X8_append_3' (V : Vk) (k1 : Nat) (x2 : Int32) (x3 : Int32) (g4 : Hq) : Option ((Nat × Int32 × Int32 × Hq) ⊕ (Unit × Hq)) :=
  brn (x3 < 0) (some (.inr ((), g4))) (grd (V k1 = some (8, 0)) <| brn ((800 : Int32) ≤ (g4.1 k1 1)) (some (.inr ((), g4))) (Option.bind (g4.2.2 k1 0) fun k6 => grd (okV V k6 1 (g4.1 k1 1)) <| nm (sI g4 k6 (g4.1 k1 1).toNatClampNeg (vp_nar .byte (x2 >>> (x3 &&& 31)).toInt8.toInt32)) fun g9 => nm (sI g9 k1 1 ((g9.1 k1 1) + (1 : Int32))) fun g10 => nm (x3 + (-8 : Int32)) fun x11 => some (.inl (k1, x2, x11, g10))))
noncomputable def r_X8_append_3 (V : Vk) (st : (Nat × Int32 × Int32 × Hq)) : Option ((Nat × Int32 × Int32 × Hq) ⊕ (Unit × Hq)) := r_X8_append_3' V st.1 st.2.1 st.2.2.1 st.2.2.2
set_option maxHeartbeats 4000000 in
set_option maxRecDepth 100000 in
theorem w_X8_append_3 {p : Program} {l : Launch} {e : Env} {R : Room} {s : State} {m : MethodId} {args : Array Value} {below : List Frame} {meth : Method} {c : Code} {D : va_G} {cA : Nat → ClassId} {sk : (Nat → Nat) × (Nat → Nat)} {ad : Nat → Nat} {A : Nat → Prop} {V : Vk} (cx : CallFix p m c cX8_append 3 s args gw_tbl RX8) (fx : Fx D cA sk A s) (hlocks : meth.locks = false) (hret : meth.sig.returnType = none) (hR : 0 ≤ R.frames ∧ 0 ≤ R.locals) (g0 : Hq) (y : (Unit × Hq)) (hq : ∀ (rb : Unit) (gb : Hq), y = (rb, gb) → gb = g0) : ∀ (n : Nat) (k1 : Nat) (x2 : Int32) (x3 : Int32) (g4 : Hq), itr (r_X8_append_3 V) n (k1, x2, x3, g4) = some y → ∀ (H : Heap) (locs : List Loc) (ls : Array Slot), Dy D cA ad (V, g4) A s.heap H locs → lv_has ls 3 [(0, .ref (ad k1)), (1, .int x2), (2, .int x3)] → W p l e R s m args below meth c H locs 0 0 (MQ below (QV D cA ad A (V, g0)) args s 0 0 A) (F0 m 3 ls []) := by
  intro n
  induction n with
  | zero => intro k1 x2 x3 g4 hr; cases hr
  | succ n ih =>
    intro k1 x2 x3 g4 hr H locs ls dy hl
    obtain ⟨z, hz, hn1, hn2⟩ := itr_succ hr
    clear hr
    have hr : r_X8_append_3' V k1 x2 x3 g4 = some z := hz
    clear hz
    unfold r_X8_append_3' at hr
    have hh0 : ∀ (b0 : Nat) (b1 : Int32) (b2 : Int32) (gb : Hq), z = .inl (b0, b1, b2, gb) → ∀ (H : Heap) (locs : List Loc) (ls : Array Slot), Dy D cA ad (V, gb) A s.heap H locs → lv_has ls 3 [(0, .ref (ad b0)), (1, .int b1), (2, .int b2)] → W p l e R s m args below meth c H locs 0 0 (MQ below (QV D cA ad A (V, g0)) args s 0 0 A) (F0 m 3 ls []) := fun b0 b1 b2 gb eb => ih b0 b1 b2 gb (hn1 _ eb)
    have hq0 : ∀ (rb : Unit) (gb : Hq), z = (.inr (rb, gb)) → gb = g0 := fun rb gb eb => hq rb gb (hn2 _ eb).symm
    refine lv_iload_n cx.1 cx.2.1 dX8_append_3 rfl (lv_at hl 2 rfl) ?_
    rcases of_brn hr with ⟨hc, hr⟩ | ⟨hc, hr⟩
    · refine lv_if_lt (tgt := 46) cx.1 cx.2.1 dX8_append_4 (by decide) (fun _ => ?_) (fun hn => absurd hc hn)
      have e1 := hq0 _ _ (Option.some.inj hr).symm
      exact h_vret cx dy hlocks hret (by rw [e1]) dX8_append_46
    · refine lv_if_lt (tgt := 46) cx.1 cx.2.1 dX8_append_4 (by decide) (fun hn => absurd hn hc) (fun _ => ?_)
      refine lv_aload_n cx.1 cx.2.1 dX8_append_7 rfl (lv_at hl 0 rfl) ?_
      obtain ⟨hv5, hr⟩ := of_grd hr
      refine h_getI cx fx dy fd_8_1 hv5 tb_85 dX8_append_8 ?_
      refine lv_sipush (v := 800) cx.1 cx.2.1 dX8_append_11 (by decide) ?_
      rcases of_brn hr with ⟨hc, hr⟩ | ⟨hc, hr⟩
      · refine lv_icmp_ge (tgt := 46) cx.1 cx.2.1 dX8_append_14 (by decide) (fun _ => ?_) (fun hn => absurd hc hn)
        have e1 := hq0 _ _ (Option.some.inj hr).symm
        exact h_vret cx dy hlocks hret (by rw [e1]) dX8_append_46
      · refine lv_icmp_ge (tgt := 46) cx.1 cx.2.1 dX8_append_14 (by decide) (fun hn => absurd hn hc) (fun _ => ?_)
        refine lv_aload_n cx.1 cx.2.1 dX8_append_17 rfl (lv_at hl 0 rfl) ?_
        obtain ⟨k6, hf7, hr⟩ := of_bnd hr
        refine h_getR cx fx dy fd_8_0 hv5 tb_84 hf7 dX8_append_18 ?_
        refine lv_aload_n cx.1 cx.2.1 dX8_append_21 rfl (lv_at hl 0 rfl) ?_
        refine h_getI cx fx dy fd_8_1 hv5 tb_85 dX8_append_22 ?_
        refine lv_iload_n cx.1 cx.2.1 dX8_append_25 rfl (lv_at hl 1 rfl) ?_
        refine lv_iload_n cx.1 cx.2.1 dX8_append_26 rfl (lv_at hl 2 rfl) ?_
        refine lv_ishr cx.1 cx.2.1 dX8_append_27 ?_
        refine lv_i2b cx.1 cx.2.1 dX8_append_28 rfl ?_
        obtain ⟨ha8, hr⟩ := of_grd hr
        obtain ⟨g9, eg9, hr⟩ := of_nm hr
        refine h_bast cx fx dy ha8 dX8_append_29 (fun H locs dy => ?_)
        replace dy : Dy D cA ad (V, g9) A s.heap H locs := by rw [eg9]; exact dy
        refine lv_aload_n cx.1 cx.2.1 dX8_append_30 rfl (lv_at hl 0 rfl) ?_
        refine lv_dup cx.1 cx.2.1 dX8_append_31 rfl ?_
        refine h_getI cx fx dy fd_8_1 hv5 tb_85 dX8_append_32 ?_
        refine lv_iconst (v := 1) cx.1 cx.2.1 dX8_append_35 (by decide) ?_
        refine lv_iadd cx.1 cx.2.1 dX8_append_36 ?_
        obtain ⟨g10, eg10, hr⟩ := of_nm hr
        refine h_putI cx fx dy fd_8_1 (pd_8_1 : PD _ _ _ _ _ .int) rfl rfl rfl hv5 tb_85 dX8_append_37 (fun H locs dy => ?_)
        replace dy : Dy D cA ad (V, g10) A s.heap H locs := by rw [eg10]; exact dy
        obtain ⟨x11, ex11, hr⟩ := of_nm hr
        refine lv_iinc (v := x11) (lv' := [(2, .int x11), (0, .ref (ad k1)), (1, .int x2)]) cx.1 cx.2.1 dX8_append_40 hl (k := 2) rfl (by rw [ex11]; rfl) (by decide) rfl (fun ls hl => ?_)
        refine lv_goto (tgt := 3) cx.1 cx.2.1 dX8_append_43 (by decide) ?_
        exact hh0 k1 x2 x11 g10 (Option.some.inj hr).symm H locs ls dy (lv_sub hl [1, 2, 0] rfl)
noncomputable def r_X8_append (V : Vk) (k0 : Nat) (a1 : Int32) (g : Hq) : Option (Unit × Hq) :=
  (lop (r_X8_append_3 V) (k0, a1, (24 : Int32), g))
set_option maxHeartbeats 4000000 in
set_option maxRecDepth 100000 in
theorem c_X8_append {l : Launch} {D : va_G} {cA : Nat → ClassId} {sk : (Nat → Nat) × (Nat → Nat)} {ad : Nat → Nat} {A : Nat → Prop} {V : Vk} {k0 : Nat} {a1 : Int32} {g g0 : Hq} (hr : r_X8_append V k0 a1 g = some ((), g0)) : Met l yX8_append (wM yX8_append cX8_append 3 none) { frames := 0, cells := 0, slots := 0, locals := 0 } (Pre D cA sk ad (V, g) A [.ref (ad k0), .int a1]) (QV D cA ad A (V, g0)) 0 0 A := by
  refine Met.ofW (cc := cX8_append) (maxL := 3) (ret := none) (by decide) rfl ?_
  intro p e s m args below meth c s₁ B hml hv
  obtain ⟨rfl, fx, w0⟩ := hv
  have hts := atoms_spec (ws := wM yX8_append cX8_append 3 none) B.pre
  have cx : CallFix p m c cX8_append 3 s ([.ref (ad k0), .int a1] : List Value).toArray gw_tbl RX8 := ⟨B.exec, B.bytes, hml, findClass_of_methodNamed B.named, fun w hw => hts w (List.mem_cons_of_mem _ hw)⟩
  have hlocks := B.notSynchronized
  have hret := B.returns
  have hR : 0 ≤ (headSpec (wM yX8_append cX8_append 3 none) { frames := 0, cells := 0, slots := 0, locals := 0 }).room.frames ∧ 0 ≤ (headSpec (wM yX8_append cX8_append 3 none) { frames := 0, cells := 0, slots := 0, locals := 0 }).room.locals := ⟨Nat.le_refl _, Nat.le_refl _⟩
  have dy : Dy D cA ad (V, g) A s.heap s.heap [] := ⟨w0, va_S.rf⟩
  have hl := lv_entry [.ref (ad k0), .int a1] (n := 3) (Nat.le_of_ble_eq_true rfl)
  rw [lg_entry_eq]
  generalize (lg_sl [.ref (ad k0), .int a1] ++ List.replicate (3 - (lg_sl [.ref (ad k0), .int a1]).length) Slot.unset).toArray = ls at hl ⊢
  have hl : lv_has ls 3 [(0, .ref (ad k0)), (1, .int a1)] := hl
  have dy0 : ∃ H0, H0 = s.heap ∧ Dy D cA ad (V, g) A s.heap H0 [] := ⟨_, rfl, dy⟩
  obtain ⟨z, ez⟩ : ∃ z, z = (((), g0) : Unit × Hq) := ⟨_, rfl⟩
  rw [← ez] at hr
  have hq0 : ∀ (rb : Unit) (gb : Hq), z = (rb, gb) → gb = g0 := fun rb gb eb => by rw [ez] at eb; exact (congrArg Prod.snd eb).symm
  clear ez w0 dy0
  unfold r_X8_append at hr
  obtain ⟨H, hH⟩ : ∃ H, H = s.heap := ⟨_, rfl⟩
  obtain ⟨locs, hlo⟩ : ∃ q : List Loc, q = [] := ⟨_, rfl⟩
  have dy : Dy D cA ad (V, g) A s.heap H locs := by rw [hH, hlo]; exact dy
  suffices K : W p l e (headSpec (wM yX8_append cX8_append 3 none) { frames := 0, cells := 0, slots := 0, locals := 0 }).room s m ([.ref (ad k0), .int a1] : List Value).toArray below meth c H locs 0 0 (MQ below (QV D cA ad A (V, g0)) ([.ref (ad k0), .int a1] : List Value).toArray s 0 0 A) (F0 m 0 ls []) by rw [hH, hlo] at K; exact K
  clear hH hlo
  refine lv_bipush (v := 24) cx.1 cx.2.1 dX8_append_0 (by decide) ?_
  refine lv_istore_n (lv' := [(2, .int (24 : Int32)), (0, .ref (ad k0)), (1, .int a1)]) cx.1 cx.2.1 dX8_append_2 rfl hl (by decide) rfl (fun ls hl => ?_)
  obtain ⟨n, hr⟩ := lop_some hr
  exact w_X8_append_3 cx fx hlocks hret hR g0 z hq0 n k0 a1 (24 : Int32) g hr H locs ls dy (lv_sub hl [1, 2, 0] rfl)
noncomputable def r_X8_cut (V : Vk) (k0 : Nat) (a1 : Int32) (g : Hq) : Option (Unit × Hq) :=
  grd (V k0 = some (8, 0)) <| nm (sI g k0 1 a1) fun g2 => some ((), g2)
set_option maxHeartbeats 4000000 in
set_option maxRecDepth 100000 in
theorem c_X8_cut {l : Launch} {D : va_G} {cA : Nat → ClassId} {sk : (Nat → Nat) × (Nat → Nat)} {ad : Nat → Nat} {A : Nat → Prop} {V : Vk} {k0 : Nat} {a1 : Int32} {g g0 : Hq} (hr : r_X8_cut V k0 a1 g = some ((), g0)) : Met l yX8_cut (wM yX8_cut cX8_cut 2 none) { frames := 0, cells := 0, slots := 0, locals := 0 } (Pre D cA sk ad (V, g) A [.ref (ad k0), .int a1]) (QV D cA ad A (V, g0)) 0 0 A := by
  refine Met.ofW (cc := cX8_cut) (maxL := 2) (ret := none) (by decide) rfl ?_
  intro p e s m args below meth c s₁ B hml hv
  obtain ⟨rfl, fx, w0⟩ := hv
  have hts := atoms_spec (ws := wM yX8_cut cX8_cut 2 none) B.pre
  have cx : CallFix p m c cX8_cut 2 s ([.ref (ad k0), .int a1] : List Value).toArray gw_tbl RX8 := ⟨B.exec, B.bytes, hml, findClass_of_methodNamed B.named, fun w hw => hts w (List.mem_cons_of_mem _ hw)⟩
  have hlocks := B.notSynchronized
  have hret := B.returns
  have hR : 0 ≤ (headSpec (wM yX8_cut cX8_cut 2 none) { frames := 0, cells := 0, slots := 0, locals := 0 }).room.frames ∧ 0 ≤ (headSpec (wM yX8_cut cX8_cut 2 none) { frames := 0, cells := 0, slots := 0, locals := 0 }).room.locals := ⟨Nat.le_refl _, Nat.le_refl _⟩
  have dy : Dy D cA ad (V, g) A s.heap s.heap [] := ⟨w0, va_S.rf⟩
  have hl := lv_entry [.ref (ad k0), .int a1] (n := 2) (Nat.le_of_ble_eq_true rfl)
  rw [lg_entry_eq]
  generalize (lg_sl [.ref (ad k0), .int a1] ++ List.replicate (2 - (lg_sl [.ref (ad k0), .int a1]).length) Slot.unset).toArray = ls at hl ⊢
  have hl : lv_has ls 2 [(0, .ref (ad k0)), (1, .int a1)] := hl
  have dy0 : ∃ H0, H0 = s.heap ∧ Dy D cA ad (V, g) A s.heap H0 [] := ⟨_, rfl, dy⟩
  obtain ⟨z, ez⟩ : ∃ z, z = (((), g0) : Unit × Hq) := ⟨_, rfl⟩
  rw [← ez] at hr
  have hq0 : ∀ (rb : Unit) (gb : Hq), z = (rb, gb) → gb = g0 := fun rb gb eb => by rw [ez] at eb; exact (congrArg Prod.snd eb).symm
  clear ez w0 dy0
  unfold r_X8_cut at hr
  obtain ⟨H, hH⟩ : ∃ H, H = s.heap := ⟨_, rfl⟩
  obtain ⟨locs, hlo⟩ : ∃ q : List Loc, q = [] := ⟨_, rfl⟩
  have dy : Dy D cA ad (V, g) A s.heap H locs := by rw [hH, hlo]; exact dy
  suffices K : W p l e (headSpec (wM yX8_cut cX8_cut 2 none) { frames := 0, cells := 0, slots := 0, locals := 0 }).room s m ([.ref (ad k0), .int a1] : List Value).toArray below meth c H locs 0 0 (MQ below (QV D cA ad A (V, g0)) ([.ref (ad k0), .int a1] : List Value).toArray s 0 0 A) (F0 m 0 ls []) by rw [hH, hlo] at K; exact K
  clear hH hlo
  refine lv_aload_n cx.1 cx.2.1 dX8_cut_0 rfl (lv_at hl 0 rfl) ?_
  refine lv_iload_n cx.1 cx.2.1 dX8_cut_1 rfl (lv_at hl 1 rfl) ?_
  obtain ⟨hv1, hr⟩ := of_grd hr
  obtain ⟨g2, eg2, hr⟩ := of_nm hr
  refine h_putI cx fx dy fd_8_1 (pd_8_1 : PD _ _ _ _ _ .int) rfl rfl rfl hv1 tb_85 dX8_cut_2 (fun H locs dy => ?_)
  replace dy : Dy D cA ad (V, g2) A s.heap H locs := by rw [eg2]; exact dy
  have e1 := hq0 _ _ (Option.some.inj hr).symm
  exact h_vret cx dy hlocks hret (by rw [e1]) dX8_cut_5
noncomputable def r_X8_at (V : Vk) (k0 : Nat) (a1 : Int32) (g : Hq) : Option (Int32 × Hq) :=
  brn (a1 < 0) (some ((-1 : Int32), g)) (grd (V k0 = some (8, 0)) <| brn ((g.1 k0 1) ≤ a1) (some ((-1 : Int32), g)) (Option.bind (g.2.2 k0 0) fun k2 => grd (okV V k2 1 a1) <| some (((g.1 k2 a1.toNatClampNeg) &&& (255 : Int32)), g)))
set_option maxHeartbeats 4000000 in
set_option maxRecDepth 100000 in
theorem c_X8_at {l : Launch} {D : va_G} {cA : Nat → ClassId} {sk : (Nat → Nat) × (Nat → Nat)} {ad : Nat → Nat} {A : Nat → Prop} {V : Vk} {k0 : Nat} {a1 : Int32} {g g0 : Hq} {r0 : Int32} (hr : r_X8_at V k0 a1 g = some (r0, g0)) : Met l yX8_at (wM yX8_at cX8_at 2 (some .int)) { frames := 0, cells := 0, slots := 0, locals := 0 } (Pre D cA sk ad (V, g) A [.ref (ad k0), .int a1]) (QI D cA ad A r0 (V, g0)) 0 0 A := by
  refine Met.ofW (cc := cX8_at) (maxL := 2) (ret := (some .int)) (by decide) rfl ?_
  intro p e s m args below meth c s₁ B hml hv
  obtain ⟨rfl, fx, w0⟩ := hv
  have hts := atoms_spec (ws := wM yX8_at cX8_at 2 (some .int)) B.pre
  have cx : CallFix p m c cX8_at 2 s ([.ref (ad k0), .int a1] : List Value).toArray gw_tbl RX8 := ⟨B.exec, B.bytes, hml, findClass_of_methodNamed B.named, fun w hw => hts w (List.mem_cons_of_mem _ hw)⟩
  have hlocks := B.notSynchronized
  have hret := B.returns
  have hR : 0 ≤ (headSpec (wM yX8_at cX8_at 2 (some .int)) { frames := 0, cells := 0, slots := 0, locals := 0 }).room.frames ∧ 0 ≤ (headSpec (wM yX8_at cX8_at 2 (some .int)) { frames := 0, cells := 0, slots := 0, locals := 0 }).room.locals := ⟨Nat.le_refl _, Nat.le_refl _⟩
  have dy : Dy D cA ad (V, g) A s.heap s.heap [] := ⟨w0, va_S.rf⟩
  have hl := lv_entry [.ref (ad k0), .int a1] (n := 2) (Nat.le_of_ble_eq_true rfl)
  rw [lg_entry_eq]
  generalize (lg_sl [.ref (ad k0), .int a1] ++ List.replicate (2 - (lg_sl [.ref (ad k0), .int a1]).length) Slot.unset).toArray = ls at hl ⊢
  have hl : lv_has ls 2 [(0, .ref (ad k0)), (1, .int a1)] := hl
  have dy0 : ∃ H0, H0 = s.heap ∧ Dy D cA ad (V, g) A s.heap H0 [] := ⟨_, rfl, dy⟩
  obtain ⟨z, ez⟩ : ∃ z, z = (r0, g0) := ⟨_, rfl⟩
  rw [← ez] at hr
  have hq0 : ∀ (rb : Int32) (gb : Hq), z = (rb, gb) → rb = r0 ∧ gb = g0 := fun rb gb eb => by rw [ez] at eb; exact ⟨(congrArg Prod.fst eb).symm, (congrArg Prod.snd eb).symm⟩
  clear ez w0 dy0
  unfold r_X8_at at hr
  obtain ⟨H, hH⟩ : ∃ H, H = s.heap := ⟨_, rfl⟩
  obtain ⟨locs, hlo⟩ : ∃ q : List Loc, q = [] := ⟨_, rfl⟩
  have dy : Dy D cA ad (V, g) A s.heap H locs := by rw [hH, hlo]; exact dy
  suffices K : W p l e (headSpec (wM yX8_at cX8_at 2 (some .int)) { frames := 0, cells := 0, slots := 0, locals := 0 }).room s m ([.ref (ad k0), .int a1] : List Value).toArray below meth c H locs 0 0 (MQ below (QI D cA ad A r0 (V, g0)) ([.ref (ad k0), .int a1] : List Value).toArray s 0 0 A) (F0 m 0 ls []) by rw [hH, hlo] at K; exact K
  clear hH hlo
  refine lv_iload_n cx.1 cx.2.1 dX8_at_0 rfl (lv_at hl 1 rfl) ?_
  rcases of_brn hr with ⟨hc, hr⟩ | ⟨hc, hr⟩
  · refine lv_if_lt (tgt := 25) cx.1 cx.2.1 dX8_at_1 (by decide) (fun _ => ?_) (fun hn => absurd hc hn)
    refine lv_iconst (v := (-1)) cx.1 cx.2.1 dX8_at_25 (by decide) ?_
    obtain ⟨e0, e1⟩ := hq0 _ _ (Option.some.inj hr).symm
    exact h_iret cx dy hlocks hret rfl e0 (by rw [e1]) dX8_at_26
  · refine lv_if_lt (tgt := 25) cx.1 cx.2.1 dX8_at_1 (by decide) (fun hn => absurd hn hc) (fun _ => ?_)
    refine lv_iload_n cx.1 cx.2.1 dX8_at_4 rfl (lv_at hl 1 rfl) ?_
    refine lv_aload_n cx.1 cx.2.1 dX8_at_5 rfl (lv_at hl 0 rfl) ?_
    obtain ⟨hv1, hr⟩ := of_grd hr
    refine h_getI cx fx dy fd_8_1 hv1 tb_85 dX8_at_6 ?_
    rcases of_brn hr with ⟨hc, hr⟩ | ⟨hc, hr⟩
    · refine lv_icmp_ge (tgt := 25) cx.1 cx.2.1 dX8_at_9 (by decide) (fun _ => ?_) (fun hn => absurd hc hn)
      refine lv_iconst (v := (-1)) cx.1 cx.2.1 dX8_at_25 (by decide) ?_
      obtain ⟨e0, e1⟩ := hq0 _ _ (Option.some.inj hr).symm
      exact h_iret cx dy hlocks hret rfl e0 (by rw [e1]) dX8_at_26
    · refine lv_icmp_ge (tgt := 25) cx.1 cx.2.1 dX8_at_9 (by decide) (fun hn => absurd hn hc) (fun _ => ?_)
      refine lv_aload_n cx.1 cx.2.1 dX8_at_12 rfl (lv_at hl 0 rfl) ?_
      obtain ⟨k2, hf3, hr⟩ := of_bnd hr
      refine h_getR cx fx dy fd_8_0 hv1 tb_84 hf3 dX8_at_13 ?_
      refine lv_iload_n cx.1 cx.2.1 dX8_at_16 rfl (lv_at hl 1 rfl) ?_
      obtain ⟨ha4, hr⟩ := of_grd hr
      refine h_bald cx fx dy ha4 dX8_at_17 ?_
      refine lv_sipush (v := 255) cx.1 cx.2.1 dX8_at_18 (by decide) ?_
      refine lv_iand cx.1 cx.2.1 dX8_at_21 ?_
      refine lv_goto (tgt := 26) cx.1 cx.2.1 dX8_at_22 (by decide) ?_
      obtain ⟨e0, e1⟩ := hq0 _ _ (Option.some.inj hr).symm
      exact h_iret cx dy hlocks hret rfl e0 (by rw [e1]) dX8_at_26
