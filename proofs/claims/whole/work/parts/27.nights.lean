noncomputable def r_X5_size (V : Vk) (k0 : Nat) (g : Hq) : Option (Int32 × Hq) :=
  grd (V k0 = some (5, 0)) <| some ((g.1 k0 1), g)
set_option maxHeartbeats 4000000 in
set_option maxRecDepth 100000 in
theorem c_X5_size {l : Launch} {D : va_G} {cA : Nat → ClassId} {sk : (Nat → Nat) × (Nat → Nat)} {ad : Nat → Nat} {A : Nat → Prop} {V : Vk} {k0 : Nat} {g g0 : Hq} {r0 : Int32} (hr : r_X5_size V k0 g = some (r0, g0)) : Met l yX5_size (wM yX5_size cX5_size 1 (some .int)) { frames := 0, cells := 0, slots := 0, locals := 0 } (Pre D cA sk ad (V, g) A [.ref (ad k0)]) (QI D cA ad A r0 (V, g0)) 0 0 A := by
  refine Met.ofW (cc := cX5_size) (maxL := 1) (ret := (some .int)) (by decide) rfl ?_
  intro p e s m args below meth c s₁ B hml hv
  obtain ⟨rfl, fx, w0⟩ := hv
  have hts := atoms_spec (ws := wM yX5_size cX5_size 1 (some .int)) B.pre
  have cx : CallFix p m c cX5_size 1 s ([.ref (ad k0)] : List Value).toArray gw_tbl RX5 := ⟨B.exec, B.bytes, hml, findClass_of_methodNamed B.named, fun w hw => hts w (List.mem_cons_of_mem _ hw)⟩
  have hlocks := B.notSynchronized
  have hret := B.returns
  have hR : 0 ≤ (headSpec (wM yX5_size cX5_size 1 (some .int)) { frames := 0, cells := 0, slots := 0, locals := 0 }).room.frames ∧ 0 ≤ (headSpec (wM yX5_size cX5_size 1 (some .int)) { frames := 0, cells := 0, slots := 0, locals := 0 }).room.locals := ⟨Nat.le_refl _, Nat.le_refl _⟩
  have dy : Dy D cA ad (V, g) A s.heap s.heap [] := ⟨w0, va_S.rf⟩
  have hl := lv_entry [.ref (ad k0)] (n := 1) (Nat.le_of_ble_eq_true rfl)
  rw [lg_entry_eq]
  generalize (lg_sl [.ref (ad k0)] ++ List.replicate (1 - (lg_sl [.ref (ad k0)]).length) Slot.unset).toArray = ls at hl ⊢
  have hl : lv_has ls 1 [(0, .ref (ad k0))] := hl
  have dy0 : ∃ H0, H0 = s.heap ∧ Dy D cA ad (V, g) A s.heap H0 [] := ⟨_, rfl, dy⟩
  obtain ⟨z, ez⟩ : ∃ z, z = (r0, g0) := ⟨_, rfl⟩
  rw [← ez] at hr
  have hq0 : ∀ (rb : Int32) (gb : Hq), z = (rb, gb) → rb = r0 ∧ gb = g0 := fun rb gb eb => by rw [ez] at eb; exact ⟨(congrArg Prod.fst eb).symm, (congrArg Prod.snd eb).symm⟩
  clear ez w0 dy0
  unfold r_X5_size at hr
  obtain ⟨H, hH⟩ : ∃ H, H = s.heap := ⟨_, rfl⟩
  obtain ⟨locs, hlo⟩ : ∃ q : List Loc, q = [] := ⟨_, rfl⟩
  have dy : Dy D cA ad (V, g) A s.heap H locs := by rw [hH, hlo]; exact dy
  suffices K : W p l e (headSpec (wM yX5_size cX5_size 1 (some .int)) { frames := 0, cells := 0, slots := 0, locals := 0 }).room s m ([.ref (ad k0)] : List Value).toArray below meth c H locs 0 0 (MQ below (QI D cA ad A r0 (V, g0)) ([.ref (ad k0)] : List Value).toArray s 0 0 A) (F0 m 0 ls []) by rw [hH, hlo] at K; exact K
  clear hH hlo
  refine lv_aload_n cx.1 cx.2.1 dX5_size_0 rfl (lv_at hl 0 rfl) ?_
  obtain ⟨hv1, hr⟩ := of_grd hr
  refine h_getI cx fx dy fd_5_1 hv1 tb_226 dX5_size_1 ?_
  obtain ⟨e0, e1⟩ := hq0 _ _ (Option.some.inj hr).symm
  exact h_iret cx dy hlocks hret rfl e0 (by rw [e1]) dX5_size_4
noncomputable def r_X5_isFull (V : Vk) (k0 : Nat) (g : Hq) : Option (Int32 × Hq) :=
  grd (V k0 = some (5, 0)) <| brn ((g.1 k0 1) < (100 : Int32)) (some ((0 : Int32), g)) (some ((1 : Int32), g))
set_option maxHeartbeats 4000000 in
set_option maxRecDepth 100000 in
theorem c_X5_isFull {l : Launch} {D : va_G} {cA : Nat → ClassId} {sk : (Nat → Nat) × (Nat → Nat)} {ad : Nat → Nat} {A : Nat → Prop} {V : Vk} {k0 : Nat} {g g0 : Hq} {r0 : Int32} (hr : r_X5_isFull V k0 g = some (r0, g0)) : Met l yX5_isFull (wM yX5_isFull cX5_isFull 1 (some .boolean)) { frames := 0, cells := 0, slots := 0, locals := 0 } (Pre D cA sk ad (V, g) A [.ref (ad k0)]) (QI D cA ad A r0 (V, g0)) 0 0 A := by
  refine Met.ofW (cc := cX5_isFull) (maxL := 1) (ret := (some .boolean)) (by decide) rfl ?_
  intro p e s m args below meth c s₁ B hml hv
  obtain ⟨rfl, fx, w0⟩ := hv
  have hts := atoms_spec (ws := wM yX5_isFull cX5_isFull 1 (some .boolean)) B.pre
  have cx : CallFix p m c cX5_isFull 1 s ([.ref (ad k0)] : List Value).toArray gw_tbl RX5 := ⟨B.exec, B.bytes, hml, findClass_of_methodNamed B.named, fun w hw => hts w (List.mem_cons_of_mem _ hw)⟩
  have hlocks := B.notSynchronized
  have hret := B.returns
  have hR : 0 ≤ (headSpec (wM yX5_isFull cX5_isFull 1 (some .boolean)) { frames := 0, cells := 0, slots := 0, locals := 0 }).room.frames ∧ 0 ≤ (headSpec (wM yX5_isFull cX5_isFull 1 (some .boolean)) { frames := 0, cells := 0, slots := 0, locals := 0 }).room.locals := ⟨Nat.le_refl _, Nat.le_refl _⟩
  have dy : Dy D cA ad (V, g) A s.heap s.heap [] := ⟨w0, va_S.rf⟩
  have hl := lv_entry [.ref (ad k0)] (n := 1) (Nat.le_of_ble_eq_true rfl)
  rw [lg_entry_eq]
  generalize (lg_sl [.ref (ad k0)] ++ List.replicate (1 - (lg_sl [.ref (ad k0)]).length) Slot.unset).toArray = ls at hl ⊢
  have hl : lv_has ls 1 [(0, .ref (ad k0))] := hl
  have dy0 : ∃ H0, H0 = s.heap ∧ Dy D cA ad (V, g) A s.heap H0 [] := ⟨_, rfl, dy⟩
  obtain ⟨z, ez⟩ : ∃ z, z = (r0, g0) := ⟨_, rfl⟩
  rw [← ez] at hr
  have hq0 : ∀ (rb : Int32) (gb : Hq), z = (rb, gb) → rb = r0 ∧ gb = g0 := fun rb gb eb => by rw [ez] at eb; exact ⟨(congrArg Prod.fst eb).symm, (congrArg Prod.snd eb).symm⟩
  clear ez w0 dy0
  unfold r_X5_isFull at hr
  obtain ⟨H, hH⟩ : ∃ H, H = s.heap := ⟨_, rfl⟩
  obtain ⟨locs, hlo⟩ : ∃ q : List Loc, q = [] := ⟨_, rfl⟩
  have dy : Dy D cA ad (V, g) A s.heap H locs := by rw [hH, hlo]; exact dy
  suffices K : W p l e (headSpec (wM yX5_isFull cX5_isFull 1 (some .boolean)) { frames := 0, cells := 0, slots := 0, locals := 0 }).room s m ([.ref (ad k0)] : List Value).toArray below meth c H locs 0 0 (MQ below (QI D cA ad A r0 (V, g0)) ([.ref (ad k0)] : List Value).toArray s 0 0 A) (F0 m 0 ls []) by rw [hH, hlo] at K; exact K
  clear hH hlo
  refine lv_aload_n cx.1 cx.2.1 dX5_isFull_0 rfl (lv_at hl 0 rfl) ?_
  obtain ⟨hv1, hr⟩ := of_grd hr
  refine h_getI cx fx dy fd_5_1 hv1 tb_226 dX5_isFull_1 ?_
  refine lv_bipush (v := 100) cx.1 cx.2.1 dX5_isFull_4 (by decide) ?_
  rcases of_brn hr with ⟨hc, hr⟩ | ⟨hc, hr⟩
  · refine lv_icmp_lt (tgt := 13) cx.1 cx.2.1 dX5_isFull_6 (by decide) (fun _ => ?_) (fun hn => absurd hc hn)
    refine lv_iconst (v := 0) cx.1 cx.2.1 dX5_isFull_13 (by decide) ?_
    obtain ⟨e0, e1⟩ := hq0 _ _ (Option.some.inj hr).symm
    exact h_iret cx dy hlocks hret rfl e0 (by rw [e1]) dX5_isFull_14
  · refine lv_icmp_lt (tgt := 13) cx.1 cx.2.1 dX5_isFull_6 (by decide) (fun hn => absurd hn hc) (fun _ => ?_)
    refine lv_iconst (v := 1) cx.1 cx.2.1 dX5_isFull_9 (by decide) ?_
    refine lv_goto (tgt := 14) cx.1 cx.2.1 dX5_isFull_10 (by decide) ?_
    obtain ⟨e0, e1⟩ := hq0 _ _ (Option.some.inj hr).symm
    exact h_iret cx dy hlocks hret rfl e0 (by rw [e1]) dX5_isFull_14
noncomputable def r_X5_find (V : Vk) (k0 : Nat) (a1 : Int32) (g : Hq) : Option (Option Nat × Hq) :=
  brn (a1 < 0) (some (none, g)) (grd (V k0 = some (5, 0)) <| brn ((g.1 k0 1) ≤ a1) (some (none, g)) (Option.bind (g.2.2 k0 0) fun k2 => grd (okV V k2 6 a1) <| Option.bind (g.2.2 k2 a1.toNatClampNeg) fun k5 => some ((some k5), g)))
set_option maxHeartbeats 4000000 in
set_option maxRecDepth 100000 in
theorem c_X5_find {l : Launch} {D : va_G} {cA : Nat → ClassId} {sk : (Nat → Nat) × (Nat → Nat)} {ad : Nat → Nat} {A : Nat → Prop} {V : Vk} {k0 : Nat} {a1 : Int32} {g g0 : Hq} {r0 : Option Nat} (hr : r_X5_find V k0 a1 g = some (r0, g0)) : Met l yX5_find (wM yX5_find cX5_find 2 (some (.object "WardWatch$Charge"))) { frames := 0, cells := 0, slots := 0, locals := 0 } (Pre D cA sk ad (V, g) A [.ref (ad k0), .int a1]) (QQ D cA ad A r0 (V, g0)) 0 0 A := by
  refine Met.ofW (cc := cX5_find) (maxL := 2) (ret := (some (.object "WardWatch$Charge"))) (by decide) rfl ?_
  intro p e s m args below meth c s₁ B hml hv
  obtain ⟨rfl, fx, w0⟩ := hv
  have hts := atoms_spec (ws := wM yX5_find cX5_find 2 (some (.object "WardWatch$Charge"))) B.pre
  have cx : CallFix p m c cX5_find 2 s ([.ref (ad k0), .int a1] : List Value).toArray gw_tbl RX5 := ⟨B.exec, B.bytes, hml, findClass_of_methodNamed B.named, fun w hw => hts w (List.mem_cons_of_mem _ hw)⟩
  have hlocks := B.notSynchronized
  have hret := B.returns
  have hR : 0 ≤ (headSpec (wM yX5_find cX5_find 2 (some (.object "WardWatch$Charge"))) { frames := 0, cells := 0, slots := 0, locals := 0 }).room.frames ∧ 0 ≤ (headSpec (wM yX5_find cX5_find 2 (some (.object "WardWatch$Charge"))) { frames := 0, cells := 0, slots := 0, locals := 0 }).room.locals := ⟨Nat.le_refl _, Nat.le_refl _⟩
  have dy : Dy D cA ad (V, g) A s.heap s.heap [] := ⟨w0, va_S.rf⟩
  have hl := lv_entry [.ref (ad k0), .int a1] (n := 2) (Nat.le_of_ble_eq_true rfl)
  rw [lg_entry_eq]
  generalize (lg_sl [.ref (ad k0), .int a1] ++ List.replicate (2 - (lg_sl [.ref (ad k0), .int a1]).length) Slot.unset).toArray = ls at hl ⊢
  have hl : lv_has ls 2 [(0, .ref (ad k0)), (1, .int a1)] := hl
  have dy0 : ∃ H0, H0 = s.heap ∧ Dy D cA ad (V, g) A s.heap H0 [] := ⟨_, rfl, dy⟩
  obtain ⟨z, ez⟩ : ∃ z, z = (r0, g0) := ⟨_, rfl⟩
  rw [← ez] at hr
  have hq0 : ∀ (rb : Option Nat) (gb : Hq), z = (rb, gb) → rb = r0 ∧ gb = g0 := fun rb gb eb => by rw [ez] at eb; exact ⟨(congrArg Prod.fst eb).symm, (congrArg Prod.snd eb).symm⟩
  clear ez w0 dy0
  unfold r_X5_find at hr
  obtain ⟨H, hH⟩ : ∃ H, H = s.heap := ⟨_, rfl⟩
  obtain ⟨locs, hlo⟩ : ∃ q : List Loc, q = [] := ⟨_, rfl⟩
  have dy : Dy D cA ad (V, g) A s.heap H locs := by rw [hH, hlo]; exact dy
  suffices K : W p l e (headSpec (wM yX5_find cX5_find 2 (some (.object "WardWatch$Charge"))) { frames := 0, cells := 0, slots := 0, locals := 0 }).room s m ([.ref (ad k0), .int a1] : List Value).toArray below meth c H locs 0 0 (MQ below (QQ D cA ad A r0 (V, g0)) ([.ref (ad k0), .int a1] : List Value).toArray s 0 0 A) (F0 m 0 ls []) by rw [hH, hlo] at K; exact K
  clear hH hlo
  refine lv_iload_n cx.1 cx.2.1 dX5_find_0 rfl (lv_at hl 1 rfl) ?_
  rcases of_brn hr with ⟨hc, hr⟩ | ⟨hc, hr⟩
  · refine lv_if_lt (tgt := 21) cx.1 cx.2.1 dX5_find_1 (by decide) (fun _ => ?_) (fun hn => absurd hc hn)
    refine lv_null cx.1 cx.2.1 dX5_find_21 ?_
    obtain ⟨e0, e1⟩ := hq0 _ _ (Option.some.inj hr).symm
    exact h_aret (r := none) cx dy hlocks hret ⟨_, rfl⟩ rfl e0 (by rw [e1]) dX5_find_22
  · refine lv_if_lt (tgt := 21) cx.1 cx.2.1 dX5_find_1 (by decide) (fun hn => absurd hn hc) (fun _ => ?_)
    refine lv_iload_n cx.1 cx.2.1 dX5_find_4 rfl (lv_at hl 1 rfl) ?_
    refine lv_aload_n cx.1 cx.2.1 dX5_find_5 rfl (lv_at hl 0 rfl) ?_
    obtain ⟨hv1, hr⟩ := of_grd hr
    refine h_getI cx fx dy fd_5_1 hv1 tb_226 dX5_find_6 ?_
    rcases of_brn hr with ⟨hc, hr⟩ | ⟨hc, hr⟩
    · refine lv_icmp_ge (tgt := 21) cx.1 cx.2.1 dX5_find_9 (by decide) (fun _ => ?_) (fun hn => absurd hc hn)
      refine lv_null cx.1 cx.2.1 dX5_find_21 ?_
      obtain ⟨e0, e1⟩ := hq0 _ _ (Option.some.inj hr).symm
      exact h_aret (r := none) cx dy hlocks hret ⟨_, rfl⟩ rfl e0 (by rw [e1]) dX5_find_22
    · refine lv_icmp_ge (tgt := 21) cx.1 cx.2.1 dX5_find_9 (by decide) (fun hn => absurd hn hc) (fun _ => ?_)
      refine lv_aload_n cx.1 cx.2.1 dX5_find_12 rfl (lv_at hl 0 rfl) ?_
      obtain ⟨k2, hf3, hr⟩ := of_bnd hr
      refine h_getR cx fx dy fd_5_0 hv1 tb_225 hf3 dX5_find_13 ?_
      refine lv_iload_n cx.1 cx.2.1 dX5_find_16 rfl (lv_at hl 1 rfl) ?_
      obtain ⟨ha4, hr⟩ := of_grd hr
      obtain ⟨k5, hf6, hr⟩ := of_bnd hr
      refine h_aald (t := 6) cx fx dy (by decide) rfl ha4 hf6 dX5_find_17 ?_
      refine lv_goto (tgt := 22) cx.1 cx.2.1 dX5_find_18 (by decide) ?_
      obtain ⟨e0, e1⟩ := hq0 _ _ (Option.some.inj hr).symm
      exact h_aret (r := (some k5)) cx dy hlocks hret ⟨_, rfl⟩ rfl e0 (by rw [e1]) dX5_find_22
noncomputable def r_X5_firstWithPlace_2' (V : Vk) (x1 : Int32) (k2 : Nat) (x3 : Int32) (g4 : Hq) : Option ((Int32 × Nat × Int32 × Hq) ⊕ (Int32 × Hq)) :=
  brn ((4 : Int32) ≤ x3) (some (.inr ((-1 : Int32), g4))) (nm ((x1 + x3) - (x1 + x3) / (4 : Int32) * (4 : Int32)) fun x5 => grd (okV V k2 4 x5) <| Option.bind (g4.2.2 k2 x5.toNatClampNeg) fun k7 => grd (V k7 = some (10, 0)) <| bnd (r_X10_hasPlace V k7 g4) fun x10 g9 => brn (x10 = 0) (nm (x3 + (1 : Int32)) fun x13 => some (.inl (x1, k2, x13, g9))) (some (.inr (x5, g9))))
noncomputable def r_X5_firstWithPlace_2 (V : Vk) (st : (Int32 × Nat × Int32 × Hq)) : Option ((Int32 × Nat × Int32 × Hq) ⊕ (Int32 × Hq)) := r_X5_firstWithPlace_2' V st.1 st.2.1 st.2.2.1 st.2.2.2
set_option maxHeartbeats 4000000 in
set_option maxRecDepth 100000 in
theorem w_X5_firstWithPlace_2 {p : Program} {l : Launch} {e : Env} {R : Room} {s : State} {m : MethodId} {args : Array Value} {below : List Frame} {meth : Method} {c : Code} {D : va_G} {cA : Nat → ClassId} {sk : (Nat → Nat) × (Nat → Nat)} {ad : Nat → Nat} {A : Nat → Prop} {V : Vk} (cx : CallFix p m c cX5_firstWithPlace 4 s args gw_tbl RX5) (fx : Fx D cA sk A s) (hlocks : meth.locks = false) (hret : meth.sig.returnType = (some .int)) (hR : 1 ≤ R.frames ∧ 20 ≤ R.locals) (r0 : Int32) (g0 : Hq) (y : (Int32 × Hq)) (hq : ∀ (rb : Int32) (gb : Hq), y = (rb, gb) → rb = r0 ∧ gb = g0) : ∀ (n : Nat) (x1 : Int32) (k2 : Nat) (x3 : Int32) (g4 : Hq), itr (r_X5_firstWithPlace_2 V) n (x1, k2, x3, g4) = some y → ∀ (H : Heap) (locs : List Loc) (ls : Array Slot), Dy D cA ad (V, g4) A s.heap H locs → lv_has ls 4 [(0, .int x1), (1, .ref (ad k2)), (2, .int x3)] → W p l e R s m args below meth c H locs 0 0 (MQ below (QI D cA ad A r0 (V, g0)) args s 0 0 A) (F0 m 2 ls []) := by
  intro n
  induction n with
  | zero => intro x1 k2 x3 g4 hr; cases hr
  | succ n ih =>
    intro x1 k2 x3 g4 hr H locs ls dy hl
    obtain ⟨z, hz, hn1, hn2⟩ := itr_succ hr
    clear hr
    have hr : r_X5_firstWithPlace_2' V x1 k2 x3 g4 = some z := hz
    clear hz
    unfold r_X5_firstWithPlace_2' at hr
    have hh0 : ∀ (b0 : Int32) (b1 : Nat) (b2 : Int32) (gb : Hq), z = .inl (b0, b1, b2, gb) → ∀ (H : Heap) (locs : List Loc) (ls : Array Slot), Dy D cA ad (V, gb) A s.heap H locs → lv_has ls 4 [(0, .int b0), (1, .ref (ad b1)), (2, .int b2)] → W p l e R s m args below meth c H locs 0 0 (MQ below (QI D cA ad A r0 (V, g0)) args s 0 0 A) (F0 m 2 ls []) := fun b0 b1 b2 gb eb => ih b0 b1 b2 gb (hn1 _ eb)
    have hq0 : ∀ (rb : Int32) (gb : Hq), z = (.inr (rb, gb)) → rb = r0 ∧ gb = g0 := fun rb gb eb => hq rb gb (hn2 _ eb).symm
    refine lv_iload_n cx.1 cx.2.1 dX5_firstWithPlace_2 rfl (lv_at hl 2 rfl) ?_
    refine lv_iconst (v := 4) cx.1 cx.2.1 dX5_firstWithPlace_3 (by decide) ?_
    rcases of_brn hr with ⟨hc, hr⟩ | ⟨hc, hr⟩
    · refine lv_icmp_ge (tgt := 30) cx.1 cx.2.1 dX5_firstWithPlace_4 (by decide) (fun _ => ?_) (fun hn => absurd hc hn)
      refine lv_iconst (v := (-1)) cx.1 cx.2.1 dX5_firstWithPlace_30 (by decide) ?_
      obtain ⟨e0, e1⟩ := hq0 _ _ (Option.some.inj hr).symm
      exact h_iret cx dy hlocks hret rfl e0 (by rw [e1]) dX5_firstWithPlace_31
    · refine lv_icmp_ge (tgt := 30) cx.1 cx.2.1 dX5_firstWithPlace_4 (by decide) (fun hn => absurd hn hc) (fun _ => ?_)
      refine lv_iload_n cx.1 cx.2.1 dX5_firstWithPlace_7 rfl (lv_at hl 0 rfl) ?_
      refine lv_iload_n cx.1 cx.2.1 dX5_firstWithPlace_8 rfl (lv_at hl 2 rfl) ?_
      refine lv_iadd cx.1 cx.2.1 dX5_firstWithPlace_9 ?_
      refine lv_iconst (v := 4) cx.1 cx.2.1 dX5_firstWithPlace_10 (by decide) ?_
      refine lv_irem cx.1 cx.2.1 dX5_firstWithPlace_11 (by decide) ?_
      obtain ⟨x5, ex5, hr⟩ := of_nm hr
      refine lv_nmi ex5 ?_
      refine lv_istore_n (lv' := [(3, .int x5), (0, .int x1), (1, .ref (ad k2)), (2, .int x3)]) cx.1 cx.2.1 dX5_firstWithPlace_12 rfl hl (by decide) rfl (fun ls hl => ?_)
      refine lv_aload_n cx.1 cx.2.1 dX5_firstWithPlace_13 rfl (lv_at hl 2 rfl) ?_
      refine lv_iload_n cx.1 cx.2.1 dX5_firstWithPlace_14 rfl (lv_at hl 0 rfl) ?_
      obtain ⟨ha6, hr⟩ := of_grd hr
      obtain ⟨k7, hf8, hr⟩ := of_bnd hr
      refine h_aald (t := 4) cx fx dy (by decide) rfl ha6 hf8 dX5_firstWithPlace_15 ?_
      obtain ⟨hv11, hr⟩ := of_grd hr
      obtain ⟨x10, g9, hc12, hr⟩ := of_bnd2 hr
      refine r_i dy (k_V (As := []) (b := k7) (ci := 10) cx fx dy (c_X10_hasPlace hc12) mv_X10_hasPlace rfl rfl ⟨Nat.le_trans (by decide) hR.1, Nat.le_trans (by decide) hR.2⟩ tb_883 hv11 rfl (by decide) rfl hl.1 rfl (Nat.le_of_ble_eq_true rfl) ⟨Nat.zero_le _, Nat.zero_le _⟩ dX5_firstWithPlace_16) (fun H locs dy => ?_)
      rcases of_brn hr with ⟨hc, hr⟩ | ⟨hc, hr⟩
      · refine lv_if_eq (tgt := 24) cx.1 cx.2.1 dX5_firstWithPlace_19 (by decide) (fun _ => ?_) (fun hn => absurd hc hn)
        obtain ⟨x13, ex13, hr⟩ := of_nm hr
        refine lv_iinc (v := x13) (lv' := [(2, .int x13), (3, .int x5), (0, .int x1), (1, .ref (ad k2))]) cx.1 cx.2.1 dX5_firstWithPlace_24 hl (k := 3) rfl (by rw [ex13]; rfl) (by decide) rfl (fun ls hl => ?_)
        refine lv_goto (tgt := 2) cx.1 cx.2.1 dX5_firstWithPlace_27 (by decide) ?_
        exact hh0 x1 k2 x13 g9 (Option.some.inj hr).symm H locs ls dy (lv_sub hl [2, 3, 0] rfl)
      · refine lv_if_eq (tgt := 24) cx.1 cx.2.1 dX5_firstWithPlace_19 (by decide) (fun hn => absurd hn hc) (fun _ => ?_)
        refine lv_iload_n cx.1 cx.2.1 dX5_firstWithPlace_22 rfl (lv_at hl 0 rfl) ?_
        obtain ⟨e0, e1⟩ := hq0 _ _ (Option.some.inj hr).symm
        exact h_iret cx dy hlocks hret rfl e0 (by rw [e1]) dX5_firstWithPlace_23
noncomputable def r_X5_firstWithPlace (V : Vk) (a1 : Int32) (a2 : Nat) (g : Hq) : Option (Int32 × Hq) :=
  (lop (r_X5_firstWithPlace_2 V) (a1, a2, (0 : Int32), g))
set_option maxHeartbeats 4000000 in
set_option maxRecDepth 100000 in
theorem c_X5_firstWithPlace {l : Launch} {D : va_G} {cA : Nat → ClassId} {sk : (Nat → Nat) × (Nat → Nat)} {ad : Nat → Nat} {A : Nat → Prop} {V : Vk} {a1 : Int32} {a2 : Nat} {g g0 : Hq} {r0 : Int32} (hr : r_X5_firstWithPlace V a1 a2 g = some (r0, g0)) : Met l yX5_firstWithPlace (wM yX5_firstWithPlace cX5_firstWithPlace 4 (some .int)) { frames := 1, cells := 0, slots := 0, locals := 20 } (Pre D cA sk ad (V, g) A [.int a1, .ref (ad a2)]) (QI D cA ad A r0 (V, g0)) 0 0 A := by
  refine Met.ofW (cc := cX5_firstWithPlace) (maxL := 4) (ret := (some .int)) (by decide) rfl ?_
  intro p e s m args below meth c s₁ B hml hv
  obtain ⟨rfl, fx, w0⟩ := hv
  have hts := atoms_spec (ws := wM yX5_firstWithPlace cX5_firstWithPlace 4 (some .int)) B.pre
  have cx : CallFix p m c cX5_firstWithPlace 4 s ([.int a1, .ref (ad a2)] : List Value).toArray gw_tbl RX5 := ⟨B.exec, B.bytes, hml, findClass_of_methodNamed B.named, fun w hw => hts w (List.mem_cons_of_mem _ hw)⟩
  have hlocks := B.notSynchronized
  have hret := B.returns
  have hR : 1 ≤ (headSpec (wM yX5_firstWithPlace cX5_firstWithPlace 4 (some .int)) { frames := 1, cells := 0, slots := 0, locals := 20 }).room.frames ∧ 20 ≤ (headSpec (wM yX5_firstWithPlace cX5_firstWithPlace 4 (some .int)) { frames := 1, cells := 0, slots := 0, locals := 20 }).room.locals := ⟨Nat.le_refl _, Nat.le_refl _⟩
  have dy : Dy D cA ad (V, g) A s.heap s.heap [] := ⟨w0, va_S.rf⟩
  have hl := lv_entry [.int a1, .ref (ad a2)] (n := 4) (Nat.le_of_ble_eq_true rfl)
  rw [lg_entry_eq]
  generalize (lg_sl [.int a1, .ref (ad a2)] ++ List.replicate (4 - (lg_sl [.int a1, .ref (ad a2)]).length) Slot.unset).toArray = ls at hl ⊢
  have hl : lv_has ls 4 [(0, .int a1), (1, .ref (ad a2))] := hl
  have dy0 : ∃ H0, H0 = s.heap ∧ Dy D cA ad (V, g) A s.heap H0 [] := ⟨_, rfl, dy⟩
  obtain ⟨z, ez⟩ : ∃ z, z = (r0, g0) := ⟨_, rfl⟩
  rw [← ez] at hr
  have hq0 : ∀ (rb : Int32) (gb : Hq), z = (rb, gb) → rb = r0 ∧ gb = g0 := fun rb gb eb => by rw [ez] at eb; exact ⟨(congrArg Prod.fst eb).symm, (congrArg Prod.snd eb).symm⟩
  clear ez w0 dy0
  unfold r_X5_firstWithPlace at hr
  obtain ⟨H, hH⟩ : ∃ H, H = s.heap := ⟨_, rfl⟩
  obtain ⟨locs, hlo⟩ : ∃ q : List Loc, q = [] := ⟨_, rfl⟩
  have dy : Dy D cA ad (V, g) A s.heap H locs := by rw [hH, hlo]; exact dy
  suffices K : W p l e (headSpec (wM yX5_firstWithPlace cX5_firstWithPlace 4 (some .int)) { frames := 1, cells := 0, slots := 0, locals := 20 }).room s m ([.int a1, .ref (ad a2)] : List Value).toArray below meth c H locs 0 0 (MQ below (QI D cA ad A r0 (V, g0)) ([.int a1, .ref (ad a2)] : List Value).toArray s 0 0 A) (F0 m 0 ls []) by rw [hH, hlo] at K; exact K
  clear hH hlo
  refine lv_iconst (v := 0) cx.1 cx.2.1 dX5_firstWithPlace_0 (by decide) ?_
  refine lv_istore_n (lv' := [(2, .int (0 : Int32)), (0, .int a1), (1, .ref (ad a2))]) cx.1 cx.2.1 dX5_firstWithPlace_1 rfl hl (by decide) rfl (fun ls hl => ?_)
  obtain ⟨n, hr⟩ := lop_some hr
  exact w_X5_firstWithPlace_2 cx fx hlocks hret hR r0 g0 z hq0 n a1 a2 (0 : Int32) g hr H locs ls dy (lv_sub hl [1, 2, 0] rfl)
noncomputable def r_X5_lockUp (V : Vk) (k0 : Nat) (a1 : Nat) (a2 : Nat) (a3 : Int32) (g : Hq) : Option (Unit × Hq) :=
  grd (V a1 = some (0, 0)) <| bnd (r_X5_firstWithPlace V (g.1 a1 0) a2 g) fun x3 g2 => brn (x3 = (-1 : Int32)) (nm (sI g2 a1 3 (2 : Int32)) fun g5 => some ((), g5)) (brn (x3 = (g2.1 a1 0)) (nm (sI g2 a1 4 x3) fun g6 => grd (okV V a2 4 x3) <| Option.bind (g6.2.2 a2 x3.toNatClampNeg) fun k8 => grd (V k8 = some (10, 0)) <| nm (sI g6 k8 2 ((g6.1 k8 2) + (1 : Int32))) fun g11 => some ((), g11)) (grd (okV V a2 4 x3) <| Option.bind (g2.2.2 a2 x3.toNatClampNeg) fun k13 => grd (V k13 = some (10, 0)) <| Option.bind (g2.2.2 k13 0) fun k16 => grd (V k16 = some (4, 0)) <| bnd (r_X4_letFollow V k16 a3 g2) fun x19 g18 => brn (x19 = 0) (nm (sI g18 a1 3 (2 : Int32)) fun g22 => some ((), g22)) (nm (sI g18 a1 4 x3) fun g23 => grd (okV V a2 4 x3) <| Option.bind (g23.2.2 a2 x3.toNatClampNeg) fun k25 => grd (V k25 = some (10, 0)) <| nm (sI g23 k25 2 ((g23.1 k25 2) + (1 : Int32))) fun g28 => some ((), g28))))
set_option maxHeartbeats 4000000 in
set_option maxRecDepth 100000 in
theorem c_X5_lockUp {l : Launch} {D : va_G} {cA : Nat → ClassId} {sk : (Nat → Nat) × (Nat → Nat)} {ad : Nat → Nat} {A : Nat → Prop} {V : Vk} {k0 : Nat} {a1 : Nat} {a2 : Nat} {a3 : Int32} {g g0 : Hq} (hr : r_X5_lockUp V k0 a1 a2 a3 g = some ((), g0)) : Met l yX5_lockUp (wM yX5_lockUp cX5_lockUp 5 none) { frames := 2, cells := 0, slots := 0, locals := 43 } (Pre D cA sk ad (V, g) A [.ref (ad k0), .ref (ad a1), .ref (ad a2), .int a3]) (QV D cA ad A (V, g0)) 0 0 A := by
  refine Met.ofW (cc := cX5_lockUp) (maxL := 5) (ret := none) (by decide) rfl ?_
  intro p e s m args below meth c s₁ B hml hv
  obtain ⟨rfl, fx, w0⟩ := hv
  have hts := atoms_spec (ws := wM yX5_lockUp cX5_lockUp 5 none) B.pre
  have cx : CallFix p m c cX5_lockUp 5 s ([.ref (ad k0), .ref (ad a1), .ref (ad a2), .int a3] : List Value).toArray gw_tbl RX5 := ⟨B.exec, B.bytes, hml, findClass_of_methodNamed B.named, fun w hw => hts w (List.mem_cons_of_mem _ hw)⟩
  have hlocks := B.notSynchronized
  have hret := B.returns
  have hR : 2 ≤ (headSpec (wM yX5_lockUp cX5_lockUp 5 none) { frames := 2, cells := 0, slots := 0, locals := 43 }).room.frames ∧ 43 ≤ (headSpec (wM yX5_lockUp cX5_lockUp 5 none) { frames := 2, cells := 0, slots := 0, locals := 43 }).room.locals := ⟨Nat.le_refl _, Nat.le_refl _⟩
  have dy : Dy D cA ad (V, g) A s.heap s.heap [] := ⟨w0, va_S.rf⟩
  have hl := lv_entry [.ref (ad k0), .ref (ad a1), .ref (ad a2), .int a3] (n := 5) (Nat.le_of_ble_eq_true rfl)
  rw [lg_entry_eq]
  generalize (lg_sl [.ref (ad k0), .ref (ad a1), .ref (ad a2), .int a3] ++ List.replicate (5 - (lg_sl [.ref (ad k0), .ref (ad a1), .ref (ad a2), .int a3]).length) Slot.unset).toArray = ls at hl ⊢
  have hl : lv_has ls 5 [(0, .ref (ad k0)), (1, .ref (ad a1)), (2, .ref (ad a2)), (3, .int a3)] := hl
  have dy0 : ∃ H0, H0 = s.heap ∧ Dy D cA ad (V, g) A s.heap H0 [] := ⟨_, rfl, dy⟩
  obtain ⟨z, ez⟩ : ∃ z, z = (((), g0) : Unit × Hq) := ⟨_, rfl⟩
  rw [← ez] at hr
  have hq0 : ∀ (rb : Unit) (gb : Hq), z = (rb, gb) → gb = g0 := fun rb gb eb => by rw [ez] at eb; exact (congrArg Prod.snd eb).symm
  clear ez w0 dy0
  unfold r_X5_lockUp at hr
  obtain ⟨H, hH⟩ : ∃ H, H = s.heap := ⟨_, rfl⟩
  obtain ⟨locs, hlo⟩ : ∃ q : List Loc, q = [] := ⟨_, rfl⟩
  have dy : Dy D cA ad (V, g) A s.heap H locs := by rw [hH, hlo]; exact dy
  suffices K : W p l e (headSpec (wM yX5_lockUp cX5_lockUp 5 none) { frames := 2, cells := 0, slots := 0, locals := 43 }).room s m ([.ref (ad k0), .ref (ad a1), .ref (ad a2), .int a3] : List Value).toArray below meth c H locs 0 0 (MQ below (QV D cA ad A (V, g0)) ([.ref (ad k0), .ref (ad a1), .ref (ad a2), .int a3] : List Value).toArray s 0 0 A) (F0 m 0 ls []) by rw [hH, hlo] at K; exact K
  clear hH hlo
  refine lv_aload_n cx.1 cx.2.1 dX5_lockUp_0 rfl (lv_at hl 1 rfl) ?_
  obtain ⟨hv1, hr⟩ := of_grd hr
  refine h_getIN cx fx dy fd_0_0 hv1 tb_851 dX5_lockUp_1 ?_
  refine lv_aload_n cx.1 cx.2.1 dX5_lockUp_4 rfl (lv_at hl 2 rfl) ?_
  obtain ⟨x3, g2, hc4, hr⟩ := of_bnd2 hr
  refine r_i dy (k_S (As := [.int (g.1 a1 0), .ref (ad a2)]) cx fx dy (c_X5_firstWithPlace hc4) mv_X5_firstWithPlace rfl rfl ⟨Nat.le_trans (by decide) hR.1, Nat.le_trans (by decide) hR.2⟩ tb_880 rfl hl.1 rfl (Nat.le_of_ble_eq_true rfl) ⟨Nat.zero_le _, Nat.zero_le _⟩ dX5_lockUp_5) (fun H locs dy => ?_)
  refine lv_istore (lv' := [(4, .int x3), (0, .ref (ad k0)), (1, .ref (ad a1)), (2, .ref (ad a2)), (3, .int a3)]) cx.1 cx.2.1 dX5_lockUp_8 hl (by decide) rfl (fun ls hl => ?_)
  refine lv_iload cx.1 cx.2.1 dX5_lockUp_10 (lv_at hl 0 rfl) ?_
  refine lv_iconst (v := (-1)) cx.1 cx.2.1 dX5_lockUp_12 (by decide) ?_
  rcases of_brn hr with ⟨hc, hr⟩ | ⟨hc, hr⟩
  · refine lv_icmp_eq (tgt := 39) cx.1 cx.2.1 dX5_lockUp_13 (by decide) (fun _ => ?_) (fun hn => absurd hc hn)
    refine lv_aload_n cx.1 cx.2.1 dX5_lockUp_39 rfl (lv_at hl 2 rfl) ?_
    refine lv_iconst (v := 2) cx.1 cx.2.1 dX5_lockUp_40 (by decide) ?_
    obtain ⟨g5, eg5, hr⟩ := of_nm hr
    refine h_putIN cx fx dy fd_0_3 (pd_0_3 : PD _ _ _ _ _ .int) rfl rfl rfl hv1 tb_857 dX5_lockUp_41 (fun H locs dy => ?_)
    replace dy : Dy D cA ad (V, g5) A s.heap H locs := by rw [eg5]; exact dy
    have e1 := hq0 _ _ (Option.some.inj hr).symm
    exact h_vret cx dy hlocks hret (by rw [e1]) dX5_lockUp_44
  · refine lv_icmp_eq (tgt := 39) cx.1 cx.2.1 dX5_lockUp_13 (by decide) (fun hn => absurd hn hc) (fun _ => ?_)
    refine lv_iload cx.1 cx.2.1 dX5_lockUp_16 (lv_at hl 0 rfl) ?_
    refine lv_aload_n cx.1 cx.2.1 dX5_lockUp_18 rfl (lv_at hl 2 rfl) ?_
    refine h_getIN cx fx dy fd_0_0 hv1 tb_851 dX5_lockUp_19 ?_
    rcases of_brn hr with ⟨hc, hr⟩ | ⟨hc, hr⟩
    · refine lv_icmp_eq (tgt := 45) cx.1 cx.2.1 dX5_lockUp_22 (by decide) (fun _ => ?_) (fun hn => absurd hc hn)
      refine lv_aload_n cx.1 cx.2.1 dX5_lockUp_45 rfl (lv_at hl 2 rfl) ?_
      refine lv_iload cx.1 cx.2.1 dX5_lockUp_46 (lv_at hl 0 rfl) ?_
      obtain ⟨g6, eg6, hr⟩ := of_nm hr
      refine h_putIN cx fx dy fd_0_4 (pd_0_4 : PD _ _ _ _ _ .int) rfl rfl rfl hv1 tb_859 dX5_lockUp_48 (fun H locs dy => ?_)
      replace dy : Dy D cA ad (V, g6) A s.heap H locs := by rw [eg6]; exact dy
      refine lv_aload_n cx.1 cx.2.1 dX5_lockUp_51 rfl (lv_at hl 3 rfl) ?_
      refine lv_iload cx.1 cx.2.1 dX5_lockUp_52 (lv_at hl 0 rfl) ?_
      obtain ⟨ha7, hr⟩ := of_grd hr
      obtain ⟨k8, hf9, hr⟩ := of_bnd hr
      refine h_aald (t := 4) cx fx dy (by decide) rfl ha7 hf9 dX5_lockUp_54 ?_
      refine lv_dup cx.1 cx.2.1 dX5_lockUp_55 rfl ?_
      obtain ⟨hv10, hr⟩ := of_grd hr
      refine h_getIN cx fx dy fd_10_2 hv10 tb_336 dX5_lockUp_56 ?_
      refine lv_iconst (v := 1) cx.1 cx.2.1 dX5_lockUp_59 (by decide) ?_
      refine lv_iadd cx.1 cx.2.1 dX5_lockUp_60 ?_
      obtain ⟨g11, eg11, hr⟩ := of_nm hr
      refine h_putIN cx fx dy fd_10_2 (pd_10_2 : PD _ _ _ _ _ .int) rfl rfl rfl hv10 tb_336 dX5_lockUp_61 (fun H locs dy => ?_)
      replace dy : Dy D cA ad (V, g11) A s.heap H locs := by rw [eg11]; exact dy
      have e1 := hq0 _ _ (Option.some.inj hr).symm
      exact h_vret cx dy hlocks hret (by rw [e1]) dX5_lockUp_64
    · refine lv_icmp_eq (tgt := 45) cx.1 cx.2.1 dX5_lockUp_22 (by decide) (fun hn => absurd hn hc) (fun _ => ?_)
      refine lv_aload_n cx.1 cx.2.1 dX5_lockUp_25 rfl (lv_at hl 3 rfl) ?_
      refine lv_iload cx.1 cx.2.1 dX5_lockUp_26 (lv_at hl 0 rfl) ?_
      obtain ⟨ha12, hr⟩ := of_grd hr
      obtain ⟨k13, hf14, hr⟩ := of_bnd hr
      refine h_aald (t := 4) cx fx dy (by decide) rfl ha12 hf14 dX5_lockUp_28 ?_
      obtain ⟨hv15, hr⟩ := of_grd hr
      obtain ⟨k16, hf17, hr⟩ := of_bnd hr
      refine h_getRN cx fx dy fd_10_0 hv15 tb_329 hf17 dX5_lockUp_29 ?_
      refine lv_iload_n cx.1 cx.2.1 dX5_lockUp_32 rfl (lv_at hl 4 rfl) ?_
      obtain ⟨hv20, hr⟩ := of_grd hr
      obtain ⟨x19, g18, hc21, hr⟩ := of_bnd2 hr
      refine r_i dy (k_V (As := [.int a3]) (b := k16) (ci := 4) cx fx dy (c_X4_letFollow hc21) mv_X4_letFollow rfl rfl ⟨Nat.le_trans (by decide) hR.1, Nat.le_trans (by decide) hR.2⟩ tb_887 hv20 rfl (by decide) rfl hl.1 rfl (Nat.le_of_ble_eq_true rfl) ⟨Nat.zero_le _, Nat.zero_le _⟩ dX5_lockUp_33) (fun H locs dy => ?_)
      rcases of_brn hr with ⟨hc, hr⟩ | ⟨hc, hr⟩
      · refine lv_if_ne (tgt := 45) cx.1 cx.2.1 dX5_lockUp_36 (by decide) (fun hn => absurd hc hn) (fun _ => ?_)
        refine lv_aload_n cx.1 cx.2.1 dX5_lockUp_39 rfl (lv_at hl 2 rfl) ?_
        refine lv_iconst (v := 2) cx.1 cx.2.1 dX5_lockUp_40 (by decide) ?_
        obtain ⟨g22, eg22, hr⟩ := of_nm hr
        refine h_putIN cx fx dy fd_0_3 (pd_0_3 : PD _ _ _ _ _ .int) rfl rfl rfl hv1 tb_857 dX5_lockUp_41 (fun H locs dy => ?_)
        replace dy : Dy D cA ad (V, g22) A s.heap H locs := by rw [eg22]; exact dy
        have e1 := hq0 _ _ (Option.some.inj hr).symm
        exact h_vret cx dy hlocks hret (by rw [e1]) dX5_lockUp_44
      · refine lv_if_ne (tgt := 45) cx.1 cx.2.1 dX5_lockUp_36 (by decide) (fun _ => ?_) (fun hn => absurd hn hc)
        refine lv_aload_n cx.1 cx.2.1 dX5_lockUp_45 rfl (lv_at hl 2 rfl) ?_
        refine lv_iload cx.1 cx.2.1 dX5_lockUp_46 (lv_at hl 0 rfl) ?_
        obtain ⟨g23, eg23, hr⟩ := of_nm hr
        refine h_putIN cx fx dy fd_0_4 (pd_0_4 : PD _ _ _ _ _ .int) rfl rfl rfl hv1 tb_859 dX5_lockUp_48 (fun H locs dy => ?_)
        replace dy : Dy D cA ad (V, g23) A s.heap H locs := by rw [eg23]; exact dy
        refine lv_aload_n cx.1 cx.2.1 dX5_lockUp_51 rfl (lv_at hl 3 rfl) ?_
        refine lv_iload cx.1 cx.2.1 dX5_lockUp_52 (lv_at hl 0 rfl) ?_
        obtain ⟨ha24, hr⟩ := of_grd hr
        obtain ⟨k25, hf26, hr⟩ := of_bnd hr
        refine h_aald (t := 4) cx fx dy (by decide) rfl ha24 hf26 dX5_lockUp_54 ?_
        refine lv_dup cx.1 cx.2.1 dX5_lockUp_55 rfl ?_
        obtain ⟨hv27, hr⟩ := of_grd hr
        refine h_getIN cx fx dy fd_10_2 hv27 tb_336 dX5_lockUp_56 ?_
        refine lv_iconst (v := 1) cx.1 cx.2.1 dX5_lockUp_59 (by decide) ?_
        refine lv_iadd cx.1 cx.2.1 dX5_lockUp_60 ?_
        obtain ⟨g28, eg28, hr⟩ := of_nm hr
        refine h_putIN cx fx dy fd_10_2 (pd_10_2 : PD _ _ _ _ _ .int) rfl rfl rfl hv27 tb_336 dX5_lockUp_61 (fun H locs dy => ?_)
        replace dy : Dy D cA ad (V, g28) A s.heap H locs := by rw [eg28]; exact dy
        have e1 := hq0 _ _ (Option.some.inj hr).symm
        exact h_vret cx dy hlocks hret (by rw [e1]) dX5_lockUp_64
noncomputable def r_X5_take (V : Vk) (k0 : Nat) (a1 : Nat) (a2 : Nat) (a3 : Int32) (g : Hq) : Option (Int32 × Hq) :=
  grd (V a1 = some (0, 0)) <| grd (okV V a2 4 (g.1 a1 0)) <| Option.bind (g.2.2 a2 (g.1 a1 0).toNatClampNeg) fun k3 => grd (V k3 = some (10, 0)) <| Option.bind (g.2.2 k3 0) fun k6 => grd (V k6 = some (4, 0)) <| bnd (r_X4_gives V k6 (g.1 a1 1) (g.1 a1 2) a3 g) fun x9 g8 => brn (x9 = 0) (nm (sI g8 a1 3 (1 : Int32)) fun g12 => nm (sI g12 k3 1 ((g12.1 k3 1) - (5 : Int32))) fun g13 => grd (V k0 = some (5, 0)) <| Option.bind (g13.2.2 k0 0) fun k15 => grd (okV V k15 6 (g13.1 k0 1)) <| nm (sR g13 k15 (g13.1 k0 1).toNatClampNeg (some a1)) fun g18 => nm (sI g18 k0 1 ((g18.1 k0 1) + (1 : Int32))) fun g19 => some (((g19.1 k0 1) - (1 : Int32)), g19)) (grd (V k0 = some (5, 0)) <| bnd (r_X5_lockUp V k0 a1 a2 a3 g8) fun u21 g20 => Option.bind (g20.2.2 k0 0) fun k24 => grd (okV V k24 6 (g20.1 k0 1)) <| nm (sR g20 k24 (g20.1 k0 1).toNatClampNeg (some a1)) fun g27 => nm (sI g27 k0 1 ((g27.1 k0 1) + (1 : Int32))) fun g28 => some (((g28.1 k0 1) - (1 : Int32)), g28))
set_option maxHeartbeats 4000000 in
set_option maxRecDepth 100000 in
theorem c_X5_take {l : Launch} {D : va_G} {cA : Nat → ClassId} {sk : (Nat → Nat) × (Nat → Nat)} {ad : Nat → Nat} {A : Nat → Prop} {V : Vk} {k0 : Nat} {a1 : Nat} {a2 : Nat} {a3 : Int32} {g g0 : Hq} {r0 : Int32} (hr : r_X5_take V k0 a1 a2 a3 g = some (r0, g0)) : Met l yX5_take (wM yX5_take cX5_take 5 (some .int)) { frames := 3, cells := 0, slots := 0, locals := 67 } (Pre D cA sk ad (V, g) A [.ref (ad k0), .ref (ad a1), .ref (ad a2), .int a3]) (QI D cA ad A r0 (V, g0)) 0 0 A := by
  refine Met.ofW (cc := cX5_take) (maxL := 5) (ret := (some .int)) (by decide) rfl ?_
  intro p e s m args below meth c s₁ B hml hv
  obtain ⟨rfl, fx, w0⟩ := hv
  have hts := atoms_spec (ws := wM yX5_take cX5_take 5 (some .int)) B.pre
  have cx : CallFix p m c cX5_take 5 s ([.ref (ad k0), .ref (ad a1), .ref (ad a2), .int a3] : List Value).toArray gw_tbl RX5 := ⟨B.exec, B.bytes, hml, findClass_of_methodNamed B.named, fun w hw => hts w (List.mem_cons_of_mem _ hw)⟩
  have hlocks := B.notSynchronized
  have hret := B.returns
  have hR : 3 ≤ (headSpec (wM yX5_take cX5_take 5 (some .int)) { frames := 3, cells := 0, slots := 0, locals := 67 }).room.frames ∧ 67 ≤ (headSpec (wM yX5_take cX5_take 5 (some .int)) { frames := 3, cells := 0, slots := 0, locals := 67 }).room.locals := ⟨Nat.le_refl _, Nat.le_refl _⟩
  have dy : Dy D cA ad (V, g) A s.heap s.heap [] := ⟨w0, va_S.rf⟩
  have hl := lv_entry [.ref (ad k0), .ref (ad a1), .ref (ad a2), .int a3] (n := 5) (Nat.le_of_ble_eq_true rfl)
  rw [lg_entry_eq]
  generalize (lg_sl [.ref (ad k0), .ref (ad a1), .ref (ad a2), .int a3] ++ List.replicate (5 - (lg_sl [.ref (ad k0), .ref (ad a1), .ref (ad a2), .int a3]).length) Slot.unset).toArray = ls at hl ⊢
  have hl : lv_has ls 5 [(0, .ref (ad k0)), (1, .ref (ad a1)), (2, .ref (ad a2)), (3, .int a3)] := hl
  have dy0 : ∃ H0, H0 = s.heap ∧ Dy D cA ad (V, g) A s.heap H0 [] := ⟨_, rfl, dy⟩
  obtain ⟨z, ez⟩ : ∃ z, z = (r0, g0) := ⟨_, rfl⟩
  rw [← ez] at hr
  have hq0 : ∀ (rb : Int32) (gb : Hq), z = (rb, gb) → rb = r0 ∧ gb = g0 := fun rb gb eb => by rw [ez] at eb; exact ⟨(congrArg Prod.fst eb).symm, (congrArg Prod.snd eb).symm⟩
  clear ez w0 dy0
  unfold r_X5_take at hr
  obtain ⟨H, hH⟩ : ∃ H, H = s.heap := ⟨_, rfl⟩
  obtain ⟨locs, hlo⟩ : ∃ q : List Loc, q = [] := ⟨_, rfl⟩
  have dy : Dy D cA ad (V, g) A s.heap H locs := by rw [hH, hlo]; exact dy
  suffices K : W p l e (headSpec (wM yX5_take cX5_take 5 (some .int)) { frames := 3, cells := 0, slots := 0, locals := 67 }).room s m ([.ref (ad k0), .ref (ad a1), .ref (ad a2), .int a3] : List Value).toArray below meth c H locs 0 0 (MQ below (QI D cA ad A r0 (V, g0)) ([.ref (ad k0), .ref (ad a1), .ref (ad a2), .int a3] : List Value).toArray s 0 0 A) (F0 m 0 ls []) by rw [hH, hlo] at K; exact K
  clear hH hlo
  refine lv_aload_n cx.1 cx.2.1 dX5_take_0 rfl (lv_at hl 2 rfl) ?_
  refine lv_aload_n cx.1 cx.2.1 dX5_take_1 rfl (lv_at hl 1 rfl) ?_
  obtain ⟨hv1, hr⟩ := of_grd hr
  refine h_getIN cx fx dy fd_0_0 hv1 tb_851 dX5_take_2 ?_
  obtain ⟨ha2, hr⟩ := of_grd hr
  obtain ⟨k3, hf4, hr⟩ := of_bnd hr
  refine h_aald (t := 4) cx fx dy (by decide) rfl ha2 hf4 dX5_take_5 ?_
  refine lv_astore (lv' := [(4, .ref (ad k3)), (0, .ref (ad k0)), (1, .ref (ad a1)), (2, .ref (ad a2)), (3, .int a3)]) cx.1 cx.2.1 dX5_take_6 hl (by decide) rfl (fun ls hl => ?_)
  refine lv_aload cx.1 cx.2.1 dX5_take_8 (lv_at hl 0 rfl) ?_
  obtain ⟨hv5, hr⟩ := of_grd hr
  obtain ⟨k6, hf7, hr⟩ := of_bnd hr
  refine h_getRN cx fx dy fd_10_0 hv5 tb_329 hf7 dX5_take_10 ?_
  refine lv_aload_n cx.1 cx.2.1 dX5_take_13 rfl (lv_at hl 2 rfl) ?_
  refine h_getIN cx fx dy fd_0_1 hv1 tb_853 dX5_take_14 ?_
  refine lv_aload_n cx.1 cx.2.1 dX5_take_17 rfl (lv_at hl 2 rfl) ?_
  refine h_getIN cx fx dy fd_0_2 hv1 tb_855 dX5_take_18 ?_
  refine lv_iload_n cx.1 cx.2.1 dX5_take_21 rfl (lv_at hl 4 rfl) ?_
  obtain ⟨hv10, hr⟩ := of_grd hr
  obtain ⟨x9, g8, hc11, hr⟩ := of_bnd2 hr
  refine r_i dy (k_V (As := [.int (g.1 a1 1), .int (g.1 a1 2), .int a3]) (b := k6) (ci := 4) cx fx dy (c_X4_gives hc11) mv_X4_gives rfl rfl ⟨Nat.le_trans (by decide) hR.1, Nat.le_trans (by decide) hR.2⟩ tb_875 hv10 rfl (by decide) rfl hl.1 rfl (Nat.le_of_ble_eq_true rfl) ⟨Nat.zero_le _, Nat.zero_le _⟩ dX5_take_22) (fun H locs dy => ?_)
  rcases of_brn hr with ⟨hc, hr⟩ | ⟨hc, hr⟩
  · refine lv_if_eq (tgt := 38) cx.1 cx.2.1 dX5_take_25 (by decide) (fun _ => ?_) (fun hn => absurd hc hn)
    refine lv_aload_n cx.1 cx.2.1 dX5_take_38 rfl (lv_at hl 2 rfl) ?_
    refine lv_iconst (v := 1) cx.1 cx.2.1 dX5_take_39 (by decide) ?_
    obtain ⟨g12, eg12, hr⟩ := of_nm hr
    refine h_putIN cx fx dy fd_0_3 (pd_0_3 : PD _ _ _ _ _ .int) rfl rfl rfl hv1 tb_857 dX5_take_40 (fun H locs dy => ?_)
    replace dy : Dy D cA ad (V, g12) A s.heap H locs := by rw [eg12]; exact dy
    refine lv_aload cx.1 cx.2.1 dX5_take_43 (lv_at hl 0 rfl) ?_
    refine lv_dup cx.1 cx.2.1 dX5_take_45 rfl ?_
    refine h_getIN cx fx dy fd_10_1 hv5 tb_333 dX5_take_46 ?_
    refine lv_iconst (v := 5) cx.1 cx.2.1 dX5_take_49 (by decide) ?_
    refine lv_isub cx.1 cx.2.1 dX5_take_50 ?_
    obtain ⟨g13, eg13, hr⟩ := of_nm hr
    refine h_putIN cx fx dy fd_10_1 (pd_10_1 : PD _ _ _ _ _ .int) rfl rfl rfl hv5 tb_333 dX5_take_51 (fun H locs dy => ?_)
    replace dy : Dy D cA ad (V, g13) A s.heap H locs := by rw [eg13]; exact dy
    refine lv_aload_n cx.1 cx.2.1 dX5_take_54 rfl (lv_at hl 1 rfl) ?_
    obtain ⟨hv14, hr⟩ := of_grd hr
    obtain ⟨k15, hf16, hr⟩ := of_bnd hr
    refine h_getR cx fx dy fd_5_0 hv14 tb_225 hf16 dX5_take_55 ?_
    refine lv_aload_n cx.1 cx.2.1 dX5_take_58 rfl (lv_at hl 1 rfl) ?_
    refine h_getI cx fx dy fd_5_1 hv14 tb_226 dX5_take_59 ?_
    refine lv_aload_n cx.1 cx.2.1 dX5_take_62 rfl (lv_at hl 2 rfl) ?_
    obtain ⟨ha17, hr⟩ := of_grd hr
    obtain ⟨g18, eg18, hr⟩ := of_nm hr
    refine h_aast (t := 6) (ci := 0) cx fx dy (by decide) rfl rfl (by decide) ha17 hv1 dX5_take_63 (fun H locs dy => ?_)
    replace dy : Dy D cA ad (V, g18) A s.heap H locs := by rw [eg18]; exact dy
    refine lv_aload_n cx.1 cx.2.1 dX5_take_64 rfl (lv_at hl 1 rfl) ?_
    refine lv_dup cx.1 cx.2.1 dX5_take_65 rfl ?_
    refine h_getI cx fx dy fd_5_1 hv14 tb_226 dX5_take_66 ?_
    refine lv_iconst (v := 1) cx.1 cx.2.1 dX5_take_69 (by decide) ?_
    refine lv_iadd cx.1 cx.2.1 dX5_take_70 ?_
    obtain ⟨g19, eg19, hr⟩ := of_nm hr
    refine h_putI cx fx dy fd_5_1 (pd_5_1 : PD _ _ _ _ _ .int) rfl rfl rfl hv14 tb_226 dX5_take_71 (fun H locs dy => ?_)
    replace dy : Dy D cA ad (V, g19) A s.heap H locs := by rw [eg19]; exact dy
    refine lv_aload_n cx.1 cx.2.1 dX5_take_74 rfl (lv_at hl 1 rfl) ?_
    refine h_getI cx fx dy fd_5_1 hv14 tb_226 dX5_take_75 ?_
    refine lv_iconst (v := 1) cx.1 cx.2.1 dX5_take_78 (by decide) ?_
    refine lv_isub cx.1 cx.2.1 dX5_take_79 ?_
    obtain ⟨e0, e1⟩ := hq0 _ _ (Option.some.inj hr).symm
    exact h_iret cx dy hlocks hret rfl e0 (by rw [e1]) dX5_take_80
  · refine lv_if_eq (tgt := 38) cx.1 cx.2.1 dX5_take_25 (by decide) (fun hn => absurd hn hc) (fun _ => ?_)
    refine lv_aload_n cx.1 cx.2.1 dX5_take_28 rfl (lv_at hl 1 rfl) ?_
    refine lv_aload_n cx.1 cx.2.1 dX5_take_29 rfl (lv_at hl 2 rfl) ?_
    refine lv_aload_n cx.1 cx.2.1 dX5_take_30 rfl (lv_at hl 3 rfl) ?_
    refine lv_iload_n cx.1 cx.2.1 dX5_take_31 rfl (lv_at hl 4 rfl) ?_
    obtain ⟨hv22, hr⟩ := of_grd hr
    obtain ⟨u21, g20, hc23, hr⟩ := of_bnd2 hr
    refine r_v dy (k_V (As := [.ref (ad a1), .ref (ad a2), .int a3]) (b := k0) (ci := 5) cx fx dy (c_X5_lockUp hc23) mv_X5_lockUp rfl rfl ⟨Nat.le_trans (by decide) hR.1, Nat.le_trans (by decide) hR.2⟩ tb_876 hv22 rfl (by decide) rfl hl.1 rfl (Nat.le_of_ble_eq_true rfl) ⟨Nat.zero_le _, Nat.zero_le _⟩ dX5_take_32) (fun H locs dy => ?_)
    refine lv_goto (tgt := 54) cx.1 cx.2.1 dX5_take_35 (by decide) ?_
    refine lv_aload_n cx.1 cx.2.1 dX5_take_54 rfl (lv_at hl 1 rfl) ?_
    obtain ⟨k24, hf25, hr⟩ := of_bnd hr
    refine h_getR cx fx dy fd_5_0 hv22 tb_225 hf25 dX5_take_55 ?_
    refine lv_aload_n cx.1 cx.2.1 dX5_take_58 rfl (lv_at hl 1 rfl) ?_
    refine h_getI cx fx dy fd_5_1 hv22 tb_226 dX5_take_59 ?_
    refine lv_aload_n cx.1 cx.2.1 dX5_take_62 rfl (lv_at hl 2 rfl) ?_
    obtain ⟨ha26, hr⟩ := of_grd hr
    obtain ⟨g27, eg27, hr⟩ := of_nm hr
    refine h_aast (t := 6) (ci := 0) cx fx dy (by decide) rfl rfl (by decide) ha26 hv1 dX5_take_63 (fun H locs dy => ?_)
    replace dy : Dy D cA ad (V, g27) A s.heap H locs := by rw [eg27]; exact dy
    refine lv_aload_n cx.1 cx.2.1 dX5_take_64 rfl (lv_at hl 1 rfl) ?_
    refine lv_dup cx.1 cx.2.1 dX5_take_65 rfl ?_
    refine h_getI cx fx dy fd_5_1 hv22 tb_226 dX5_take_66 ?_
    refine lv_iconst (v := 1) cx.1 cx.2.1 dX5_take_69 (by decide) ?_
    refine lv_iadd cx.1 cx.2.1 dX5_take_70 ?_
    obtain ⟨g28, eg28, hr⟩ := of_nm hr
    refine h_putI cx fx dy fd_5_1 (pd_5_1 : PD _ _ _ _ _ .int) rfl rfl rfl hv22 tb_226 dX5_take_71 (fun H locs dy => ?_)
    replace dy : Dy D cA ad (V, g28) A s.heap H locs := by rw [eg28]; exact dy
    refine lv_aload_n cx.1 cx.2.1 dX5_take_74 rfl (lv_at hl 1 rfl) ?_
    refine h_getI cx fx dy fd_5_1 hv22 tb_226 dX5_take_75 ?_
    refine lv_iconst (v := 1) cx.1 cx.2.1 dX5_take_78 (by decide) ?_
    refine lv_isub cx.1 cx.2.1 dX5_take_79 ?_
    obtain ⟨e0, e1⟩ := hq0 _ _ (Option.some.inj hr).symm
    exact h_iret cx dy hlocks hret rfl e0 (by rw [e1]) dX5_take_80
noncomputable def r_X5_bringAll_4' (V : Vk) (k1 : Nat) (x2 : Int32) (x3 : Int32) (g4 : Hq) : Option ((Nat × Int32 × Int32 × Hq) ⊕ (Int32 × Hq)) :=
  grd (V k1 = some (5, 0)) <| brn ((g4.1 k1 1) ≤ x3) (some (.inr (x2, g4))) (Option.bind (g4.2.2 k1 0) fun k6 => grd (okV V k6 6 x3) <| Option.bind (g4.2.2 k6 x3.toNatClampNeg) fun k9 => grd (V k9 = some (0, 0)) <| brn ((g4.1 k9 3) = 0) (Option.bind (g4.2.2 k1 0) fun k12 => grd (okV V k12 6 x3) <| Option.bind (g4.2.2 k12 x3.toNatClampNeg) fun k15 => grd (V k15 = some (0, 0)) <| nm (sI g4 k15 3 (3 : Int32)) fun g18 => nm (x2 + (1 : Int32)) fun x19 => nm (x3 + (1 : Int32)) fun x20 => some (.inl (k1, x19, x20, g18))) (nm (x3 + (1 : Int32)) fun x21 => some (.inl (k1, x2, x21, g4))))
noncomputable def r_X5_bringAll_4 (V : Vk) (st : (Nat × Int32 × Int32 × Hq)) : Option ((Nat × Int32 × Int32 × Hq) ⊕ (Int32 × Hq)) := r_X5_bringAll_4' V st.1 st.2.1 st.2.2.1 st.2.2.2
set_option maxHeartbeats 4000000 in
set_option maxRecDepth 100000 in
theorem w_X5_bringAll_4 {p : Program} {l : Launch} {e : Env} {R : Room} {s : State} {m : MethodId} {args : Array Value} {below : List Frame} {meth : Method} {c : Code} {D : va_G} {cA : Nat → ClassId} {sk : (Nat → Nat) × (Nat → Nat)} {ad : Nat → Nat} {A : Nat → Prop} {V : Vk} (cx : CallFix p m c cX5_bringAll 3 s args gw_tbl RX5) (fx : Fx D cA sk A s) (hlocks : meth.locks = false) (hret : meth.sig.returnType = (some .int)) (hR : 0 ≤ R.frames ∧ 0 ≤ R.locals) (r0 : Int32) (g0 : Hq) (y : (Int32 × Hq)) (hq : ∀ (rb : Int32) (gb : Hq), y = (rb, gb) → rb = r0 ∧ gb = g0) : ∀ (n : Nat) (k1 : Nat) (x2 : Int32) (x3 : Int32) (g4 : Hq), itr (r_X5_bringAll_4 V) n (k1, x2, x3, g4) = some y → ∀ (H : Heap) (locs : List Loc) (ls : Array Slot), Dy D cA ad (V, g4) A s.heap H locs → lv_has ls 3 [(0, .ref (ad k1)), (1, .int x2), (2, .int x3)] → W p l e R s m args below meth c H locs 0 0 (MQ below (QI D cA ad A r0 (V, g0)) args s 0 0 A) (F0 m 4 ls []) := by
  intro n
  induction n with
  | zero => intro k1 x2 x3 g4 hr; cases hr
  | succ n ih =>
    intro k1 x2 x3 g4 hr H locs ls dy hl
    obtain ⟨z, hz, hn1, hn2⟩ := itr_succ hr
    clear hr
    have hr : r_X5_bringAll_4' V k1 x2 x3 g4 = some z := hz
    clear hz
    unfold r_X5_bringAll_4' at hr
    have hh0 : ∀ (b0 : Nat) (b1 : Int32) (b2 : Int32) (gb : Hq), z = .inl (b0, b1, b2, gb) → ∀ (H : Heap) (locs : List Loc) (ls : Array Slot), Dy D cA ad (V, gb) A s.heap H locs → lv_has ls 3 [(0, .ref (ad b0)), (1, .int b1), (2, .int b2)] → W p l e R s m args below meth c H locs 0 0 (MQ below (QI D cA ad A r0 (V, g0)) args s 0 0 A) (F0 m 4 ls []) := fun b0 b1 b2 gb eb => ih b0 b1 b2 gb (hn1 _ eb)
    have hq0 : ∀ (rb : Int32) (gb : Hq), z = (.inr (rb, gb)) → rb = r0 ∧ gb = g0 := fun rb gb eb => hq rb gb (hn2 _ eb).symm
    refine lv_iload_n cx.1 cx.2.1 dX5_bringAll_4 rfl (lv_at hl 2 rfl) ?_
    refine lv_aload_n cx.1 cx.2.1 dX5_bringAll_5 rfl (lv_at hl 0 rfl) ?_
    obtain ⟨hv5, hr⟩ := of_grd hr
    refine h_getI cx fx dy fd_5_1 hv5 tb_226 dX5_bringAll_6 ?_
    rcases of_brn hr with ⟨hc, hr⟩ | ⟨hc, hr⟩
    · refine lv_icmp_ge (tgt := 43) cx.1 cx.2.1 dX5_bringAll_9 (by decide) (fun _ => ?_) (fun hn => absurd hc hn)
      refine lv_iload_n cx.1 cx.2.1 dX5_bringAll_43 rfl (lv_at hl 1 rfl) ?_
      obtain ⟨e0, e1⟩ := hq0 _ _ (Option.some.inj hr).symm
      exact h_iret cx dy hlocks hret rfl e0 (by rw [e1]) dX5_bringAll_44
    · refine lv_icmp_ge (tgt := 43) cx.1 cx.2.1 dX5_bringAll_9 (by decide) (fun hn => absurd hn hc) (fun _ => ?_)
      refine lv_aload_n cx.1 cx.2.1 dX5_bringAll_12 rfl (lv_at hl 0 rfl) ?_
      obtain ⟨k6, hf7, hr⟩ := of_bnd hr
      refine h_getR cx fx dy fd_5_0 hv5 tb_225 hf7 dX5_bringAll_13 ?_
      refine lv_iload_n cx.1 cx.2.1 dX5_bringAll_16 rfl (lv_at hl 2 rfl) ?_
      obtain ⟨ha8, hr⟩ := of_grd hr
      obtain ⟨k9, hf10, hr⟩ := of_bnd hr
      refine h_aald (t := 6) cx fx dy (by decide) rfl ha8 hf10 dX5_bringAll_17 ?_
      obtain ⟨hv11, hr⟩ := of_grd hr
      refine h_getIN cx fx dy fd_0_3 hv11 tb_857 dX5_bringAll_18 ?_
      rcases of_brn hr with ⟨hc, hr⟩ | ⟨hc, hr⟩
      · refine lv_if_ne (tgt := 37) cx.1 cx.2.1 dX5_bringAll_21 (by decide) (fun hn => absurd hc hn) (fun _ => ?_)
        refine lv_aload_n cx.1 cx.2.1 dX5_bringAll_24 rfl (lv_at hl 0 rfl) ?_
        obtain ⟨k12, hf13, hr⟩ := of_bnd hr
        refine h_getR cx fx dy fd_5_0 hv5 tb_225 hf13 dX5_bringAll_25 ?_
        refine lv_iload_n cx.1 cx.2.1 dX5_bringAll_28 rfl (lv_at hl 2 rfl) ?_
        obtain ⟨ha14, hr⟩ := of_grd hr
        obtain ⟨k15, hf16, hr⟩ := of_bnd hr
        refine h_aald (t := 6) cx fx dy (by decide) rfl ha14 hf16 dX5_bringAll_29 ?_
        refine lv_iconst (v := 3) cx.1 cx.2.1 dX5_bringAll_30 (by decide) ?_
        obtain ⟨hv17, hr⟩ := of_grd hr
        obtain ⟨g18, eg18, hr⟩ := of_nm hr
        refine h_putIN cx fx dy fd_0_3 (pd_0_3 : PD _ _ _ _ _ .int) rfl rfl rfl hv17 tb_857 dX5_bringAll_31 (fun H locs dy => ?_)
        replace dy : Dy D cA ad (V, g18) A s.heap H locs := by rw [eg18]; exact dy
        obtain ⟨x19, ex19, hr⟩ := of_nm hr
        refine lv_iinc (v := x19) (lv' := [(1, .int x19), (0, .ref (ad k1)), (2, .int x3)]) cx.1 cx.2.1 dX5_bringAll_34 hl (k := 1) rfl (by rw [ex19]; rfl) (by decide) rfl (fun ls hl => ?_)
        obtain ⟨x20, ex20, hr⟩ := of_nm hr
        refine lv_iinc (v := x20) (lv' := [(2, .int x20), (1, .int x19), (0, .ref (ad k1))]) cx.1 cx.2.1 dX5_bringAll_37 hl (k := 2) rfl (by rw [ex20]; rfl) (by decide) rfl (fun ls hl => ?_)
        refine lv_goto (tgt := 4) cx.1 cx.2.1 dX5_bringAll_40 (by decide) ?_
        exact hh0 k1 x19 x20 g18 (Option.some.inj hr).symm H locs ls dy (lv_sub hl [2, 1, 0] rfl)
      · refine lv_if_ne (tgt := 37) cx.1 cx.2.1 dX5_bringAll_21 (by decide) (fun _ => ?_) (fun hn => absurd hn hc)
        obtain ⟨x21, ex21, hr⟩ := of_nm hr
        refine lv_iinc (v := x21) (lv' := [(2, .int x21), (0, .ref (ad k1)), (1, .int x2)]) cx.1 cx.2.1 dX5_bringAll_37 hl (k := 2) rfl (by rw [ex21]; rfl) (by decide) rfl (fun ls hl => ?_)
        refine lv_goto (tgt := 4) cx.1 cx.2.1 dX5_bringAll_40 (by decide) ?_
        exact hh0 k1 x2 x21 g4 (Option.some.inj hr).symm H locs ls dy (lv_sub hl [1, 2, 0] rfl)
noncomputable def r_X5_bringAll (V : Vk) (k0 : Nat) (g : Hq) : Option (Int32 × Hq) :=
  (lop (r_X5_bringAll_4 V) (k0, (0 : Int32), (0 : Int32), g))
set_option maxHeartbeats 4000000 in
set_option maxRecDepth 100000 in
theorem c_X5_bringAll {l : Launch} {D : va_G} {cA : Nat → ClassId} {sk : (Nat → Nat) × (Nat → Nat)} {ad : Nat → Nat} {A : Nat → Prop} {V : Vk} {k0 : Nat} {g g0 : Hq} {r0 : Int32} (hr : r_X5_bringAll V k0 g = some (r0, g0)) : Met l yX5_bringAll (wM yX5_bringAll cX5_bringAll 3 (some .int)) { frames := 0, cells := 0, slots := 0, locals := 0 } (Pre D cA sk ad (V, g) A [.ref (ad k0)]) (QI D cA ad A r0 (V, g0)) 0 0 A := by
  refine Met.ofW (cc := cX5_bringAll) (maxL := 3) (ret := (some .int)) (by decide) rfl ?_
  intro p e s m args below meth c s₁ B hml hv
  obtain ⟨rfl, fx, w0⟩ := hv
  have hts := atoms_spec (ws := wM yX5_bringAll cX5_bringAll 3 (some .int)) B.pre
  have cx : CallFix p m c cX5_bringAll 3 s ([.ref (ad k0)] : List Value).toArray gw_tbl RX5 := ⟨B.exec, B.bytes, hml, findClass_of_methodNamed B.named, fun w hw => hts w (List.mem_cons_of_mem _ hw)⟩
  have hlocks := B.notSynchronized
  have hret := B.returns
  have hR : 0 ≤ (headSpec (wM yX5_bringAll cX5_bringAll 3 (some .int)) { frames := 0, cells := 0, slots := 0, locals := 0 }).room.frames ∧ 0 ≤ (headSpec (wM yX5_bringAll cX5_bringAll 3 (some .int)) { frames := 0, cells := 0, slots := 0, locals := 0 }).room.locals := ⟨Nat.le_refl _, Nat.le_refl _⟩
  have dy : Dy D cA ad (V, g) A s.heap s.heap [] := ⟨w0, va_S.rf⟩
  have hl := lv_entry [.ref (ad k0)] (n := 3) (Nat.le_of_ble_eq_true rfl)
  rw [lg_entry_eq]
  generalize (lg_sl [.ref (ad k0)] ++ List.replicate (3 - (lg_sl [.ref (ad k0)]).length) Slot.unset).toArray = ls at hl ⊢
  have hl : lv_has ls 3 [(0, .ref (ad k0))] := hl
  have dy0 : ∃ H0, H0 = s.heap ∧ Dy D cA ad (V, g) A s.heap H0 [] := ⟨_, rfl, dy⟩
  obtain ⟨z, ez⟩ : ∃ z, z = (r0, g0) := ⟨_, rfl⟩
  rw [← ez] at hr
  have hq0 : ∀ (rb : Int32) (gb : Hq), z = (rb, gb) → rb = r0 ∧ gb = g0 := fun rb gb eb => by rw [ez] at eb; exact ⟨(congrArg Prod.fst eb).symm, (congrArg Prod.snd eb).symm⟩
  clear ez w0 dy0
  unfold r_X5_bringAll at hr
  obtain ⟨H, hH⟩ : ∃ H, H = s.heap := ⟨_, rfl⟩
  obtain ⟨locs, hlo⟩ : ∃ q : List Loc, q = [] := ⟨_, rfl⟩
  have dy : Dy D cA ad (V, g) A s.heap H locs := by rw [hH, hlo]; exact dy
  suffices K : W p l e (headSpec (wM yX5_bringAll cX5_bringAll 3 (some .int)) { frames := 0, cells := 0, slots := 0, locals := 0 }).room s m ([.ref (ad k0)] : List Value).toArray below meth c H locs 0 0 (MQ below (QI D cA ad A r0 (V, g0)) ([.ref (ad k0)] : List Value).toArray s 0 0 A) (F0 m 0 ls []) by rw [hH, hlo] at K; exact K
  clear hH hlo
  refine lv_iconst (v := 0) cx.1 cx.2.1 dX5_bringAll_0 (by decide) ?_
  refine lv_istore_n (lv' := [(1, .int (0 : Int32)), (0, .ref (ad k0))]) cx.1 cx.2.1 dX5_bringAll_1 rfl hl (by decide) rfl (fun ls hl => ?_)
  refine lv_iconst (v := 0) cx.1 cx.2.1 dX5_bringAll_2 (by decide) ?_
  refine lv_istore_n (lv' := [(2, .int (0 : Int32)), (1, .int (0 : Int32)), (0, .ref (ad k0))]) cx.1 cx.2.1 dX5_bringAll_3 rfl hl (by decide) rfl (fun ls hl => ?_)
  obtain ⟨n, hr⟩ := lop_some hr
  exact w_X5_bringAll_4 cx fx hlocks hret hR r0 g0 z hq0 n k0 (0 : Int32) (0 : Int32) g hr H locs ls dy (lv_sub hl [2, 1, 0] rfl)
