noncomputable def r_X9_place (V : Vk) (k0 : Nat) (a1 : Int32) (a2 : Int32) (a3 : Int32) (g : Hq) : Option (Unit × Hq) :=
  grd (V k0 = some (9, 0)) <| Option.bind (g.2.2 k0 0) fun k2 => grd (okV V k2 0 a1) <| nm (sI g k2 a1.toNatClampNeg a2) fun g5 => Option.bind (g5.2.2 k0 1) fun k6 => grd (okV V k6 0 a1) <| nm (sI g5 k6 a1.toNatClampNeg a3) fun g9 => some ((), g9)
set_option maxHeartbeats 4000000 in
set_option maxRecDepth 100000 in
theorem c_X9_place {l : Launch} {D : va_G} {cA : Nat → ClassId} {sk : (Nat → Nat) × (Nat → Nat)} {ad : Nat → Nat} {A : Nat → Prop} {V : Vk} {k0 : Nat} {a1 : Int32} {a2 : Int32} {a3 : Int32} {g g0 : Hq} (hr : r_X9_place V k0 a1 a2 a3 g = some ((), g0)) : Met l yX9_place (wM yX9_place cX9_place 4 none) { frames := 0, cells := 0, slots := 0, locals := 0 } (Pre D cA sk ad (V, g) A [.ref (ad k0), .int a1, .int a2, .int a3]) (QV D cA ad A (V, g0)) 0 0 A := by
  refine Met.ofW (cc := cX9_place) (maxL := 4) (ret := none) (by decide) rfl ?_
  intro p e s m args below meth c s₁ B hml hv
  obtain ⟨rfl, fx, w0⟩ := hv
  have hts := atoms_spec (ws := wM yX9_place cX9_place 4 none) B.pre
  have cx : CallFix p m c cX9_place 4 s ([.ref (ad k0), .int a1, .int a2, .int a3] : List Value).toArray gw_tbl RX9 := ⟨B.exec, B.bytes, hml, findClass_of_methodNamed B.named, fun w hw => hts w (List.mem_cons_of_mem _ hw)⟩
  have hlocks := B.notSynchronized
  have hret := B.returns
  have hR : 0 ≤ (headSpec (wM yX9_place cX9_place 4 none) { frames := 0, cells := 0, slots := 0, locals := 0 }).room.frames ∧ 0 ≤ (headSpec (wM yX9_place cX9_place 4 none) { frames := 0, cells := 0, slots := 0, locals := 0 }).room.locals := ⟨Nat.le_refl _, Nat.le_refl _⟩
  have dy : Dy D cA ad (V, g) A s.heap s.heap [] := ⟨w0, va_S.rf⟩
  have hl := lv_entry [.ref (ad k0), .int a1, .int a2, .int a3] (n := 4) (Nat.le_of_ble_eq_true rfl)
  rw [lg_entry_eq]
  generalize (lg_sl [.ref (ad k0), .int a1, .int a2, .int a3] ++ List.replicate (4 - (lg_sl [.ref (ad k0), .int a1, .int a2, .int a3]).length) Slot.unset).toArray = ls at hl ⊢
  have hl : lv_has ls 4 [(0, .ref (ad k0)), (1, .int a1), (2, .int a2), (3, .int a3)] := hl
  have dy0 : ∃ H0, H0 = s.heap ∧ Dy D cA ad (V, g) A s.heap H0 [] := ⟨_, rfl, dy⟩
  obtain ⟨z, ez⟩ : ∃ z, z = (((), g0) : Unit × Hq) := ⟨_, rfl⟩
  rw [← ez] at hr
  have hq0 : ∀ (rb : Unit) (gb : Hq), z = (rb, gb) → gb = g0 := fun rb gb eb => by rw [ez] at eb; exact (congrArg Prod.snd eb).symm
  clear ez w0 dy0
  unfold r_X9_place at hr
  obtain ⟨H, hH⟩ : ∃ H, H = s.heap := ⟨_, rfl⟩
  obtain ⟨locs, hlo⟩ : ∃ q : List Loc, q = [] := ⟨_, rfl⟩
  have dy : Dy D cA ad (V, g) A s.heap H locs := by rw [hH, hlo]; exact dy
  suffices K : W p l e (headSpec (wM yX9_place cX9_place 4 none) { frames := 0, cells := 0, slots := 0, locals := 0 }).room s m ([.ref (ad k0), .int a1, .int a2, .int a3] : List Value).toArray below meth c H locs 0 0 (MQ below (QV D cA ad A (V, g0)) ([.ref (ad k0), .int a1, .int a2, .int a3] : List Value).toArray s 0 0 A) (F0 m 0 ls []) by rw [hH, hlo] at K; exact K
  clear hH hlo
  refine lv_aload_n cx.1 cx.2.1 dX9_place_0 rfl (lv_at hl 0 rfl) ?_
  obtain ⟨hv1, hr⟩ := of_grd hr
  obtain ⟨k2, hf3, hr⟩ := of_bnd hr
  refine h_getR cx fx dy fd_9_0 hv1 tb_101 hf3 dX9_place_1 ?_
  refine lv_iload_n cx.1 cx.2.1 dX9_place_4 rfl (lv_at hl 1 rfl) ?_
  refine lv_iload_n cx.1 cx.2.1 dX9_place_5 rfl (lv_at hl 2 rfl) ?_
  obtain ⟨ha4, hr⟩ := of_grd hr
  obtain ⟨g5, eg5, hr⟩ := of_nm hr
  refine h_iast cx fx dy ha4 dX9_place_6 (fun H locs dy => ?_)
  replace dy : Dy D cA ad (V, g5) A s.heap H locs := by rw [eg5]; exact dy
  refine lv_aload_n cx.1 cx.2.1 dX9_place_7 rfl (lv_at hl 0 rfl) ?_
  obtain ⟨k6, hf7, hr⟩ := of_bnd hr
  refine h_getR cx fx dy fd_9_1 hv1 tb_102 hf7 dX9_place_8 ?_
  refine lv_iload_n cx.1 cx.2.1 dX9_place_11 rfl (lv_at hl 1 rfl) ?_
  refine lv_iload_n cx.1 cx.2.1 dX9_place_12 rfl (lv_at hl 3 rfl) ?_
  obtain ⟨ha8, hr⟩ := of_grd hr
  obtain ⟨g9, eg9, hr⟩ := of_nm hr
  refine h_iast cx fx dy ha8 dX9_place_13 (fun H locs dy => ?_)
  replace dy : Dy D cA ad (V, g9) A s.heap H locs := by rw [eg9]; exact dy
  have e1 := hq0 _ _ (Option.some.inj hr).symm
  exact h_vret cx dy hlocks hret (by rw [e1]) dX9_place_14
noncomputable def r_X9_wardAt (V : Vk) (k0 : Nat) (a1 : Int32) (g : Hq) : Option (Int32 × Hq) :=
  grd (V k0 = some (9, 0)) <| Option.bind (g.2.2 k0 0) fun k2 => grd (okV V k2 0 a1) <| some ((g.1 k2 a1.toNatClampNeg), g)
set_option maxHeartbeats 4000000 in
set_option maxRecDepth 100000 in
theorem c_X9_wardAt {l : Launch} {D : va_G} {cA : Nat → ClassId} {sk : (Nat → Nat) × (Nat → Nat)} {ad : Nat → Nat} {A : Nat → Prop} {V : Vk} {k0 : Nat} {a1 : Int32} {g g0 : Hq} {r0 : Int32} (hr : r_X9_wardAt V k0 a1 g = some (r0, g0)) : Met l yX9_wardAt (wM yX9_wardAt cX9_wardAt 2 (some .int)) { frames := 0, cells := 0, slots := 0, locals := 0 } (Pre D cA sk ad (V, g) A [.ref (ad k0), .int a1]) (QI D cA ad A r0 (V, g0)) 0 0 A := by
  refine Met.ofW (cc := cX9_wardAt) (maxL := 2) (ret := (some .int)) (by decide) rfl ?_
  intro p e s m args below meth c s₁ B hml hv
  obtain ⟨rfl, fx, w0⟩ := hv
  have hts := atoms_spec (ws := wM yX9_wardAt cX9_wardAt 2 (some .int)) B.pre
  have cx : CallFix p m c cX9_wardAt 2 s ([.ref (ad k0), .int a1] : List Value).toArray gw_tbl RX9 := ⟨B.exec, B.bytes, hml, findClass_of_methodNamed B.named, fun w hw => hts w (List.mem_cons_of_mem _ hw)⟩
  have hlocks := B.notSynchronized
  have hret := B.returns
  have hR : 0 ≤ (headSpec (wM yX9_wardAt cX9_wardAt 2 (some .int)) { frames := 0, cells := 0, slots := 0, locals := 0 }).room.frames ∧ 0 ≤ (headSpec (wM yX9_wardAt cX9_wardAt 2 (some .int)) { frames := 0, cells := 0, slots := 0, locals := 0 }).room.locals := ⟨Nat.le_refl _, Nat.le_refl _⟩
  have dy : Dy D cA ad (V, g) A s.heap s.heap [] := ⟨w0, va_S.rf⟩
  have hl := lv_entry [.ref (ad k0), .int a1] (n := 2) (Nat.le_of_ble_eq_true rfl)
  rw [lg_entry_eq]
  generalize (lg_sl [.ref (ad k0), .int a1] ++ List.replicate (2 - (lg_sl [.ref (ad k0), .int a1]).length) Slot.unset).toArray = ls at hl ⊢
  have hl : lv_has ls 2 [(0, .ref (ad k0)), (1, .int a1)] := hl
  have dy0 : ∃ H0, H0 = s.heap ∧ Dy D cA ad (V, g) A s.heap H0 [] := ⟨_, rfl, dy⟩
  obtain ⟨z, ez⟩ : ∃ z, z = (r0, g0) := ⟨_, rfl⟩
  rw [← ez] at hr
  have hq0 : ∀ (rb : Int32) (gb : Hq), z = (rb, gb) → rb = r0 ∧ gb = g0 := fun rb gb eb => by rw [ez] at eb; exact ⟨(congrArg Prod.fst eb).symm, (congrArg Prod.snd eb).symm⟩
  clear ez w0 dy0
  unfold r_X9_wardAt at hr
  obtain ⟨H, hH⟩ : ∃ H, H = s.heap := ⟨_, rfl⟩
  obtain ⟨locs, hlo⟩ : ∃ q : List Loc, q = [] := ⟨_, rfl⟩
  have dy : Dy D cA ad (V, g) A s.heap H locs := by rw [hH, hlo]; exact dy
  suffices K : W p l e (headSpec (wM yX9_wardAt cX9_wardAt 2 (some .int)) { frames := 0, cells := 0, slots := 0, locals := 0 }).room s m ([.ref (ad k0), .int a1] : List Value).toArray below meth c H locs 0 0 (MQ below (QI D cA ad A r0 (V, g0)) ([.ref (ad k0), .int a1] : List Value).toArray s 0 0 A) (F0 m 0 ls []) by rw [hH, hlo] at K; exact K
  clear hH hlo
  refine lv_aload_n cx.1 cx.2.1 dX9_wardAt_0 rfl (lv_at hl 0 rfl) ?_
  obtain ⟨hv1, hr⟩ := of_grd hr
  obtain ⟨k2, hf3, hr⟩ := of_bnd hr
  refine h_getR cx fx dy fd_9_0 hv1 tb_101 hf3 dX9_wardAt_1 ?_
  refine lv_iload_n cx.1 cx.2.1 dX9_wardAt_4 rfl (lv_at hl 1 rfl) ?_
  obtain ⟨ha4, hr⟩ := of_grd hr
  refine h_iald cx fx dy ha4 dX9_wardAt_5 ?_
  obtain ⟨e0, e1⟩ := hq0 _ _ (Option.some.inj hr).symm
  exact h_iret cx dy hlocks hret rfl e0 (by rw [e1]) dX9_wardAt_6
noncomputable def r_X9_withinAt (V : Vk) (k0 : Nat) (a1 : Int32) (g : Hq) : Option (Int32 × Hq) :=
  grd (V k0 = some (9, 0)) <| Option.bind (g.2.2 k0 1) fun k2 => grd (okV V k2 0 a1) <| some ((g.1 k2 a1.toNatClampNeg), g)
set_option maxHeartbeats 4000000 in
set_option maxRecDepth 100000 in
theorem c_X9_withinAt {l : Launch} {D : va_G} {cA : Nat → ClassId} {sk : (Nat → Nat) × (Nat → Nat)} {ad : Nat → Nat} {A : Nat → Prop} {V : Vk} {k0 : Nat} {a1 : Int32} {g g0 : Hq} {r0 : Int32} (hr : r_X9_withinAt V k0 a1 g = some (r0, g0)) : Met l yX9_withinAt (wM yX9_withinAt cX9_withinAt 2 (some .int)) { frames := 0, cells := 0, slots := 0, locals := 0 } (Pre D cA sk ad (V, g) A [.ref (ad k0), .int a1]) (QI D cA ad A r0 (V, g0)) 0 0 A := by
  refine Met.ofW (cc := cX9_withinAt) (maxL := 2) (ret := (some .int)) (by decide) rfl ?_
  intro p e s m args below meth c s₁ B hml hv
  obtain ⟨rfl, fx, w0⟩ := hv
  have hts := atoms_spec (ws := wM yX9_withinAt cX9_withinAt 2 (some .int)) B.pre
  have cx : CallFix p m c cX9_withinAt 2 s ([.ref (ad k0), .int a1] : List Value).toArray gw_tbl RX9 := ⟨B.exec, B.bytes, hml, findClass_of_methodNamed B.named, fun w hw => hts w (List.mem_cons_of_mem _ hw)⟩
  have hlocks := B.notSynchronized
  have hret := B.returns
  have hR : 0 ≤ (headSpec (wM yX9_withinAt cX9_withinAt 2 (some .int)) { frames := 0, cells := 0, slots := 0, locals := 0 }).room.frames ∧ 0 ≤ (headSpec (wM yX9_withinAt cX9_withinAt 2 (some .int)) { frames := 0, cells := 0, slots := 0, locals := 0 }).room.locals := ⟨Nat.le_refl _, Nat.le_refl _⟩
  have dy : Dy D cA ad (V, g) A s.heap s.heap [] := ⟨w0, va_S.rf⟩
  have hl := lv_entry [.ref (ad k0), .int a1] (n := 2) (Nat.le_of_ble_eq_true rfl)
  rw [lg_entry_eq]
  generalize (lg_sl [.ref (ad k0), .int a1] ++ List.replicate (2 - (lg_sl [.ref (ad k0), .int a1]).length) Slot.unset).toArray = ls at hl ⊢
  have hl : lv_has ls 2 [(0, .ref (ad k0)), (1, .int a1)] := hl
  have dy0 : ∃ H0, H0 = s.heap ∧ Dy D cA ad (V, g) A s.heap H0 [] := ⟨_, rfl, dy⟩
  obtain ⟨z, ez⟩ : ∃ z, z = (r0, g0) := ⟨_, rfl⟩
  rw [← ez] at hr
  have hq0 : ∀ (rb : Int32) (gb : Hq), z = (rb, gb) → rb = r0 ∧ gb = g0 := fun rb gb eb => by rw [ez] at eb; exact ⟨(congrArg Prod.fst eb).symm, (congrArg Prod.snd eb).symm⟩
  clear ez w0 dy0
  unfold r_X9_withinAt at hr
  obtain ⟨H, hH⟩ : ∃ H, H = s.heap := ⟨_, rfl⟩
  obtain ⟨locs, hlo⟩ : ∃ q : List Loc, q = [] := ⟨_, rfl⟩
  have dy : Dy D cA ad (V, g) A s.heap H locs := by rw [hH, hlo]; exact dy
  suffices K : W p l e (headSpec (wM yX9_withinAt cX9_withinAt 2 (some .int)) { frames := 0, cells := 0, slots := 0, locals := 0 }).room s m ([.ref (ad k0), .int a1] : List Value).toArray below meth c H locs 0 0 (MQ below (QI D cA ad A r0 (V, g0)) ([.ref (ad k0), .int a1] : List Value).toArray s 0 0 A) (F0 m 0 ls []) by rw [hH, hlo] at K; exact K
  clear hH hlo
  refine lv_aload_n cx.1 cx.2.1 dX9_withinAt_0 rfl (lv_at hl 0 rfl) ?_
  obtain ⟨hv1, hr⟩ := of_grd hr
  obtain ⟨k2, hf3, hr⟩ := of_bnd hr
  refine h_getR cx fx dy fd_9_1 hv1 tb_102 hf3 dX9_withinAt_1 ?_
  refine lv_iload_n cx.1 cx.2.1 dX9_withinAt_4 rfl (lv_at hl 1 rfl) ?_
  obtain ⟨ha4, hr⟩ := of_grd hr
  refine h_iald cx fx dy ha4 dX9_withinAt_5 ?_
  obtain ⟨e0, e1⟩ := hq0 _ _ (Option.some.inj hr).symm
  exact h_iret cx dy hlocks hret rfl e0 (by rw [e1]) dX9_withinAt_6
noncomputable def r_X9_minutesOfWay (V : Vk) (k0 : Nat) (a1 : Int32) (a2 : Int32) (g : Hq) : Option (Int32 × Hq) :=
  grd (V k0 = some (9, 0)) <| Option.bind (g.2.2 k0 2) fun k2 => grd (okV V k2 0 ((a1 * (12 : Int32)) + a2)) <| some ((g.1 k2 ((a1 * (12 : Int32)) + a2).toNatClampNeg), g)
set_option maxHeartbeats 4000000 in
set_option maxRecDepth 100000 in
theorem c_X9_minutesOfWay {l : Launch} {D : va_G} {cA : Nat → ClassId} {sk : (Nat → Nat) × (Nat → Nat)} {ad : Nat → Nat} {A : Nat → Prop} {V : Vk} {k0 : Nat} {a1 : Int32} {a2 : Int32} {g g0 : Hq} {r0 : Int32} (hr : r_X9_minutesOfWay V k0 a1 a2 g = some (r0, g0)) : Met l yX9_minutesOfWay (wM yX9_minutesOfWay cX9_minutesOfWay 3 (some .int)) { frames := 0, cells := 0, slots := 0, locals := 0 } (Pre D cA sk ad (V, g) A [.ref (ad k0), .int a1, .int a2]) (QI D cA ad A r0 (V, g0)) 0 0 A := by
  refine Met.ofW (cc := cX9_minutesOfWay) (maxL := 3) (ret := (some .int)) (by decide) rfl ?_
  intro p e s m args below meth c s₁ B hml hv
  obtain ⟨rfl, fx, w0⟩ := hv
  have hts := atoms_spec (ws := wM yX9_minutesOfWay cX9_minutesOfWay 3 (some .int)) B.pre
  have cx : CallFix p m c cX9_minutesOfWay 3 s ([.ref (ad k0), .int a1, .int a2] : List Value).toArray gw_tbl RX9 := ⟨B.exec, B.bytes, hml, findClass_of_methodNamed B.named, fun w hw => hts w (List.mem_cons_of_mem _ hw)⟩
  have hlocks := B.notSynchronized
  have hret := B.returns
  have hR : 0 ≤ (headSpec (wM yX9_minutesOfWay cX9_minutesOfWay 3 (some .int)) { frames := 0, cells := 0, slots := 0, locals := 0 }).room.frames ∧ 0 ≤ (headSpec (wM yX9_minutesOfWay cX9_minutesOfWay 3 (some .int)) { frames := 0, cells := 0, slots := 0, locals := 0 }).room.locals := ⟨Nat.le_refl _, Nat.le_refl _⟩
  have dy : Dy D cA ad (V, g) A s.heap s.heap [] := ⟨w0, va_S.rf⟩
  have hl := lv_entry [.ref (ad k0), .int a1, .int a2] (n := 3) (Nat.le_of_ble_eq_true rfl)
  rw [lg_entry_eq]
  generalize (lg_sl [.ref (ad k0), .int a1, .int a2] ++ List.replicate (3 - (lg_sl [.ref (ad k0), .int a1, .int a2]).length) Slot.unset).toArray = ls at hl ⊢
  have hl : lv_has ls 3 [(0, .ref (ad k0)), (1, .int a1), (2, .int a2)] := hl
  have dy0 : ∃ H0, H0 = s.heap ∧ Dy D cA ad (V, g) A s.heap H0 [] := ⟨_, rfl, dy⟩
  obtain ⟨z, ez⟩ : ∃ z, z = (r0, g0) := ⟨_, rfl⟩
  rw [← ez] at hr
  have hq0 : ∀ (rb : Int32) (gb : Hq), z = (rb, gb) → rb = r0 ∧ gb = g0 := fun rb gb eb => by rw [ez] at eb; exact ⟨(congrArg Prod.fst eb).symm, (congrArg Prod.snd eb).symm⟩
  clear ez w0 dy0
  unfold r_X9_minutesOfWay at hr
  obtain ⟨H, hH⟩ : ∃ H, H = s.heap := ⟨_, rfl⟩
  obtain ⟨locs, hlo⟩ : ∃ q : List Loc, q = [] := ⟨_, rfl⟩
  have dy : Dy D cA ad (V, g) A s.heap H locs := by rw [hH, hlo]; exact dy
  suffices K : W p l e (headSpec (wM yX9_minutesOfWay cX9_minutesOfWay 3 (some .int)) { frames := 0, cells := 0, slots := 0, locals := 0 }).room s m ([.ref (ad k0), .int a1, .int a2] : List Value).toArray below meth c H locs 0 0 (MQ below (QI D cA ad A r0 (V, g0)) ([.ref (ad k0), .int a1, .int a2] : List Value).toArray s 0 0 A) (F0 m 0 ls []) by rw [hH, hlo] at K; exact K
  clear hH hlo
  refine lv_aload_n cx.1 cx.2.1 dX9_minutesOfWay_0 rfl (lv_at hl 0 rfl) ?_
  obtain ⟨hv1, hr⟩ := of_grd hr
  obtain ⟨k2, hf3, hr⟩ := of_bnd hr
  refine h_getR cx fx dy fd_9_2 hv1 tb_103 hf3 dX9_minutesOfWay_1 ?_
  refine lv_iload_n cx.1 cx.2.1 dX9_minutesOfWay_4 rfl (lv_at hl 1 rfl) ?_
  refine lv_bipush (v := 12) cx.1 cx.2.1 dX9_minutesOfWay_5 (by decide) ?_
  refine lv_imul cx.1 cx.2.1 dX9_minutesOfWay_7 ?_
  refine lv_iload_n cx.1 cx.2.1 dX9_minutesOfWay_8 rfl (lv_at hl 2 rfl) ?_
  refine lv_iadd cx.1 cx.2.1 dX9_minutesOfWay_9 ?_
  obtain ⟨ha4, hr⟩ := of_grd hr
  refine h_iald cx fx dy ha4 dX9_minutesOfWay_10 ?_
  obtain ⟨e0, e1⟩ := hq0 _ _ (Option.some.inj hr).symm
  exact h_iret cx dy hlocks hret rfl e0 (by rw [e1]) dX9_minutesOfWay_11
noncomputable def r_X9_setWay (V : Vk) (k0 : Nat) (a1 : Int32) (a2 : Int32) (a3 : Int32) (g : Hq) : Option (Unit × Hq) :=
  grd (V k0 = some (9, 0)) <| Option.bind (g.2.2 k0 2) fun k2 => grd (okV V k2 0 ((a1 * (12 : Int32)) + a2)) <| nm (sI g k2 ((a1 * (12 : Int32)) + a2).toNatClampNeg a3) fun g5 => Option.bind (g5.2.2 k0 2) fun k6 => grd (okV V k6 0 ((a2 * (12 : Int32)) + a1)) <| nm (sI g5 k6 ((a2 * (12 : Int32)) + a1).toNatClampNeg a3) fun g9 => nm (sI g9 k0 4 (1 : Int32)) fun g10 => some ((), g10)
set_option maxHeartbeats 4000000 in
set_option maxRecDepth 100000 in
theorem c_X9_setWay {l : Launch} {D : va_G} {cA : Nat → ClassId} {sk : (Nat → Nat) × (Nat → Nat)} {ad : Nat → Nat} {A : Nat → Prop} {V : Vk} {k0 : Nat} {a1 : Int32} {a2 : Int32} {a3 : Int32} {g g0 : Hq} (hr : r_X9_setWay V k0 a1 a2 a3 g = some ((), g0)) : Met l yX9_setWay (wM yX9_setWay cX9_setWay 4 none) { frames := 0, cells := 0, slots := 0, locals := 0 } (Pre D cA sk ad (V, g) A [.ref (ad k0), .int a1, .int a2, .int a3]) (QV D cA ad A (V, g0)) 0 0 A := by
  refine Met.ofW (cc := cX9_setWay) (maxL := 4) (ret := none) (by decide) rfl ?_
  intro p e s m args below meth c s₁ B hml hv
  obtain ⟨rfl, fx, w0⟩ := hv
  have hts := atoms_spec (ws := wM yX9_setWay cX9_setWay 4 none) B.pre
  have cx : CallFix p m c cX9_setWay 4 s ([.ref (ad k0), .int a1, .int a2, .int a3] : List Value).toArray gw_tbl RX9 := ⟨B.exec, B.bytes, hml, findClass_of_methodNamed B.named, fun w hw => hts w (List.mem_cons_of_mem _ hw)⟩
  have hlocks := B.notSynchronized
  have hret := B.returns
  have hR : 0 ≤ (headSpec (wM yX9_setWay cX9_setWay 4 none) { frames := 0, cells := 0, slots := 0, locals := 0 }).room.frames ∧ 0 ≤ (headSpec (wM yX9_setWay cX9_setWay 4 none) { frames := 0, cells := 0, slots := 0, locals := 0 }).room.locals := ⟨Nat.le_refl _, Nat.le_refl _⟩
  have dy : Dy D cA ad (V, g) A s.heap s.heap [] := ⟨w0, va_S.rf⟩
  have hl := lv_entry [.ref (ad k0), .int a1, .int a2, .int a3] (n := 4) (Nat.le_of_ble_eq_true rfl)
  rw [lg_entry_eq]
  generalize (lg_sl [.ref (ad k0), .int a1, .int a2, .int a3] ++ List.replicate (4 - (lg_sl [.ref (ad k0), .int a1, .int a2, .int a3]).length) Slot.unset).toArray = ls at hl ⊢
  have hl : lv_has ls 4 [(0, .ref (ad k0)), (1, .int a1), (2, .int a2), (3, .int a3)] := hl
  have dy0 : ∃ H0, H0 = s.heap ∧ Dy D cA ad (V, g) A s.heap H0 [] := ⟨_, rfl, dy⟩
  obtain ⟨z, ez⟩ : ∃ z, z = (((), g0) : Unit × Hq) := ⟨_, rfl⟩
  rw [← ez] at hr
  have hq0 : ∀ (rb : Unit) (gb : Hq), z = (rb, gb) → gb = g0 := fun rb gb eb => by rw [ez] at eb; exact (congrArg Prod.snd eb).symm
  clear ez w0 dy0
  unfold r_X9_setWay at hr
  obtain ⟨H, hH⟩ : ∃ H, H = s.heap := ⟨_, rfl⟩
  obtain ⟨locs, hlo⟩ : ∃ q : List Loc, q = [] := ⟨_, rfl⟩
  have dy : Dy D cA ad (V, g) A s.heap H locs := by rw [hH, hlo]; exact dy
  suffices K : W p l e (headSpec (wM yX9_setWay cX9_setWay 4 none) { frames := 0, cells := 0, slots := 0, locals := 0 }).room s m ([.ref (ad k0), .int a1, .int a2, .int a3] : List Value).toArray below meth c H locs 0 0 (MQ below (QV D cA ad A (V, g0)) ([.ref (ad k0), .int a1, .int a2, .int a3] : List Value).toArray s 0 0 A) (F0 m 0 ls []) by rw [hH, hlo] at K; exact K
  clear hH hlo
  refine lv_aload_n cx.1 cx.2.1 dX9_setWay_0 rfl (lv_at hl 0 rfl) ?_
  obtain ⟨hv1, hr⟩ := of_grd hr
  obtain ⟨k2, hf3, hr⟩ := of_bnd hr
  refine h_getR cx fx dy fd_9_2 hv1 tb_103 hf3 dX9_setWay_1 ?_
  refine lv_iload_n cx.1 cx.2.1 dX9_setWay_4 rfl (lv_at hl 1 rfl) ?_
  refine lv_bipush (v := 12) cx.1 cx.2.1 dX9_setWay_5 (by decide) ?_
  refine lv_imul cx.1 cx.2.1 dX9_setWay_7 ?_
  refine lv_iload_n cx.1 cx.2.1 dX9_setWay_8 rfl (lv_at hl 2 rfl) ?_
  refine lv_iadd cx.1 cx.2.1 dX9_setWay_9 ?_
  refine lv_iload_n cx.1 cx.2.1 dX9_setWay_10 rfl (lv_at hl 3 rfl) ?_
  obtain ⟨ha4, hr⟩ := of_grd hr
  obtain ⟨g5, eg5, hr⟩ := of_nm hr
  refine h_iast cx fx dy ha4 dX9_setWay_11 (fun H locs dy => ?_)
  replace dy : Dy D cA ad (V, g5) A s.heap H locs := by rw [eg5]; exact dy
  refine lv_aload_n cx.1 cx.2.1 dX9_setWay_12 rfl (lv_at hl 0 rfl) ?_
  obtain ⟨k6, hf7, hr⟩ := of_bnd hr
  refine h_getR cx fx dy fd_9_2 hv1 tb_103 hf7 dX9_setWay_13 ?_
  refine lv_iload_n cx.1 cx.2.1 dX9_setWay_16 rfl (lv_at hl 2 rfl) ?_
  refine lv_bipush (v := 12) cx.1 cx.2.1 dX9_setWay_17 (by decide) ?_
  refine lv_imul cx.1 cx.2.1 dX9_setWay_19 ?_
  refine lv_iload_n cx.1 cx.2.1 dX9_setWay_20 rfl (lv_at hl 1 rfl) ?_
  refine lv_iadd cx.1 cx.2.1 dX9_setWay_21 ?_
  refine lv_iload_n cx.1 cx.2.1 dX9_setWay_22 rfl (lv_at hl 3 rfl) ?_
  obtain ⟨ha8, hr⟩ := of_grd hr
  obtain ⟨g9, eg9, hr⟩ := of_nm hr
  refine h_iast cx fx dy ha8 dX9_setWay_23 (fun H locs dy => ?_)
  replace dy : Dy D cA ad (V, g9) A s.heap H locs := by rw [eg9]; exact dy
  refine lv_aload_n cx.1 cx.2.1 dX9_setWay_24 rfl (lv_at hl 0 rfl) ?_
  refine lv_iconst (v := 1) cx.1 cx.2.1 dX9_setWay_25 (by decide) ?_
  obtain ⟨g10, eg10, hr⟩ := of_nm hr
  refine h_putI cx fx dy fd_9_4 (pd_9_4 : PD _ _ _ _ _ .boolean) rfl rfl rfl hv1 tb_105 dX9_setWay_26 (fun H locs dy => ?_)
  replace dy : Dy D cA ad (V, g10) A s.heap H locs := by rw [eg10]; exact dy
  have e1 := hq0 _ _ (Option.some.inj hr).symm
  exact h_vret cx dy hlocks hret (by rw [e1]) dX9_setWay_29
noncomputable def r_X9_shortenFrom_21' (V : Vk) (k6 : Nat) (x7 : Int32) (x8 : Int32) (x9 : Int32) (x10 : Int32) (g11 : Hq) : Option ((Nat × Int32 × Int32 × Int32 × Int32 × Hq) ⊕ (Unit × Hq)) :=
  brn ((12 : Int32) ≤ x10) (some (.inr ((), g11))) (grd (V k6 = some (9, 0)) <| Option.bind (g11.2.2 k6 3) fun k13 => grd (okV V k13 0 ((x8 * (12 : Int32)) + x10)) <| nm (g11.1 k13 ((x8 * (12 : Int32)) + x10).toNatClampNeg) fun x16 => Option.bind (g11.2.2 k6 3) fun k17 => grd (okV V k17 0 ((x7 * (12 : Int32)) + x10)) <| nm (g11.1 k17 ((x7 * (12 : Int32)) + x10).toNatClampNeg) fun x20 => brn (x16 = (-1 : Int32)) (nm (x10 + (1 : Int32)) fun x21 => some (.inl (k6, x7, x8, x9, x21, g11))) (brn (x20 = (-1 : Int32)) (Option.bind (g11.2.2 k6 3) fun k22 => grd (okV V k22 0 ((x7 * (12 : Int32)) + x10)) <| nm (sI g11 k22 ((x7 * (12 : Int32)) + x10).toNatClampNeg (x9 + x16)) fun g25 => nm (x10 + (1 : Int32)) fun x26 => some (.inl (k6, x7, x8, x9, x26, g25))) (brn (x20 ≤ (x9 + x16)) (nm (x10 + (1 : Int32)) fun x27 => some (.inl (k6, x7, x8, x9, x27, g11))) (Option.bind (g11.2.2 k6 3) fun k28 => grd (okV V k28 0 ((x7 * (12 : Int32)) + x10)) <| nm (sI g11 k28 ((x7 * (12 : Int32)) + x10).toNatClampNeg (x9 + x16)) fun g31 => nm (x10 + (1 : Int32)) fun x32 => some (.inl (k6, x7, x8, x9, x32, g31))))))
noncomputable def r_X9_shortenFrom_21 (V : Vk) (st : (Nat × Int32 × Int32 × Int32 × Int32 × Hq)) : Option ((Nat × Int32 × Int32 × Int32 × Int32 × Hq) ⊕ (Unit × Hq)) := r_X9_shortenFrom_21' V st.1 st.2.1 st.2.2.1 st.2.2.2.1 st.2.2.2.2.1 st.2.2.2.2.2
set_option maxHeartbeats 4000000 in
set_option maxRecDepth 100000 in
theorem w_X9_shortenFrom_21 {p : Program} {l : Launch} {e : Env} {R : Room} {s : State} {m : MethodId} {args : Array Value} {below : List Frame} {meth : Method} {c : Code} {D : va_G} {cA : Nat → ClassId} {sk : (Nat → Nat) × (Nat → Nat)} {ad : Nat → Nat} {A : Nat → Prop} {V : Vk} (cx : CallFix p m c cX9_shortenFrom 7 s args gw_tbl RX9) (fx : Fx D cA sk A s) (hlocks : meth.locks = false) (hret : meth.sig.returnType = none) (hR : 0 ≤ R.frames ∧ 0 ≤ R.locals) (g0 : Hq) (y : (Unit × Hq)) (hq : ∀ (rb : Unit) (gb : Hq), y = (rb, gb) → gb = g0) : ∀ (n : Nat) (k6 : Nat) (x7 : Int32) (x8 : Int32) (x9 : Int32) (x10 : Int32) (g11 : Hq), itr (r_X9_shortenFrom_21 V) n (k6, x7, x8, x9, x10, g11) = some y → ∀ (H : Heap) (locs : List Loc) (ls : Array Slot), Dy D cA ad (V, g11) A s.heap H locs → lv_has ls 7 [(0, .ref (ad k6)), (1, .int x7), (2, .int x8), (3, .int x9), (4, .int x10)] → W p l e R s m args below meth c H locs 0 0 (MQ below (QV D cA ad A (V, g0)) args s 0 0 A) (F0 m 21 ls []) := by
  intro n
  induction n with
  | zero => intro k6 x7 x8 x9 x10 g11 hr; cases hr
  | succ n ih =>
    intro k6 x7 x8 x9 x10 g11 hr H locs ls dy hl
    obtain ⟨z, hz, hn1, hn2⟩ := itr_succ hr
    clear hr
    have hr : r_X9_shortenFrom_21' V k6 x7 x8 x9 x10 g11 = some z := hz
    clear hz
    unfold r_X9_shortenFrom_21' at hr
    have hh0 : ∀ (b0 : Nat) (b1 : Int32) (b2 : Int32) (b3 : Int32) (b4 : Int32) (gb : Hq), z = .inl (b0, b1, b2, b3, b4, gb) → ∀ (H : Heap) (locs : List Loc) (ls : Array Slot), Dy D cA ad (V, gb) A s.heap H locs → lv_has ls 7 [(0, .ref (ad b0)), (1, .int b1), (2, .int b2), (3, .int b3), (4, .int b4)] → W p l e R s m args below meth c H locs 0 0 (MQ below (QV D cA ad A (V, g0)) args s 0 0 A) (F0 m 21 ls []) := fun b0 b1 b2 b3 b4 gb eb => ih b0 b1 b2 b3 b4 gb (hn1 _ eb)
    have hq0 : ∀ (rb : Unit) (gb : Hq), z = (.inr (rb, gb)) → gb = g0 := fun rb gb eb => hq rb gb (hn2 _ eb).symm
    refine lv_iload cx.1 cx.2.1 dX9_shortenFrom_21 (lv_at hl 4 rfl) ?_
    refine lv_bipush (v := 12) cx.1 cx.2.1 dX9_shortenFrom_23 (by decide) ?_
    rcases of_brn hr with ⟨hc, hr⟩ | ⟨hc, hr⟩
    · refine lv_icmp_ge (tgt := 99) cx.1 cx.2.1 dX9_shortenFrom_25 (by decide) (fun _ => ?_) (fun hn => absurd hc hn)
      have e1 := hq0 _ _ (Option.some.inj hr).symm
      exact h_vret cx dy hlocks hret (by rw [e1]) dX9_shortenFrom_99
    · refine lv_icmp_ge (tgt := 99) cx.1 cx.2.1 dX9_shortenFrom_25 (by decide) (fun hn => absurd hn hc) (fun _ => ?_)
      refine lv_aload_n cx.1 cx.2.1 dX9_shortenFrom_28 rfl (lv_at hl 0 rfl) ?_
      obtain ⟨hv12, hr⟩ := of_grd hr
      obtain ⟨k13, hf14, hr⟩ := of_bnd hr
      refine h_getR cx fx dy fd_9_3 hv12 tb_104 hf14 dX9_shortenFrom_29 ?_
      refine lv_iload_n cx.1 cx.2.1 dX9_shortenFrom_32 rfl (lv_at hl 2 rfl) ?_
      refine lv_bipush (v := 12) cx.1 cx.2.1 dX9_shortenFrom_33 (by decide) ?_
      refine lv_imul cx.1 cx.2.1 dX9_shortenFrom_35 ?_
      refine lv_iload cx.1 cx.2.1 dX9_shortenFrom_36 (lv_at hl 4 rfl) ?_
      refine lv_iadd cx.1 cx.2.1 dX9_shortenFrom_38 ?_
      obtain ⟨ha15, hr⟩ := of_grd hr
      refine h_iald cx fx dy ha15 dX9_shortenFrom_39 ?_
      obtain ⟨x16, ex16, hr⟩ := of_nm hr
      refine lv_nmi ex16 ?_
      refine lv_istore (lv' := [(5, .int x16), (0, .ref (ad k6)), (1, .int x7), (2, .int x8), (3, .int x9), (4, .int x10)]) cx.1 cx.2.1 dX9_shortenFrom_40 hl (by decide) rfl (fun ls hl => ?_)
      refine lv_aload_n cx.1 cx.2.1 dX9_shortenFrom_42 rfl (lv_at hl 1 rfl) ?_
      obtain ⟨k17, hf18, hr⟩ := of_bnd hr
      refine h_getR cx fx dy fd_9_3 hv12 tb_104 hf18 dX9_shortenFrom_43 ?_
      refine lv_iload_n cx.1 cx.2.1 dX9_shortenFrom_46 rfl (lv_at hl 2 rfl) ?_
      refine lv_bipush (v := 12) cx.1 cx.2.1 dX9_shortenFrom_47 (by decide) ?_
      refine lv_imul cx.1 cx.2.1 dX9_shortenFrom_49 ?_
      refine lv_iload cx.1 cx.2.1 dX9_shortenFrom_50 (lv_at hl 5 rfl) ?_
      refine lv_iadd cx.1 cx.2.1 dX9_shortenFrom_52 ?_
      obtain ⟨ha19, hr⟩ := of_grd hr
      refine h_iald cx fx dy ha19 dX9_shortenFrom_53 ?_
      obtain ⟨x20, ex20, hr⟩ := of_nm hr
      refine lv_nmi ex20 ?_
      refine lv_istore (lv' := [(6, .int x20), (5, .int x16), (0, .ref (ad k6)), (1, .int x7), (2, .int x8), (3, .int x9), (4, .int x10)]) cx.1 cx.2.1 dX9_shortenFrom_54 hl (by decide) rfl (fun ls hl => ?_)
      refine lv_iload cx.1 cx.2.1 dX9_shortenFrom_56 (lv_at hl 1 rfl) ?_
      refine lv_iconst (v := (-1)) cx.1 cx.2.1 dX9_shortenFrom_58 (by decide) ?_
      rcases of_brn hr with ⟨hc, hr⟩ | ⟨hc, hr⟩
      · refine lv_icmp_eq (tgt := 93) cx.1 cx.2.1 dX9_shortenFrom_59 (by decide) (fun _ => ?_) (fun hn => absurd hc hn)
        obtain ⟨x21, ex21, hr⟩ := of_nm hr
        refine lv_iinc (v := x21) (lv' := [(4, .int x21), (6, .int x20), (5, .int x16), (0, .ref (ad k6)), (1, .int x7), (2, .int x8), (3, .int x9)]) cx.1 cx.2.1 dX9_shortenFrom_93 hl (k := 6) rfl (by rw [ex21]; rfl) (by decide) rfl (fun ls hl => ?_)
        refine lv_goto (tgt := 21) cx.1 cx.2.1 dX9_shortenFrom_96 (by decide) ?_
        exact hh0 k6 x7 x8 x9 x21 g11 (Option.some.inj hr).symm H locs ls dy (lv_sub hl [3, 4, 5, 6, 0] rfl)
      · refine lv_icmp_eq (tgt := 93) cx.1 cx.2.1 dX9_shortenFrom_59 (by decide) (fun hn => absurd hn hc) (fun _ => ?_)
        refine lv_iload cx.1 cx.2.1 dX9_shortenFrom_62 (lv_at hl 0 rfl) ?_
        refine lv_iconst (v := (-1)) cx.1 cx.2.1 dX9_shortenFrom_64 (by decide) ?_
        rcases of_brn hr with ⟨hc, hr⟩ | ⟨hc, hr⟩
        · refine lv_icmp_eq (tgt := 77) cx.1 cx.2.1 dX9_shortenFrom_65 (by decide) (fun _ => ?_) (fun hn => absurd hc hn)
          refine lv_aload_n cx.1 cx.2.1 dX9_shortenFrom_77 rfl (lv_at hl 2 rfl) ?_
          obtain ⟨k22, hf23, hr⟩ := of_bnd hr
          refine h_getR cx fx dy fd_9_3 hv12 tb_104 hf23 dX9_shortenFrom_78 ?_
          refine lv_iload_n cx.1 cx.2.1 dX9_shortenFrom_81 rfl (lv_at hl 3 rfl) ?_
          refine lv_bipush (v := 12) cx.1 cx.2.1 dX9_shortenFrom_82 (by decide) ?_
          refine lv_imul cx.1 cx.2.1 dX9_shortenFrom_84 ?_
          refine lv_iload cx.1 cx.2.1 dX9_shortenFrom_85 (lv_at hl 6 rfl) ?_
          refine lv_iadd cx.1 cx.2.1 dX9_shortenFrom_87 ?_
          refine lv_iload_n cx.1 cx.2.1 dX9_shortenFrom_88 rfl (lv_at hl 5 rfl) ?_
          refine lv_iload cx.1 cx.2.1 dX9_shortenFrom_89 (lv_at hl 1 rfl) ?_
          refine lv_iadd cx.1 cx.2.1 dX9_shortenFrom_91 ?_
          obtain ⟨ha24, hr⟩ := of_grd hr
          obtain ⟨g25, eg25, hr⟩ := of_nm hr
          refine h_iast cx fx dy ha24 dX9_shortenFrom_92 (fun H locs dy => ?_)
          replace dy : Dy D cA ad (V, g25) A s.heap H locs := by rw [eg25]; exact dy
          obtain ⟨x26, ex26, hr⟩ := of_nm hr
          refine lv_iinc (v := x26) (lv' := [(4, .int x26), (6, .int x20), (5, .int x16), (0, .ref (ad k6)), (1, .int x7), (2, .int x8), (3, .int x9)]) cx.1 cx.2.1 dX9_shortenFrom_93 hl (k := 6) rfl (by rw [ex26]; rfl) (by decide) rfl (fun ls hl => ?_)
          refine lv_goto (tgt := 21) cx.1 cx.2.1 dX9_shortenFrom_96 (by decide) ?_
          exact hh0 k6 x7 x8 x9 x26 g25 (Option.some.inj hr).symm H locs ls dy (lv_sub hl [3, 4, 5, 6, 0] rfl)
        · refine lv_icmp_eq (tgt := 77) cx.1 cx.2.1 dX9_shortenFrom_65 (by decide) (fun hn => absurd hn hc) (fun _ => ?_)
          refine lv_iload_n cx.1 cx.2.1 dX9_shortenFrom_68 rfl (lv_at hl 5 rfl) ?_
          refine lv_iload cx.1 cx.2.1 dX9_shortenFrom_69 (lv_at hl 1 rfl) ?_
          refine lv_iadd cx.1 cx.2.1 dX9_shortenFrom_71 ?_
          refine lv_iload cx.1 cx.2.1 dX9_shortenFrom_72 (lv_at hl 0 rfl) ?_
          rcases of_brn hr with ⟨hc, hr⟩ | ⟨hc, hr⟩
          · refine lv_icmp_ge (tgt := 93) cx.1 cx.2.1 dX9_shortenFrom_74 (by decide) (fun _ => ?_) (fun hn => absurd hc hn)
            obtain ⟨x27, ex27, hr⟩ := of_nm hr
            refine lv_iinc (v := x27) (lv' := [(4, .int x27), (6, .int x20), (5, .int x16), (0, .ref (ad k6)), (1, .int x7), (2, .int x8), (3, .int x9)]) cx.1 cx.2.1 dX9_shortenFrom_93 hl (k := 6) rfl (by rw [ex27]; rfl) (by decide) rfl (fun ls hl => ?_)
            refine lv_goto (tgt := 21) cx.1 cx.2.1 dX9_shortenFrom_96 (by decide) ?_
            exact hh0 k6 x7 x8 x9 x27 g11 (Option.some.inj hr).symm H locs ls dy (lv_sub hl [3, 4, 5, 6, 0] rfl)
          · refine lv_icmp_ge (tgt := 93) cx.1 cx.2.1 dX9_shortenFrom_74 (by decide) (fun hn => absurd hn hc) (fun _ => ?_)
            refine lv_aload_n cx.1 cx.2.1 dX9_shortenFrom_77 rfl (lv_at hl 2 rfl) ?_
            obtain ⟨k28, hf29, hr⟩ := of_bnd hr
            refine h_getR cx fx dy fd_9_3 hv12 tb_104 hf29 dX9_shortenFrom_78 ?_
            refine lv_iload_n cx.1 cx.2.1 dX9_shortenFrom_81 rfl (lv_at hl 3 rfl) ?_
            refine lv_bipush (v := 12) cx.1 cx.2.1 dX9_shortenFrom_82 (by decide) ?_
            refine lv_imul cx.1 cx.2.1 dX9_shortenFrom_84 ?_
            refine lv_iload cx.1 cx.2.1 dX9_shortenFrom_85 (lv_at hl 6 rfl) ?_
            refine lv_iadd cx.1 cx.2.1 dX9_shortenFrom_87 ?_
            refine lv_iload_n cx.1 cx.2.1 dX9_shortenFrom_88 rfl (lv_at hl 5 rfl) ?_
            refine lv_iload cx.1 cx.2.1 dX9_shortenFrom_89 (lv_at hl 1 rfl) ?_
            refine lv_iadd cx.1 cx.2.1 dX9_shortenFrom_91 ?_
            obtain ⟨ha30, hr⟩ := of_grd hr
            obtain ⟨g31, eg31, hr⟩ := of_nm hr
            refine h_iast cx fx dy ha30 dX9_shortenFrom_92 (fun H locs dy => ?_)
            replace dy : Dy D cA ad (V, g31) A s.heap H locs := by rw [eg31]; exact dy
            obtain ⟨x32, ex32, hr⟩ := of_nm hr
            refine lv_iinc (v := x32) (lv' := [(4, .int x32), (6, .int x20), (5, .int x16), (0, .ref (ad k6)), (1, .int x7), (2, .int x8), (3, .int x9)]) cx.1 cx.2.1 dX9_shortenFrom_93 hl (k := 6) rfl (by rw [ex32]; rfl) (by decide) rfl (fun ls hl => ?_)
            refine lv_goto (tgt := 21) cx.1 cx.2.1 dX9_shortenFrom_96 (by decide) ?_
            exact hh0 k6 x7 x8 x9 x32 g31 (Option.some.inj hr).symm H locs ls dy (lv_sub hl [3, 4, 5, 6, 0] rfl)
noncomputable def r_X9_shortenFrom (V : Vk) (k0 : Nat) (a1 : Int32) (a2 : Int32) (g : Hq) : Option (Unit × Hq) :=
  grd (V k0 = some (9, 0)) <| Option.bind (g.2.2 k0 3) fun k2 => grd (okV V k2 0 ((a1 * (12 : Int32)) + a2)) <| nm (g.1 k2 ((a1 * (12 : Int32)) + a2).toNatClampNeg) fun x5 => brn (x5 = (-1 : Int32)) (some ((), g)) ((lop (r_X9_shortenFrom_21 V) (k0, a1, a2, x5, (0 : Int32), g)))
set_option maxHeartbeats 4000000 in
set_option maxRecDepth 100000 in
theorem c_X9_shortenFrom {l : Launch} {D : va_G} {cA : Nat → ClassId} {sk : (Nat → Nat) × (Nat → Nat)} {ad : Nat → Nat} {A : Nat → Prop} {V : Vk} {k0 : Nat} {a1 : Int32} {a2 : Int32} {g g0 : Hq} (hr : r_X9_shortenFrom V k0 a1 a2 g = some ((), g0)) : Met l yX9_shortenFrom (wM yX9_shortenFrom cX9_shortenFrom 7 none) { frames := 0, cells := 0, slots := 0, locals := 0 } (Pre D cA sk ad (V, g) A [.ref (ad k0), .int a1, .int a2]) (QV D cA ad A (V, g0)) 0 0 A := by
  refine Met.ofW (cc := cX9_shortenFrom) (maxL := 7) (ret := none) (by decide) rfl ?_
  intro p e s m args below meth c s₁ B hml hv
  obtain ⟨rfl, fx, w0⟩ := hv
  have hts := atoms_spec (ws := wM yX9_shortenFrom cX9_shortenFrom 7 none) B.pre
  have cx : CallFix p m c cX9_shortenFrom 7 s ([.ref (ad k0), .int a1, .int a2] : List Value).toArray gw_tbl RX9 := ⟨B.exec, B.bytes, hml, findClass_of_methodNamed B.named, fun w hw => hts w (List.mem_cons_of_mem _ hw)⟩
  have hlocks := B.notSynchronized
  have hret := B.returns
  have hR : 0 ≤ (headSpec (wM yX9_shortenFrom cX9_shortenFrom 7 none) { frames := 0, cells := 0, slots := 0, locals := 0 }).room.frames ∧ 0 ≤ (headSpec (wM yX9_shortenFrom cX9_shortenFrom 7 none) { frames := 0, cells := 0, slots := 0, locals := 0 }).room.locals := ⟨Nat.le_refl _, Nat.le_refl _⟩
  have dy : Dy D cA ad (V, g) A s.heap s.heap [] := ⟨w0, va_S.rf⟩
  have hl := lv_entry [.ref (ad k0), .int a1, .int a2] (n := 7) (Nat.le_of_ble_eq_true rfl)
  rw [lg_entry_eq]
  generalize (lg_sl [.ref (ad k0), .int a1, .int a2] ++ List.replicate (7 - (lg_sl [.ref (ad k0), .int a1, .int a2]).length) Slot.unset).toArray = ls at hl ⊢
  have hl : lv_has ls 7 [(0, .ref (ad k0)), (1, .int a1), (2, .int a2)] := hl
  have dy0 : ∃ H0, H0 = s.heap ∧ Dy D cA ad (V, g) A s.heap H0 [] := ⟨_, rfl, dy⟩
  obtain ⟨z, ez⟩ : ∃ z, z = (((), g0) : Unit × Hq) := ⟨_, rfl⟩
  rw [← ez] at hr
  have hq0 : ∀ (rb : Unit) (gb : Hq), z = (rb, gb) → gb = g0 := fun rb gb eb => by rw [ez] at eb; exact (congrArg Prod.snd eb).symm
  clear ez w0 dy0
  unfold r_X9_shortenFrom at hr
  obtain ⟨H, hH⟩ : ∃ H, H = s.heap := ⟨_, rfl⟩
  obtain ⟨locs, hlo⟩ : ∃ q : List Loc, q = [] := ⟨_, rfl⟩
  have dy : Dy D cA ad (V, g) A s.heap H locs := by rw [hH, hlo]; exact dy
  suffices K : W p l e (headSpec (wM yX9_shortenFrom cX9_shortenFrom 7 none) { frames := 0, cells := 0, slots := 0, locals := 0 }).room s m ([.ref (ad k0), .int a1, .int a2] : List Value).toArray below meth c H locs 0 0 (MQ below (QV D cA ad A (V, g0)) ([.ref (ad k0), .int a1, .int a2] : List Value).toArray s 0 0 A) (F0 m 0 ls []) by rw [hH, hlo] at K; exact K
  clear hH hlo
  refine lv_aload_n cx.1 cx.2.1 dX9_shortenFrom_0 rfl (lv_at hl 0 rfl) ?_
  obtain ⟨hv1, hr⟩ := of_grd hr
  obtain ⟨k2, hf3, hr⟩ := of_bnd hr
  refine h_getR cx fx dy fd_9_3 hv1 tb_104 hf3 dX9_shortenFrom_1 ?_
  refine lv_iload_n cx.1 cx.2.1 dX9_shortenFrom_4 rfl (lv_at hl 1 rfl) ?_
  refine lv_bipush (v := 12) cx.1 cx.2.1 dX9_shortenFrom_5 (by decide) ?_
  refine lv_imul cx.1 cx.2.1 dX9_shortenFrom_7 ?_
  refine lv_iload_n cx.1 cx.2.1 dX9_shortenFrom_8 rfl (lv_at hl 2 rfl) ?_
  refine lv_iadd cx.1 cx.2.1 dX9_shortenFrom_9 ?_
  obtain ⟨ha4, hr⟩ := of_grd hr
  refine h_iald cx fx dy ha4 dX9_shortenFrom_10 ?_
  obtain ⟨x5, ex5, hr⟩ := of_nm hr
  refine lv_nmi ex5 ?_
  refine lv_istore_n (lv' := [(3, .int x5), (0, .ref (ad k0)), (1, .int a1), (2, .int a2)]) cx.1 cx.2.1 dX9_shortenFrom_11 rfl hl (by decide) rfl (fun ls hl => ?_)
  refine lv_iload_n cx.1 cx.2.1 dX9_shortenFrom_12 rfl (lv_at hl 0 rfl) ?_
  refine lv_iconst (v := (-1)) cx.1 cx.2.1 dX9_shortenFrom_13 (by decide) ?_
  rcases of_brn hr with ⟨hc, hr⟩ | ⟨hc, hr⟩
  · refine lv_icmp_ne (tgt := 18) cx.1 cx.2.1 dX9_shortenFrom_14 (by decide) (fun hn => absurd hc hn) (fun _ => ?_)
    have e1 := hq0 _ _ (Option.some.inj hr).symm
    exact h_vret cx dy hlocks hret (by rw [e1]) dX9_shortenFrom_17
  · refine lv_icmp_ne (tgt := 18) cx.1 cx.2.1 dX9_shortenFrom_14 (by decide) (fun _ => ?_) (fun hn => absurd hn hc)
    refine lv_iconst (v := 0) cx.1 cx.2.1 dX9_shortenFrom_18 (by decide) ?_
    refine lv_istore (lv' := [(4, .int (0 : Int32)), (3, .int x5), (0, .ref (ad k0)), (1, .int a1), (2, .int a2)]) cx.1 cx.2.1 dX9_shortenFrom_19 hl (by decide) rfl (fun ls hl => ?_)
    obtain ⟨n, hr⟩ := lop_some hr
    exact w_X9_shortenFrom_21 cx fx hlocks hret hR g0 z hq0 n k0 a1 a2 x5 (0 : Int32) g hr H locs ls dy (lv_sub hl [2, 3, 4, 1, 0] rfl)
noncomputable def r_X9_measure_52' (V : Vk) (k14 : Nat) (x15 : Int32) (x16 : Int32) (g17 : Hq) : Option ((Nat × Int32 × Int32 × Hq) ⊕ ((Nat × Int32 × Hq) ⊕ (Unit × Hq))) :=
  brn ((12 : Int32) ≤ x16) (nm (x15 + (1 : Int32)) fun x18 => some (.inr (.inl (k14, x18, g17)))) (grd (V k14 = some (9, 0)) <| bnd (r_X9_shortenFrom V k14 x16 x15 g17) fun u20 g19 => nm (x16 + (1 : Int32)) fun x23 => some (.inl (k14, x15, x23, g19)))
noncomputable def r_X9_measure_52 (V : Vk) (st : (Nat × Int32 × Int32 × Hq)) : Option ((Nat × Int32 × Int32 × Hq) ⊕ ((Nat × Int32 × Hq) ⊕ (Unit × Hq))) := r_X9_measure_52' V st.1 st.2.1 st.2.2.1 st.2.2.2
set_option maxHeartbeats 4000000 in
set_option maxRecDepth 100000 in
theorem w_X9_measure_52 {p : Program} {l : Launch} {e : Env} {R : Room} {s : State} {m : MethodId} {args : Array Value} {below : List Frame} {meth : Method} {c : Code} {D : va_G} {cA : Nat → ClassId} {sk : (Nat → Nat) × (Nat → Nat)} {ad : Nat → Nat} {A : Nat → Prop} {V : Vk} (cx : CallFix p m c cX9_measure 3 s args gw_tbl RX9) (fx : Fx D cA sk A s) (hlocks : meth.locks = false) (hret : meth.sig.returnType = none) (hR : 1 ≤ R.frames ∧ 100 ≤ R.locals) (g0 : Hq) (y : ((Nat × Int32 × Hq) ⊕ (Unit × Hq))) (hk0 : ∀ (b0 : Nat) (b1 : Int32) (gb : Hq), y = (.inl (b0, b1, gb)) → ∀ (H : Heap) (locs : List Loc) (ls : Array Slot), Dy D cA ad (V, gb) A s.heap H locs → lv_has ls 3 [(0, .ref (ad b0)), (1, .int b1)] → W p l e R s m args below meth c H locs 0 0 (MQ below (QV D cA ad A (V, g0)) args s 0 0 A) (F0 m 44 ls [])) (hq : ∀ (rb : Unit) (gb : Hq), y = (.inr (rb, gb)) → gb = g0) : ∀ (n : Nat) (k14 : Nat) (x15 : Int32) (x16 : Int32) (g17 : Hq), itr (r_X9_measure_52 V) n (k14, x15, x16, g17) = some y → ∀ (H : Heap) (locs : List Loc) (ls : Array Slot), Dy D cA ad (V, g17) A s.heap H locs → lv_has ls 3 [(0, .ref (ad k14)), (1, .int x15), (2, .int x16)] → W p l e R s m args below meth c H locs 0 0 (MQ below (QV D cA ad A (V, g0)) args s 0 0 A) (F0 m 52 ls []) := by
  intro n
  induction n with
  | zero => intro k14 x15 x16 g17 hr; cases hr
  | succ n ih =>
    intro k14 x15 x16 g17 hr H locs ls dy hl
    obtain ⟨z, hz, hn1, hn2⟩ := itr_succ hr
    clear hr
    have hr : r_X9_measure_52' V k14 x15 x16 g17 = some z := hz
    clear hz
    unfold r_X9_measure_52' at hr
    have hh0 : ∀ (b0 : Nat) (b1 : Int32) (b2 : Int32) (gb : Hq), z = .inl (b0, b1, b2, gb) → ∀ (H : Heap) (locs : List Loc) (ls : Array Slot), Dy D cA ad (V, gb) A s.heap H locs → lv_has ls 3 [(0, .ref (ad b0)), (1, .int b1), (2, .int b2)] → W p l e R s m args below meth c H locs 0 0 (MQ below (QV D cA ad A (V, g0)) args s 0 0 A) (F0 m 52 ls []) := fun b0 b1 b2 gb eb => ih b0 b1 b2 gb (hn1 _ eb)
    have hh1 : ∀ (b0 : Nat) (b1 : Int32) (gb : Hq), z = (.inr (.inl (b0, b1, gb))) → ∀ (H : Heap) (locs : List Loc) (ls : Array Slot), Dy D cA ad (V, gb) A s.heap H locs → lv_has ls 3 [(0, .ref (ad b0)), (1, .int b1)] → W p l e R s m args below meth c H locs 0 0 (MQ below (QV D cA ad A (V, g0)) args s 0 0 A) (F0 m 44 ls []) := fun b0 b1 gb eb => hk0 b0 b1 gb (hn2 _ eb).symm
    have hq0 : ∀ (rb : Unit) (gb : Hq), z = (.inr (.inr (rb, gb))) → gb = g0 := fun rb gb eb => hq rb gb (hn2 _ eb).symm
    refine lv_iload_n cx.1 cx.2.1 dX9_measure_52 rfl (lv_at hl 2 rfl) ?_
    refine lv_bipush (v := 12) cx.1 cx.2.1 dX9_measure_53 (by decide) ?_
    rcases of_brn hr with ⟨hc, hr⟩ | ⟨hc, hr⟩
    · refine lv_icmp_ge (tgt := 70) cx.1 cx.2.1 dX9_measure_55 (by decide) (fun _ => ?_) (fun hn => absurd hc hn)
      obtain ⟨x18, ex18, hr⟩ := of_nm hr
      refine lv_iinc (v := x18) (lv' := [(1, .int x18), (0, .ref (ad k14)), (2, .int x16)]) cx.1 cx.2.1 dX9_measure_70 hl (k := 1) rfl (by rw [ex18]; rfl) (by decide) rfl (fun ls hl => ?_)
      refine lv_goto (tgt := 44) cx.1 cx.2.1 dX9_measure_73 (by decide) ?_
      exact hh1 k14 x18 g17 (Option.some.inj hr).symm H locs ls dy (lv_sub hl [1, 0] rfl)
    · refine lv_icmp_ge (tgt := 70) cx.1 cx.2.1 dX9_measure_55 (by decide) (fun hn => absurd hn hc) (fun _ => ?_)
      refine lv_aload_n cx.1 cx.2.1 dX9_measure_58 rfl (lv_at hl 0 rfl) ?_
      refine lv_iload_n cx.1 cx.2.1 dX9_measure_59 rfl (lv_at hl 2 rfl) ?_
      refine lv_iload_n cx.1 cx.2.1 dX9_measure_60 rfl (lv_at hl 1 rfl) ?_
      obtain ⟨hv21, hr⟩ := of_grd hr
      obtain ⟨u20, g19, hc22, hr⟩ := of_bnd2 hr
      refine r_v dy (k_V (As := [.int x16, .int x15]) (b := k14) (ci := 9) cx fx dy (c_X9_shortenFrom hc22) mv_X9_shortenFrom rfl rfl ⟨Nat.le_trans (by decide) hR.1, Nat.le_trans (by decide) hR.2⟩ tb_461 hv21 rfl (by decide) rfl hl.1 rfl (Nat.le_of_ble_eq_true rfl) ⟨Nat.zero_le _, Nat.zero_le _⟩ dX9_measure_61) (fun H locs dy => ?_)
      obtain ⟨x23, ex23, hr⟩ := of_nm hr
      refine lv_iinc (v := x23) (lv' := [(2, .int x23), (0, .ref (ad k14)), (1, .int x15)]) cx.1 cx.2.1 dX9_measure_64 hl (k := 2) rfl (by rw [ex23]; rfl) (by decide) rfl (fun ls hl => ?_)
      refine lv_goto (tgt := 52) cx.1 cx.2.1 dX9_measure_67 (by decide) ?_
      exact hh0 k14 x15 x23 g19 (Option.some.inj hr).symm H locs ls dy (lv_sub hl [1, 2, 0] rfl)
noncomputable def r_X9_measure_44' (V : Vk) (k11 : Nat) (x12 : Int32) (g13 : Hq) : Option ((Nat × Int32 × Hq) ⊕ (Unit × Hq)) :=
  brn ((12 : Int32) ≤ x12) (some (.inr ((), g13))) ((lop (r_X9_measure_52 V) (k11, x12, (0 : Int32), g13)))
noncomputable def r_X9_measure_44 (V : Vk) (st : (Nat × Int32 × Hq)) : Option ((Nat × Int32 × Hq) ⊕ (Unit × Hq)) := r_X9_measure_44' V st.1 st.2.1 st.2.2
set_option maxHeartbeats 4000000 in
set_option maxRecDepth 100000 in
theorem w_X9_measure_44 {p : Program} {l : Launch} {e : Env} {R : Room} {s : State} {m : MethodId} {args : Array Value} {below : List Frame} {meth : Method} {c : Code} {D : va_G} {cA : Nat → ClassId} {sk : (Nat → Nat) × (Nat → Nat)} {ad : Nat → Nat} {A : Nat → Prop} {V : Vk} (cx : CallFix p m c cX9_measure 3 s args gw_tbl RX9) (fx : Fx D cA sk A s) (hlocks : meth.locks = false) (hret : meth.sig.returnType = none) (hR : 1 ≤ R.frames ∧ 100 ≤ R.locals) (g0 : Hq) (y : (Unit × Hq)) (hq : ∀ (rb : Unit) (gb : Hq), y = (rb, gb) → gb = g0) : ∀ (n : Nat) (k11 : Nat) (x12 : Int32) (g13 : Hq), itr (r_X9_measure_44 V) n (k11, x12, g13) = some y → ∀ (H : Heap) (locs : List Loc) (ls : Array Slot), Dy D cA ad (V, g13) A s.heap H locs → lv_has ls 3 [(0, .ref (ad k11)), (1, .int x12)] → W p l e R s m args below meth c H locs 0 0 (MQ below (QV D cA ad A (V, g0)) args s 0 0 A) (F0 m 44 ls []) := by
  intro n
  induction n with
  | zero => intro k11 x12 g13 hr; cases hr
  | succ n ih =>
    intro k11 x12 g13 hr H locs ls dy hl
    obtain ⟨z, hz, hn1, hn2⟩ := itr_succ hr
    clear hr
    have hr : r_X9_measure_44' V k11 x12 g13 = some z := hz
    clear hz
    unfold r_X9_measure_44' at hr
    have hh0 : ∀ (b0 : Nat) (b1 : Int32) (gb : Hq), z = .inl (b0, b1, gb) → ∀ (H : Heap) (locs : List Loc) (ls : Array Slot), Dy D cA ad (V, gb) A s.heap H locs → lv_has ls 3 [(0, .ref (ad b0)), (1, .int b1)] → W p l e R s m args below meth c H locs 0 0 (MQ below (QV D cA ad A (V, g0)) args s 0 0 A) (F0 m 44 ls []) := fun b0 b1 gb eb => ih b0 b1 gb (hn1 _ eb)
    have hq0 : ∀ (rb : Unit) (gb : Hq), z = (.inr (rb, gb)) → gb = g0 := fun rb gb eb => hq rb gb (hn2 _ eb).symm
    refine lv_iload_n cx.1 cx.2.1 dX9_measure_44 rfl (lv_at hl 1 rfl) ?_
    refine lv_bipush (v := 12) cx.1 cx.2.1 dX9_measure_45 (by decide) ?_
    rcases of_brn hr with ⟨hc, hr⟩ | ⟨hc, hr⟩
    · refine lv_icmp_ge (tgt := 76) cx.1 cx.2.1 dX9_measure_47 (by decide) (fun _ => ?_) (fun hn => absurd hc hn)
      have e1 := hq0 _ _ (Option.some.inj hr).symm
      exact h_vret cx dy hlocks hret (by rw [e1]) dX9_measure_76
    · refine lv_icmp_ge (tgt := 76) cx.1 cx.2.1 dX9_measure_47 (by decide) (fun hn => absurd hn hc) (fun _ => ?_)
      refine lv_iconst (v := 0) cx.1 cx.2.1 dX9_measure_50 (by decide) ?_
      refine lv_istore_n (lv' := [(2, .int (0 : Int32)), (0, .ref (ad k11)), (1, .int x12)]) cx.1 cx.2.1 dX9_measure_51 rfl hl (by decide) rfl (fun ls hl => ?_)
      obtain ⟨n, hr⟩ := lop_some hr
      exact w_X9_measure_52 cx fx hlocks hret hR g0 z hh0 hq0 n k11 x12 (0 : Int32) g13 hr H locs ls dy (lv_sub hl [1, 2, 0] rfl)
noncomputable def r_X9_measure_18' (V : Vk) (k8 : Nat) (x9 : Int32) (g10 : Hq) : Option ((Nat × Int32 × Hq) ⊕ (Unit × Hq)) :=
  brn ((12 : Int32) ≤ x9) ((Option.map Sum.inr (lop (r_X9_measure_44 V) (k8, (0 : Int32), g10)))) (grd (V k8 = some (9, 0)) <| Option.bind (g10.2.2 k8 3) fun k25 => grd (okV V k25 0 ((x9 * (12 : Int32)) + x9)) <| nm (sI g10 k25 ((x9 * (12 : Int32)) + x9).toNatClampNeg (0 : Int32)) fun g28 => nm (x9 + (1 : Int32)) fun x29 => some (.inl (k8, x29, g28)))
noncomputable def r_X9_measure_18 (V : Vk) (st : (Nat × Int32 × Hq)) : Option ((Nat × Int32 × Hq) ⊕ (Unit × Hq)) := r_X9_measure_18' V st.1 st.2.1 st.2.2
set_option maxHeartbeats 4000000 in
set_option maxRecDepth 100000 in
theorem w_X9_measure_18 {p : Program} {l : Launch} {e : Env} {R : Room} {s : State} {m : MethodId} {args : Array Value} {below : List Frame} {meth : Method} {c : Code} {D : va_G} {cA : Nat → ClassId} {sk : (Nat → Nat) × (Nat → Nat)} {ad : Nat → Nat} {A : Nat → Prop} {V : Vk} (cx : CallFix p m c cX9_measure 3 s args gw_tbl RX9) (fx : Fx D cA sk A s) (hlocks : meth.locks = false) (hret : meth.sig.returnType = none) (hR : 1 ≤ R.frames ∧ 100 ≤ R.locals) (g0 : Hq) (y : (Unit × Hq)) (hq : ∀ (rb : Unit) (gb : Hq), y = (rb, gb) → gb = g0) : ∀ (n : Nat) (k8 : Nat) (x9 : Int32) (g10 : Hq), itr (r_X9_measure_18 V) n (k8, x9, g10) = some y → ∀ (H : Heap) (locs : List Loc) (ls : Array Slot), Dy D cA ad (V, g10) A s.heap H locs → lv_has ls 3 [(0, .ref (ad k8)), (1, .int x9)] → W p l e R s m args below meth c H locs 0 0 (MQ below (QV D cA ad A (V, g0)) args s 0 0 A) (F0 m 18 ls []) := by
  intro n
  induction n with
  | zero => intro k8 x9 g10 hr; cases hr
  | succ n ih =>
    intro k8 x9 g10 hr H locs ls dy hl
    obtain ⟨z, hz, hn1, hn2⟩ := itr_succ hr
    clear hr
    have hr : r_X9_measure_18' V k8 x9 g10 = some z := hz
    clear hz
    unfold r_X9_measure_18' at hr
    have hh0 : ∀ (b0 : Nat) (b1 : Int32) (gb : Hq), z = .inl (b0, b1, gb) → ∀ (H : Heap) (locs : List Loc) (ls : Array Slot), Dy D cA ad (V, gb) A s.heap H locs → lv_has ls 3 [(0, .ref (ad b0)), (1, .int b1)] → W p l e R s m args below meth c H locs 0 0 (MQ below (QV D cA ad A (V, g0)) args s 0 0 A) (F0 m 18 ls []) := fun b0 b1 gb eb => ih b0 b1 gb (hn1 _ eb)
    have hq0 : ∀ (rb : Unit) (gb : Hq), z = (.inr (rb, gb)) → gb = g0 := fun rb gb eb => hq rb gb (hn2 _ eb).symm
    refine lv_iload_n cx.1 cx.2.1 dX9_measure_18 rfl (lv_at hl 1 rfl) ?_
    refine lv_bipush (v := 12) cx.1 cx.2.1 dX9_measure_19 (by decide) ?_
    rcases of_brn hr with ⟨hc, hr⟩ | ⟨hc, hr⟩
    · refine lv_icmp_ge (tgt := 42) cx.1 cx.2.1 dX9_measure_21 (by decide) (fun _ => ?_) (fun hn => absurd hc hn)
      refine lv_iconst (v := 0) cx.1 cx.2.1 dX9_measure_42 (by decide) ?_
      refine lv_istore_n (lv' := [(1, .int (0 : Int32)), (0, .ref (ad k8))]) cx.1 cx.2.1 dX9_measure_43 rfl hl (by decide) rfl (fun ls hl => ?_)
      obtain ⟨z1, hr, ez1⟩ := of_map hr
      obtain ⟨n, hr⟩ := lop_some hr
      exact w_X9_measure_44 cx fx hlocks hret hR g0 z1 (fun rb gb eb => hq0 rb gb (by rw [ez1, eb])) n k8 (0 : Int32) g10 hr H locs ls dy (lv_sub hl [1, 0] rfl)
    · refine lv_icmp_ge (tgt := 42) cx.1 cx.2.1 dX9_measure_21 (by decide) (fun hn => absurd hn hc) (fun _ => ?_)
      refine lv_aload_n cx.1 cx.2.1 dX9_measure_24 rfl (lv_at hl 0 rfl) ?_
      obtain ⟨hv24, hr⟩ := of_grd hr
      obtain ⟨k25, hf26, hr⟩ := of_bnd hr
      refine h_getR cx fx dy fd_9_3 hv24 tb_104 hf26 dX9_measure_25 ?_
      refine lv_iload_n cx.1 cx.2.1 dX9_measure_28 rfl (lv_at hl 1 rfl) ?_
      refine lv_bipush (v := 12) cx.1 cx.2.1 dX9_measure_29 (by decide) ?_
      refine lv_imul cx.1 cx.2.1 dX9_measure_31 ?_
      refine lv_iload_n cx.1 cx.2.1 dX9_measure_32 rfl (lv_at hl 1 rfl) ?_
      refine lv_iadd cx.1 cx.2.1 dX9_measure_33 ?_
      refine lv_iconst (v := 0) cx.1 cx.2.1 dX9_measure_34 (by decide) ?_
      obtain ⟨ha27, hr⟩ := of_grd hr
      obtain ⟨g28, eg28, hr⟩ := of_nm hr
      refine h_iast cx fx dy ha27 dX9_measure_35 (fun H locs dy => ?_)
      replace dy : Dy D cA ad (V, g28) A s.heap H locs := by rw [eg28]; exact dy
      obtain ⟨x29, ex29, hr⟩ := of_nm hr
      refine lv_iinc (v := x29) (lv' := [(1, .int x29), (0, .ref (ad k8))]) cx.1 cx.2.1 dX9_measure_36 hl (k := 1) rfl (by rw [ex29]; rfl) (by decide) rfl (fun ls hl => ?_)
      refine lv_goto (tgt := 18) cx.1 cx.2.1 dX9_measure_39 (by decide) ?_
      exact hh0 k8 x29 g28 (Option.some.inj hr).symm H locs ls dy (lv_sub hl [1, 0] rfl)
noncomputable def r_X9_measure (V : Vk) (k0 : Nat) (g : Hq) : Option (Unit × Hq) :=
  grd (V k0 = some (9, 0)) <| Option.bind (g.2.2 k0 2) fun k2 => Option.bind (g.2.2 k0 3) fun k4 => grd (okC V k2 k4 (0 : Int32) (0 : Int32) (144 : Int32)) <| nm (sA g k4 (va_cpy (g.1 k2) (g.1 k4) (0 : Int32).toNatClampNeg (0 : Int32).toNatClampNeg (144 : Int32).toNatClampNeg)) fun g7 => (lop (r_X9_measure_18 V) (k0, (0 : Int32), g7))
set_option maxHeartbeats 4000000 in
set_option maxRecDepth 100000 in
theorem c_X9_measure {l : Launch} {D : va_G} {cA : Nat → ClassId} {sk : (Nat → Nat) × (Nat → Nat)} {ad : Nat → Nat} {A : Nat → Prop} {V : Vk} {k0 : Nat} {g g0 : Hq} (hr : r_X9_measure V k0 g = some ((), g0)) : Met l yX9_measure (wM yX9_measure cX9_measure 3 none) { frames := 1, cells := 0, slots := 0, locals := 100 } (Pre D cA sk ad (V, g) A [.ref (ad k0)]) (QV D cA ad A (V, g0)) 0 0 A := by
  refine Met.ofW (cc := cX9_measure) (maxL := 3) (ret := none) (by decide) rfl ?_
  intro p e s m args below meth c s₁ B hml hv
  obtain ⟨rfl, fx, w0⟩ := hv
  have hts := atoms_spec (ws := wM yX9_measure cX9_measure 3 none) B.pre
  have cx : CallFix p m c cX9_measure 3 s ([.ref (ad k0)] : List Value).toArray gw_tbl RX9 := ⟨B.exec, B.bytes, hml, findClass_of_methodNamed B.named, fun w hw => hts w (List.mem_cons_of_mem _ hw)⟩
  have hlocks := B.notSynchronized
  have hret := B.returns
  have hR : 1 ≤ (headSpec (wM yX9_measure cX9_measure 3 none) { frames := 1, cells := 0, slots := 0, locals := 100 }).room.frames ∧ 100 ≤ (headSpec (wM yX9_measure cX9_measure 3 none) { frames := 1, cells := 0, slots := 0, locals := 100 }).room.locals := ⟨Nat.le_refl _, Nat.le_refl _⟩
  have dy : Dy D cA ad (V, g) A s.heap s.heap [] := ⟨w0, va_S.rf⟩
  have hl := lv_entry [.ref (ad k0)] (n := 3) (Nat.le_of_ble_eq_true rfl)
  rw [lg_entry_eq]
  generalize (lg_sl [.ref (ad k0)] ++ List.replicate (3 - (lg_sl [.ref (ad k0)]).length) Slot.unset).toArray = ls at hl ⊢
  have hl : lv_has ls 3 [(0, .ref (ad k0))] := hl
  have dy0 : ∃ H0, H0 = s.heap ∧ Dy D cA ad (V, g) A s.heap H0 [] := ⟨_, rfl, dy⟩
  obtain ⟨z, ez⟩ : ∃ z, z = (((), g0) : Unit × Hq) := ⟨_, rfl⟩
  rw [← ez] at hr
  have hq0 : ∀ (rb : Unit) (gb : Hq), z = (rb, gb) → gb = g0 := fun rb gb eb => by rw [ez] at eb; exact (congrArg Prod.snd eb).symm
  clear ez w0 dy0
  unfold r_X9_measure at hr
  obtain ⟨H, hH⟩ : ∃ H, H = s.heap := ⟨_, rfl⟩
  obtain ⟨locs, hlo⟩ : ∃ q : List Loc, q = [] := ⟨_, rfl⟩
  have dy : Dy D cA ad (V, g) A s.heap H locs := by rw [hH, hlo]; exact dy
  suffices K : W p l e (headSpec (wM yX9_measure cX9_measure 3 none) { frames := 1, cells := 0, slots := 0, locals := 100 }).room s m ([.ref (ad k0)] : List Value).toArray below meth c H locs 0 0 (MQ below (QV D cA ad A (V, g0)) ([.ref (ad k0)] : List Value).toArray s 0 0 A) (F0 m 0 ls []) by rw [hH, hlo] at K; exact K
  clear hH hlo
  refine lv_aload_n cx.1 cx.2.1 dX9_measure_0 rfl (lv_at hl 0 rfl) ?_
  obtain ⟨hv1, hr⟩ := of_grd hr
  obtain ⟨k2, hf3, hr⟩ := of_bnd hr
  refine h_getR cx fx dy fd_9_2 hv1 tb_103 hf3 dX9_measure_1 ?_
  refine lv_iconst (v := 0) cx.1 cx.2.1 dX9_measure_4 (by decide) ?_
  refine lv_aload_n cx.1 cx.2.1 dX9_measure_5 rfl (lv_at hl 0 rfl) ?_
  obtain ⟨k4, hf5, hr⟩ := of_bnd hr
  refine h_getR cx fx dy fd_9_3 hv1 tb_104 hf5 dX9_measure_6 ?_
  refine lv_iconst (v := 0) cx.1 cx.2.1 dX9_measure_9 (by decide) ?_
  refine lv_sipush (v := 144) cx.1 cx.2.1 dX9_measure_10 (by decide) ?_
  obtain ⟨ha6, hr⟩ := of_grd hr
  obtain ⟨g7, eg7, hr⟩ := of_nm hr
  refine h_copy cx fx dy ha6 tb_458 tb_460 tb_459 tb_62 hl.1 ⟨Nat.le_trans (by decide) hR.1, Nat.le_trans (Nat.le_of_ble_eq_true rfl) hR.2⟩ dX9_measure_13 (fun H locs dy => ?_)
  replace dy : Dy D cA ad (V, g7) A s.heap H locs := by rw [eg7]; exact dy
  refine lv_iconst (v := 0) cx.1 cx.2.1 dX9_measure_16 (by decide) ?_
  refine lv_istore_n (lv' := [(1, .int (0 : Int32)), (0, .ref (ad k0))]) cx.1 cx.2.1 dX9_measure_17 rfl hl (by decide) rfl (fun ls hl => ?_)
  obtain ⟨n, hr⟩ := lop_some hr
  exact w_X9_measure_18 cx fx hlocks hret hR g0 z hq0 n k0 (0 : Int32) g7 hr H locs ls dy (lv_sub hl [1, 0] rfl)
noncomputable def r_X9_leastMinutes (V : Vk) (k0 : Nat) (a1 : Int32) (a2 : Int32) (g : Hq) : Option (Int32 × Hq) :=
  grd (V k0 = some (9, 0)) <| brn ((g.1 k0 4) = 0) (Option.bind (g.2.2 k0 3) fun k2 => grd (okV V k2 0 ((a1 * (12 : Int32)) + a2)) <| some ((g.1 k2 ((a1 * (12 : Int32)) + a2).toNatClampNeg), g)) (bnd (r_X9_measure V k0 g) fun u6 g5 => nm (sI g5 k0 4 (0 : Int32)) fun g8 => Option.bind (g8.2.2 k0 3) fun k9 => grd (okV V k9 0 ((a1 * (12 : Int32)) + a2)) <| some ((g8.1 k9 ((a1 * (12 : Int32)) + a2).toNatClampNeg), g8))
set_option maxHeartbeats 4000000 in
set_option maxRecDepth 100000 in
theorem c_X9_leastMinutes {l : Launch} {D : va_G} {cA : Nat → ClassId} {sk : (Nat → Nat) × (Nat → Nat)} {ad : Nat → Nat} {A : Nat → Prop} {V : Vk} {k0 : Nat} {a1 : Int32} {a2 : Int32} {g g0 : Hq} {r0 : Int32} (hr : r_X9_leastMinutes V k0 a1 a2 g = some (r0, g0)) : Met l yX9_leastMinutes (wM yX9_leastMinutes cX9_leastMinutes 3 (some .int)) { frames := 2, cells := 0, slots := 0, locals := 122 } (Pre D cA sk ad (V, g) A [.ref (ad k0), .int a1, .int a2]) (QI D cA ad A r0 (V, g0)) 0 0 A := by
  refine Met.ofW (cc := cX9_leastMinutes) (maxL := 3) (ret := (some .int)) (by decide) rfl ?_
  intro p e s m args below meth c s₁ B hml hv
  obtain ⟨rfl, fx, w0⟩ := hv
  have hts := atoms_spec (ws := wM yX9_leastMinutes cX9_leastMinutes 3 (some .int)) B.pre
  have cx : CallFix p m c cX9_leastMinutes 3 s ([.ref (ad k0), .int a1, .int a2] : List Value).toArray gw_tbl RX9 := ⟨B.exec, B.bytes, hml, findClass_of_methodNamed B.named, fun w hw => hts w (List.mem_cons_of_mem _ hw)⟩
  have hlocks := B.notSynchronized
  have hret := B.returns
  have hR : 2 ≤ (headSpec (wM yX9_leastMinutes cX9_leastMinutes 3 (some .int)) { frames := 2, cells := 0, slots := 0, locals := 122 }).room.frames ∧ 122 ≤ (headSpec (wM yX9_leastMinutes cX9_leastMinutes 3 (some .int)) { frames := 2, cells := 0, slots := 0, locals := 122 }).room.locals := ⟨Nat.le_refl _, Nat.le_refl _⟩
  have dy : Dy D cA ad (V, g) A s.heap s.heap [] := ⟨w0, va_S.rf⟩
  have hl := lv_entry [.ref (ad k0), .int a1, .int a2] (n := 3) (Nat.le_of_ble_eq_true rfl)
  rw [lg_entry_eq]
  generalize (lg_sl [.ref (ad k0), .int a1, .int a2] ++ List.replicate (3 - (lg_sl [.ref (ad k0), .int a1, .int a2]).length) Slot.unset).toArray = ls at hl ⊢
  have hl : lv_has ls 3 [(0, .ref (ad k0)), (1, .int a1), (2, .int a2)] := hl
  have dy0 : ∃ H0, H0 = s.heap ∧ Dy D cA ad (V, g) A s.heap H0 [] := ⟨_, rfl, dy⟩
  obtain ⟨z, ez⟩ : ∃ z, z = (r0, g0) := ⟨_, rfl⟩
  rw [← ez] at hr
  have hq0 : ∀ (rb : Int32) (gb : Hq), z = (rb, gb) → rb = r0 ∧ gb = g0 := fun rb gb eb => by rw [ez] at eb; exact ⟨(congrArg Prod.fst eb).symm, (congrArg Prod.snd eb).symm⟩
  clear ez w0 dy0
  unfold r_X9_leastMinutes at hr
  obtain ⟨H, hH⟩ : ∃ H, H = s.heap := ⟨_, rfl⟩
  obtain ⟨locs, hlo⟩ : ∃ q : List Loc, q = [] := ⟨_, rfl⟩
  have dy : Dy D cA ad (V, g) A s.heap H locs := by rw [hH, hlo]; exact dy
  suffices K : W p l e (headSpec (wM yX9_leastMinutes cX9_leastMinutes 3 (some .int)) { frames := 2, cells := 0, slots := 0, locals := 122 }).room s m ([.ref (ad k0), .int a1, .int a2] : List Value).toArray below meth c H locs 0 0 (MQ below (QI D cA ad A r0 (V, g0)) ([.ref (ad k0), .int a1, .int a2] : List Value).toArray s 0 0 A) (F0 m 0 ls []) by rw [hH, hlo] at K; exact K
  clear hH hlo
  refine lv_aload_n cx.1 cx.2.1 dX9_leastMinutes_0 rfl (lv_at hl 0 rfl) ?_
  obtain ⟨hv1, hr⟩ := of_grd hr
  refine h_getI cx fx dy fd_9_4 hv1 tb_105 dX9_leastMinutes_1 ?_
  rcases of_brn hr with ⟨hc, hr⟩ | ⟨hc, hr⟩
  · refine lv_if_eq (tgt := 16) cx.1 cx.2.1 dX9_leastMinutes_4 (by decide) (fun _ => ?_) (fun hn => absurd hc hn)
    refine lv_aload_n cx.1 cx.2.1 dX9_leastMinutes_16 rfl (lv_at hl 0 rfl) ?_
    obtain ⟨k2, hf3, hr⟩ := of_bnd hr
    refine h_getR cx fx dy fd_9_3 hv1 tb_104 hf3 dX9_leastMinutes_17 ?_
    refine lv_iload_n cx.1 cx.2.1 dX9_leastMinutes_20 rfl (lv_at hl 1 rfl) ?_
    refine lv_bipush (v := 12) cx.1 cx.2.1 dX9_leastMinutes_21 (by decide) ?_
    refine lv_imul cx.1 cx.2.1 dX9_leastMinutes_23 ?_
    refine lv_iload_n cx.1 cx.2.1 dX9_leastMinutes_24 rfl (lv_at hl 2 rfl) ?_
    refine lv_iadd cx.1 cx.2.1 dX9_leastMinutes_25 ?_
    obtain ⟨ha4, hr⟩ := of_grd hr
    refine h_iald cx fx dy ha4 dX9_leastMinutes_26 ?_
    obtain ⟨e0, e1⟩ := hq0 _ _ (Option.some.inj hr).symm
    exact h_iret cx dy hlocks hret rfl e0 (by rw [e1]) dX9_leastMinutes_27
  · refine lv_if_eq (tgt := 16) cx.1 cx.2.1 dX9_leastMinutes_4 (by decide) (fun hn => absurd hn hc) (fun _ => ?_)
    refine lv_aload_n cx.1 cx.2.1 dX9_leastMinutes_7 rfl (lv_at hl 0 rfl) ?_
    obtain ⟨u6, g5, hc7, hr⟩ := of_bnd2 hr
    refine r_v dy (k_V (As := []) (b := k0) (ci := 9) cx fx dy (c_X9_measure hc7) mv_X9_measure rfl rfl ⟨Nat.le_trans (by decide) hR.1, Nat.le_trans (by decide) hR.2⟩ tb_454 hv1 rfl (by decide) rfl hl.1 rfl (Nat.le_of_ble_eq_true rfl) ⟨Nat.zero_le _, Nat.zero_le _⟩ dX9_leastMinutes_8) (fun H locs dy => ?_)
    refine lv_aload_n cx.1 cx.2.1 dX9_leastMinutes_11 rfl (lv_at hl 0 rfl) ?_
    refine lv_iconst (v := 0) cx.1 cx.2.1 dX9_leastMinutes_12 (by decide) ?_
    obtain ⟨g8, eg8, hr⟩ := of_nm hr
    refine h_putI cx fx dy fd_9_4 (pd_9_4 : PD _ _ _ _ _ .boolean) rfl rfl rfl hv1 tb_105 dX9_leastMinutes_13 (fun H locs dy => ?_)
    replace dy : Dy D cA ad (V, g8) A s.heap H locs := by rw [eg8]; exact dy
    refine lv_aload_n cx.1 cx.2.1 dX9_leastMinutes_16 rfl (lv_at hl 0 rfl) ?_
    obtain ⟨k9, hf10, hr⟩ := of_bnd hr
    refine h_getR cx fx dy fd_9_3 hv1 tb_104 hf10 dX9_leastMinutes_17 ?_
    refine lv_iload_n cx.1 cx.2.1 dX9_leastMinutes_20 rfl (lv_at hl 1 rfl) ?_
    refine lv_bipush (v := 12) cx.1 cx.2.1 dX9_leastMinutes_21 (by decide) ?_
    refine lv_imul cx.1 cx.2.1 dX9_leastMinutes_23 ?_
    refine lv_iload_n cx.1 cx.2.1 dX9_leastMinutes_24 rfl (lv_at hl 2 rfl) ?_
    refine lv_iadd cx.1 cx.2.1 dX9_leastMinutes_25 ?_
    obtain ⟨ha11, hr⟩ := of_grd hr
    refine h_iald cx fx dy ha11 dX9_leastMinutes_26 ?_
    obtain ⟨e0, e1⟩ := hq0 _ _ (Option.some.inj hr).symm
    exact h_iret cx dy hlocks hret rfl e0 (by rw [e1]) dX9_leastMinutes_27
